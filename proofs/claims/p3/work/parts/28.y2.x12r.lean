/-! X12 by hand: two rules more -/
section
variable {K : mK} {Q : MO → MH → Prop} {mc ms : Nat} {P : MP} {o : Nat} {i pc : Nat} {zz : Int} {bb cc : Nat} {L : List (Nat × MV)} {S : List MV} {h : MH}
theorem hd_i2b (ok : okP K o P = true) {aa : Nat} {x : Int} (hi : P.1[i]? = some (pc, 38, zz, aa, bb, cc)) (hr : -128 ≤ x ∧ x ≤ 127) (k : MW K Q mc ms (pcA P (i + 1)) L ((0, x) :: S) h) : MW K Q mc ms (pcA P i) L ((0, x) :: S) h := so1 ok hi ⟨rfl, hr, k⟩
theorem hd_bast3 (ok : okP K o P = true) {aa c n : Nat} {x v : Int} (hi : P.1[i]? = some (pc, 58, zz, aa, bb, cc)) (hc : c < h.1 ∧ (h.2 c).1 = 3 ∧ (3 < 16 → (h.2 c).2.1 = n)) (h4 : 4 ≤ c) (h0 : 0 ≤ x) (h1 : x < (n : Int)) (hv : -128 ≤ v ∧ v ≤ 127) (k : ∀ h2, h2 = sa h c x v → MW K Q mc ms (pcA P (i + 1)) L S h2) : MW K Q mc ms (pcA P i) L ((0, v) :: (0, x) :: (2, (c : Int)) :: S) h := so1 ok hi (by
  have hcn : (h.2 (Int.toNat (c : Int))).1 = (h.2 c).1 := rfl
  show (if (h.2 (Int.toNat (c : Int))).1 = 2 then _ else _)
  rw [hcn]
  rw [if_neg (fun e => absurd (hc.2.1.symm.trans e) (by decide))]
  exact ⟨rfl, rfl, rfl, ⟨Int.natCast_nonneg c, hc.1, h0, by rw [show (h.2 (Int.toNat (c : Int))).2.1 = n from hc.2.2 (by decide)]; exact h1⟩, h4, hc.2.1, fun _ _ => hv, k _ rfl⟩)
end
/-- less in the order that counts -/
def bf12 (h : MH) (a b : Int) : Prop := ga h 2460 a < ga h 2460 b ∨ ga h 2460 a = ga h 2460 b ∧ (ga h 2461 a < ga h 2461 b ∨ ga h 2461 a = ga h 2461 b ∧ (ga h 2462 a < ga h 2462 b ∨ ga h 2462 a = ga h 2462 b ∧ a < b))
abbrev lb12 (c s : Int) : Int := 612 * c + 36 * 16 + 9 * 0 + s
/-- whole part and rest below a number above 0 -/
theorem fl12 {p q : Int} (hq : 0 < q) : (p.tmod q < 0 → p.tdiv q - 1 = p / q) ∧ (0 ≤ p.tmod q → p.tdiv q = p / q) ∧ p - p / q * q = p % q ∧ 0 ≤ p % q ∧ p % q < q := by
  have e := Int.mul_tdiv_add_tmod p q
  have l := Int.tmod_lt_of_pos p hq
  have g : -q < p.tmod q := by
    have := Int.tmod_lt_of_pos (-p) hq
    rw [Int.neg_tmod] at this
    omega
  have em := Int.mul_ediv_add_emod p q
  have e0 := Int.emod_nonneg p (show q ≠ 0 by omega)
  have e1 := Int.emod_lt_of_pos p hq
  refine ⟨fun n => ?_, fun n => ?_, ?_, e0, e1⟩
  · exact (dv_of hq (v := p) (w := p.tdiv q - 1) (r := p.tmod q + q) (by rw [Int.mul_sub]; omega) (by omega) (by omega)).1
  · exact (dv_of hq (v := p) (w := p.tdiv q) (r := p.tmod q) e n l).1
  · rw [Int.mul_comm]
    omega
/-- how far a best way has been told -/
def WV12 (h x : MH) (fo st k at' : Int) : Prop := ∃ v : Nat → Int, v 0 = st ∧ v k.toNat = at' ∧ (∀ j : Nat, j < k.toNat → EdH h (v j) (v (j + 1))) ∧ ∀ j : Nat, j ≤ k.toNat → pc12 (ga x 2467) (ga x 2465 fo) (5000 * fo) j = v j / 612
theorem WV12.len {h x : MH} {fo st k a : Int} (w : WV12 h x fo st k a) (k0 : 0 ≤ k) (s12 : Set12 h) (fx : FxH h h) (h0 : Dm12 h st) (b0 : 0 ≤ st ∧ st < 88128) (z0 : st / 9 % 4 = 0)
    (ms : ∀ d : Int, 0 < d → d ≤ st % 9 → ga h 2463 (st - d) ≠ 0 → le3 (ga h 2460 st) (ga h 2461 st) (ga h 2462 st) (ga h 2460 (st - d)) (ga h 2461 (st - d)) (ga h 2462 (st - d))) : k ≤ 4609 := by
  obtain ⟨v, v0, _, ve, _⟩ := w
  subst v0
  have := far12 s12 fx h0 b0 z0 ve ms
  omega
theorem WV12.next {h x y : MH} {fo st k a n d : Int} (w : WV12 h x fo st k a) (k0 : 0 ≤ k) (e : EdH h a n) (hn : n / 612 = st12 (a / 612) d) (hf : ga y 2465 fo = ga x 2465 fo) (hd : ga y 2467 (5000 * fo + k) = d) (hs : ∀ j : Int, 0 ≤ j → j < k → ga y 2467 (5000 * fo + j) = ga x 2467 (5000 * fo + j)) : WV12 h y fo st (k + 1) n := by
  obtain ⟨v, v0, v1, ve, vp⟩ := w
  have kk : (k + 1).toNat = k.toNat + 1 := by omega
  have pe : ∀ j : Nat, j ≤ k.toNat → pc12 (ga y 2467) (ga y 2465 fo) (5000 * fo) j = v j / 612 := by
    intro j hj
    rw [hf, pc12_eq (fun i hi => hs (i : Int) (by omega) (by omega))]
    exact vp j hj
  refine ⟨fun j => if j = k.toNat + 1 then n else v j, ?_, ?_, ?_, ?_⟩
  · show (if 0 = k.toNat + 1 then n else v 0) = st
    rw [if_neg (by omega)]
    exact v0
  · show (if (k + 1).toNat = k.toNat + 1 then n else v (k + 1).toNat) = n
    rw [if_pos kk]
  · intro j hj
    show EdH h (if j = k.toNat + 1 then n else v j) (if j + 1 = k.toNat + 1 then n else v (j + 1))
    rw [if_neg (by omega)]
    by_cases q : j = k.toNat
    · rw [if_pos (by omega), q, v1]
      exact e
    · rw [if_neg (by omega)]
      exact ve j (by omega)
  · intro j hj
    show _ = (if j = k.toNat + 1 then n else v j) / 612
    by_cases q : j = k.toNat + 1
    · rw [if_pos q, q]
      show st12 (pc12 (ga y 2467) (ga y 2465 fo) (5000 * fo) k.toNat) (ga y 2467 (5000 * fo + (k.toNat : Int))) = n / 612
      rw [pe _ (Nat.le_refl _), v1, show ((k.toNat : Nat) : Int) = k by omega, hd, hn]
    · rw [if_neg q]
      exact pe j (by omega)
theorem td12 {p q : Int} (hp : -4000000000000 ≤ p ∧ p ≤ 4000000000000) (hq : 1 ≤ q ∧ q ≤ 4000000000000) : -4000000000001 ≤ p.tdiv q ∧ p.tdiv q ≤ 4000000000001 := by
  have f := fl12 (p := p) (q := q) (by omega)
  have a : -4000000000000 ≤ p / q := by
    have := (Int.le_ediv_iff_mul_le (a := -4000000000000) (b := p) (show 0 < q by omega)).mpr (by omega)
    exact this
  have b : p / q ≤ 4000000000000 := by
    by_cases z : 0 ≤ p
    · have := Int.ediv_le_self q z
      omega
    · have := Int.ediv_neg_of_neg_of_pos (show p < 0 by omega) (show 0 < q by omega)
      omega
  by_cases z : 0 ≤ p.tmod q
  · have := f.2.1 z
    omega
  · have := f.1 (by omega)
    omega
theorem tm12 {p q : Int} (hp : -4000000000000 ≤ p ∧ p ≤ 4000000000000) (hq : 1 ≤ q ∧ q ≤ 4000000000000) : -4000000000000 ≤ p.tmod q ∧ p.tmod q ≤ 4000000000000 := by
  have l := Int.tmod_lt_of_pos p (show 0 < q by omega)
  have := Int.tmod_lt_of_pos (-p) (show 0 < q by omega)
  rw [Int.neg_tmod] at this
  omega
theorem le3_tr {a b c d e f g h i : Int} (x : le3 a b c d e f) (y : le3 d e f g h i) : le3 a b c g h i := by
  unfold le3 at *
  omega
theorem bf12_le {h : MH} {a b : Int} (x : bf12 h a b) : le3 (ga h 2460 a) (ga h 2461 a) (ga h 2462 a) (ga h 2460 b) (ga h 2461 b) (ga h 2462 b) := by
  unfold bf12 at x
  unfold le3
  omega
theorem bf12_no {h : MH} {a b : Int} (x : ¬ bf12 h a b) : le3 (ga h 2460 b) (ga h 2461 b) (ga h 2462 b) (ga h 2460 a) (ga h 2461 a) (ga h 2462 a) := by
  unfold bf12 at x
  unfold le3
  omega
/-- the best of some labels to begin with -/
def SV12 (x : MH) (p k sv : Int) : Prop := (sv = -1 ∧ ∀ s : Int, 0 ≤ s → s < k → ga x 2463 (lb12 p s) = 0) ∨ ∃ s0 : Int, (0 ≤ s0 ∧ s0 < k) ∧ sv = lb12 p s0 ∧ ga x 2463 sv ≠ 0 ∧ ∀ s : Int, 0 ≤ s → s < k → ga x 2463 (lb12 p s) ≠ 0 → le3 (ga x 2460 sv) (ga x 2461 sv) (ga x 2462 sv) (ga x 2460 (lb12 p s)) (ga x 2461 (lb12 p s)) (ga x 2462 (lb12 p s))
theorem SV12.z (x : MH) (p : Int) : SV12 x p 0 (-1) := Or.inl ⟨rfl, fun s a b => by omega⟩
theorem SV12.no {x : MH} {p k sv : Int} (v : SV12 x p k sv) (z : ga x 2463 (lb12 p k) = 0) : SV12 x p (k + 1) sv := by
  rcases v with ⟨a, b⟩ | ⟨s0, a, b, c, d⟩
  · refine Or.inl ⟨a, fun s s1 s2 => ?_⟩
    by_cases q : s = k
    · rw [q]; exact z
    · exact b s s1 (by omega)
  · refine Or.inr ⟨s0, ⟨a.1, by omega⟩, b, c, fun s s1 s2 s3 => ?_⟩
    by_cases q : s = k
    · rw [q] at s3
      exact absurd z s3
    · exact d s s1 (by omega) s3
theorem SV12.first {x : MH} {p k sv : Int} (v : SV12 x p k sv) (k0 : 0 ≤ k) (e : sv = -1) (hp : 0 ≤ p) (z : ga x 2463 (lb12 p k) ≠ 0) : SV12 x p (k + 1) (lb12 p k) := by
  rcases v with ⟨a, b⟩ | ⟨s0, a, b, c, d⟩
  · refine Or.inr ⟨k, ⟨k0, by omega⟩, rfl, z, fun s s1 s2 s3 => ?_⟩
    by_cases q : s = k
    · rw [q]; exact le3_rf _ _ _
    · exact absurd (b s s1 (by omega)) s3
  · exfalso
    have : sv = 612 * p + 36 * 16 + 9 * 0 + s0 := b
    omega
theorem SV12.better {x : MH} {p k sv : Int} (v : SV12 x p k sv) (k0 : 0 ≤ k) (e : sv ≠ -1) (z : ga x 2463 (lb12 p k) ≠ 0) (l : bf12 x (lb12 p k) sv) : SV12 x p (k + 1) (lb12 p k) := by
  rcases v with ⟨a, b⟩ | ⟨s0, a, b, c, d⟩
  · exact absurd a e
  · refine Or.inr ⟨k, ⟨k0, by omega⟩, rfl, z, fun s s1 s2 s3 => ?_⟩
    by_cases q : s = k
    · rw [q]; exact le3_rf _ _ _
    · exact le3_tr (bf12_le l) (d s s1 (by omega) s3)
theorem SV12.worse {x : MH} {p k sv : Int} (v : SV12 x p k sv) (e : sv ≠ -1) (l : ¬ bf12 x (lb12 p k) sv) : SV12 x p (k + 1) sv := by
  rcases v with ⟨a, b⟩ | ⟨s0, a, b, c, d⟩
  · exact absurd a e
  · refine Or.inr ⟨s0, ⟨a.1, by omega⟩, b, c, fun s s1 s2 s3 => ?_⟩
    by_cases q : s = k
    · rw [q]; exact bf12_no l
    · exact d s s1 (by omega) s3
theorem SM12.ed {σ h : MH} (m : SM12 σ h) : ed12 h = ed12 σ := by
  funext i n p t
  unfold ed12
  rw [m.on, m.sh, m.nx, m.pr]
theorem SM12.dm {σ h : MH} (m : SM12 σ h) : Dm12 h = Dm12 σ := by
  funext i
  unfold Dm12
  rw [m.hd, m.rn, m.f (j := 20), m.f (j := 22)]
theorem OkH.mv {σ y : MH} (m : SM12 σ y) (e0 : ga y 2463 = ga σ 2463) (e1 : ga y 2460 = ga σ 2460) (e2 : ga y 2461 = ga σ 2461) (e3 : ga y 2462 = ga σ 2462) (a : OkH σ σ) (b : FxH σ σ) : OkH y y ∧ FxH y y := by
  unfold OkH FxH
  rw [m.ed, m.dm, e0, e1, e2, e3]
  exact ⟨a, b⟩
theorem SM12.put {σ h h' : MH} {j v : Int} (m : SM12 σ h) (j0 : 0 ≤ j) (e : h' = sa h 2449 j v) (n : j ∉ ([0, 1, 12, 13, 14, 20, 21, 22] : List Int)) : SM12 σ h' := by
  subst e
  refine ⟨fun c hc => (ga_fun (fun q => ?_)).trans (m.1 c hc), fun i hi => ?_⟩
  · rw [q] at hc
    revert hc
    decide
  · have i0 : 0 ≤ i := by
      simp only [List.mem_cons, List.not_mem_nil, or_false] at hi
      omega
    have ij : i ≠ j := fun q => n (by rw [← q]; exact hi)
    rw [ga_sa _ _ _ j0 i0, if_neg ij]
    exact m.2 i hi
/-- what a search leaves -/
def SR12 (h h' : MH) (p0 p1 p2 v : Int) : Prop := Only [2449, 2460, 2461, 2462, 2463, 2465, 2466, 2467] h h' ∧ (∀ j : Int, 0 ≤ j → j ∉ ([20, 21, 22, 23, 27, 28, 29] : List Int) → ga h' 2449 j = ga h 2449 j) ∧ (ga h' 2449 20 = p0 ∧ ga h' 2449 21 = p1 ∧ ga h' 2449 22 = p2 ∧ ga h' 2449 27 = 1 ∧ 0 ≤ ga h' 2449 28 ∧ ga h' 2449 28 ≤ 1) ∧ BD12 h' ∧
  ((ga h' 2449 23 = ga h 2449 23 ∧ ga h' 2465 = ga h 2465 ∧ ga h' 2466 = ga h 2466 ∧ ga h' 2467 = ga h 2467) ∨
   (ga h' 2449 23 = ga h 2449 23 + 1 ∧ (1 ≤ v ∧ v ≤ 5000) ∧ v = ga h' 2466 (ga h 2449 23) ∧ (∀ w : Int, 0 ≤ w → w ≠ ga h 2449 23 → ga h' 2465 w = ga h 2465 w ∧ ga h' 2466 w = ga h 2466 w) ∧ (∀ j : Int, 0 ≤ j → (j < 5000 * ga h 2449 23 ∨ 5000 * ga h 2449 23 + v ≤ j) → ga h' 2467 j = ga h 2467 j) ∧ (∀ j : Int, 0 ≤ j → j < v → 0 ≤ ga h' 2467 (5000 * ga h 2449 23 + j) ∧ ga h' 2467 (5000 * ga h 2449 23 + j) ≤ 15) ∧ (0 ≤ ga h' 2465 (ga h 2449 23) ∧ ga h' 2465 (ga h 2449 23) ≤ 143) ∧ ∀ n : Nat, (n : Int) ≤ v → 0 ≤ pc12 (ga h' 2467) (ga h' 2465 (ga h 2449 23)) (5000 * ga h 2449 23) n ∧ pc12 (ga h' 2467) (ga h' 2465 (ga h 2449 23)) (5000 * ga h 2449 23) n ≤ 143))
/-- the same settings but for where and how far -/
theorem Set12.put {h h' : MH} (s : Set12 h) (a : Only [2449] h h') (e : ∀ j ∈ ([0, 1, 12, 13, 14] : List Int), ga h' 2449 j = ga h 2449 j) (f : 0 ≤ ga h' 2449 20 ∧ ga h' 2449 20 ≤ 143) (g : 0 ≤ ga h' 2449 21 ∧ ga h' 2449 21 ≤ 143) (m : -100 ≤ ga h' 2449 22 ∧ ga h' 2449 22 ≤ 8) : Set12 h' := by
  have k := fun (c : Nat) (n : c ∉ ([2449] : List Nat)) => onlyF a n
  unfold Set12 at s ⊢
  rw [e 0 (by decide), e 1 (by decide), e 12 (by decide), e 13 (by decide), e 14 (by decide), k 2450 (by decide), k 2451 (by decide), k 2453 (by decide), k 2454 (by decide), k 2456 (by decide), k 2457 (by decide), k 2458 (by decide), k 2459 (by decide)]
  exact ⟨s.1, s.2.1, s.2.2.1, s.2.2.2.1, f, g, m, s.2.2.2.2.2.2.2⟩
