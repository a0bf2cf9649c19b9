/-! X12 by hand: its methods -/
set_option maxRecDepth 20000 in
set_option maxHeartbeats 8000000 in
theorem h_X12_search {h : MH} {p0 p1 p2 : Int} (s12 : Set12 h) (bd0 : BD12 h) (pb : 0 ≤ p0 ∧ p0 ≤ 143) (qb : 0 ≤ p1 ∧ p1 ≤ 143) (mb : -100 ≤ p2 ∧ p2 ≤ 8) (fob : 0 ≤ ga h 2449 23 ∧ ga h 2449 23 ≤ 5) (br : ga h 2455 p0 = 0) (g : Str t12c r12c h) : MCal KX12_search yX12_search 0 0 [(2, ((2449 : Nat) : Int)), (0, p0), (0, p1), (0, p2)] h (mRI fun v h' => SR12 h h' p0 p1 p2 v) := by
  refine MCal.ofMW (Or.inl rfl) ⟨cp_X12, rfl⟩ (Nat.le_of_ble_eq_true rfl) ?_
  generalize eQ : (mRI fun v h' => SR12 h h' p0 p1 p2 v : MO → MH → Prop) = Q
  change MW KX12_search Q 0 0 (pcA pgX12_search 0) [(0, (2, ((2449 : Nat) : Int))), (1, (0, p0)), (2, (0, p1)), (3, (0, p2))] [] h
  refine hd_locI (i := 1) rfl (fun rp0 => ?_)
  refine hd_locI (i := 2) rfl (fun rp1 => ?_)
  refine hd_locI (i := 3) rfl (fun rp2 => ?_)
  refine hd_aload pkX12_search rfl rfl (Int.natCast_nonneg _) ?_
  refine hd_iload pkX12_search rfl rfl ?_
  refine hd_putI pkX12_search rfl (g.cell 0 rfl).1 (g.cell 0 rfl).2.1 (fun hh1 ehh1 => ?_)
  have ghh1 : Str t12c r12c hh1 := by rw [ehh1]; exact g.setF rfl
  have o1 : Only [2449] h hh1 := by rw [ehh1]; exact (Only.refl _ _).set (by decide)
  have g1 : ∀ j : Int, 0 ≤ j → ga hh1 2449 j = if j = 20 then p0 else ga h 2449 j := fun j a => by rw [ehh1, ga_sa _ _ _ (by decide) a]; try rfl
  refine hd_aload pkX12_search rfl rfl (Int.natCast_nonneg _) ?_
  refine hd_iload pkX12_search rfl rfl ?_
  refine hd_putI pkX12_search rfl (ghh1.cell 0 rfl).1 (ghh1.cell 0 rfl).2.1 (fun hh2 ehh2 => ?_)
  have ghh2 : Str t12c r12c hh2 := by rw [ehh2]; exact ghh1.setF rfl
  have o2 : Only [2449] h hh2 := by rw [ehh2]; exact o1.set (by decide)
  have g2 : ∀ j : Int, 0 ≤ j → ga hh2 2449 j = if j = 21 then p1 else (if j = 20 then p0 else ga h 2449 j) := fun j a => by rw [ehh2, ga_sa _ _ _ (by decide) a, g1 j a]; try rfl
  refine hd_aload pkX12_search rfl rfl (Int.natCast_nonneg _) ?_
  refine hd_iload pkX12_search rfl rfl ?_
  refine hd_putI pkX12_search rfl (ghh2.cell 0 rfl).1 (ghh2.cell 0 rfl).2.1 (fun hh3 ehh3 => ?_)
  have ghh3 : Str t12c r12c hh3 := by rw [ehh3]; exact ghh2.setF rfl
  have o3 : Only [2449] h hh3 := by rw [ehh3]; exact o2.set (by decide)
  have g3 : ∀ j : Int, 0 ≤ j → ga hh3 2449 j = if j = 22 then p2 else (if j = 21 then p1 else (if j = 20 then p0 else ga h 2449 j)) := fun j a => by rw [ehh3, ga_sa _ _ _ (by decide) a, g2 j a]; try rfl
  refine hd_aload pkX12_search rfl rfl (Int.natCast_nonneg _) ?_
  refine hd_ipush (z := 1) pkX12_search rfl ?_
  refine hd_putZ pkX12_search rfl (ghh3.cell 0 rfl).1 (ghh3.cell 0 rfl).2.1 (by omega) (fun hh4 ehh4 => ?_)
  have ghh4 : Str t12c r12c hh4 := by rw [ehh4]; exact ghh3.setF rfl
  have o4 : Only [2449] h hh4 := by rw [ehh4]; exact o3.set (by decide)
  have g4 : ∀ j : Int, 0 ≤ j → ga hh4 2449 j = if j = 27 then 1 else (if j = 22 then p2 else (if j = 21 then p1 else (if j = 20 then p0 else ga h 2449 j))) := fun j a => by rw [ehh4, ga_sa _ _ _ (by decide) a, g3 j a]; try rfl
  have f20 : ga hh4 2449 20 = p0 := by rw [g4 _ (by decide)]; rfl
  have f21 : ga hh4 2449 21 = p1 := by rw [g4 _ (by decide)]; rfl
  have f22 : ga hh4 2449 22 = p2 := by rw [g4 _ (by decide)]; rfl
  have fx0 : ∀ j : Int, 0 ≤ j → j ∉ ([20, 21, 22, 27] : List Int) → ga hh4 2449 j = ga h 2449 j := fun j a n => by
    simp only [List.mem_cons, List.not_mem_nil, or_false, not_or] at n
    rw [g4 j a, if_neg n.2.2.2, if_neg n.2.2.1, if_neg n.2.1, if_neg n.1]
  have f27 : ga hh4 2449 27 = 1 := by rw [g4 _ (by decide)]; rfl
  have sA : Set12 hh4 := s12.put o4 (fun j hj => fx0 j (by simp only [List.mem_cons, List.not_mem_nil, or_false] at hj; omega) (by simp only [List.mem_cons, List.not_mem_nil, or_false] at hj ⊢; omega)) (by omega) (by omega) (by omega)
  have bA : BD12 hh4 := fun j a b => by rw [o4.ga (by decide), o4.ga (by decide), o4.ga (by decide)]; exact bd0 j a b
  refine hd_aload pkX12_search rfl rfl (Int.natCast_nonneg _) ?_
  refine hd_callV pkX12_search rfl (q := (KX12_findAll, yX12_findAll, 12, 0, 0)) rfl rfl rfl (As := []) (rest := []) (c := 2449) rfl rfl (Nat.le_of_ble_eq_true rfl) (ghh4.cell 0 rfl).1 (ghh4.cell 0 rfl).2.1 (h_X12_findAll sA bA ghh4) (hd_bV (fun hc5 pf => ?_))
  have ghc5 : Str t12c r12c hc5 := ghh4.only pf.1 (by decide)
  obtain ⟨hA, ehA⟩ : ∃ x : MH, x = hc5 := ⟨_, rfl⟩
  have mA := (SM12.refl _).only pf.1 (by decide)
  have sB : Set12 hc5 := mA.s sA
  have okB : OkH hc5 hc5 ∧ FxH hc5 hc5 := by
    obtain ⟨_, x1, x2, _⟩ := pf
    unfold OkH FxH at *
    rw [mA.ed, mA.dm]
    exact ⟨x1, x2⟩
  have bB := pf.2.2.2
  have h20 : ga hc5 2449 20 = p0 := (pf.1.ga (by decide) _).trans f20
  have h21 : ga hc5 2449 21 = p1 := (pf.1.ga (by decide) _).trans f21
  have h22 : ga hc5 2449 22 = p2 := (pf.1.ga (by decide) _).trans f22
  have h27 : ga hc5 2449 27 = 1 := (pf.1.ga (by decide) _).trans f27
  have hx0 : ∀ j : Int, 0 ≤ j → j ∉ ([20, 21, 22, 27] : List Int) → ga hc5 2449 j = ga h 2449 j := fun j a n => (pf.1.ga (by decide) _).trans (fx0 j a n)
  have oB : Only [2449, 2460, 2461, 2462, 2463] h hc5 := (o4.mono (by decide)).trans (pf.1.mono (by decide))
  refine hd_ipush (z := (-1)) pkX12_search rfl ?_
  refine hd_istore pkX12_search rfl rfl ?_
  change MW _ _ _ _ _ [(4, (0, (-1))), (0, (2, ((2449 : Nat) : Int))), (1, (0, p0)), (2, (0, p1)), (3, (0, p2))] _ _
  refine hd_ipush (z := 0) pkX12_search rfl ?_
  refine hd_istore pkX12_search rfl rfl ?_
  change MW _ _ _ _ _ [(5, (0, 0)), (4, (0, (-1))), (0, (2, ((2449 : Nat) : Int))), (1, (0, p0)), (2, (0, p1)), (3, (0, p2))] _ _
  have lp18 : ∀ (N18 : Nat) (sv k : Int), (0 ≤ k ∧ (k ≤ p2 + 1 ∨ k = 0)) → (SV12 hc5 p0 k sv) → (9 : Int) - k < (N18 : Int) → MW KX12_search Q 0 0 (pcA pgX12_search 18) [(0, (2, ((2449 : Nat) : Int))), (1, (0, p0)), (2, (0, p1)), (3, (0, p2)), (4, (0, sv)), (5, (0, k))] [] hc5 := by
    intro N18
    induction N18 with
    | zero => intro sv k k0 sv9 hm18; exfalso; omega
    | succ N18 ih18 =>
      intro sv k k0 sv9 hm18
      refine hd_iload pkX12_search rfl rfl ?_
      refine hd_aload pkX12_search rfl rfl (Int.natCast_nonneg _) ?_
      refine hd_getI pkX12_search rfl (ghc5.cell 0 rfl).1 (ghc5.cell 0 rfl).2.1 (fun v6 ev6 rv6 => ?_)
      replace ev6 : v6 = ga hc5 2449 22 := ev6
      have qv6 : p2 = v6 := by rw [ev6]; exact h22.symm
      subst qv6
      refine hd_ic_gt pkX12_search rfl (fun c7 => ?_) (fun c7 => ?_)
      · skip
        have svb : sv ≠ -1 → 0 ≤ sv ∧ sv < 88128 := fun e => by
          rcases sv9 with ⟨a, _⟩ | ⟨s0, a, b, _⟩
          · exact absurd a e
          · have b : sv = 612 * p0 + 36 * 16 + 9 * 0 + s0 := b
            omega
        refine hd_lpush (z := 0) pkX12_search rfl ?_
        refine hd_lstore pkX12_search rfl rfl ?_
        change MW _ _ _ _ _ [(5, (1, 0)), (0, (2, ((2449 : Nat) : Int))), (1, (0, p0)), (2, (0, p1)), (3, (0, p2)), (4, (0, sv))] _ _
        refine hd_lpush (z := 0) pkX12_search rfl ?_
        refine hd_lstore pkX12_search rfl rfl ?_
        change MW _ _ _ _ _ [(7, (1, 0)), (5, (1, 0)), (0, (2, ((2449 : Nat) : Int))), (1, (0, p0)), (2, (0, p1)), (3, (0, p2)), (4, (0, sv))] _ _
        refine hd_lpush (z := 0) pkX12_search rfl ?_
        refine hd_lstore pkX12_search rfl rfl ?_
        change MW _ _ _ _ _ [(9, (1, 0)), (7, (1, 0)), (5, (1, 0)), (0, (2, ((2449 : Nat) : Int))), (1, (0, p0)), (2, (0, p1)), (3, (0, p2)), (4, (0, sv))] _ _
        refine hd_ipush (z := 0) pkX12_search rfl ?_
        refine hd_istore pkX12_search rfl rfl ?_
        change MW _ _ _ _ _ [(11, (0, 0)), (9, (1, 0)), (7, (1, 0)), (5, (1, 0)), (0, (2, ((2449 : Nat) : Int))), (1, (0, p0)), (2, (0, p1)), (3, (0, p2)), (4, (0, sv))] _ _
        have lp56 : ∀ (N56 : Nat) (al be gr k : Int), (0 ≤ k ∧ k ≤ 88128) → (0 ≤ al ∧ al ≤ k) → (0 ≤ be ∧ be ≤ k) → (0 ≤ gr ∧ gr ≤ 17592186044416) → (88128 : Int) - k < (N56 : Int) → MW KX12_search Q 0 0 (pcA pgX12_search 56) [(0, (2, ((2449 : Nat) : Int))), (1, (0, p0)), (2, (0, p1)), (3, (0, p2)), (4, (0, sv)), (5, (1, al)), (7, (1, be)), (9, (1, gr)), (11, (0, k))] [] hc5 := by
          intro N56
          induction N56 with
          | zero => intro al be gr k k0 al0 be0 gr0 hm56; exfalso; omega
          | succ N56 ih56 =>
            intro al be gr k k0 al0 be0 gr0 hm56
            refine hd_iload pkX12_search rfl rfl ?_
            refine hd_ipush (z := 88128) pkX12_search rfl ?_
            refine hd_ic_ge pkX12_search rfl (fun c8 => ?_) (fun c8 => ?_)
            · skip
              refine hd_aload pkX12_search rfl rfl (Int.natCast_nonneg _) ?_
              have cut119 : ∀ (pf9 : Int), (0 ≤ pf9 ∧ pf9 ≤ 1) → MW KX12_search Q 0 0 (pcA pgX12_search 119) [(0, (2, ((2449 : Nat) : Int))), (1, (0, p0)), (2, (0, p1)), (3, (0, p2)), (4, (0, sv)), (5, (1, al)), (7, (1, be)), (9, (1, gr)), (11, (0, k))] [(0, pf9), (2, ((2449 : Nat) : Int))] hc5 := by
                intro pf9 pfb
                refine hd_putZ pkX12_search rfl (ghc5.cell 0 rfl).1 (ghc5.cell 0 rfl).2.1 (by omega) (fun hh9 ehh9 => ?_)
                have ghh9 : Str t12c r12c hh9 := by rw [ehh9]; exact ghc5.setF rfl
                have oF1 : Only [2449, 2460, 2461, 2462, 2463] h hh9 := by rw [ehh9]; exact oB.set (by decide)
                have nF1 : ∀ c : Nat, c ≠ 2449 → ga hh9 c = ga hA c := fun c n => by rw [ehh9, ga_fun n, ehA]
                have mF1 : SM12 hA hh9 := (by rw [ehA]; exact SM12.refl _ : SM12 hA hc5).put (by decide) ehh9 (by decide)
                have xF1 : ∀ j : Int, 0 ≤ j → ga hh9 2449 j = if j = 28 then pf9 else ga hA 2449 j := fun j a => by rw [ehh9, ga_sa _ _ _ (by decide) a, ehA]; try rfl
                refine hd_aload pkX12_search rfl rfl (Int.natCast_nonneg _) ?_
                refine hd_getZ pkX12_search rfl (ghh9.cell 0 rfl).1 (ghh9.cell 0 rfl).2.1 (fun v10 ev10 rv10 => ?_)
                replace ev10 : v10 = ga hh9 2449 28 := ev10
                obtain ⟨pq, qv10⟩ : ∃ x : Int, x = v10 := ⟨_, rfl⟩
                subst qv10
                refine hd_if_eq pkX12_search rfl (fun c11 => ?_) (fun c11 => ?_)
                · skip
                  refine hd_lpush (z := 0) pkX12_search rfl ?_
                  refine hd_lstore pkX12_search rfl rfl ?_
                  change MW _ _ _ _ _ [(11, (1, 0)), (0, (2, ((2449 : Nat) : Int))), (1, (0, p0)), (2, (0, p1)), (3, (0, p2)), (4, (0, sv)), (5, (1, al)), (7, (1, be)), (9, (1, gr))] _ _
                  refine hd_lload pkX12_search rfl rfl ?_
                  refine hd_lstore pkX12_search rfl rfl ?_
                  change MW _ _ _ _ _ [(13, (1, gr)), (11, (1, 0)), (0, (2, ((2449 : Nat) : Int))), (1, (0, p0)), (2, (0, p1)), (3, (0, p2)), (4, (0, sv)), (5, (1, al)), (7, (1, be)), (9, (1, gr))] _ _
                  have lp147 : ∀ (N147 : Nat) (lo9 hi9 : Int), (0 ≤ lo9 ∧ lo9 ≤ hi9 ∧ hi9 ≤ 17592186044416) → hi9 - lo9 < (N147 : Int) → MW KX12_search Q 0 0 (pcA pgX12_search 147) [(0, (2, ((2449 : Nat) : Int))), (1, (0, p0)), (2, (0, p1)), (3, (0, p2)), (4, (0, sv)), (5, (1, al)), (7, (1, be)), (9, (1, gr)), (11, (1, lo9)), (13, (1, hi9))] [] hh9 := by
                    intro N147
                    induction N147 with
                    | zero => intro lo9 hi9 lh hm147; exfalso; omega
                    | succ N147 ih147 =>
                      intro lo9 hi9 lh hm147
                      refine hd_lload pkX12_search rfl rfl ?_
                      refine hd_lload pkX12_search rfl rfl ?_
                      refine hd_lc_ge pkX12_search rfl (fun c12 => ?_) (fun c12 => ?_)
                      · skip
                        refine hd_aload pkX12_search rfl rfl (Int.natCast_nonneg _) ?_
                        refine hd_lload pkX12_search rfl rfl ?_
                        refine hd_putJ pkX12_search rfl (ghh9.cell 0 rfl).1 (ghh9.cell 0 rfl).2.1 (fun hh13 ehh13 => ?_)
                        have ghh13 : Str t12c r12c hh13 := by rw [ehh13]; exact ghh9.setF rfl
                        have oF2 : Only [2449, 2460, 2461, 2462, 2463] h hh13 := by rw [ehh13]; exact oF1.set (by decide)
                        have nF2 : ∀ c : Nat, c ≠ 2449 → ga hh13 c = ga hA c := fun c n => by rw [ehh13, ga_fun n, nF1 c n]
                        have mF2 : SM12 hA hh13 := mF1.put (by decide) ehh13 (by decide)
                        have xF2 : ∀ j : Int, 0 ≤ j → ga hh13 2449 j = if j = 29 then lo9 else (if j = 28 then pf9 else ga hA 2449 j) := fun j a => by rw [ehh13, ga_sa _ _ _ (by decide) a, xF1 j a]; try rfl
                        refine hd_ipush (z := (-2)) pkX12_search rfl ?_
                        refine hd_iret pkX12_search rfl ?_
                        subst eQ
                        refine ⟨rfl, rfl, oF2.mono (by decide), fun j a n => ?_, ⟨?_, ?_, ?_, ?_, ?_⟩, ?_, Or.inl ⟨?_, ?_, ?_, ?_⟩⟩
                        · simp only [List.mem_cons, List.not_mem_nil, or_false, not_or] at n
                          rw [xF2 j a, if_neg n.2.2.2.2.2.2, if_neg n.2.2.2.2.2.1, ehA]
                          exact hx0 j a (by simp only [List.mem_cons, List.not_mem_nil, or_false, not_or]; omega)
                        · rw [xF2 _ (by decide), if_neg (by decide), if_neg (by decide), ehA]; exact h20
                        · rw [xF2 _ (by decide), if_neg (by decide), if_neg (by decide), ehA]; exact h21
                        · rw [xF2 _ (by decide), if_neg (by decide), if_neg (by decide), ehA]; exact h22
                        · rw [xF2 _ (by decide), if_neg (by decide), if_neg (by decide), ehA]; exact h27
                        · rw [xF2 _ (by decide), if_neg (by decide), if_pos rfl]; exact pfb
                        · intro j a b
                          rw [nF2 _ (by decide), nF2 _ (by decide), nF2 _ (by decide), ehA]
                          exact bB j a b
                        · rw [xF2 _ (by decide), if_neg (by decide), if_neg (by decide), ehA]; exact hx0 _ (by decide) (by decide)
                        · rw [nF2 _ (by decide), ehA]; exact onlyF oB (by decide)
                        · rw [nF2 _ (by decide), ehA]; exact onlyF oB (by decide)
                        · rw [nF2 _ (by decide), ehA]; exact onlyF oB (by decide)
                        
                      · skip
                        refine hd_lload pkX12_search rfl rfl ?_
                        refine hd_lload pkX12_search rfl rfl ?_
                        refine hd_ladd pkX12_search rfl (by omega) ?_
                        refine hd_lpush (z := 2) pkX12_search rfl ?_
                        refine hd_ldiv pkX12_search rfl (by omega) (by rw [(tdiv12 (by omega) (by omega)).1]; omega) ?_
                        generalize emi : (Int.tdiv (lo9 + hi9) 2) = mi
                        rw [(tdiv12 (by omega) (by omega)).1] at emi
                        refine hd_lstore pkX12_search rfl rfl ?_
                        change MW _ _ _ _ _ [(15, (1, mi)), (0, (2, ((2449 : Nat) : Int))), (1, (0, p0)), (2, (0, p1)), (3, (0, p2)), (4, (0, sv)), (5, (1, al)), (7, (1, be)), (9, (1, gr)), (11, (1, lo9)), (13, (1, hi9))] _ _
                        refine hd_aload pkX12_search rfl rfl (Int.natCast_nonneg _) ?_
                        refine hd_lload pkX12_search rfl rfl ?_
                        refine hd_callV pkX12_search rfl (q := (KX12_costUpTo, yX12_costUpTo, 12, 1, 0)) rfl rfl rfl (As := [(1, mi)]) (rest := []) (c := 2449) rfl rfl (Nat.le_of_ble_eq_true rfl) (ghh9.cell 0 rfl).1 (ghh9.cell 0 rfl).2.1 (h_X12_costUpTo ghh9) (hd_bL (fun cu hc14 pc => ?_))
                        obtain ⟨pc, ehc14⟩ := pc
                        replace ehc14 := ehc14.symm
                        subst ehc14
                        refine hd_aload pkX12_search rfl rfl (Int.natCast_nonneg _) ?_
                        refine hd_getJ pkX12_search rfl (ghh9.cell 0 rfl).1 (ghh9.cell 0 rfl).2.1 (fun v15 ev15 rv15 => ?_)
                        replace ev15 : v15 = ga hh9 2449 30 := ev15
                        refine hd_lc_lt pkX12_search rfl (fun c16 => ?_) (fun c16 => ?_)
                        · skip
                          refine hd_lload pkX12_search rfl rfl ?_
                          refine hd_lpush (z := 1) pkX12_search rfl ?_
                          refine hd_ladd pkX12_search rfl (by omega) ?_
                          refine hd_lstore pkX12_search rfl rfl ?_
                          change MW _ _ _ _ _ [(11, (1, (mi + 1))), (15, (1, mi)), (0, (2, ((2449 : Nat) : Int))), (1, (0, p0)), (2, (0, p1)), (3, (0, p2)), (4, (0, sv)), (5, (1, al)), (7, (1, be)), (9, (1, gr)), (13, (1, hi9))] _ _
                          refine hd_goto pkX12_search rfl ?_
                          refine m_sub [(0, (2, ((2449 : Nat) : Int))), (1, (0, p0)), (2, (0, p1)), (3, (0, p2)), (4, (0, sv)), (5, (1, al)), (7, (1, be)), (9, (1, gr)), (11, (1, (mi + 1))), (13, (1, hi9))] (List.forall_mem_cons.mpr ⟨rfl, List.forall_mem_cons.mpr ⟨rfl, List.forall_mem_cons.mpr ⟨rfl, List.forall_mem_cons.mpr ⟨rfl, List.forall_mem_cons.mpr ⟨rfl, List.forall_mem_cons.mpr ⟨rfl, List.forall_mem_cons.mpr ⟨rfl, List.forall_mem_cons.mpr ⟨rfl, List.forall_mem_cons.mpr ⟨rfl, List.forall_mem_cons.mpr ⟨rfl, fun _ h => absurd h List.not_mem_nil⟩⟩⟩⟩⟩⟩⟩⟩⟩⟩) ?_
                          refine ih147  ((mi + 1)) (hi9) ?_ ?_
                          · omega
                          · omega
                        · skip
                          refine hd_lload pkX12_search rfl rfl ?_
                          refine hd_lstore pkX12_search rfl rfl ?_
                          change MW _ _ _ _ _ [(13, (1, mi)), (15, (1, mi)), (0, (2, ((2449 : Nat) : Int))), (1, (0, p0)), (2, (0, p1)), (3, (0, p2)), (4, (0, sv)), (5, (1, al)), (7, (1, be)), (9, (1, gr)), (11, (1, lo9))] _ _
                          refine hd_goto pkX12_search rfl ?_
                          refine hd_goto pkX12_search rfl ?_
                          refine m_sub [(0, (2, ((2449 : Nat) : Int))), (1, (0, p0)), (2, (0, p1)), (3, (0, p2)), (4, (0, sv)), (5, (1, al)), (7, (1, be)), (9, (1, gr)), (11, (1, lo9)), (13, (1, mi))] (List.forall_mem_cons.mpr ⟨rfl, List.forall_mem_cons.mpr ⟨rfl, List.forall_mem_cons.mpr ⟨rfl, List.forall_mem_cons.mpr ⟨rfl, List.forall_mem_cons.mpr ⟨rfl, List.forall_mem_cons.mpr ⟨rfl, List.forall_mem_cons.mpr ⟨rfl, List.forall_mem_cons.mpr ⟨rfl, List.forall_mem_cons.mpr ⟨rfl, List.forall_mem_cons.mpr ⟨rfl, fun _ h => absurd h List.not_mem_nil⟩⟩⟩⟩⟩⟩⟩⟩⟩⟩) ?_
                          refine ih147  (lo9) (mi) ?_ ?_
                          · omega
                          · omega
                  refine m_sub [(0, (2, ((2449 : Nat) : Int))), (1, (0, p0)), (2, (0, p1)), (3, (0, p2)), (4, (0, sv)), (5, (1, al)), (7, (1, be)), (9, (1, gr)), (11, (1, 0)), (13, (1, gr))] (List.forall_mem_cons.mpr ⟨rfl, List.forall_mem_cons.mpr ⟨rfl, List.forall_mem_cons.mpr ⟨rfl, List.forall_mem_cons.mpr ⟨rfl, List.forall_mem_cons.mpr ⟨rfl, List.forall_mem_cons.mpr ⟨rfl, List.forall_mem_cons.mpr ⟨rfl, List.forall_mem_cons.mpr ⟨rfl, List.forall_mem_cons.mpr ⟨rfl, List.forall_mem_cons.mpr ⟨rfl, fun _ h => absurd h List.not_mem_nil⟩⟩⟩⟩⟩⟩⟩⟩⟩⟩) ?_
                  refine lp147 (((gr) - (0)) + 1).toNat (0) (gr) ?_ ?_
                  · omega
                  · omega
                · skip
                  refine hd_aload pkX12_search rfl rfl (Int.natCast_nonneg _) ?_
                  have cut133 : ∀ (bv9 : Int), (True) → MW KX12_search Q 0 0 (pcA pgX12_search 133) [(0, (2, ((2449 : Nat) : Int))), (1, (0, p0)), (2, (0, p1)), (3, (0, p2)), (4, (0, sv)), (5, (1, al)), (7, (1, be)), (9, (1, gr)), (11, (0, k))] [(1, bv9), (2, ((2449 : Nat) : Int))] hh9 := by
                    intro bv9 tr
                    refine hd_putJ pkX12_search rfl (ghh9.cell 0 rfl).1 (ghh9.cell 0 rfl).2.1 (fun hh17 ehh17 => ?_)
                    have ghh17 : Str t12c r12c hh17 := by rw [ehh17]; exact ghh9.setF rfl
                    have oF2 : Only [2449, 2460, 2461, 2462, 2463] h hh17 := by rw [ehh17]; exact oF1.set (by decide)
                    have nF2 : ∀ c : Nat, c ≠ 2449 → ga hh17 c = ga hA c := fun c n => by rw [ehh17, ga_fun n, nF1 c n]
                    have mF2 : SM12 hA hh17 := mF1.put (by decide) ehh17 (by decide)
                    have xF2 : ∀ j : Int, 0 ≤ j → ga hh17 2449 j = if j = 29 then bv9 else (if j = 28 then pf9 else ga hA 2449 j) := fun j a => by rw [ehh17, ga_sa _ _ _ (by decide) a, xF1 j a]; try rfl
                    refine hd_iload pkX12_search rfl rfl ?_
                    refine hd_ipush (z := (-1)) pkX12_search rfl ?_
                    refine hd_ic_ne pkX12_search rfl (fun c18 => ?_) (fun c18 => ?_)
                    · skip
                      have ne8 : sv ≠ -1 := c18
                      refine hd_aload pkX12_search rfl rfl (Int.natCast_nonneg _) ?_
                      refine hd_iload pkX12_search rfl rfl ?_
                      have ne9 : sv ≠ -1 := ne8
                      have okF := OkH.mv mF2 (nF2 _ (by decide)) (nF2 _ (by decide)) (nF2 _ (by decide)) (nF2 _ (by decide)) (by rw [ehA]; exact okB.1) (by rw [ehA]; exact okB.2)
                      obtain ⟨s0, s0b, svl, kF, msv⟩ := sv9.resolve_left (fun w => ne9 w.1)
                      have svl : sv = 612 * p0 + 36 * 16 + 9 * 0 + s0 := svl
                      rw [← ehA, ← nF2 _ (by decide)] at kF
                      have zF : sv / 36 % 17 = 16 ∧ sv / 9 % 4 = 0 := by omega
                      have foF : ga h 2449 23 = ga hh17 2449 23 := by rw [xF2 _ (by decide), if_neg (by decide), if_neg (by decide), ehA, hx0 _ (by decide) (by decide)]
                      have dF : Dm12 hh17 sv := by
                        rw [mF2.dm]
                        refine ⟨p0, 16, 0, s0, ⟨svl, pb, ⟨by decide, by decide⟩, ⟨by decide, by decide⟩, by omega, by omega⟩, by rw [ehA, h22]; omega, fun _ => by rw [ehA, h20], fun z => absurd rfl z, ?_⟩
                        unfold rnF brF
                        rw [ehA, oB.ga (by decide), br]
                        exact ⟨fun z => absurd rfl z.1, fun _ => rfl⟩
                      have msF : ∀ d : Int, 0 < d → d ≤ sv % 9 → ga hh17 2463 (sv - d) ≠ 0 → le3 (ga hh17 2460 sv) (ga hh17 2461 sv) (ga hh17 2462 sv) (ga hh17 2460 (sv - d)) (ga hh17 2461 (sv - d)) (ga hh17 2462 (sv - d)) := by
                        intro d d0 d1 kd
                        rw [nF2 _ (by decide), ehA] at kd
                        rw [nF2 2460 (by decide), nF2 2461 (by decide), nF2 2462 (by decide), ehA]
                        have el : sv - d = lb12 p0 (s0 - d) := by show sv - d = 612 * p0 + 36 * 16 + 9 * 0 + (s0 - d); omega
                        rw [el] at kd ⊢
                        exact msv (s0 - d) (by omega) (by omega) kd
                      refine hd_callV pkX12_search rfl (q := (KX12_walk, yX12_walk, 12, 1, 0)) rfl rfl rfl (As := [(0, sv)]) (rest := []) (c := 2449) rfl rfl (Nat.le_of_ble_eq_true rfl) (ghh17.cell 0 rfl).1 (ghh17.cell 0 rfl).2.1 (h_X12_walk (fo := ga h 2449 23) (mF2.s (by rw [ehA]; exact sB)) okF.1 okF.2 (svb ne9) kF dF zF foF fob msF ghh17) (hd_bI (fun wv hc19 pw => ?_))
                      skip
                      refine hd_iret pkX12_search rfl ?_
                      subst eQ
                      refine ⟨rfl, rfl, (oF2.mono (by decide)).trans (pw.1.mono (by decide)), fun j a n => ?_, ⟨?_, ?_, ?_, ?_, ?_⟩, ?_, Or.inr ⟨?_, pw.2.2.1, pw.2.2.2.1, fun w w0 w1 => ?_, fun j j0 j1 => ?_, pw.2.2.2.2.2.2.1, pw.2.2.2.2.2.2.2.1, pw.2.2.2.2.2.2.2.2⟩⟩
                      · simp only [List.mem_cons, List.not_mem_nil, or_false, not_or] at n
                        rw [pw.2.1 j a, if_neg n.2.2.2.1, xF2 j a, if_neg n.2.2.2.2.2.2, if_neg n.2.2.2.2.2.1, ehA]
                        exact hx0 j a (by simp only [List.mem_cons, List.not_mem_nil, or_false, not_or]; omega)
                      · rw [pw.2.1 _ (by decide), if_neg (by decide), xF2 _ (by decide), if_neg (by decide), if_neg (by decide), ehA]; exact h20
                      · rw [pw.2.1 _ (by decide), if_neg (by decide), xF2 _ (by decide), if_neg (by decide), if_neg (by decide), ehA]; exact h21
                      · rw [pw.2.1 _ (by decide), if_neg (by decide), xF2 _ (by decide), if_neg (by decide), if_neg (by decide), ehA]; exact h22
                      · rw [pw.2.1 _ (by decide), if_neg (by decide), xF2 _ (by decide), if_neg (by decide), if_neg (by decide), ehA]; exact h27
                      · rw [pw.2.1 _ (by decide), if_neg (by decide), xF2 _ (by decide), if_neg (by decide), if_pos rfl]; exact pfb
                      · intro j a b
                        rw [pw.1.ga (by decide), pw.1.ga (by decide), pw.1.ga (by decide), nF2 _ (by decide), nF2 _ (by decide), nF2 _ (by decide), ehA]
                        exact bB j a b
                      · rw [pw.2.1 _ (by decide), if_pos rfl]
                      · have := pw.2.2.2.2.1 w w0 w1
                        rw [this.1, this.2, nF2 _ (by decide), nF2 _ (by decide), ehA, oB.ga (by decide), oB.ga (by decide)]
                        exact ⟨rfl, rfl⟩
                      · rw [pw.2.2.2.2.2.1 j j0 j1, nF2 _ (by decide), ehA, oB.ga (by decide)]
                    · skip
                      refine hd_ipush (z := (-1)) pkX12_search rfl ?_
                      refine hd_goto pkX12_search rfl ?_
                      refine hd_iret pkX12_search rfl ?_
                      subst eQ
                      refine ⟨rfl, rfl, oF2.mono (by decide), fun j a n => ?_, ⟨?_, ?_, ?_, ?_, ?_⟩, ?_, Or.inl ⟨?_, ?_, ?_, ?_⟩⟩
                      · simp only [List.mem_cons, List.not_mem_nil, or_false, not_or] at n
                        rw [xF2 j a, if_neg n.2.2.2.2.2.2, if_neg n.2.2.2.2.2.1, ehA]
                        exact hx0 j a (by simp only [List.mem_cons, List.not_mem_nil, or_false, not_or]; omega)
                      · rw [xF2 _ (by decide), if_neg (by decide), if_neg (by decide), ehA]; exact h20
                      · rw [xF2 _ (by decide), if_neg (by decide), if_neg (by decide), ehA]; exact h21
                      · rw [xF2 _ (by decide), if_neg (by decide), if_neg (by decide), ehA]; exact h22
                      · rw [xF2 _ (by decide), if_neg (by decide), if_neg (by decide), ehA]; exact h27
                      · rw [xF2 _ (by decide), if_neg (by decide), if_pos rfl]; exact pfb
                      · intro j a b
                        rw [nF2 _ (by decide), nF2 _ (by decide), nF2 _ (by decide), ehA]
                        exact bB j a b
                      · rw [xF2 _ (by decide), if_neg (by decide), if_neg (by decide), ehA]; exact hx0 _ (by decide) (by decide)
                      · rw [nF2 _ (by decide), ehA]; exact onlyF oB (by decide)
                      · rw [nF2 _ (by decide), ehA]; exact onlyF oB (by decide)
                      · rw [nF2 _ (by decide), ehA]; exact onlyF oB (by decide)
                      
                  refine hd_iload pkX12_search rfl rfl ?_
                  refine hd_ipush (z := (-1)) pkX12_search rfl ?_
                  refine hd_ic_ne pkX12_search rfl (fun c20 => ?_) (fun c20 => ?_)
                  · skip
                    refine hd_aload pkX12_search rfl rfl (Int.natCast_nonneg _) ?_
                    refine hd_getR (n := 2460) pkX12_search rfl (ghh9.cell 0 rfl).1 (ghh9.cell 0 rfl).2.1 (ghh9.ref 10 rfl) ?_
                    refine hd_iload pkX12_search rfl rfl ?_
                    refine hd_lald (n := 88128) pkX12_search rfl (ghh9.cell 11 rfl) (by omega) (by omega) (fun v21 ev21 rv21 => ?_)
                    refine cut133 (v21) ?_
                    · exact trivial
                  · skip
                    refine hd_lload pkX12_search rfl rfl ?_
                    refine hd_goto pkX12_search rfl ?_
                    refine cut133 (gr) ?_
                    · exact trivial
              refine hd_iload pkX12_search rfl rfl ?_
              refine hd_ipush (z := (-1)) pkX12_search rfl ?_
              refine hd_ic_ne pkX12_search rfl (fun c22 => ?_) (fun c22 => ?_)
              · skip
                refine hd_lload pkX12_search rfl rfl ?_
                refine hd_aload pkX12_search rfl rfl (Int.natCast_nonneg _) ?_
                refine hd_getJ pkX12_search rfl (ghc5.cell 0 rfl).1 (ghc5.cell 0 rfl).2.1 (fun v23 ev23 rv23 => ?_)
                replace ev23 : v23 = ga hc5 2449 30 := ev23
                refine hd_lc_ge pkX12_search rfl (fun c24 => ?_) (fun c24 => ?_)
                · skip
                  refine hd_ipush (z := 0) pkX12_search rfl ?_
                  refine cut119 (0) ?_
                  · omega
                · skip
                  refine hd_ipush (z := 1) pkX12_search rfl ?_
                  refine hd_goto pkX12_search rfl ?_
                  refine cut119 (1) ?_
                  · omega
              · skip
                refine hd_lload pkX12_search rfl rfl ?_
                refine hd_aload pkX12_search rfl rfl (Int.natCast_nonneg _) ?_
                refine hd_getJ pkX12_search rfl (ghc5.cell 0 rfl).1 (ghc5.cell 0 rfl).2.1 (fun v25 ev25 rv25 => ?_)
                replace ev25 : v25 = ga hc5 2449 30 := ev25
                refine hd_lc_gt pkX12_search rfl (fun c26 => ?_) (fun c26 => ?_)
                · skip
                  refine hd_ipush (z := 0) pkX12_search rfl ?_
                  refine hd_goto pkX12_search rfl ?_
                  refine cut119 (0) ?_
                  · omega
                · skip
                  refine hd_ipush (z := 1) pkX12_search rfl ?_
                  refine hd_goto pkX12_search rfl ?_
                  refine cut119 (1) ?_
                  · omega
            · skip
              refine hd_aload pkX12_search rfl rfl (Int.natCast_nonneg _) ?_
              refine hd_getR (n := 2463) pkX12_search rfl (ghc5.cell 0 rfl).1 (ghc5.cell 0 rfl).2.1 (ghc5.ref 13 rfl) ?_
              refine hd_iload pkX12_search rfl rfl ?_
              refine hd_zald (n := 88128) pkX12_search rfl (ghc5.cell 14 rfl) (by omega) (by omega) (fun v27 ev27 rv27 => ?_)
              refine hd_if_eq pkX12_search rfl (fun c28 => ?_) (fun c28 => ?_)
              · skip
                refine hd_iinc (z := 1) pkX12_search rfl rfl (by omega) rfl ?_
                change MW _ _ _ _ _ [(11, (0, (k + 1))), (0, (2, ((2449 : Nat) : Int))), (1, (0, p0)), (2, (0, p1)), (3, (0, p2)), (4, (0, sv)), (5, (1, al)), (7, (1, be)), (9, (1, gr))] _ _
                refine hd_goto pkX12_search rfl ?_
                refine m_sub [(0, (2, ((2449 : Nat) : Int))), (1, (0, p0)), (2, (0, p1)), (3, (0, p2)), (4, (0, sv)), (5, (1, al)), (7, (1, be)), (9, (1, gr)), (11, (0, (k + 1)))] (List.forall_mem_cons.mpr ⟨rfl, List.forall_mem_cons.mpr ⟨rfl, List.forall_mem_cons.mpr ⟨rfl, List.forall_mem_cons.mpr ⟨rfl, List.forall_mem_cons.mpr ⟨rfl, List.forall_mem_cons.mpr ⟨rfl, List.forall_mem_cons.mpr ⟨rfl, List.forall_mem_cons.mpr ⟨rfl, List.forall_mem_cons.mpr ⟨rfl, fun _ h => absurd h List.not_mem_nil⟩⟩⟩⟩⟩⟩⟩⟩⟩) ?_
                refine ih56  (al) (be) (gr) ((k + 1)) ?_ ?_ ?_ ?_ ?_
                · omega
                · omega
                · omega
                · omega
                · omega
              · skip
                refine hd_lload pkX12_search rfl rfl ?_
                refine hd_lpush (z := 1) pkX12_search rfl ?_
                refine hd_ladd pkX12_search rfl (by omega) ?_
                refine hd_lstore pkX12_search rfl rfl ?_
                change MW _ _ _ _ _ [(5, (1, (al + 1))), (0, (2, ((2449 : Nat) : Int))), (1, (0, p0)), (2, (0, p1)), (3, (0, p2)), (4, (0, sv)), (7, (1, be)), (9, (1, gr)), (11, (0, k))] _ _
                refine hd_lload pkX12_search rfl rfl ?_
                have cut80 : ∀ (bq : Int), (0 ≤ bq ∧ bq ≤ 1) → MW KX12_search Q 0 0 (pcA pgX12_search 80) [(0, (2, ((2449 : Nat) : Int))), (1, (0, p0)), (2, (0, p1)), (3, (0, p2)), (4, (0, sv)), (5, (1, (al + 1))), (7, (1, be)), (9, (1, gr)), (11, (0, k))] [(1, bq), (1, be)] hc5 := by
                  intro bq bqb
                  refine hd_ladd pkX12_search rfl (by omega) ?_
                  refine hd_lstore pkX12_search rfl rfl ?_
                  change MW _ _ _ _ _ [(7, (1, (be + bq))), (0, (2, ((2449 : Nat) : Int))), (1, (0, p0)), (2, (0, p1)), (3, (0, p2)), (4, (0, sv)), (5, (1, (al + 1))), (9, (1, gr)), (11, (0, k))] _ _
                  have cut95 : ∀ (gn : Int), (0 ≤ gn ∧ gn ≤ 17592186044416) → MW KX12_search Q 0 0 (pcA pgX12_search 95) [(0, (2, ((2449 : Nat) : Int))), (1, (0, p0)), (2, (0, p1)), (3, (0, p2)), (4, (0, sv)), (5, (1, (al + 1))), (7, (1, (be + bq))), (9, (1, gr)), (11, (0, k))] [(1, gn)] hc5 := by
                    intro gn gnb
                    refine hd_lstore pkX12_search rfl rfl ?_
                    change MW _ _ _ _ _ [(9, (1, gn)), (0, (2, ((2449 : Nat) : Int))), (1, (0, p0)), (2, (0, p1)), (3, (0, p2)), (4, (0, sv)), (5, (1, (al + 1))), (7, (1, (be + bq))), (11, (0, k))] _ _
                    refine hd_iinc (z := 1) pkX12_search rfl rfl (by omega) rfl ?_
                    change MW _ _ _ _ _ [(11, (0, (k + 1))), (9, (1, gn)), (0, (2, ((2449 : Nat) : Int))), (1, (0, p0)), (2, (0, p1)), (3, (0, p2)), (4, (0, sv)), (5, (1, (al + 1))), (7, (1, (be + bq)))] _ _
                    refine hd_goto pkX12_search rfl ?_
                    refine m_sub [(0, (2, ((2449 : Nat) : Int))), (1, (0, p0)), (2, (0, p1)), (3, (0, p2)), (4, (0, sv)), (5, (1, (al + 1))), (7, (1, (be + bq))), (9, (1, gn)), (11, (0, (k + 1)))] (List.forall_mem_cons.mpr ⟨rfl, List.forall_mem_cons.mpr ⟨rfl, List.forall_mem_cons.mpr ⟨rfl, List.forall_mem_cons.mpr ⟨rfl, List.forall_mem_cons.mpr ⟨rfl, List.forall_mem_cons.mpr ⟨rfl, List.forall_mem_cons.mpr ⟨rfl, List.forall_mem_cons.mpr ⟨rfl, List.forall_mem_cons.mpr ⟨rfl, fun _ h => absurd h List.not_mem_nil⟩⟩⟩⟩⟩⟩⟩⟩⟩) ?_
                    refine ih56  ((al + 1)) ((be + bq)) (gn) ((k + 1)) ?_ ?_ ?_ ?_ ?_
                    · omega
                    · omega
                    · omega
                    · omega
                    · omega
                  refine hd_aload pkX12_search rfl rfl (Int.natCast_nonneg _) ?_
                  refine hd_getR (n := 2460) pkX12_search rfl (ghc5.cell 0 rfl).1 (ghc5.cell 0 rfl).2.1 (ghc5.ref 10 rfl) ?_
                  refine hd_iload pkX12_search rfl rfl ?_
                  refine hd_lald (n := 88128) pkX12_search rfl (ghc5.cell 11 rfl) (by omega) (by omega) (fun v29 ev29 rv29 => ?_)
                  have bbv29 := (bB k (by omega) (by omega)).1
                  have bcv29 : 0 ≤ v29 ∧ v29 ≤ 17592186044416 := by rw [ev29]; exact bbv29
                  refine hd_lload pkX12_search rfl rfl ?_
                  refine hd_lc_le pkX12_search rfl (fun c30 => ?_) (fun c30 => ?_)
                  · skip
                    refine hd_lload pkX12_search rfl rfl ?_
                    refine m_sub [(0, (2, ((2449 : Nat) : Int))), (1, (0, p0)), (2, (0, p1)), (3, (0, p2)), (4, (0, sv)), (5, (1, (al + 1))), (7, (1, (be + bq))), (9, (1, gr)), (11, (0, k))] (List.forall_mem_cons.mpr ⟨rfl, List.forall_mem_cons.mpr ⟨rfl, List.forall_mem_cons.mpr ⟨rfl, List.forall_mem_cons.mpr ⟨rfl, List.forall_mem_cons.mpr ⟨rfl, List.forall_mem_cons.mpr ⟨rfl, List.forall_mem_cons.mpr ⟨rfl, List.forall_mem_cons.mpr ⟨rfl, List.forall_mem_cons.mpr ⟨rfl, fun _ h => absurd h List.not_mem_nil⟩⟩⟩⟩⟩⟩⟩⟩⟩) ?_
                    refine cut95 (gr) ?_
                    · omega
                  · skip
                    refine hd_aload pkX12_search rfl rfl (Int.natCast_nonneg _) ?_
                    refine hd_getR (n := 2460) pkX12_search rfl (ghc5.cell 0 rfl).1 (ghc5.cell 0 rfl).2.1 (ghc5.ref 10 rfl) ?_
                    refine hd_iload pkX12_search rfl rfl ?_
                    refine hd_lald (n := 88128) pkX12_search rfl (ghc5.cell 11 rfl) (by omega) (by omega) (fun v31 ev31 rv31 => ?_)
                    have bbv31 := (bB k (by omega) (by omega)).1
                    have bcv31 : 0 ≤ v31 ∧ v31 ≤ 17592186044416 := by rw [ev31]; exact bbv31
                    refine hd_goto pkX12_search rfl ?_
                    refine m_sub [(0, (2, ((2449 : Nat) : Int))), (1, (0, p0)), (2, (0, p1)), (3, (0, p2)), (4, (0, sv)), (5, (1, (al + 1))), (7, (1, (be + bq))), (9, (1, gr)), (11, (0, k))] (List.forall_mem_cons.mpr ⟨rfl, List.forall_mem_cons.mpr ⟨rfl, List.forall_mem_cons.mpr ⟨rfl, List.forall_mem_cons.mpr ⟨rfl, List.forall_mem_cons.mpr ⟨rfl, List.forall_mem_cons.mpr ⟨rfl, List.forall_mem_cons.mpr ⟨rfl, List.forall_mem_cons.mpr ⟨rfl, List.forall_mem_cons.mpr ⟨rfl, fun _ h => absurd h List.not_mem_nil⟩⟩⟩⟩⟩⟩⟩⟩⟩) ?_
                    refine cut95 (v31) ?_
                    · omega
                refine hd_iload pkX12_search rfl rfl ?_
                refine hd_ipush (z := (-1)) pkX12_search rfl ?_
                refine hd_ic_eq pkX12_search rfl (fun c32 => ?_) (fun c32 => ?_)
                · skip
                  refine hd_lpush (z := 0) pkX12_search rfl ?_
                  refine m_sub [(0, (2, ((2449 : Nat) : Int))), (1, (0, p0)), (2, (0, p1)), (3, (0, p2)), (4, (0, sv)), (5, (1, (al + 1))), (7, (1, be)), (9, (1, gr)), (11, (0, k))] (List.forall_mem_cons.mpr ⟨rfl, List.forall_mem_cons.mpr ⟨rfl, List.forall_mem_cons.mpr ⟨rfl, List.forall_mem_cons.mpr ⟨rfl, List.forall_mem_cons.mpr ⟨rfl, List.forall_mem_cons.mpr ⟨rfl, List.forall_mem_cons.mpr ⟨rfl, List.forall_mem_cons.mpr ⟨rfl, List.forall_mem_cons.mpr ⟨rfl, fun _ h => absurd h List.not_mem_nil⟩⟩⟩⟩⟩⟩⟩⟩⟩) ?_
                  refine cut80 (0) ?_
                  · omega
                · skip
                  have ne9 : sv ≠ -1 := c32
                  refine hd_aload pkX12_search rfl rfl (Int.natCast_nonneg _) ?_
                  refine hd_iload pkX12_search rfl rfl ?_
                  refine hd_iload pkX12_search rfl rfl ?_
                  refine hd_callV pkX12_search rfl (q := (KX12_isBefore, yX12_isBefore, 12, 2, 0)) rfl rfl rfl (As := [(0, k), (0, sv)]) (rest := [(1, be)]) (c := 2449) rfl rfl (Nat.le_of_ble_eq_true rfl) (ghc5.cell 0 rfl).1 (ghc5.cell 0 rfl).2.1 (h_X12_isBefore ⟨by omega, by omega⟩ (svb ne9) ghc5) (hd_bI (fun w33 hc34 pi => ?_))
                  obtain ⟨pi, ehc34⟩ := pi
                  replace ehc34 := ehc34.symm
                  subst ehc34
                  refine hd_if_eq pkX12_search rfl (fun c35 => ?_) (fun c35 => ?_)
                  · skip
                    refine hd_lpush (z := 0) pkX12_search rfl ?_
                    refine m_sub [(0, (2, ((2449 : Nat) : Int))), (1, (0, p0)), (2, (0, p1)), (3, (0, p2)), (4, (0, sv)), (5, (1, (al + 1))), (7, (1, be)), (9, (1, gr)), (11, (0, k))] (List.forall_mem_cons.mpr ⟨rfl, List.forall_mem_cons.mpr ⟨rfl, List.forall_mem_cons.mpr ⟨rfl, List.forall_mem_cons.mpr ⟨rfl, List.forall_mem_cons.mpr ⟨rfl, List.forall_mem_cons.mpr ⟨rfl, List.forall_mem_cons.mpr ⟨rfl, List.forall_mem_cons.mpr ⟨rfl, List.forall_mem_cons.mpr ⟨rfl, fun _ h => absurd h List.not_mem_nil⟩⟩⟩⟩⟩⟩⟩⟩⟩) ?_
                    refine cut80 (0) ?_
                    · omega
                  · skip
                    refine hd_lpush (z := 1) pkX12_search rfl ?_
                    refine hd_goto pkX12_search rfl ?_
                    refine m_sub [(0, (2, ((2449 : Nat) : Int))), (1, (0, p0)), (2, (0, p1)), (3, (0, p2)), (4, (0, sv)), (5, (1, (al + 1))), (7, (1, be)), (9, (1, gr)), (11, (0, k))] (List.forall_mem_cons.mpr ⟨rfl, List.forall_mem_cons.mpr ⟨rfl, List.forall_mem_cons.mpr ⟨rfl, List.forall_mem_cons.mpr ⟨rfl, List.forall_mem_cons.mpr ⟨rfl, List.forall_mem_cons.mpr ⟨rfl, List.forall_mem_cons.mpr ⟨rfl, List.forall_mem_cons.mpr ⟨rfl, List.forall_mem_cons.mpr ⟨rfl, fun _ h => absurd h List.not_mem_nil⟩⟩⟩⟩⟩⟩⟩⟩⟩) ?_
                    refine cut80 (1) ?_
                    · omega
        refine m_sub [(0, (2, ((2449 : Nat) : Int))), (1, (0, p0)), (2, (0, p1)), (3, (0, p2)), (4, (0, sv)), (5, (1, 0)), (7, (1, 0)), (9, (1, 0)), (11, (0, 0))] (List.forall_mem_cons.mpr ⟨rfl, List.forall_mem_cons.mpr ⟨rfl, List.forall_mem_cons.mpr ⟨rfl, List.forall_mem_cons.mpr ⟨rfl, List.forall_mem_cons.mpr ⟨rfl, List.forall_mem_cons.mpr ⟨rfl, List.forall_mem_cons.mpr ⟨rfl, List.forall_mem_cons.mpr ⟨rfl, List.forall_mem_cons.mpr ⟨rfl, fun _ h => absurd h List.not_mem_nil⟩⟩⟩⟩⟩⟩⟩⟩⟩) ?_
        refine lp56 (((88128 : Int) - (0)) + 1).toNat (0) (0) (0) (0) ?_ ?_ ?_ ?_ ?_
        · omega
        · omega
        · omega
        · omega
        · omega
      · skip
        refine hd_aload pkX12_search rfl rfl (Int.natCast_nonneg _) ?_
        refine hd_getI pkX12_search rfl (ghc5.cell 0 rfl).1 (ghc5.cell 0 rfl).2.1 (fun v36 ev36 rv36 => ?_)
        replace ev36 : v36 = ga hc5 2449 20 := ev36
        have qv36 : p0 = v36 := by rw [ev36]; exact h20.symm
        subst qv36
        refine hd_ipush (z := 16) pkX12_search rfl ?_
        refine hd_ipush (z := 0) pkX12_search rfl ?_
        refine hd_iload pkX12_search rfl rfl ?_
        refine hd_callS pkX12_search rfl (q := (KX12_label, yX12_label, 12, 4, 1)) rfl rfl rfl (As := [(0, p0), (0, 16), (0, 0), (0, k)]) (rest := []) rfl rfl (Nat.le_of_ble_eq_true rfl) rfl (h_X12_label pb ⟨by decide, by decide⟩ ⟨by decide, by decide⟩ ⟨by omega, by omega⟩ ghc5) (hd_bI (fun w37 hc38 pl => ?_))
        obtain ⟨pl, ehc38⟩ := pl
        replace ehc38 := ehc38.symm
        subst ehc38
        subst pl
        refine hd_istore pkX12_search rfl rfl ?_
        change MW _ _ _ _ _ [(6, (0, (612 * p0 + 36 * 16 + 9 * 0 + k))), (0, (2, ((2449 : Nat) : Int))), (1, (0, p0)), (2, (0, p1)), (3, (0, p2)), (4, (0, sv)), (5, (0, k))] _ _
        refine hd_aload pkX12_search rfl rfl (Int.natCast_nonneg _) ?_
        refine hd_getR (n := 2463) pkX12_search rfl (ghc5.cell 0 rfl).1 (ghc5.cell 0 rfl).2.1 (ghc5.ref 13 rfl) ?_
        refine hd_iload pkX12_search rfl rfl ?_
        refine hd_zald (n := 88128) pkX12_search rfl (ghc5.cell 14 rfl) (by omega) (by omega) (fun v39 ev39 rv39 => ?_)
        refine hd_if_eq pkX12_search rfl (fun c40 => ?_) (fun c40 => ?_)
        · skip
          have kz : ga hc5 2463 (lb12 p0 k) = 0 := by show ga hc5 2463 (612 * p0 + 36 * 16 + 9 * 0 + k) = 0; omega
          refine hd_iload pkX12_search rfl rfl ?_
          refine hd_istore pkX12_search rfl rfl ?_
          change MW _ _ _ _ _ [(4, (0, sv)), (6, (0, (612 * p0 + 36 * 16 + 9 * 0 + k))), (0, (2, ((2449 : Nat) : Int))), (1, (0, p0)), (2, (0, p1)), (3, (0, p2)), (5, (0, k))] _ _
          refine hd_iinc (z := 1) pkX12_search rfl rfl (by omega) rfl ?_
          change MW _ _ _ _ _ [(5, (0, (k + 1))), (4, (0, sv)), (6, (0, (612 * p0 + 36 * 16 + 9 * 0 + k))), (0, (2, ((2449 : Nat) : Int))), (1, (0, p0)), (2, (0, p1)), (3, (0, p2))] _ _
          refine hd_goto pkX12_search rfl ?_
          refine m_sub [(0, (2, ((2449 : Nat) : Int))), (1, (0, p0)), (2, (0, p1)), (3, (0, p2)), (4, (0, sv)), (5, (0, (k + 1)))] (List.forall_mem_cons.mpr ⟨rfl, List.forall_mem_cons.mpr ⟨rfl, List.forall_mem_cons.mpr ⟨rfl, List.forall_mem_cons.mpr ⟨rfl, List.forall_mem_cons.mpr ⟨rfl, List.forall_mem_cons.mpr ⟨rfl, fun _ h => absurd h List.not_mem_nil⟩⟩⟩⟩⟩⟩) ?_
          refine ih18  (sv) ((k + 1)) ?_ ?_ ?_
          · omega
          · exact sv9.no kz
          · omega
        · skip
          have kz : ga hc5 2463 (lb12 p0 k) ≠ 0 := by show ga hc5 2463 (612 * p0 + 36 * 16 + 9 * 0 + k) ≠ 0; omega
          refine hd_iload pkX12_search rfl rfl ?_
          refine hd_ipush (z := (-1)) pkX12_search rfl ?_
          refine hd_ic_eq pkX12_search rfl (fun c41 => ?_) (fun c41 => ?_)
          · skip
            have eq9 : sv = -1 := c41
            refine hd_iload pkX12_search rfl rfl ?_
            refine hd_goto pkX12_search rfl ?_
            refine hd_istore pkX12_search rfl rfl ?_
            change MW _ _ _ _ _ [(4, (0, (612 * p0 + 36 * 16 + 9 * 0 + k))), (6, (0, (612 * p0 + 36 * 16 + 9 * 0 + k))), (0, (2, ((2449 : Nat) : Int))), (1, (0, p0)), (2, (0, p1)), (3, (0, p2)), (5, (0, k))] _ _
            refine hd_iinc (z := 1) pkX12_search rfl rfl (by omega) rfl ?_
            change MW _ _ _ _ _ [(5, (0, (k + 1))), (4, (0, (612 * p0 + 36 * 16 + 9 * 0 + k))), (6, (0, (612 * p0 + 36 * 16 + 9 * 0 + k))), (0, (2, ((2449 : Nat) : Int))), (1, (0, p0)), (2, (0, p1)), (3, (0, p2))] _ _
            refine hd_goto pkX12_search rfl ?_
            refine m_sub [(0, (2, ((2449 : Nat) : Int))), (1, (0, p0)), (2, (0, p1)), (3, (0, p2)), (4, (0, (612 * p0 + 36 * 16 + 9 * 0 + k))), (5, (0, (k + 1)))] (List.forall_mem_cons.mpr ⟨rfl, List.forall_mem_cons.mpr ⟨rfl, List.forall_mem_cons.mpr ⟨rfl, List.forall_mem_cons.mpr ⟨rfl, List.forall_mem_cons.mpr ⟨rfl, List.forall_mem_cons.mpr ⟨rfl, fun _ h => absurd h List.not_mem_nil⟩⟩⟩⟩⟩⟩) ?_
            refine ih18  ((612 * p0 + 36 * 16 + 9 * 0 + k)) ((k + 1)) ?_ ?_ ?_
            · omega
            · exact sv9.first k0.1 eq9 pb.1 kz
            · omega
          · skip
            have ne9 : sv ≠ -1 := c41
            refine hd_aload pkX12_search rfl rfl (Int.natCast_nonneg _) ?_
            refine hd_iload pkX12_search rfl rfl ?_
            refine hd_iload pkX12_search rfl rfl ?_
            have svb : sv ≠ -1 → 0 ≤ sv ∧ sv < 88128 := fun e => by
              rcases sv9 with ⟨a, _⟩ | ⟨s0, a, b, _⟩
              · exact absurd a e
              · have b : sv = 612 * p0 + 36 * 16 + 9 * 0 + s0 := b
                omega
            refine hd_callV pkX12_search rfl (q := (KX12_isBefore, yX12_isBefore, 12, 2, 0)) rfl rfl rfl (As := [(0, (612 * p0 + 36 * 16 + 9 * 0 + k)), (0, sv)]) (rest := []) (c := 2449) rfl rfl (Nat.le_of_ble_eq_true rfl) (ghc5.cell 0 rfl).1 (ghc5.cell 0 rfl).2.1 (h_X12_isBefore ⟨by omega, by omega⟩ (svb ne9) ghc5) (hd_bI (fun w42 hc43 pi => ?_))
            obtain ⟨pi, ehc43⟩ := pi
            replace ehc43 := ehc43.symm
            subst ehc43
            refine hd_if_eq pkX12_search rfl (fun c44 => ?_) (fun c44 => ?_)
            · skip
              have ni := pi.f c44
              refine hd_iload pkX12_search rfl rfl ?_
              refine hd_istore pkX12_search rfl rfl ?_
              change MW _ _ _ _ _ [(4, (0, sv)), (6, (0, (612 * p0 + 36 * 16 + 9 * 0 + k))), (0, (2, ((2449 : Nat) : Int))), (1, (0, p0)), (2, (0, p1)), (3, (0, p2)), (5, (0, k))] _ _
              refine hd_iinc (z := 1) pkX12_search rfl rfl (by omega) rfl ?_
              change MW _ _ _ _ _ [(5, (0, (k + 1))), (4, (0, sv)), (6, (0, (612 * p0 + 36 * 16 + 9 * 0 + k))), (0, (2, ((2449 : Nat) : Int))), (1, (0, p0)), (2, (0, p1)), (3, (0, p2))] _ _
              refine hd_goto pkX12_search rfl ?_
              refine m_sub [(0, (2, ((2449 : Nat) : Int))), (1, (0, p0)), (2, (0, p1)), (3, (0, p2)), (4, (0, sv)), (5, (0, (k + 1)))] (List.forall_mem_cons.mpr ⟨rfl, List.forall_mem_cons.mpr ⟨rfl, List.forall_mem_cons.mpr ⟨rfl, List.forall_mem_cons.mpr ⟨rfl, List.forall_mem_cons.mpr ⟨rfl, List.forall_mem_cons.mpr ⟨rfl, fun _ h => absurd h List.not_mem_nil⟩⟩⟩⟩⟩⟩) ?_
              refine ih18  (sv) ((k + 1)) ?_ ?_ ?_
              · omega
              · exact sv9.worse ne9 ni
              · omega
            · skip
              have yi := pi.t c44
              refine hd_iload pkX12_search rfl rfl ?_
              refine hd_goto pkX12_search rfl ?_
              refine hd_istore pkX12_search rfl rfl ?_
              change MW _ _ _ _ _ [(4, (0, (612 * p0 + 36 * 16 + 9 * 0 + k))), (6, (0, (612 * p0 + 36 * 16 + 9 * 0 + k))), (0, (2, ((2449 : Nat) : Int))), (1, (0, p0)), (2, (0, p1)), (3, (0, p2)), (5, (0, k))] _ _
              refine hd_iinc (z := 1) pkX12_search rfl rfl (by omega) rfl ?_
              change MW _ _ _ _ _ [(5, (0, (k + 1))), (4, (0, (612 * p0 + 36 * 16 + 9 * 0 + k))), (6, (0, (612 * p0 + 36 * 16 + 9 * 0 + k))), (0, (2, ((2449 : Nat) : Int))), (1, (0, p0)), (2, (0, p1)), (3, (0, p2))] _ _
              refine hd_goto pkX12_search rfl ?_
              refine m_sub [(0, (2, ((2449 : Nat) : Int))), (1, (0, p0)), (2, (0, p1)), (3, (0, p2)), (4, (0, (612 * p0 + 36 * 16 + 9 * 0 + k))), (5, (0, (k + 1)))] (List.forall_mem_cons.mpr ⟨rfl, List.forall_mem_cons.mpr ⟨rfl, List.forall_mem_cons.mpr ⟨rfl, List.forall_mem_cons.mpr ⟨rfl, List.forall_mem_cons.mpr ⟨rfl, List.forall_mem_cons.mpr ⟨rfl, fun _ h => absurd h List.not_mem_nil⟩⟩⟩⟩⟩⟩) ?_
              refine ih18  ((612 * p0 + 36 * 16 + 9 * 0 + k)) ((k + 1)) ?_ ?_ ?_
              · omega
              · exact sv9.better k0.1 ne9 kz yi
              · omega
  refine m_sub [(0, (2, ((2449 : Nat) : Int))), (1, (0, p0)), (2, (0, p1)), (3, (0, p2)), (4, (0, (-1))), (5, (0, 0))] (List.forall_mem_cons.mpr ⟨rfl, List.forall_mem_cons.mpr ⟨rfl, List.forall_mem_cons.mpr ⟨rfl, List.forall_mem_cons.mpr ⟨rfl, List.forall_mem_cons.mpr ⟨rfl, List.forall_mem_cons.mpr ⟨rfl, fun _ h => absurd h List.not_mem_nil⟩⟩⟩⟩⟩⟩) ?_
  refine lp18 (((9 : Int) - (0)) + 1).toNat ((-1)) (0) ?_ ?_ ?_
  · omega
  · exact SV12.z _ _
  · omega
