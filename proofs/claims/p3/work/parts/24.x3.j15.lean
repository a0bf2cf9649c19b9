abbrev t15 : List (Nat × Nat × Nat) := [(2595, 31, 0), (2596, 0, 200), (2597, 0, 200), (2598, 0, 201), (2599, 0, 201), (2600, 0, 8), (2601, 0, 8), (2602, 0, 8), (2603, 0, 8), (2604, 1, 8), (2605, 0, 8), (2606, 0, 160), (2607, 0, 240), (2608, 0, 240), (2609, 0, 240), (2610, 0, 80), (2611, 0, 30), (2612, 0, 300), (2613, 1, 12), (2614, 1, 12), (2615, 1, 4), (2616, 1, 64), (2617, 0, 64), (2618, 0, 600)]
abbrev r15 : List (Nat × Nat × Nat) := [(2595, 2, 2596), (2595, 3, 2597), (2595, 5, 2598), (2595, 6, 2599), (2595, 8, 2600), (2595, 9, 2601), (2595, 10, 2602), (2595, 11, 2603), (2595, 14, 2604), (2595, 15, 2605), (2595, 17, 2606), (2595, 19, 2607), (2595, 20, 2608), (2595, 21, 2609), (2595, 23, 2610), (2595, 25, 2611), (2595, 27, 2612), (2595, 28, 2613), (2595, 29, 2614), (2595, 30, 2615), (2595, 34, 2616), (2595, 35, 2617), (2595, 38, 2618)]
def K15_f_letters (y0 : Int) : Prop := 0 ≤ y0 ∧ y0 ≤ 200
def K15_f_words (y0 : Int) : Prop := 0 ≤ y0 ∧ y0 ≤ 200
def K15_f_items (y0 : Int) : Prop := 0 ≤ y0 ∧ y0 ≤ 8
def K15_f_shapes (y0 : Int) : Prop := 0 ≤ y0 ∧ y0 ≤ 40
def K15_f_entries (y0 : Int) : Prop := 0 ≤ y0 ∧ y0 ≤ 60
def K15_f_changes (y0 : Int) : Prop := 0 ≤ y0 ∧ y0 ≤ 20
def K15_f_penalties (y0 : Int) : Prop := 0 ≤ y0 ∧ y0 ≤ 10
def K15_f_troubles (y0 : Int) : Prop := 0 ≤ y0 ∧ y0 ≤ 100
def K15_f_keptBelow (y0 : Int) : Prop := 1 ≤ y0 ∧ y0 ≤ 1000
def K15_f_backMonth (y0 : Int) : Prop := -1 ≤ y0 ∧ y0 ≤ 11
def K15_a_begins (y0 : Int → Int) : Prop := Rng y0 201 0 200
def K15_a_ends (y0 : Int → Int) : Prop := Rng y0 201 0 200
def K15_a_below (y0 : Int → Int) : Prop := Rng y0 12 1 1000
def K15_a_weights (y0 : Int → Int) : Prop := Rng y0 4 0 1000
def K15_n_change2 (y0 : Int → Int) (y1 : Int) : Prop := Rn y0 y1 4 2 1 1000
def K15_ws (y0 : Int) (y1 : Int → Int) (y2 : Int → Int) : Prop := ∀ w : Int, 0 ≤ w → w < y0 → 0 ≤ y1 w ∧ y1 w < y2 w ∧ y2 w ≤ 200
def K15_nm (y0 : Int) (y1 : Int) (y2 : Int → Int) : Prop := ∀ i : Int, 0 ≤ i → i < y0 → 0 ≤ y2 i ∧ y2 i < y1
def K15_nl (y0 : Int) (y1 : Int → Int) (y2 : Int → Int) (y3 : Int → Int) : Prop := ∀ i : Int, 0 ≤ i → i < y0 → y3 (y1 i) - y2 (y1 i) ≤ 8
def K15_ft (y0 : Int) (y1 : Int) (y2 : Int → Int) (y3 : Int → Int) : Prop := ∀ i : Int, 0 ≤ i → i < y0 → 0 ≤ y2 i ∧ y2 i ≤ y3 i ∧ y3 i ≤ y1
def K15_stp (y0 : Int) (y1 : Int → Int) : Prop := ∀ i : Int, 0 ≤ i → i < y0 → y1 i ≠ 0
def K15_ei (y0 : Int) (y1 : Int) (y2 : Int → Int) : Prop := ∀ e : Int, 0 ≤ e → e < y0 → 0 ≤ y2 (4 * e + 1) ∧ y2 (4 * e + 1) < y1
def J15 (h : MH) : Prop := K15_f_letters (ga h 2595 1) ∧ K15_f_words (ga h 2595 4) ∧ K15_f_items (ga h 2595 7) ∧ K15_f_shapes (ga h 2595 16) ∧ K15_f_entries (ga h 2595 18) ∧ K15_f_changes (ga h 2595 22) ∧ K15_f_penalties (ga h 2595 24) ∧ K15_f_troubles (ga h 2595 26) ∧ K15_f_keptBelow (ga h 2595 32) ∧ K15_f_backMonth (ga h 2595 33) ∧ K15_a_begins (ga h 2598) ∧ K15_a_ends (ga h 2599) ∧ K15_a_below (ga h 2614) ∧ K15_a_weights (ga h 2615) ∧ K15_n_change2 (ga h 2610) (ga h 2595 22) ∧ K15_ws (ga h 2595 4) (ga h 2598) (ga h 2599) ∧ K15_nm (ga h 2595 7) (ga h 2595 4) (ga h 2600) ∧ K15_nl (ga h 2595 7) (ga h 2600) (ga h 2598) (ga h 2599) ∧ K15_ft (ga h 2595 7) (ga h 2595 4) (ga h 2601) (ga h 2602) ∧ K15_stp (ga h 2595 7) (ga h 2603) ∧ K15_ei (ga h 2595 18) (ga h 2595 7) (ga h 2607)
theorem J15.f_letters {h : MH} (j : J15 h) : 0 ≤ (ga h 2595 1) ∧ (ga h 2595 1) ≤ 200 := j.1
theorem J15.f_words {h : MH} (j : J15 h) : 0 ≤ (ga h 2595 4) ∧ (ga h 2595 4) ≤ 200 := j.2.1
theorem J15.f_items {h : MH} (j : J15 h) : 0 ≤ (ga h 2595 7) ∧ (ga h 2595 7) ≤ 8 := j.2.2.1
theorem J15.f_shapes {h : MH} (j : J15 h) : 0 ≤ (ga h 2595 16) ∧ (ga h 2595 16) ≤ 40 := j.2.2.2.1
theorem J15.f_entries {h : MH} (j : J15 h) : 0 ≤ (ga h 2595 18) ∧ (ga h 2595 18) ≤ 60 := j.2.2.2.2.1
theorem J15.f_changes {h : MH} (j : J15 h) : 0 ≤ (ga h 2595 22) ∧ (ga h 2595 22) ≤ 20 := j.2.2.2.2.2.1
theorem J15.f_penalties {h : MH} (j : J15 h) : 0 ≤ (ga h 2595 24) ∧ (ga h 2595 24) ≤ 10 := j.2.2.2.2.2.2.1
theorem J15.f_troubles {h : MH} (j : J15 h) : 0 ≤ (ga h 2595 26) ∧ (ga h 2595 26) ≤ 100 := j.2.2.2.2.2.2.2.1
theorem J15.f_keptBelow {h : MH} (j : J15 h) : 1 ≤ (ga h 2595 32) ∧ (ga h 2595 32) ≤ 1000 := j.2.2.2.2.2.2.2.2.1
theorem J15.f_backMonth {h : MH} (j : J15 h) : -1 ≤ (ga h 2595 33) ∧ (ga h 2595 33) ≤ 11 := j.2.2.2.2.2.2.2.2.2.1
theorem J15.a_begins {h : MH} (j : J15 h) : Rng (ga h 2598) 201 0 200 := j.2.2.2.2.2.2.2.2.2.2.1
theorem J15.a_ends {h : MH} (j : J15 h) : Rng (ga h 2599) 201 0 200 := j.2.2.2.2.2.2.2.2.2.2.2.1
theorem J15.a_below {h : MH} (j : J15 h) : Rng (ga h 2614) 12 1 1000 := j.2.2.2.2.2.2.2.2.2.2.2.2.1
theorem J15.a_weights {h : MH} (j : J15 h) : Rng (ga h 2615) 4 0 1000 := j.2.2.2.2.2.2.2.2.2.2.2.2.2.1
theorem J15.n_change2 {h : MH} (j : J15 h) : Rn (ga h 2610) (ga h 2595 22) 4 2 1 1000 := j.2.2.2.2.2.2.2.2.2.2.2.2.2.2.1
theorem J15.ws {h : MH} (j : J15 h) : ∀ w : Int, 0 ≤ w → w < (ga h 2595 4) → 0 ≤ (ga h 2598) w ∧ (ga h 2598) w < (ga h 2599) w ∧ (ga h 2599) w ≤ 200 := j.2.2.2.2.2.2.2.2.2.2.2.2.2.2.2.1
theorem J15.nm {h : MH} (j : J15 h) : ∀ i : Int, 0 ≤ i → i < (ga h 2595 7) → 0 ≤ (ga h 2600) i ∧ (ga h 2600) i < (ga h 2595 4) := j.2.2.2.2.2.2.2.2.2.2.2.2.2.2.2.2.1
theorem J15.nl {h : MH} (j : J15 h) : ∀ i : Int, 0 ≤ i → i < (ga h 2595 7) → (ga h 2599) ((ga h 2600) i) - (ga h 2598) ((ga h 2600) i) ≤ 8 := j.2.2.2.2.2.2.2.2.2.2.2.2.2.2.2.2.2.1
theorem J15.ft {h : MH} (j : J15 h) : ∀ i : Int, 0 ≤ i → i < (ga h 2595 7) → 0 ≤ (ga h 2601) i ∧ (ga h 2601) i ≤ (ga h 2602) i ∧ (ga h 2602) i ≤ (ga h 2595 4) := j.2.2.2.2.2.2.2.2.2.2.2.2.2.2.2.2.2.2.1
theorem J15.stp {h : MH} (j : J15 h) : ∀ i : Int, 0 ≤ i → i < (ga h 2595 7) → (ga h 2603) i ≠ 0 := j.2.2.2.2.2.2.2.2.2.2.2.2.2.2.2.2.2.2.2.1
theorem J15.ei {h : MH} (j : J15 h) : ∀ e : Int, 0 ≤ e → e < (ga h 2595 18) → 0 ≤ (ga h 2607) (4 * e + 1) ∧ (ga h 2607) (4 * e + 1) < (ga h 2595 7) := j.2.2.2.2.2.2.2.2.2.2.2.2.2.2.2.2.2.2.2.2
theorem J15.wf_0 {h h2 : MH} {v : Int} (j : J15 h) (e : h2 = sa h 2595 0 v)  : J15 h2 := by
  have e0 : ga h2 2595 1 = ga h 2595 1 := (ga_wr e (by decide) (by decide)).trans (if_neg (by decide))
  have e1 : ga h2 2595 4 = ga h 2595 4 := (ga_wr e (by decide) (by decide)).trans (if_neg (by decide))
  have e2 : ga h2 2595 7 = ga h 2595 7 := (ga_wr e (by decide) (by decide)).trans (if_neg (by decide))
  have e3 : ga h2 2595 16 = ga h 2595 16 := (ga_wr e (by decide) (by decide)).trans (if_neg (by decide))
  have e4 : ga h2 2595 18 = ga h 2595 18 := (ga_wr e (by decide) (by decide)).trans (if_neg (by decide))
  have e5 : ga h2 2595 22 = ga h 2595 22 := (ga_wr e (by decide) (by decide)).trans (if_neg (by decide))
  have e6 : ga h2 2595 24 = ga h 2595 24 := (ga_wr e (by decide) (by decide)).trans (if_neg (by decide))
  have e7 : ga h2 2595 26 = ga h 2595 26 := (ga_wr e (by decide) (by decide)).trans (if_neg (by decide))
  have e8 : ga h2 2595 32 = ga h 2595 32 := (ga_wr e (by decide) (by decide)).trans (if_neg (by decide))
  have e9 : ga h2 2595 33 = ga h 2595 33 := (ga_wr e (by decide) (by decide)).trans (if_neg (by decide))
  have e10 : ga h2 2598 = ga h 2598 := ga_upn e (by decide)
  have e11 : ga h2 2599 = ga h 2599 := ga_upn e (by decide)
  have e12 : ga h2 2614 = ga h 2614 := ga_upn e (by decide)
  have e13 : ga h2 2615 = ga h 2615 := ga_upn e (by decide)
  have e14 : ga h2 2610 = ga h 2610 := ga_upn e (by decide)
  have e15 : ga h2 2600 = ga h 2600 := ga_upn e (by decide)
  have e16 : ga h2 2601 = ga h 2601 := ga_upn e (by decide)
  have e17 : ga h2 2602 = ga h 2602 := ga_upn e (by decide)
  have e18 : ga h2 2603 = ga h 2603 := ga_upn e (by decide)
  have e19 : ga h2 2607 = ga h 2607 := ga_upn e (by decide)
  obtain ⟨j0, j1, j2, j3, j4, j5, j6, j7, j8, j9, j10, j11, j12, j13, j14, j15, j16, j17, j18, j19, j20⟩ := j
  unfold J15
  rw [e0, e1, e2, e3, e4, e5, e6, e7, e8, e9, e10, e11, e12, e13, e14, e15, e16, e17, e18, e19]
  exact ⟨j0, j1, j2, j3, j4, j5, j6, j7, j8, j9, j10, j11, j12, j13, j14, j15, j16, j17, j18, j19, j20⟩
theorem J15.wf_1 {h h2 : MH} {v : Int} (j : J15 h) (e : h2 = sa h 2595 1 v) (k0 : K15_f_letters v) : J15 h2 := by
  have e0 : ga h2 2595 1 = v := (ga_wr e (by decide) (by decide)).trans (if_pos rfl)
  have e1 : ga h2 2595 4 = ga h 2595 4 := (ga_wr e (by decide) (by decide)).trans (if_neg (by decide))
  have e2 : ga h2 2595 7 = ga h 2595 7 := (ga_wr e (by decide) (by decide)).trans (if_neg (by decide))
  have e3 : ga h2 2595 16 = ga h 2595 16 := (ga_wr e (by decide) (by decide)).trans (if_neg (by decide))
  have e4 : ga h2 2595 18 = ga h 2595 18 := (ga_wr e (by decide) (by decide)).trans (if_neg (by decide))
  have e5 : ga h2 2595 22 = ga h 2595 22 := (ga_wr e (by decide) (by decide)).trans (if_neg (by decide))
  have e6 : ga h2 2595 24 = ga h 2595 24 := (ga_wr e (by decide) (by decide)).trans (if_neg (by decide))
  have e7 : ga h2 2595 26 = ga h 2595 26 := (ga_wr e (by decide) (by decide)).trans (if_neg (by decide))
  have e8 : ga h2 2595 32 = ga h 2595 32 := (ga_wr e (by decide) (by decide)).trans (if_neg (by decide))
  have e9 : ga h2 2595 33 = ga h 2595 33 := (ga_wr e (by decide) (by decide)).trans (if_neg (by decide))
  have e10 : ga h2 2598 = ga h 2598 := ga_upn e (by decide)
  have e11 : ga h2 2599 = ga h 2599 := ga_upn e (by decide)
  have e12 : ga h2 2614 = ga h 2614 := ga_upn e (by decide)
  have e13 : ga h2 2615 = ga h 2615 := ga_upn e (by decide)
  have e14 : ga h2 2610 = ga h 2610 := ga_upn e (by decide)
  have e15 : ga h2 2600 = ga h 2600 := ga_upn e (by decide)
  have e16 : ga h2 2601 = ga h 2601 := ga_upn e (by decide)
  have e17 : ga h2 2602 = ga h 2602 := ga_upn e (by decide)
  have e18 : ga h2 2603 = ga h 2603 := ga_upn e (by decide)
  have e19 : ga h2 2607 = ga h 2607 := ga_upn e (by decide)
  obtain ⟨j0, j1, j2, j3, j4, j5, j6, j7, j8, j9, j10, j11, j12, j13, j14, j15, j16, j17, j18, j19, j20⟩ := j
  unfold J15
  rw [e0, e1, e2, e3, e4, e5, e6, e7, e8, e9, e10, e11, e12, e13, e14, e15, e16, e17, e18, e19]
  exact ⟨k0, j1, j2, j3, j4, j5, j6, j7, j8, j9, j10, j11, j12, j13, j14, j15, j16, j17, j18, j19, j20⟩
theorem J15.wf_4 {h h2 : MH} {v : Int} (j : J15 h) (e : h2 = sa h 2595 4 v) (k1 : K15_f_words v) (k15 : K15_ws v (ga h 2598) (ga h 2599)) (k16 : K15_nm (ga h 2595 7) v (ga h 2600)) (k18 : K15_ft (ga h 2595 7) v (ga h 2601) (ga h 2602)) : J15 h2 := by
  have e0 : ga h2 2595 1 = ga h 2595 1 := (ga_wr e (by decide) (by decide)).trans (if_neg (by decide))
  have e1 : ga h2 2595 4 = v := (ga_wr e (by decide) (by decide)).trans (if_pos rfl)
  have e2 : ga h2 2595 7 = ga h 2595 7 := (ga_wr e (by decide) (by decide)).trans (if_neg (by decide))
  have e3 : ga h2 2595 16 = ga h 2595 16 := (ga_wr e (by decide) (by decide)).trans (if_neg (by decide))
  have e4 : ga h2 2595 18 = ga h 2595 18 := (ga_wr e (by decide) (by decide)).trans (if_neg (by decide))
  have e5 : ga h2 2595 22 = ga h 2595 22 := (ga_wr e (by decide) (by decide)).trans (if_neg (by decide))
  have e6 : ga h2 2595 24 = ga h 2595 24 := (ga_wr e (by decide) (by decide)).trans (if_neg (by decide))
  have e7 : ga h2 2595 26 = ga h 2595 26 := (ga_wr e (by decide) (by decide)).trans (if_neg (by decide))
  have e8 : ga h2 2595 32 = ga h 2595 32 := (ga_wr e (by decide) (by decide)).trans (if_neg (by decide))
  have e9 : ga h2 2595 33 = ga h 2595 33 := (ga_wr e (by decide) (by decide)).trans (if_neg (by decide))
  have e10 : ga h2 2598 = ga h 2598 := ga_upn e (by decide)
  have e11 : ga h2 2599 = ga h 2599 := ga_upn e (by decide)
  have e12 : ga h2 2614 = ga h 2614 := ga_upn e (by decide)
  have e13 : ga h2 2615 = ga h 2615 := ga_upn e (by decide)
  have e14 : ga h2 2610 = ga h 2610 := ga_upn e (by decide)
  have e15 : ga h2 2600 = ga h 2600 := ga_upn e (by decide)
  have e16 : ga h2 2601 = ga h 2601 := ga_upn e (by decide)
  have e17 : ga h2 2602 = ga h 2602 := ga_upn e (by decide)
  have e18 : ga h2 2603 = ga h 2603 := ga_upn e (by decide)
  have e19 : ga h2 2607 = ga h 2607 := ga_upn e (by decide)
  obtain ⟨j0, j1, j2, j3, j4, j5, j6, j7, j8, j9, j10, j11, j12, j13, j14, j15, j16, j17, j18, j19, j20⟩ := j
  unfold J15
  rw [e0, e1, e2, e3, e4, e5, e6, e7, e8, e9, e10, e11, e12, e13, e14, e15, e16, e17, e18, e19]
  exact ⟨j0, k1, j2, j3, j4, j5, j6, j7, j8, j9, j10, j11, j12, j13, j14, k15, k16, j17, k18, j19, j20⟩
theorem J15.wf_7 {h h2 : MH} {v : Int} (j : J15 h) (e : h2 = sa h 2595 7 v) (k2 : K15_f_items v) (k16 : K15_nm v (ga h 2595 4) (ga h 2600)) (k17 : K15_nl v (ga h 2600) (ga h 2598) (ga h 2599)) (k18 : K15_ft v (ga h 2595 4) (ga h 2601) (ga h 2602)) (k19 : K15_stp v (ga h 2603)) (k20 : K15_ei (ga h 2595 18) v (ga h 2607)) : J15 h2 := by
  have e0 : ga h2 2595 1 = ga h 2595 1 := (ga_wr e (by decide) (by decide)).trans (if_neg (by decide))
  have e1 : ga h2 2595 4 = ga h 2595 4 := (ga_wr e (by decide) (by decide)).trans (if_neg (by decide))
  have e2 : ga h2 2595 7 = v := (ga_wr e (by decide) (by decide)).trans (if_pos rfl)
  have e3 : ga h2 2595 16 = ga h 2595 16 := (ga_wr e (by decide) (by decide)).trans (if_neg (by decide))
  have e4 : ga h2 2595 18 = ga h 2595 18 := (ga_wr e (by decide) (by decide)).trans (if_neg (by decide))
  have e5 : ga h2 2595 22 = ga h 2595 22 := (ga_wr e (by decide) (by decide)).trans (if_neg (by decide))
  have e6 : ga h2 2595 24 = ga h 2595 24 := (ga_wr e (by decide) (by decide)).trans (if_neg (by decide))
  have e7 : ga h2 2595 26 = ga h 2595 26 := (ga_wr e (by decide) (by decide)).trans (if_neg (by decide))
  have e8 : ga h2 2595 32 = ga h 2595 32 := (ga_wr e (by decide) (by decide)).trans (if_neg (by decide))
  have e9 : ga h2 2595 33 = ga h 2595 33 := (ga_wr e (by decide) (by decide)).trans (if_neg (by decide))
  have e10 : ga h2 2598 = ga h 2598 := ga_upn e (by decide)
  have e11 : ga h2 2599 = ga h 2599 := ga_upn e (by decide)
  have e12 : ga h2 2614 = ga h 2614 := ga_upn e (by decide)
  have e13 : ga h2 2615 = ga h 2615 := ga_upn e (by decide)
  have e14 : ga h2 2610 = ga h 2610 := ga_upn e (by decide)
  have e15 : ga h2 2600 = ga h 2600 := ga_upn e (by decide)
  have e16 : ga h2 2601 = ga h 2601 := ga_upn e (by decide)
  have e17 : ga h2 2602 = ga h 2602 := ga_upn e (by decide)
  have e18 : ga h2 2603 = ga h 2603 := ga_upn e (by decide)
  have e19 : ga h2 2607 = ga h 2607 := ga_upn e (by decide)
  obtain ⟨j0, j1, j2, j3, j4, j5, j6, j7, j8, j9, j10, j11, j12, j13, j14, j15, j16, j17, j18, j19, j20⟩ := j
  unfold J15
  rw [e0, e1, e2, e3, e4, e5, e6, e7, e8, e9, e10, e11, e12, e13, e14, e15, e16, e17, e18, e19]
  exact ⟨j0, j1, k2, j3, j4, j5, j6, j7, j8, j9, j10, j11, j12, j13, j14, j15, k16, k17, k18, k19, k20⟩
theorem J15.wf_12 {h h2 : MH} {v : Int} (j : J15 h) (e : h2 = sa h 2595 12 v)  : J15 h2 := by
  have e0 : ga h2 2595 1 = ga h 2595 1 := (ga_wr e (by decide) (by decide)).trans (if_neg (by decide))
  have e1 : ga h2 2595 4 = ga h 2595 4 := (ga_wr e (by decide) (by decide)).trans (if_neg (by decide))
  have e2 : ga h2 2595 7 = ga h 2595 7 := (ga_wr e (by decide) (by decide)).trans (if_neg (by decide))
  have e3 : ga h2 2595 16 = ga h 2595 16 := (ga_wr e (by decide) (by decide)).trans (if_neg (by decide))
  have e4 : ga h2 2595 18 = ga h 2595 18 := (ga_wr e (by decide) (by decide)).trans (if_neg (by decide))
  have e5 : ga h2 2595 22 = ga h 2595 22 := (ga_wr e (by decide) (by decide)).trans (if_neg (by decide))
  have e6 : ga h2 2595 24 = ga h 2595 24 := (ga_wr e (by decide) (by decide)).trans (if_neg (by decide))
  have e7 : ga h2 2595 26 = ga h 2595 26 := (ga_wr e (by decide) (by decide)).trans (if_neg (by decide))
  have e8 : ga h2 2595 32 = ga h 2595 32 := (ga_wr e (by decide) (by decide)).trans (if_neg (by decide))
  have e9 : ga h2 2595 33 = ga h 2595 33 := (ga_wr e (by decide) (by decide)).trans (if_neg (by decide))
  have e10 : ga h2 2598 = ga h 2598 := ga_upn e (by decide)
  have e11 : ga h2 2599 = ga h 2599 := ga_upn e (by decide)
  have e12 : ga h2 2614 = ga h 2614 := ga_upn e (by decide)
  have e13 : ga h2 2615 = ga h 2615 := ga_upn e (by decide)
  have e14 : ga h2 2610 = ga h 2610 := ga_upn e (by decide)
  have e15 : ga h2 2600 = ga h 2600 := ga_upn e (by decide)
  have e16 : ga h2 2601 = ga h 2601 := ga_upn e (by decide)
  have e17 : ga h2 2602 = ga h 2602 := ga_upn e (by decide)
  have e18 : ga h2 2603 = ga h 2603 := ga_upn e (by decide)
  have e19 : ga h2 2607 = ga h 2607 := ga_upn e (by decide)
  obtain ⟨j0, j1, j2, j3, j4, j5, j6, j7, j8, j9, j10, j11, j12, j13, j14, j15, j16, j17, j18, j19, j20⟩ := j
  unfold J15
  rw [e0, e1, e2, e3, e4, e5, e6, e7, e8, e9, e10, e11, e12, e13, e14, e15, e16, e17, e18, e19]
  exact ⟨j0, j1, j2, j3, j4, j5, j6, j7, j8, j9, j10, j11, j12, j13, j14, j15, j16, j17, j18, j19, j20⟩
theorem J15.wf_13 {h h2 : MH} {v : Int} (j : J15 h) (e : h2 = sa h 2595 13 v)  : J15 h2 := by
  have e0 : ga h2 2595 1 = ga h 2595 1 := (ga_wr e (by decide) (by decide)).trans (if_neg (by decide))
  have e1 : ga h2 2595 4 = ga h 2595 4 := (ga_wr e (by decide) (by decide)).trans (if_neg (by decide))
  have e2 : ga h2 2595 7 = ga h 2595 7 := (ga_wr e (by decide) (by decide)).trans (if_neg (by decide))
  have e3 : ga h2 2595 16 = ga h 2595 16 := (ga_wr e (by decide) (by decide)).trans (if_neg (by decide))
  have e4 : ga h2 2595 18 = ga h 2595 18 := (ga_wr e (by decide) (by decide)).trans (if_neg (by decide))
  have e5 : ga h2 2595 22 = ga h 2595 22 := (ga_wr e (by decide) (by decide)).trans (if_neg (by decide))
  have e6 : ga h2 2595 24 = ga h 2595 24 := (ga_wr e (by decide) (by decide)).trans (if_neg (by decide))
  have e7 : ga h2 2595 26 = ga h 2595 26 := (ga_wr e (by decide) (by decide)).trans (if_neg (by decide))
  have e8 : ga h2 2595 32 = ga h 2595 32 := (ga_wr e (by decide) (by decide)).trans (if_neg (by decide))
  have e9 : ga h2 2595 33 = ga h 2595 33 := (ga_wr e (by decide) (by decide)).trans (if_neg (by decide))
  have e10 : ga h2 2598 = ga h 2598 := ga_upn e (by decide)
  have e11 : ga h2 2599 = ga h 2599 := ga_upn e (by decide)
  have e12 : ga h2 2614 = ga h 2614 := ga_upn e (by decide)
  have e13 : ga h2 2615 = ga h 2615 := ga_upn e (by decide)
  have e14 : ga h2 2610 = ga h 2610 := ga_upn e (by decide)
  have e15 : ga h2 2600 = ga h 2600 := ga_upn e (by decide)
  have e16 : ga h2 2601 = ga h 2601 := ga_upn e (by decide)
  have e17 : ga h2 2602 = ga h 2602 := ga_upn e (by decide)
  have e18 : ga h2 2603 = ga h 2603 := ga_upn e (by decide)
  have e19 : ga h2 2607 = ga h 2607 := ga_upn e (by decide)
  obtain ⟨j0, j1, j2, j3, j4, j5, j6, j7, j8, j9, j10, j11, j12, j13, j14, j15, j16, j17, j18, j19, j20⟩ := j
  unfold J15
  rw [e0, e1, e2, e3, e4, e5, e6, e7, e8, e9, e10, e11, e12, e13, e14, e15, e16, e17, e18, e19]
  exact ⟨j0, j1, j2, j3, j4, j5, j6, j7, j8, j9, j10, j11, j12, j13, j14, j15, j16, j17, j18, j19, j20⟩
theorem J15.wf_16 {h h2 : MH} {v : Int} (j : J15 h) (e : h2 = sa h 2595 16 v) (k3 : K15_f_shapes v) : J15 h2 := by
  have e0 : ga h2 2595 1 = ga h 2595 1 := (ga_wr e (by decide) (by decide)).trans (if_neg (by decide))
  have e1 : ga h2 2595 4 = ga h 2595 4 := (ga_wr e (by decide) (by decide)).trans (if_neg (by decide))
  have e2 : ga h2 2595 7 = ga h 2595 7 := (ga_wr e (by decide) (by decide)).trans (if_neg (by decide))
  have e3 : ga h2 2595 16 = v := (ga_wr e (by decide) (by decide)).trans (if_pos rfl)
  have e4 : ga h2 2595 18 = ga h 2595 18 := (ga_wr e (by decide) (by decide)).trans (if_neg (by decide))
  have e5 : ga h2 2595 22 = ga h 2595 22 := (ga_wr e (by decide) (by decide)).trans (if_neg (by decide))
  have e6 : ga h2 2595 24 = ga h 2595 24 := (ga_wr e (by decide) (by decide)).trans (if_neg (by decide))
  have e7 : ga h2 2595 26 = ga h 2595 26 := (ga_wr e (by decide) (by decide)).trans (if_neg (by decide))
  have e8 : ga h2 2595 32 = ga h 2595 32 := (ga_wr e (by decide) (by decide)).trans (if_neg (by decide))
  have e9 : ga h2 2595 33 = ga h 2595 33 := (ga_wr e (by decide) (by decide)).trans (if_neg (by decide))
  have e10 : ga h2 2598 = ga h 2598 := ga_upn e (by decide)
  have e11 : ga h2 2599 = ga h 2599 := ga_upn e (by decide)
  have e12 : ga h2 2614 = ga h 2614 := ga_upn e (by decide)
  have e13 : ga h2 2615 = ga h 2615 := ga_upn e (by decide)
  have e14 : ga h2 2610 = ga h 2610 := ga_upn e (by decide)
  have e15 : ga h2 2600 = ga h 2600 := ga_upn e (by decide)
  have e16 : ga h2 2601 = ga h 2601 := ga_upn e (by decide)
  have e17 : ga h2 2602 = ga h 2602 := ga_upn e (by decide)
  have e18 : ga h2 2603 = ga h 2603 := ga_upn e (by decide)
  have e19 : ga h2 2607 = ga h 2607 := ga_upn e (by decide)
  obtain ⟨j0, j1, j2, j3, j4, j5, j6, j7, j8, j9, j10, j11, j12, j13, j14, j15, j16, j17, j18, j19, j20⟩ := j
  unfold J15
  rw [e0, e1, e2, e3, e4, e5, e6, e7, e8, e9, e10, e11, e12, e13, e14, e15, e16, e17, e18, e19]
  exact ⟨j0, j1, j2, k3, j4, j5, j6, j7, j8, j9, j10, j11, j12, j13, j14, j15, j16, j17, j18, j19, j20⟩
theorem J15.wf_18 {h h2 : MH} {v : Int} (j : J15 h) (e : h2 = sa h 2595 18 v) (k4 : K15_f_entries v) (k20 : K15_ei v (ga h 2595 7) (ga h 2607)) : J15 h2 := by
  have e0 : ga h2 2595 1 = ga h 2595 1 := (ga_wr e (by decide) (by decide)).trans (if_neg (by decide))
  have e1 : ga h2 2595 4 = ga h 2595 4 := (ga_wr e (by decide) (by decide)).trans (if_neg (by decide))
  have e2 : ga h2 2595 7 = ga h 2595 7 := (ga_wr e (by decide) (by decide)).trans (if_neg (by decide))
  have e3 : ga h2 2595 16 = ga h 2595 16 := (ga_wr e (by decide) (by decide)).trans (if_neg (by decide))
  have e4 : ga h2 2595 18 = v := (ga_wr e (by decide) (by decide)).trans (if_pos rfl)
  have e5 : ga h2 2595 22 = ga h 2595 22 := (ga_wr e (by decide) (by decide)).trans (if_neg (by decide))
  have e6 : ga h2 2595 24 = ga h 2595 24 := (ga_wr e (by decide) (by decide)).trans (if_neg (by decide))
  have e7 : ga h2 2595 26 = ga h 2595 26 := (ga_wr e (by decide) (by decide)).trans (if_neg (by decide))
  have e8 : ga h2 2595 32 = ga h 2595 32 := (ga_wr e (by decide) (by decide)).trans (if_neg (by decide))
  have e9 : ga h2 2595 33 = ga h 2595 33 := (ga_wr e (by decide) (by decide)).trans (if_neg (by decide))
  have e10 : ga h2 2598 = ga h 2598 := ga_upn e (by decide)
  have e11 : ga h2 2599 = ga h 2599 := ga_upn e (by decide)
  have e12 : ga h2 2614 = ga h 2614 := ga_upn e (by decide)
  have e13 : ga h2 2615 = ga h 2615 := ga_upn e (by decide)
  have e14 : ga h2 2610 = ga h 2610 := ga_upn e (by decide)
  have e15 : ga h2 2600 = ga h 2600 := ga_upn e (by decide)
  have e16 : ga h2 2601 = ga h 2601 := ga_upn e (by decide)
  have e17 : ga h2 2602 = ga h 2602 := ga_upn e (by decide)
  have e18 : ga h2 2603 = ga h 2603 := ga_upn e (by decide)
  have e19 : ga h2 2607 = ga h 2607 := ga_upn e (by decide)
  obtain ⟨j0, j1, j2, j3, j4, j5, j6, j7, j8, j9, j10, j11, j12, j13, j14, j15, j16, j17, j18, j19, j20⟩ := j
  unfold J15
  rw [e0, e1, e2, e3, e4, e5, e6, e7, e8, e9, e10, e11, e12, e13, e14, e15, e16, e17, e18, e19]
  exact ⟨j0, j1, j2, j3, k4, j5, j6, j7, j8, j9, j10, j11, j12, j13, j14, j15, j16, j17, j18, j19, k20⟩
theorem J15.wf_22 {h h2 : MH} {v : Int} (j : J15 h) (e : h2 = sa h 2595 22 v) (k5 : K15_f_changes v) (k14 : K15_n_change2 (ga h 2610) v) : J15 h2 := by
  have e0 : ga h2 2595 1 = ga h 2595 1 := (ga_wr e (by decide) (by decide)).trans (if_neg (by decide))
  have e1 : ga h2 2595 4 = ga h 2595 4 := (ga_wr e (by decide) (by decide)).trans (if_neg (by decide))
  have e2 : ga h2 2595 7 = ga h 2595 7 := (ga_wr e (by decide) (by decide)).trans (if_neg (by decide))
  have e3 : ga h2 2595 16 = ga h 2595 16 := (ga_wr e (by decide) (by decide)).trans (if_neg (by decide))
  have e4 : ga h2 2595 18 = ga h 2595 18 := (ga_wr e (by decide) (by decide)).trans (if_neg (by decide))
  have e5 : ga h2 2595 22 = v := (ga_wr e (by decide) (by decide)).trans (if_pos rfl)
  have e6 : ga h2 2595 24 = ga h 2595 24 := (ga_wr e (by decide) (by decide)).trans (if_neg (by decide))
  have e7 : ga h2 2595 26 = ga h 2595 26 := (ga_wr e (by decide) (by decide)).trans (if_neg (by decide))
  have e8 : ga h2 2595 32 = ga h 2595 32 := (ga_wr e (by decide) (by decide)).trans (if_neg (by decide))
  have e9 : ga h2 2595 33 = ga h 2595 33 := (ga_wr e (by decide) (by decide)).trans (if_neg (by decide))
  have e10 : ga h2 2598 = ga h 2598 := ga_upn e (by decide)
  have e11 : ga h2 2599 = ga h 2599 := ga_upn e (by decide)
  have e12 : ga h2 2614 = ga h 2614 := ga_upn e (by decide)
  have e13 : ga h2 2615 = ga h 2615 := ga_upn e (by decide)
  have e14 : ga h2 2610 = ga h 2610 := ga_upn e (by decide)
  have e15 : ga h2 2600 = ga h 2600 := ga_upn e (by decide)
  have e16 : ga h2 2601 = ga h 2601 := ga_upn e (by decide)
  have e17 : ga h2 2602 = ga h 2602 := ga_upn e (by decide)
  have e18 : ga h2 2603 = ga h 2603 := ga_upn e (by decide)
  have e19 : ga h2 2607 = ga h 2607 := ga_upn e (by decide)
  obtain ⟨j0, j1, j2, j3, j4, j5, j6, j7, j8, j9, j10, j11, j12, j13, j14, j15, j16, j17, j18, j19, j20⟩ := j
  unfold J15
  rw [e0, e1, e2, e3, e4, e5, e6, e7, e8, e9, e10, e11, e12, e13, e14, e15, e16, e17, e18, e19]
  exact ⟨j0, j1, j2, j3, j4, k5, j6, j7, j8, j9, j10, j11, j12, j13, k14, j15, j16, j17, j18, j19, j20⟩
theorem J15.wf_24 {h h2 : MH} {v : Int} (j : J15 h) (e : h2 = sa h 2595 24 v) (k6 : K15_f_penalties v) : J15 h2 := by
  have e0 : ga h2 2595 1 = ga h 2595 1 := (ga_wr e (by decide) (by decide)).trans (if_neg (by decide))
  have e1 : ga h2 2595 4 = ga h 2595 4 := (ga_wr e (by decide) (by decide)).trans (if_neg (by decide))
  have e2 : ga h2 2595 7 = ga h 2595 7 := (ga_wr e (by decide) (by decide)).trans (if_neg (by decide))
  have e3 : ga h2 2595 16 = ga h 2595 16 := (ga_wr e (by decide) (by decide)).trans (if_neg (by decide))
  have e4 : ga h2 2595 18 = ga h 2595 18 := (ga_wr e (by decide) (by decide)).trans (if_neg (by decide))
  have e5 : ga h2 2595 22 = ga h 2595 22 := (ga_wr e (by decide) (by decide)).trans (if_neg (by decide))
  have e6 : ga h2 2595 24 = v := (ga_wr e (by decide) (by decide)).trans (if_pos rfl)
  have e7 : ga h2 2595 26 = ga h 2595 26 := (ga_wr e (by decide) (by decide)).trans (if_neg (by decide))
  have e8 : ga h2 2595 32 = ga h 2595 32 := (ga_wr e (by decide) (by decide)).trans (if_neg (by decide))
  have e9 : ga h2 2595 33 = ga h 2595 33 := (ga_wr e (by decide) (by decide)).trans (if_neg (by decide))
  have e10 : ga h2 2598 = ga h 2598 := ga_upn e (by decide)
  have e11 : ga h2 2599 = ga h 2599 := ga_upn e (by decide)
  have e12 : ga h2 2614 = ga h 2614 := ga_upn e (by decide)
  have e13 : ga h2 2615 = ga h 2615 := ga_upn e (by decide)
  have e14 : ga h2 2610 = ga h 2610 := ga_upn e (by decide)
  have e15 : ga h2 2600 = ga h 2600 := ga_upn e (by decide)
  have e16 : ga h2 2601 = ga h 2601 := ga_upn e (by decide)
  have e17 : ga h2 2602 = ga h 2602 := ga_upn e (by decide)
  have e18 : ga h2 2603 = ga h 2603 := ga_upn e (by decide)
  have e19 : ga h2 2607 = ga h 2607 := ga_upn e (by decide)
  obtain ⟨j0, j1, j2, j3, j4, j5, j6, j7, j8, j9, j10, j11, j12, j13, j14, j15, j16, j17, j18, j19, j20⟩ := j
  unfold J15
  rw [e0, e1, e2, e3, e4, e5, e6, e7, e8, e9, e10, e11, e12, e13, e14, e15, e16, e17, e18, e19]
  exact ⟨j0, j1, j2, j3, j4, j5, k6, j7, j8, j9, j10, j11, j12, j13, j14, j15, j16, j17, j18, j19, j20⟩
theorem J15.wf_26 {h h2 : MH} {v : Int} (j : J15 h) (e : h2 = sa h 2595 26 v) (k7 : K15_f_troubles v) : J15 h2 := by
  have e0 : ga h2 2595 1 = ga h 2595 1 := (ga_wr e (by decide) (by decide)).trans (if_neg (by decide))
  have e1 : ga h2 2595 4 = ga h 2595 4 := (ga_wr e (by decide) (by decide)).trans (if_neg (by decide))
  have e2 : ga h2 2595 7 = ga h 2595 7 := (ga_wr e (by decide) (by decide)).trans (if_neg (by decide))
  have e3 : ga h2 2595 16 = ga h 2595 16 := (ga_wr e (by decide) (by decide)).trans (if_neg (by decide))
  have e4 : ga h2 2595 18 = ga h 2595 18 := (ga_wr e (by decide) (by decide)).trans (if_neg (by decide))
  have e5 : ga h2 2595 22 = ga h 2595 22 := (ga_wr e (by decide) (by decide)).trans (if_neg (by decide))
  have e6 : ga h2 2595 24 = ga h 2595 24 := (ga_wr e (by decide) (by decide)).trans (if_neg (by decide))
  have e7 : ga h2 2595 26 = v := (ga_wr e (by decide) (by decide)).trans (if_pos rfl)
  have e8 : ga h2 2595 32 = ga h 2595 32 := (ga_wr e (by decide) (by decide)).trans (if_neg (by decide))
  have e9 : ga h2 2595 33 = ga h 2595 33 := (ga_wr e (by decide) (by decide)).trans (if_neg (by decide))
  have e10 : ga h2 2598 = ga h 2598 := ga_upn e (by decide)
  have e11 : ga h2 2599 = ga h 2599 := ga_upn e (by decide)
  have e12 : ga h2 2614 = ga h 2614 := ga_upn e (by decide)
  have e13 : ga h2 2615 = ga h 2615 := ga_upn e (by decide)
  have e14 : ga h2 2610 = ga h 2610 := ga_upn e (by decide)
  have e15 : ga h2 2600 = ga h 2600 := ga_upn e (by decide)
  have e16 : ga h2 2601 = ga h 2601 := ga_upn e (by decide)
  have e17 : ga h2 2602 = ga h 2602 := ga_upn e (by decide)
  have e18 : ga h2 2603 = ga h 2603 := ga_upn e (by decide)
  have e19 : ga h2 2607 = ga h 2607 := ga_upn e (by decide)
  obtain ⟨j0, j1, j2, j3, j4, j5, j6, j7, j8, j9, j10, j11, j12, j13, j14, j15, j16, j17, j18, j19, j20⟩ := j
  unfold J15
  rw [e0, e1, e2, e3, e4, e5, e6, e7, e8, e9, e10, e11, e12, e13, e14, e15, e16, e17, e18, e19]
  exact ⟨j0, j1, j2, j3, j4, j5, j6, k7, j8, j9, j10, j11, j12, j13, j14, j15, j16, j17, j18, j19, j20⟩
theorem J15.wf_31 {h h2 : MH} {v : Int} (j : J15 h) (e : h2 = sa h 2595 31 v)  : J15 h2 := by
  have e0 : ga h2 2595 1 = ga h 2595 1 := (ga_wr e (by decide) (by decide)).trans (if_neg (by decide))
  have e1 : ga h2 2595 4 = ga h 2595 4 := (ga_wr e (by decide) (by decide)).trans (if_neg (by decide))
  have e2 : ga h2 2595 7 = ga h 2595 7 := (ga_wr e (by decide) (by decide)).trans (if_neg (by decide))
  have e3 : ga h2 2595 16 = ga h 2595 16 := (ga_wr e (by decide) (by decide)).trans (if_neg (by decide))
  have e4 : ga h2 2595 18 = ga h 2595 18 := (ga_wr e (by decide) (by decide)).trans (if_neg (by decide))
  have e5 : ga h2 2595 22 = ga h 2595 22 := (ga_wr e (by decide) (by decide)).trans (if_neg (by decide))
  have e6 : ga h2 2595 24 = ga h 2595 24 := (ga_wr e (by decide) (by decide)).trans (if_neg (by decide))
  have e7 : ga h2 2595 26 = ga h 2595 26 := (ga_wr e (by decide) (by decide)).trans (if_neg (by decide))
  have e8 : ga h2 2595 32 = ga h 2595 32 := (ga_wr e (by decide) (by decide)).trans (if_neg (by decide))
  have e9 : ga h2 2595 33 = ga h 2595 33 := (ga_wr e (by decide) (by decide)).trans (if_neg (by decide))
  have e10 : ga h2 2598 = ga h 2598 := ga_upn e (by decide)
  have e11 : ga h2 2599 = ga h 2599 := ga_upn e (by decide)
  have e12 : ga h2 2614 = ga h 2614 := ga_upn e (by decide)
  have e13 : ga h2 2615 = ga h 2615 := ga_upn e (by decide)
  have e14 : ga h2 2610 = ga h 2610 := ga_upn e (by decide)
  have e15 : ga h2 2600 = ga h 2600 := ga_upn e (by decide)
  have e16 : ga h2 2601 = ga h 2601 := ga_upn e (by decide)
  have e17 : ga h2 2602 = ga h 2602 := ga_upn e (by decide)
  have e18 : ga h2 2603 = ga h 2603 := ga_upn e (by decide)
  have e19 : ga h2 2607 = ga h 2607 := ga_upn e (by decide)
  obtain ⟨j0, j1, j2, j3, j4, j5, j6, j7, j8, j9, j10, j11, j12, j13, j14, j15, j16, j17, j18, j19, j20⟩ := j
  unfold J15
  rw [e0, e1, e2, e3, e4, e5, e6, e7, e8, e9, e10, e11, e12, e13, e14, e15, e16, e17, e18, e19]
  exact ⟨j0, j1, j2, j3, j4, j5, j6, j7, j8, j9, j10, j11, j12, j13, j14, j15, j16, j17, j18, j19, j20⟩
theorem J15.wf_32 {h h2 : MH} {v : Int} (j : J15 h) (e : h2 = sa h 2595 32 v) (k8 : K15_f_keptBelow v) : J15 h2 := by
  have e0 : ga h2 2595 1 = ga h 2595 1 := (ga_wr e (by decide) (by decide)).trans (if_neg (by decide))
  have e1 : ga h2 2595 4 = ga h 2595 4 := (ga_wr e (by decide) (by decide)).trans (if_neg (by decide))
  have e2 : ga h2 2595 7 = ga h 2595 7 := (ga_wr e (by decide) (by decide)).trans (if_neg (by decide))
  have e3 : ga h2 2595 16 = ga h 2595 16 := (ga_wr e (by decide) (by decide)).trans (if_neg (by decide))
  have e4 : ga h2 2595 18 = ga h 2595 18 := (ga_wr e (by decide) (by decide)).trans (if_neg (by decide))
  have e5 : ga h2 2595 22 = ga h 2595 22 := (ga_wr e (by decide) (by decide)).trans (if_neg (by decide))
  have e6 : ga h2 2595 24 = ga h 2595 24 := (ga_wr e (by decide) (by decide)).trans (if_neg (by decide))
  have e7 : ga h2 2595 26 = ga h 2595 26 := (ga_wr e (by decide) (by decide)).trans (if_neg (by decide))
  have e8 : ga h2 2595 32 = v := (ga_wr e (by decide) (by decide)).trans (if_pos rfl)
  have e9 : ga h2 2595 33 = ga h 2595 33 := (ga_wr e (by decide) (by decide)).trans (if_neg (by decide))
  have e10 : ga h2 2598 = ga h 2598 := ga_upn e (by decide)
  have e11 : ga h2 2599 = ga h 2599 := ga_upn e (by decide)
  have e12 : ga h2 2614 = ga h 2614 := ga_upn e (by decide)
  have e13 : ga h2 2615 = ga h 2615 := ga_upn e (by decide)
  have e14 : ga h2 2610 = ga h 2610 := ga_upn e (by decide)
  have e15 : ga h2 2600 = ga h 2600 := ga_upn e (by decide)
  have e16 : ga h2 2601 = ga h 2601 := ga_upn e (by decide)
  have e17 : ga h2 2602 = ga h 2602 := ga_upn e (by decide)
  have e18 : ga h2 2603 = ga h 2603 := ga_upn e (by decide)
  have e19 : ga h2 2607 = ga h 2607 := ga_upn e (by decide)
  obtain ⟨j0, j1, j2, j3, j4, j5, j6, j7, j8, j9, j10, j11, j12, j13, j14, j15, j16, j17, j18, j19, j20⟩ := j
  unfold J15
  rw [e0, e1, e2, e3, e4, e5, e6, e7, e8, e9, e10, e11, e12, e13, e14, e15, e16, e17, e18, e19]
  exact ⟨j0, j1, j2, j3, j4, j5, j6, j7, k8, j9, j10, j11, j12, j13, j14, j15, j16, j17, j18, j19, j20⟩
theorem J15.wf_33 {h h2 : MH} {v : Int} (j : J15 h) (e : h2 = sa h 2595 33 v) (k9 : K15_f_backMonth v) : J15 h2 := by
  have e0 : ga h2 2595 1 = ga h 2595 1 := (ga_wr e (by decide) (by decide)).trans (if_neg (by decide))
  have e1 : ga h2 2595 4 = ga h 2595 4 := (ga_wr e (by decide) (by decide)).trans (if_neg (by decide))
  have e2 : ga h2 2595 7 = ga h 2595 7 := (ga_wr e (by decide) (by decide)).trans (if_neg (by decide))
  have e3 : ga h2 2595 16 = ga h 2595 16 := (ga_wr e (by decide) (by decide)).trans (if_neg (by decide))
  have e4 : ga h2 2595 18 = ga h 2595 18 := (ga_wr e (by decide) (by decide)).trans (if_neg (by decide))
  have e5 : ga h2 2595 22 = ga h 2595 22 := (ga_wr e (by decide) (by decide)).trans (if_neg (by decide))
  have e6 : ga h2 2595 24 = ga h 2595 24 := (ga_wr e (by decide) (by decide)).trans (if_neg (by decide))
  have e7 : ga h2 2595 26 = ga h 2595 26 := (ga_wr e (by decide) (by decide)).trans (if_neg (by decide))
  have e8 : ga h2 2595 32 = ga h 2595 32 := (ga_wr e (by decide) (by decide)).trans (if_neg (by decide))
  have e9 : ga h2 2595 33 = v := (ga_wr e (by decide) (by decide)).trans (if_pos rfl)
  have e10 : ga h2 2598 = ga h 2598 := ga_upn e (by decide)
  have e11 : ga h2 2599 = ga h 2599 := ga_upn e (by decide)
  have e12 : ga h2 2614 = ga h 2614 := ga_upn e (by decide)
  have e13 : ga h2 2615 = ga h 2615 := ga_upn e (by decide)
  have e14 : ga h2 2610 = ga h 2610 := ga_upn e (by decide)
  have e15 : ga h2 2600 = ga h 2600 := ga_upn e (by decide)
  have e16 : ga h2 2601 = ga h 2601 := ga_upn e (by decide)
  have e17 : ga h2 2602 = ga h 2602 := ga_upn e (by decide)
  have e18 : ga h2 2603 = ga h 2603 := ga_upn e (by decide)
  have e19 : ga h2 2607 = ga h 2607 := ga_upn e (by decide)
  obtain ⟨j0, j1, j2, j3, j4, j5, j6, j7, j8, j9, j10, j11, j12, j13, j14, j15, j16, j17, j18, j19, j20⟩ := j
  unfold J15
  rw [e0, e1, e2, e3, e4, e5, e6, e7, e8, e9, e10, e11, e12, e13, e14, e15, e16, e17, e18, e19]
  exact ⟨j0, j1, j2, j3, j4, j5, j6, j7, j8, k9, j10, j11, j12, j13, j14, j15, j16, j17, j18, j19, j20⟩
theorem J15.wf_36 {h h2 : MH} {v : Int} (j : J15 h) (e : h2 = sa h 2595 36 v)  : J15 h2 := by
  have e0 : ga h2 2595 1 = ga h 2595 1 := (ga_wr e (by decide) (by decide)).trans (if_neg (by decide))
  have e1 : ga h2 2595 4 = ga h 2595 4 := (ga_wr e (by decide) (by decide)).trans (if_neg (by decide))
  have e2 : ga h2 2595 7 = ga h 2595 7 := (ga_wr e (by decide) (by decide)).trans (if_neg (by decide))
  have e3 : ga h2 2595 16 = ga h 2595 16 := (ga_wr e (by decide) (by decide)).trans (if_neg (by decide))
  have e4 : ga h2 2595 18 = ga h 2595 18 := (ga_wr e (by decide) (by decide)).trans (if_neg (by decide))
  have e5 : ga h2 2595 22 = ga h 2595 22 := (ga_wr e (by decide) (by decide)).trans (if_neg (by decide))
  have e6 : ga h2 2595 24 = ga h 2595 24 := (ga_wr e (by decide) (by decide)).trans (if_neg (by decide))
  have e7 : ga h2 2595 26 = ga h 2595 26 := (ga_wr e (by decide) (by decide)).trans (if_neg (by decide))
  have e8 : ga h2 2595 32 = ga h 2595 32 := (ga_wr e (by decide) (by decide)).trans (if_neg (by decide))
  have e9 : ga h2 2595 33 = ga h 2595 33 := (ga_wr e (by decide) (by decide)).trans (if_neg (by decide))
  have e10 : ga h2 2598 = ga h 2598 := ga_upn e (by decide)
  have e11 : ga h2 2599 = ga h 2599 := ga_upn e (by decide)
  have e12 : ga h2 2614 = ga h 2614 := ga_upn e (by decide)
  have e13 : ga h2 2615 = ga h 2615 := ga_upn e (by decide)
  have e14 : ga h2 2610 = ga h 2610 := ga_upn e (by decide)
  have e15 : ga h2 2600 = ga h 2600 := ga_upn e (by decide)
  have e16 : ga h2 2601 = ga h 2601 := ga_upn e (by decide)
  have e17 : ga h2 2602 = ga h 2602 := ga_upn e (by decide)
  have e18 : ga h2 2603 = ga h 2603 := ga_upn e (by decide)
  have e19 : ga h2 2607 = ga h 2607 := ga_upn e (by decide)
  obtain ⟨j0, j1, j2, j3, j4, j5, j6, j7, j8, j9, j10, j11, j12, j13, j14, j15, j16, j17, j18, j19, j20⟩ := j
  unfold J15
  rw [e0, e1, e2, e3, e4, e5, e6, e7, e8, e9, e10, e11, e12, e13, e14, e15, e16, e17, e18, e19]
  exact ⟨j0, j1, j2, j3, j4, j5, j6, j7, j8, j9, j10, j11, j12, j13, j14, j15, j16, j17, j18, j19, j20⟩
theorem J15.wf_37 {h h2 : MH} {v : Int} (j : J15 h) (e : h2 = sa h 2595 37 v)  : J15 h2 := by
  have e0 : ga h2 2595 1 = ga h 2595 1 := (ga_wr e (by decide) (by decide)).trans (if_neg (by decide))
  have e1 : ga h2 2595 4 = ga h 2595 4 := (ga_wr e (by decide) (by decide)).trans (if_neg (by decide))
  have e2 : ga h2 2595 7 = ga h 2595 7 := (ga_wr e (by decide) (by decide)).trans (if_neg (by decide))
  have e3 : ga h2 2595 16 = ga h 2595 16 := (ga_wr e (by decide) (by decide)).trans (if_neg (by decide))
  have e4 : ga h2 2595 18 = ga h 2595 18 := (ga_wr e (by decide) (by decide)).trans (if_neg (by decide))
  have e5 : ga h2 2595 22 = ga h 2595 22 := (ga_wr e (by decide) (by decide)).trans (if_neg (by decide))
  have e6 : ga h2 2595 24 = ga h 2595 24 := (ga_wr e (by decide) (by decide)).trans (if_neg (by decide))
  have e7 : ga h2 2595 26 = ga h 2595 26 := (ga_wr e (by decide) (by decide)).trans (if_neg (by decide))
  have e8 : ga h2 2595 32 = ga h 2595 32 := (ga_wr e (by decide) (by decide)).trans (if_neg (by decide))
  have e9 : ga h2 2595 33 = ga h 2595 33 := (ga_wr e (by decide) (by decide)).trans (if_neg (by decide))
  have e10 : ga h2 2598 = ga h 2598 := ga_upn e (by decide)
  have e11 : ga h2 2599 = ga h 2599 := ga_upn e (by decide)
  have e12 : ga h2 2614 = ga h 2614 := ga_upn e (by decide)
  have e13 : ga h2 2615 = ga h 2615 := ga_upn e (by decide)
  have e14 : ga h2 2610 = ga h 2610 := ga_upn e (by decide)
  have e15 : ga h2 2600 = ga h 2600 := ga_upn e (by decide)
  have e16 : ga h2 2601 = ga h 2601 := ga_upn e (by decide)
  have e17 : ga h2 2602 = ga h 2602 := ga_upn e (by decide)
  have e18 : ga h2 2603 = ga h 2603 := ga_upn e (by decide)
  have e19 : ga h2 2607 = ga h 2607 := ga_upn e (by decide)
  obtain ⟨j0, j1, j2, j3, j4, j5, j6, j7, j8, j9, j10, j11, j12, j13, j14, j15, j16, j17, j18, j19, j20⟩ := j
  unfold J15
  rw [e0, e1, e2, e3, e4, e5, e6, e7, e8, e9, e10, e11, e12, e13, e14, e15, e16, e17, e18, e19]
  exact ⟨j0, j1, j2, j3, j4, j5, j6, j7, j8, j9, j10, j11, j12, j13, j14, j15, j16, j17, j18, j19, j20⟩
theorem J15.wf_39 {h h2 : MH} {v : Int} (j : J15 h) (e : h2 = sa h 2595 39 v)  : J15 h2 := by
  have e0 : ga h2 2595 1 = ga h 2595 1 := (ga_wr e (by decide) (by decide)).trans (if_neg (by decide))
  have e1 : ga h2 2595 4 = ga h 2595 4 := (ga_wr e (by decide) (by decide)).trans (if_neg (by decide))
  have e2 : ga h2 2595 7 = ga h 2595 7 := (ga_wr e (by decide) (by decide)).trans (if_neg (by decide))
  have e3 : ga h2 2595 16 = ga h 2595 16 := (ga_wr e (by decide) (by decide)).trans (if_neg (by decide))
  have e4 : ga h2 2595 18 = ga h 2595 18 := (ga_wr e (by decide) (by decide)).trans (if_neg (by decide))
  have e5 : ga h2 2595 22 = ga h 2595 22 := (ga_wr e (by decide) (by decide)).trans (if_neg (by decide))
  have e6 : ga h2 2595 24 = ga h 2595 24 := (ga_wr e (by decide) (by decide)).trans (if_neg (by decide))
  have e7 : ga h2 2595 26 = ga h 2595 26 := (ga_wr e (by decide) (by decide)).trans (if_neg (by decide))
  have e8 : ga h2 2595 32 = ga h 2595 32 := (ga_wr e (by decide) (by decide)).trans (if_neg (by decide))
  have e9 : ga h2 2595 33 = ga h 2595 33 := (ga_wr e (by decide) (by decide)).trans (if_neg (by decide))
  have e10 : ga h2 2598 = ga h 2598 := ga_upn e (by decide)
  have e11 : ga h2 2599 = ga h 2599 := ga_upn e (by decide)
  have e12 : ga h2 2614 = ga h 2614 := ga_upn e (by decide)
  have e13 : ga h2 2615 = ga h 2615 := ga_upn e (by decide)
  have e14 : ga h2 2610 = ga h 2610 := ga_upn e (by decide)
  have e15 : ga h2 2600 = ga h 2600 := ga_upn e (by decide)
  have e16 : ga h2 2601 = ga h 2601 := ga_upn e (by decide)
  have e17 : ga h2 2602 = ga h 2602 := ga_upn e (by decide)
  have e18 : ga h2 2603 = ga h 2603 := ga_upn e (by decide)
  have e19 : ga h2 2607 = ga h 2607 := ga_upn e (by decide)
  obtain ⟨j0, j1, j2, j3, j4, j5, j6, j7, j8, j9, j10, j11, j12, j13, j14, j15, j16, j17, j18, j19, j20⟩ := j
  unfold J15
  rw [e0, e1, e2, e3, e4, e5, e6, e7, e8, e9, e10, e11, e12, e13, e14, e15, e16, e17, e18, e19]
  exact ⟨j0, j1, j2, j3, j4, j5, j6, j7, j8, j9, j10, j11, j12, j13, j14, j15, j16, j17, j18, j19, j20⟩
theorem J15.wa_2598 {h h2 : MH} {i v : Int} (j : J15 h) (e : h2 = sa h 2598 i v) (i0 : 0 ≤ i) (k10 : i < 201 → 0 ≤ v ∧ v ≤ 200) (k15 : K15_ws (ga h 2595 4) (upw (ga h 2598) i v) (ga h 2599)) (k17 : K15_nl (ga h 2595 7) (ga h 2600) (upw (ga h 2598) i v) (ga h 2599)) : J15 h2 := by
  have e0 : ga h2 2595 1 = ga h 2595 1 := by rw [ga_upn e (by decide)]
  have e1 : ga h2 2595 4 = ga h 2595 4 := by rw [ga_upn e (by decide)]
  have e2 : ga h2 2595 7 = ga h 2595 7 := by rw [ga_upn e (by decide)]
  have e3 : ga h2 2595 16 = ga h 2595 16 := by rw [ga_upn e (by decide)]
  have e4 : ga h2 2595 18 = ga h 2595 18 := by rw [ga_upn e (by decide)]
  have e5 : ga h2 2595 22 = ga h 2595 22 := by rw [ga_upn e (by decide)]
  have e6 : ga h2 2595 24 = ga h 2595 24 := by rw [ga_upn e (by decide)]
  have e7 : ga h2 2595 26 = ga h 2595 26 := by rw [ga_upn e (by decide)]
  have e8 : ga h2 2595 32 = ga h 2595 32 := by rw [ga_upn e (by decide)]
  have e9 : ga h2 2595 33 = ga h 2595 33 := by rw [ga_upn e (by decide)]
  have e10 : ga h2 2598 = upw (ga h 2598) i v := ga_upw e
  have e11 : ga h2 2599 = ga h 2599 := ga_upn e (by decide)
  have e12 : ga h2 2614 = ga h 2614 := ga_upn e (by decide)
  have e13 : ga h2 2615 = ga h 2615 := ga_upn e (by decide)
  have e14 : ga h2 2610 = ga h 2610 := ga_upn e (by decide)
  have e15 : ga h2 2600 = ga h 2600 := ga_upn e (by decide)
  have e16 : ga h2 2601 = ga h 2601 := ga_upn e (by decide)
  have e17 : ga h2 2602 = ga h 2602 := ga_upn e (by decide)
  have e18 : ga h2 2603 = ga h 2603 := ga_upn e (by decide)
  have e19 : ga h2 2607 = ga h 2607 := ga_upn e (by decide)
  obtain ⟨j0, j1, j2, j3, j4, j5, j6, j7, j8, j9, j10, j11, j12, j13, j14, j15, j16, j17, j18, j19, j20⟩ := j
  unfold J15
  rw [e0, e1, e2, e3, e4, e5, e6, e7, e8, e9, e10, e11, e12, e13, e14, e15, e16, e17, e18, e19]
  exact ⟨j0, j1, j2, j3, j4, j5, j6, j7, j8, j9, Rng.upw j10 i0 k10, j11, j12, j13, j14, k15, j16, k17, j18, j19, j20⟩
theorem J15.wa_2599 {h h2 : MH} {i v : Int} (j : J15 h) (e : h2 = sa h 2599 i v) (i0 : 0 ≤ i) (k11 : i < 201 → 0 ≤ v ∧ v ≤ 200) (k15 : K15_ws (ga h 2595 4) (ga h 2598) (upw (ga h 2599) i v)) (k17 : K15_nl (ga h 2595 7) (ga h 2600) (ga h 2598) (upw (ga h 2599) i v)) : J15 h2 := by
  have e0 : ga h2 2595 1 = ga h 2595 1 := by rw [ga_upn e (by decide)]
  have e1 : ga h2 2595 4 = ga h 2595 4 := by rw [ga_upn e (by decide)]
  have e2 : ga h2 2595 7 = ga h 2595 7 := by rw [ga_upn e (by decide)]
  have e3 : ga h2 2595 16 = ga h 2595 16 := by rw [ga_upn e (by decide)]
  have e4 : ga h2 2595 18 = ga h 2595 18 := by rw [ga_upn e (by decide)]
  have e5 : ga h2 2595 22 = ga h 2595 22 := by rw [ga_upn e (by decide)]
  have e6 : ga h2 2595 24 = ga h 2595 24 := by rw [ga_upn e (by decide)]
  have e7 : ga h2 2595 26 = ga h 2595 26 := by rw [ga_upn e (by decide)]
  have e8 : ga h2 2595 32 = ga h 2595 32 := by rw [ga_upn e (by decide)]
  have e9 : ga h2 2595 33 = ga h 2595 33 := by rw [ga_upn e (by decide)]
  have e10 : ga h2 2598 = ga h 2598 := ga_upn e (by decide)
  have e11 : ga h2 2599 = upw (ga h 2599) i v := ga_upw e
  have e12 : ga h2 2614 = ga h 2614 := ga_upn e (by decide)
  have e13 : ga h2 2615 = ga h 2615 := ga_upn e (by decide)
  have e14 : ga h2 2610 = ga h 2610 := ga_upn e (by decide)
  have e15 : ga h2 2600 = ga h 2600 := ga_upn e (by decide)
  have e16 : ga h2 2601 = ga h 2601 := ga_upn e (by decide)
  have e17 : ga h2 2602 = ga h 2602 := ga_upn e (by decide)
  have e18 : ga h2 2603 = ga h 2603 := ga_upn e (by decide)
  have e19 : ga h2 2607 = ga h 2607 := ga_upn e (by decide)
  obtain ⟨j0, j1, j2, j3, j4, j5, j6, j7, j8, j9, j10, j11, j12, j13, j14, j15, j16, j17, j18, j19, j20⟩ := j
  unfold J15
  rw [e0, e1, e2, e3, e4, e5, e6, e7, e8, e9, e10, e11, e12, e13, e14, e15, e16, e17, e18, e19]
  exact ⟨j0, j1, j2, j3, j4, j5, j6, j7, j8, j9, j10, Rng.upw j11 i0 k11, j12, j13, j14, k15, j16, k17, j18, j19, j20⟩
theorem J15.wa_2600 {h h2 : MH} {i v : Int} (j : J15 h) (e : h2 = sa h 2600 i v) (i0 : 0 ≤ i) (k16 : K15_nm (ga h 2595 7) (ga h 2595 4) (upw (ga h 2600) i v)) (k17 : K15_nl (ga h 2595 7) (upw (ga h 2600) i v) (ga h 2598) (ga h 2599)) : J15 h2 := by
  have e0 : ga h2 2595 1 = ga h 2595 1 := by rw [ga_upn e (by decide)]
  have e1 : ga h2 2595 4 = ga h 2595 4 := by rw [ga_upn e (by decide)]
  have e2 : ga h2 2595 7 = ga h 2595 7 := by rw [ga_upn e (by decide)]
  have e3 : ga h2 2595 16 = ga h 2595 16 := by rw [ga_upn e (by decide)]
  have e4 : ga h2 2595 18 = ga h 2595 18 := by rw [ga_upn e (by decide)]
  have e5 : ga h2 2595 22 = ga h 2595 22 := by rw [ga_upn e (by decide)]
  have e6 : ga h2 2595 24 = ga h 2595 24 := by rw [ga_upn e (by decide)]
  have e7 : ga h2 2595 26 = ga h 2595 26 := by rw [ga_upn e (by decide)]
  have e8 : ga h2 2595 32 = ga h 2595 32 := by rw [ga_upn e (by decide)]
  have e9 : ga h2 2595 33 = ga h 2595 33 := by rw [ga_upn e (by decide)]
  have e10 : ga h2 2598 = ga h 2598 := ga_upn e (by decide)
  have e11 : ga h2 2599 = ga h 2599 := ga_upn e (by decide)
  have e12 : ga h2 2614 = ga h 2614 := ga_upn e (by decide)
  have e13 : ga h2 2615 = ga h 2615 := ga_upn e (by decide)
  have e14 : ga h2 2610 = ga h 2610 := ga_upn e (by decide)
  have e15 : ga h2 2600 = upw (ga h 2600) i v := ga_upw e
  have e16 : ga h2 2601 = ga h 2601 := ga_upn e (by decide)
  have e17 : ga h2 2602 = ga h 2602 := ga_upn e (by decide)
  have e18 : ga h2 2603 = ga h 2603 := ga_upn e (by decide)
  have e19 : ga h2 2607 = ga h 2607 := ga_upn e (by decide)
  obtain ⟨j0, j1, j2, j3, j4, j5, j6, j7, j8, j9, j10, j11, j12, j13, j14, j15, j16, j17, j18, j19, j20⟩ := j
  unfold J15
  rw [e0, e1, e2, e3, e4, e5, e6, e7, e8, e9, e10, e11, e12, e13, e14, e15, e16, e17, e18, e19]
  exact ⟨j0, j1, j2, j3, j4, j5, j6, j7, j8, j9, j10, j11, j12, j13, j14, j15, k16, k17, j18, j19, j20⟩
theorem J15.wa_2601 {h h2 : MH} {i v : Int} (j : J15 h) (e : h2 = sa h 2601 i v) (i0 : 0 ≤ i) (k18 : K15_ft (ga h 2595 7) (ga h 2595 4) (upw (ga h 2601) i v) (ga h 2602)) : J15 h2 := by
  have e0 : ga h2 2595 1 = ga h 2595 1 := by rw [ga_upn e (by decide)]
  have e1 : ga h2 2595 4 = ga h 2595 4 := by rw [ga_upn e (by decide)]
  have e2 : ga h2 2595 7 = ga h 2595 7 := by rw [ga_upn e (by decide)]
  have e3 : ga h2 2595 16 = ga h 2595 16 := by rw [ga_upn e (by decide)]
  have e4 : ga h2 2595 18 = ga h 2595 18 := by rw [ga_upn e (by decide)]
  have e5 : ga h2 2595 22 = ga h 2595 22 := by rw [ga_upn e (by decide)]
  have e6 : ga h2 2595 24 = ga h 2595 24 := by rw [ga_upn e (by decide)]
  have e7 : ga h2 2595 26 = ga h 2595 26 := by rw [ga_upn e (by decide)]
  have e8 : ga h2 2595 32 = ga h 2595 32 := by rw [ga_upn e (by decide)]
  have e9 : ga h2 2595 33 = ga h 2595 33 := by rw [ga_upn e (by decide)]
  have e10 : ga h2 2598 = ga h 2598 := ga_upn e (by decide)
  have e11 : ga h2 2599 = ga h 2599 := ga_upn e (by decide)
  have e12 : ga h2 2614 = ga h 2614 := ga_upn e (by decide)
  have e13 : ga h2 2615 = ga h 2615 := ga_upn e (by decide)
  have e14 : ga h2 2610 = ga h 2610 := ga_upn e (by decide)
  have e15 : ga h2 2600 = ga h 2600 := ga_upn e (by decide)
  have e16 : ga h2 2601 = upw (ga h 2601) i v := ga_upw e
  have e17 : ga h2 2602 = ga h 2602 := ga_upn e (by decide)
  have e18 : ga h2 2603 = ga h 2603 := ga_upn e (by decide)
  have e19 : ga h2 2607 = ga h 2607 := ga_upn e (by decide)
  obtain ⟨j0, j1, j2, j3, j4, j5, j6, j7, j8, j9, j10, j11, j12, j13, j14, j15, j16, j17, j18, j19, j20⟩ := j
  unfold J15
  rw [e0, e1, e2, e3, e4, e5, e6, e7, e8, e9, e10, e11, e12, e13, e14, e15, e16, e17, e18, e19]
  exact ⟨j0, j1, j2, j3, j4, j5, j6, j7, j8, j9, j10, j11, j12, j13, j14, j15, j16, j17, k18, j19, j20⟩
theorem J15.wa_2602 {h h2 : MH} {i v : Int} (j : J15 h) (e : h2 = sa h 2602 i v) (i0 : 0 ≤ i) (k18 : K15_ft (ga h 2595 7) (ga h 2595 4) (ga h 2601) (upw (ga h 2602) i v)) : J15 h2 := by
  have e0 : ga h2 2595 1 = ga h 2595 1 := by rw [ga_upn e (by decide)]
  have e1 : ga h2 2595 4 = ga h 2595 4 := by rw [ga_upn e (by decide)]
  have e2 : ga h2 2595 7 = ga h 2595 7 := by rw [ga_upn e (by decide)]
  have e3 : ga h2 2595 16 = ga h 2595 16 := by rw [ga_upn e (by decide)]
  have e4 : ga h2 2595 18 = ga h 2595 18 := by rw [ga_upn e (by decide)]
  have e5 : ga h2 2595 22 = ga h 2595 22 := by rw [ga_upn e (by decide)]
  have e6 : ga h2 2595 24 = ga h 2595 24 := by rw [ga_upn e (by decide)]
  have e7 : ga h2 2595 26 = ga h 2595 26 := by rw [ga_upn e (by decide)]
  have e8 : ga h2 2595 32 = ga h 2595 32 := by rw [ga_upn e (by decide)]
  have e9 : ga h2 2595 33 = ga h 2595 33 := by rw [ga_upn e (by decide)]
  have e10 : ga h2 2598 = ga h 2598 := ga_upn e (by decide)
  have e11 : ga h2 2599 = ga h 2599 := ga_upn e (by decide)
  have e12 : ga h2 2614 = ga h 2614 := ga_upn e (by decide)
  have e13 : ga h2 2615 = ga h 2615 := ga_upn e (by decide)
  have e14 : ga h2 2610 = ga h 2610 := ga_upn e (by decide)
  have e15 : ga h2 2600 = ga h 2600 := ga_upn e (by decide)
  have e16 : ga h2 2601 = ga h 2601 := ga_upn e (by decide)
  have e17 : ga h2 2602 = upw (ga h 2602) i v := ga_upw e
  have e18 : ga h2 2603 = ga h 2603 := ga_upn e (by decide)
  have e19 : ga h2 2607 = ga h 2607 := ga_upn e (by decide)
  obtain ⟨j0, j1, j2, j3, j4, j5, j6, j7, j8, j9, j10, j11, j12, j13, j14, j15, j16, j17, j18, j19, j20⟩ := j
  unfold J15
  rw [e0, e1, e2, e3, e4, e5, e6, e7, e8, e9, e10, e11, e12, e13, e14, e15, e16, e17, e18, e19]
  exact ⟨j0, j1, j2, j3, j4, j5, j6, j7, j8, j9, j10, j11, j12, j13, j14, j15, j16, j17, k18, j19, j20⟩
theorem J15.wa_2603 {h h2 : MH} {i v : Int} (j : J15 h) (e : h2 = sa h 2603 i v) (i0 : 0 ≤ i) (k19 : K15_stp (ga h 2595 7) (upw (ga h 2603) i v)) : J15 h2 := by
  have e0 : ga h2 2595 1 = ga h 2595 1 := by rw [ga_upn e (by decide)]
  have e1 : ga h2 2595 4 = ga h 2595 4 := by rw [ga_upn e (by decide)]
  have e2 : ga h2 2595 7 = ga h 2595 7 := by rw [ga_upn e (by decide)]
  have e3 : ga h2 2595 16 = ga h 2595 16 := by rw [ga_upn e (by decide)]
  have e4 : ga h2 2595 18 = ga h 2595 18 := by rw [ga_upn e (by decide)]
  have e5 : ga h2 2595 22 = ga h 2595 22 := by rw [ga_upn e (by decide)]
  have e6 : ga h2 2595 24 = ga h 2595 24 := by rw [ga_upn e (by decide)]
  have e7 : ga h2 2595 26 = ga h 2595 26 := by rw [ga_upn e (by decide)]
  have e8 : ga h2 2595 32 = ga h 2595 32 := by rw [ga_upn e (by decide)]
  have e9 : ga h2 2595 33 = ga h 2595 33 := by rw [ga_upn e (by decide)]
  have e10 : ga h2 2598 = ga h 2598 := ga_upn e (by decide)
  have e11 : ga h2 2599 = ga h 2599 := ga_upn e (by decide)
  have e12 : ga h2 2614 = ga h 2614 := ga_upn e (by decide)
  have e13 : ga h2 2615 = ga h 2615 := ga_upn e (by decide)
  have e14 : ga h2 2610 = ga h 2610 := ga_upn e (by decide)
  have e15 : ga h2 2600 = ga h 2600 := ga_upn e (by decide)
  have e16 : ga h2 2601 = ga h 2601 := ga_upn e (by decide)
  have e17 : ga h2 2602 = ga h 2602 := ga_upn e (by decide)
  have e18 : ga h2 2603 = upw (ga h 2603) i v := ga_upw e
  have e19 : ga h2 2607 = ga h 2607 := ga_upn e (by decide)
  obtain ⟨j0, j1, j2, j3, j4, j5, j6, j7, j8, j9, j10, j11, j12, j13, j14, j15, j16, j17, j18, j19, j20⟩ := j
  unfold J15
  rw [e0, e1, e2, e3, e4, e5, e6, e7, e8, e9, e10, e11, e12, e13, e14, e15, e16, e17, e18, e19]
  exact ⟨j0, j1, j2, j3, j4, j5, j6, j7, j8, j9, j10, j11, j12, j13, j14, j15, j16, j17, j18, k19, j20⟩
theorem J15.wa_2607 {h h2 : MH} {i v : Int} (j : J15 h) (e : h2 = sa h 2607 i v) (i0 : 0 ≤ i) (k20 : K15_ei (ga h 2595 18) (ga h 2595 7) (upw (ga h 2607) i v)) : J15 h2 := by
  have e0 : ga h2 2595 1 = ga h 2595 1 := by rw [ga_upn e (by decide)]
  have e1 : ga h2 2595 4 = ga h 2595 4 := by rw [ga_upn e (by decide)]
  have e2 : ga h2 2595 7 = ga h 2595 7 := by rw [ga_upn e (by decide)]
  have e3 : ga h2 2595 16 = ga h 2595 16 := by rw [ga_upn e (by decide)]
  have e4 : ga h2 2595 18 = ga h 2595 18 := by rw [ga_upn e (by decide)]
  have e5 : ga h2 2595 22 = ga h 2595 22 := by rw [ga_upn e (by decide)]
  have e6 : ga h2 2595 24 = ga h 2595 24 := by rw [ga_upn e (by decide)]
  have e7 : ga h2 2595 26 = ga h 2595 26 := by rw [ga_upn e (by decide)]
  have e8 : ga h2 2595 32 = ga h 2595 32 := by rw [ga_upn e (by decide)]
  have e9 : ga h2 2595 33 = ga h 2595 33 := by rw [ga_upn e (by decide)]
  have e10 : ga h2 2598 = ga h 2598 := ga_upn e (by decide)
  have e11 : ga h2 2599 = ga h 2599 := ga_upn e (by decide)
  have e12 : ga h2 2614 = ga h 2614 := ga_upn e (by decide)
  have e13 : ga h2 2615 = ga h 2615 := ga_upn e (by decide)
  have e14 : ga h2 2610 = ga h 2610 := ga_upn e (by decide)
  have e15 : ga h2 2600 = ga h 2600 := ga_upn e (by decide)
  have e16 : ga h2 2601 = ga h 2601 := ga_upn e (by decide)
  have e17 : ga h2 2602 = ga h 2602 := ga_upn e (by decide)
  have e18 : ga h2 2603 = ga h 2603 := ga_upn e (by decide)
  have e19 : ga h2 2607 = upw (ga h 2607) i v := ga_upw e
  obtain ⟨j0, j1, j2, j3, j4, j5, j6, j7, j8, j9, j10, j11, j12, j13, j14, j15, j16, j17, j18, j19, j20⟩ := j
  unfold J15
  rw [e0, e1, e2, e3, e4, e5, e6, e7, e8, e9, e10, e11, e12, e13, e14, e15, e16, e17, e18, e19]
  exact ⟨j0, j1, j2, j3, j4, j5, j6, j7, j8, j9, j10, j11, j12, j13, j14, j15, j16, j17, j18, j19, k20⟩
theorem J15.wa_2610 {h h2 : MH} {i v : Int} (j : J15 h) (e : h2 = sa h 2610 i v) (i0 : 0 ≤ i) (k14 : ∀ j : Int, 0 ≤ j → j < (ga h 2595 22) → 4 * j + 2 = i → 1 ≤ v ∧ v ≤ 1000) : J15 h2 := by
  have e0 : ga h2 2595 1 = ga h 2595 1 := by rw [ga_upn e (by decide)]
  have e1 : ga h2 2595 4 = ga h 2595 4 := by rw [ga_upn e (by decide)]
  have e2 : ga h2 2595 7 = ga h 2595 7 := by rw [ga_upn e (by decide)]
  have e3 : ga h2 2595 16 = ga h 2595 16 := by rw [ga_upn e (by decide)]
  have e4 : ga h2 2595 18 = ga h 2595 18 := by rw [ga_upn e (by decide)]
  have e5 : ga h2 2595 22 = ga h 2595 22 := by rw [ga_upn e (by decide)]
  have e6 : ga h2 2595 24 = ga h 2595 24 := by rw [ga_upn e (by decide)]
  have e7 : ga h2 2595 26 = ga h 2595 26 := by rw [ga_upn e (by decide)]
  have e8 : ga h2 2595 32 = ga h 2595 32 := by rw [ga_upn e (by decide)]
  have e9 : ga h2 2595 33 = ga h 2595 33 := by rw [ga_upn e (by decide)]
  have e10 : ga h2 2598 = ga h 2598 := ga_upn e (by decide)
  have e11 : ga h2 2599 = ga h 2599 := ga_upn e (by decide)
  have e12 : ga h2 2614 = ga h 2614 := ga_upn e (by decide)
  have e13 : ga h2 2615 = ga h 2615 := ga_upn e (by decide)
  have e14 : ga h2 2610 = upw (ga h 2610) i v := ga_upw e
  have e15 : ga h2 2600 = ga h 2600 := ga_upn e (by decide)
  have e16 : ga h2 2601 = ga h 2601 := ga_upn e (by decide)
  have e17 : ga h2 2602 = ga h 2602 := ga_upn e (by decide)
  have e18 : ga h2 2603 = ga h 2603 := ga_upn e (by decide)
  have e19 : ga h2 2607 = ga h 2607 := ga_upn e (by decide)
  obtain ⟨j0, j1, j2, j3, j4, j5, j6, j7, j8, j9, j10, j11, j12, j13, j14, j15, j16, j17, j18, j19, j20⟩ := j
  unfold J15
  rw [e0, e1, e2, e3, e4, e5, e6, e7, e8, e9, e10, e11, e12, e13, e14, e15, e16, e17, e18, e19]
  exact ⟨j0, j1, j2, j3, j4, j5, j6, j7, j8, j9, j10, j11, j12, j13, Rn.upw j14 i0 (by decide) (by decide) k14, j15, j16, j17, j18, j19, j20⟩
theorem J15.wa_2614 {h h2 : MH} {i v : Int} (j : J15 h) (e : h2 = sa h 2614 i v) (i0 : 0 ≤ i) (k12 : i < 12 → 1 ≤ v ∧ v ≤ 1000) : J15 h2 := by
  have e0 : ga h2 2595 1 = ga h 2595 1 := by rw [ga_upn e (by decide)]
  have e1 : ga h2 2595 4 = ga h 2595 4 := by rw [ga_upn e (by decide)]
  have e2 : ga h2 2595 7 = ga h 2595 7 := by rw [ga_upn e (by decide)]
  have e3 : ga h2 2595 16 = ga h 2595 16 := by rw [ga_upn e (by decide)]
  have e4 : ga h2 2595 18 = ga h 2595 18 := by rw [ga_upn e (by decide)]
  have e5 : ga h2 2595 22 = ga h 2595 22 := by rw [ga_upn e (by decide)]
  have e6 : ga h2 2595 24 = ga h 2595 24 := by rw [ga_upn e (by decide)]
  have e7 : ga h2 2595 26 = ga h 2595 26 := by rw [ga_upn e (by decide)]
  have e8 : ga h2 2595 32 = ga h 2595 32 := by rw [ga_upn e (by decide)]
  have e9 : ga h2 2595 33 = ga h 2595 33 := by rw [ga_upn e (by decide)]
  have e10 : ga h2 2598 = ga h 2598 := ga_upn e (by decide)
  have e11 : ga h2 2599 = ga h 2599 := ga_upn e (by decide)
  have e12 : ga h2 2614 = upw (ga h 2614) i v := ga_upw e
  have e13 : ga h2 2615 = ga h 2615 := ga_upn e (by decide)
  have e14 : ga h2 2610 = ga h 2610 := ga_upn e (by decide)
  have e15 : ga h2 2600 = ga h 2600 := ga_upn e (by decide)
  have e16 : ga h2 2601 = ga h 2601 := ga_upn e (by decide)
  have e17 : ga h2 2602 = ga h 2602 := ga_upn e (by decide)
  have e18 : ga h2 2603 = ga h 2603 := ga_upn e (by decide)
  have e19 : ga h2 2607 = ga h 2607 := ga_upn e (by decide)
  obtain ⟨j0, j1, j2, j3, j4, j5, j6, j7, j8, j9, j10, j11, j12, j13, j14, j15, j16, j17, j18, j19, j20⟩ := j
  unfold J15
  rw [e0, e1, e2, e3, e4, e5, e6, e7, e8, e9, e10, e11, e12, e13, e14, e15, e16, e17, e18, e19]
  exact ⟨j0, j1, j2, j3, j4, j5, j6, j7, j8, j9, j10, j11, Rng.upw j12 i0 k12, j13, j14, j15, j16, j17, j18, j19, j20⟩
theorem J15.wa_2615 {h h2 : MH} {i v : Int} (j : J15 h) (e : h2 = sa h 2615 i v) (i0 : 0 ≤ i) (k13 : i < 4 → 0 ≤ v ∧ v ≤ 1000) : J15 h2 := by
  have e0 : ga h2 2595 1 = ga h 2595 1 := by rw [ga_upn e (by decide)]
  have e1 : ga h2 2595 4 = ga h 2595 4 := by rw [ga_upn e (by decide)]
  have e2 : ga h2 2595 7 = ga h 2595 7 := by rw [ga_upn e (by decide)]
  have e3 : ga h2 2595 16 = ga h 2595 16 := by rw [ga_upn e (by decide)]
  have e4 : ga h2 2595 18 = ga h 2595 18 := by rw [ga_upn e (by decide)]
  have e5 : ga h2 2595 22 = ga h 2595 22 := by rw [ga_upn e (by decide)]
  have e6 : ga h2 2595 24 = ga h 2595 24 := by rw [ga_upn e (by decide)]
  have e7 : ga h2 2595 26 = ga h 2595 26 := by rw [ga_upn e (by decide)]
  have e8 : ga h2 2595 32 = ga h 2595 32 := by rw [ga_upn e (by decide)]
  have e9 : ga h2 2595 33 = ga h 2595 33 := by rw [ga_upn e (by decide)]
  have e10 : ga h2 2598 = ga h 2598 := ga_upn e (by decide)
  have e11 : ga h2 2599 = ga h 2599 := ga_upn e (by decide)
  have e12 : ga h2 2614 = ga h 2614 := ga_upn e (by decide)
  have e13 : ga h2 2615 = upw (ga h 2615) i v := ga_upw e
  have e14 : ga h2 2610 = ga h 2610 := ga_upn e (by decide)
  have e15 : ga h2 2600 = ga h 2600 := ga_upn e (by decide)
  have e16 : ga h2 2601 = ga h 2601 := ga_upn e (by decide)
  have e17 : ga h2 2602 = ga h 2602 := ga_upn e (by decide)
  have e18 : ga h2 2603 = ga h 2603 := ga_upn e (by decide)
  have e19 : ga h2 2607 = ga h 2607 := ga_upn e (by decide)
  obtain ⟨j0, j1, j2, j3, j4, j5, j6, j7, j8, j9, j10, j11, j12, j13, j14, j15, j16, j17, j18, j19, j20⟩ := j
  unfold J15
  rw [e0, e1, e2, e3, e4, e5, e6, e7, e8, e9, e10, e11, e12, e13, e14, e15, e16, e17, e18, e19]
  exact ⟨j0, j1, j2, j3, j4, j5, j6, j7, j8, j9, j10, j11, j12, Rng.upw j13 i0 k13, j14, j15, j16, j17, j18, j19, j20⟩
theorem J15.free {h h2 : MH} {d : Nat} {i v : Int} (j : J15 h) (e : h2 = sa h d i v) (nd : ∀ c ∈ [2595, 2598, 2599, 2600, 2601, 2602, 2603, 2607, 2610, 2614, 2615], c ≠ d) : J15 h2 := by
  have e0 : ga h2 2595 1 = ga h 2595 1 := by rw [ga_upn e (by exact nd _ (by decide))]
  have e1 : ga h2 2595 4 = ga h 2595 4 := by rw [ga_upn e (by exact nd _ (by decide))]
  have e2 : ga h2 2595 7 = ga h 2595 7 := by rw [ga_upn e (by exact nd _ (by decide))]
  have e3 : ga h2 2595 16 = ga h 2595 16 := by rw [ga_upn e (by exact nd _ (by decide))]
  have e4 : ga h2 2595 18 = ga h 2595 18 := by rw [ga_upn e (by exact nd _ (by decide))]
  have e5 : ga h2 2595 22 = ga h 2595 22 := by rw [ga_upn e (by exact nd _ (by decide))]
  have e6 : ga h2 2595 24 = ga h 2595 24 := by rw [ga_upn e (by exact nd _ (by decide))]
  have e7 : ga h2 2595 26 = ga h 2595 26 := by rw [ga_upn e (by exact nd _ (by decide))]
  have e8 : ga h2 2595 32 = ga h 2595 32 := by rw [ga_upn e (by exact nd _ (by decide))]
  have e9 : ga h2 2595 33 = ga h 2595 33 := by rw [ga_upn e (by exact nd _ (by decide))]
  have e10 : ga h2 2598 = ga h 2598 := ga_upn e (by exact nd _ (by decide))
  have e11 : ga h2 2599 = ga h 2599 := ga_upn e (by exact nd _ (by decide))
  have e12 : ga h2 2614 = ga h 2614 := ga_upn e (by exact nd _ (by decide))
  have e13 : ga h2 2615 = ga h 2615 := ga_upn e (by exact nd _ (by decide))
  have e14 : ga h2 2610 = ga h 2610 := ga_upn e (by exact nd _ (by decide))
  have e15 : ga h2 2600 = ga h 2600 := ga_upn e (by exact nd _ (by decide))
  have e16 : ga h2 2601 = ga h 2601 := ga_upn e (by exact nd _ (by decide))
  have e17 : ga h2 2602 = ga h 2602 := ga_upn e (by exact nd _ (by decide))
  have e18 : ga h2 2603 = ga h 2603 := ga_upn e (by exact nd _ (by decide))
  have e19 : ga h2 2607 = ga h 2607 := ga_upn e (by exact nd _ (by decide))
  obtain ⟨j0, j1, j2, j3, j4, j5, j6, j7, j8, j9, j10, j11, j12, j13, j14, j15, j16, j17, j18, j19, j20⟩ := j
  unfold J15
  rw [e0, e1, e2, e3, e4, e5, e6, e7, e8, e9, e10, e11, e12, e13, e14, e15, e16, e17, e18, e19]
  exact ⟨j0, j1, j2, j3, j4, j5, j6, j7, j8, j9, j10, j11, j12, j13, j14, j15, j16, j17, j18, j19, j20⟩
theorem J15.same {h h2 : MH} (j : J15 h) (f : ∀ i ∈ ([1, 4, 7, 16, 18, 22, 24, 26, 32, 33] : List Int), ga h2 2595 i = ga h 2595 i) (a : ∀ c ∈ [2598, 2599, 2600, 2601, 2602, 2603, 2607, 2610, 2614, 2615], ga h2 c = ga h c) : J15 h2 := by
  obtain ⟨j0, j1, j2, j3, j4, j5, j6, j7, j8, j9, j10, j11, j12, j13, j14, j15, j16, j17, j18, j19, j20⟩ := j
  unfold J15
  rw [f 1 (by decide), f 4 (by decide), f 7 (by decide), f 16 (by decide), f 18 (by decide), f 22 (by decide), f 24 (by decide), f 26 (by decide), f 32 (by decide), f 33 (by decide), a 2598 (by decide), a 2599 (by decide), a 2614 (by decide), a 2615 (by decide), a 2610 (by decide), a 2600 (by decide), a 2601 (by decide), a 2602 (by decide), a 2603 (by decide), a 2607 (by decide)]
  exact ⟨j0, j1, j2, j3, j4, j5, j6, j7, j8, j9, j10, j11, j12, j13, j14, j15, j16, j17, j18, j19, j20⟩
