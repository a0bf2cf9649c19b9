/-! call 406: a class gets a line -/
def rC (b : Nat) (i : Int) : Nat := b + i.toNat
theorem rC_b {b : Nat} {i : Int} (i0 : 0 ≤ i ∧ i < 8) : b ≤ rC b i ∧ rC b i ≤ b + 7 := by unfold rC; omega
theorem rC_ne {b : Nat} {i j : Int} (i0 : 0 ≤ i) (j0 : 0 ≤ j) (n : i ≠ j) : rC b i ≠ rC b j := by unfold rC; omega
theorem st_773 {h : MH} (st : StrZ zT h) {i : Int} (i0 : 0 ≤ i ∧ i < 8) : ga h 773 i = ((rC 774 i : Nat) : Int) := by
  rw [st_row st (b := 774) (n := 8) (k := 1) (by decide +kernel) i0]
  unfold rC
  omega
theorem st_782 {h : MH} (st : StrZ zT h) {i : Int} (i0 : 0 ≤ i ∧ i < 8) : ga h 782 i = ((rC 783 i : Nat) : Int) := by
  rw [st_row st (b := 783) (n := 8) (k := 1) (by decide +kernel) i0]
  unfold rC
  omega
theorem r7_z : ∀ k : Nat, k < 8 → zCell (774 + k) 0 4 = true ∧ zCell (783 + k) 0 4 = true := by decide +kernel
theorem r774 {h : MH} (st : StrZ zT h) {i : Int} (i0 : 0 ≤ i ∧ i < 8) : rC 774 i < h.1 ∧ (h.2 (rC 774 i)).1 = 0 ∧ (0 < 16 → (h.2 (rC 774 i)).2.1 = 4) := st_cell st (r7_z i.toNat (by omega)).1
theorem r783 {h : MH} (st : StrZ zT h) {i : Int} (i0 : 0 ≤ i ∧ i < 8) : rC 783 i < h.1 ∧ (h.2 (rC 783 i)).1 = 0 ∧ (0 < 16 → (h.2 (rC 783 i)).2.1 = 4) := st_cell st (r7_z i.toNat (by omega)).2
theorem r7_k {i : Int} (i0 : 0 ≤ i ∧ i < 8) : zKind (rC 774 i) < 6 ∧ zKind (rC 783 i) < 6 := by
  have e := r7_z i.toNat (by omega)
  have e1 := beqN (andB (andB (andB e.1).2).2).1
  have e2 := beqN (andB (andB (andB e.2).2).2).1
  have e1 : zKind (774 + i.toNat) = 0 := e1
  have e2 : zKind (783 + i.toNat) = 0 := e2
  show zKind (774 + i.toNat) < 6 ∧ zKind (783 + i.toNat) < 6
  omega
def lCs : List Nat := List.range' 774 8 ++ List.range' 783 9
theorem mem_lCs {c : Nat} : c ∈ lCs ↔ (774 ≤ c ∧ c ≤ 781) ∨ (783 ≤ c ∧ c ≤ 791) := by
  unfold lCs
  rw [List.mem_append, List.mem_range'_1, List.mem_range'_1]
  omega
def ok8 (h : MH) (c w m : Int) : Prop := 0 ≤ c ∧ c ≤ 7 ∧ 1 ≤ w ∧ w ≤ 2000000 ∧ 1 ≤ m ∧ m ≤ 1000000 ∧ ga h 791 c < 4 ∧ (0 < ga h 791 c → w < ga h (rC 774 c) (ga h 791 c - 1) ∧ ga h (rC 783 c) (ga h 791 c - 1) < m)
def A8 (h : MH) (c w m : Int) (h' : MH) : Prop := StrZ zT h' ∧ Only lCs h h' ∧ ((ok8 h c w m ∧ ga h' 791 c = ga h 791 c + 1 ∧ ga h' (rC 774 c) (ga h 791 c) = w ∧ ga h' (rC 783 c) (ga h 791 c) = m ∧ (∀ j : Int, 0 ≤ j → j ≠ c → ga h' 791 j = ga h 791 j) ∧ ∀ j i : Int, 0 ≤ j → j < 8 → 0 ≤ i → (j ≠ c ∨ i ≠ ga h 791 c) → ga h' (rC 774 j) i = ga h (rC 774 j) i ∧ ga h' (rC 783 j) i = ga h (rC 783 j) i) ∨ (¬ ok8 h c w m ∧ h' = h))
def ok18 (h : MH) (c w m : Int) : Prop := 0 ≤ c ∧ c ≤ 7 ∧ 1 ≤ w ∧ w ≤ 2000000 ∧ 1 ≤ m ∧ m ≤ 1000000 ∧ ga h 2540 c < 4 ∧ (0 < ga h 2540 c → w < ga h 2541 (4 * c + ga h 2540 c - 1) ∧ ga h 2542 (4 * c + ga h 2540 c - 1) < m)
def A18 (h : MH) (c w m : Int) (h' : MH) : Prop := StrZ zT h' ∧ Only [2540, 2541, 2542] h h' ∧ ((ok18 h c w m ∧ ga h' 2540 c = ga h 2540 c + 1 ∧ ga h' 2541 (4 * c + ga h 2540 c) = w ∧ ga h' 2542 (4 * c + ga h 2540 c) = m ∧ (∀ j : Int, 0 ≤ j → j ≠ c → ga h' 2540 j = ga h 2540 j) ∧ ∀ i : Int, 0 ≤ i → i ≠ 4 * c + ga h 2540 c → ga h' 2541 i = ga h 2541 i ∧ ga h' 2542 i = ga h 2542 i) ∨ (¬ ok18 h c w m ∧ h' = h))
