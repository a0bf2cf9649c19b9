/-! owed: what act and logJoin do on both sides -/
def P11 (p0 p1 p2 p3 : Int) (h h' : MH) : Prop := JJ zJ h' ∧ h.1 ≤ h'.1 ∧ ((h'.2 0).1 = (h.2 0).1 ∧ (h'.2 0).2.1 = (h.2 0).2.1) ∧ gz h' 1319 2 ≤ gz h 1319 2 + 1 ∧ gz h' 2570 6 = gz h 2570 6 ∧ nxL p0 p1 p2 p3 (ln8 h) (rg8 h) (cy8 h) (ln8 h') (rg8 h') (cy8 h') ∧ (∀ j : Int, 0 ≤ j → j < 8 → lnR h' j = lnR h j ∧ ∀ k : Int, rgR h' j k = rgR h j k ∧ cyR h' j k = cyR h j k) ∧ ∀ j : Int, 0 ≤ j → j < 448 → ga h' 0 j = ga h 0 j
/-- one call of act: it comes back, or it throws -/
theorem act11 {N n : Nat} {h : MH} (I : LI N n h) (hn : n ≤ 63) (p0 p1 p2 p3 p4 p5 : Int) :
    (∃ mc ms : Nat, mc ≤ 8 ∧ ms ≤ 75073 + Phi h ∧ MCal KX11_act yX11_act mc ms [(2, ((4 : Nat) : Int)), (0, p0), (0, p1), (0, p2), (0, p3), (0, p4), (0, p5)] h (mRL fun _ h' => P11 p0 p1 p2 p3 h h' ∧ ms + Phi h' ≤ 75073 + Phi h)) ∨
    ∃ e : Nat, 1 ≤ e ∧ e ≤ 4 ∧ p0 ≠ 406 ∧ MCalX (kTx KX11_act 10 400) yX11_act 1 6 [(2, ((4 : Nat) : Int)), (0, p0), (0, p1), (0, p2), (0, p3), (0, p4), (0, p5)] h (XQ e h) := sorry
theorem act20 {N n : Nat} {h : MH} (J : JJ zJ h) (hj : gz h 2570 6 ≤ 95) (p0 p1 p2 p3 p4 p5 : Int) :
    MCal KX20_act yX20_act 0 0 [(2, ((2448 : Nat) : Int)), (0, p0), (0, p1), (0, p2), (0, p3), (0, p4), (0, p5)] h (mRL fun _ h' => (JJ zJ h' ∧ Frm (kMd ct_X20_act) h h' ∧ gz h' 2570 6 ≤ gz h 2570 6 + 1) ∧ nxL p0 p1 p2 p3 (lnR h) (rgR h) (cyR h) (lnR h') (rgR h') (cyR h')) := sorry
