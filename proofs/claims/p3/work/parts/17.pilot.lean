theorem cp_X13 : plainName RX13 = true := by decide +kernel
theorem cy_X13_thrown : yX13_thrown.cls ≠ "java/lang/invoke/MethodHandle" ∧ yX13_thrown.cls ≠ "java/lang/invoke/VarHandle" ∧ (parseMethodDescriptor yX13_thrown.desc).map (fun d => d.parameters.length) = some 0 := by decide +kernel
theorem dX13_thrown_0 : decode KX13_thrown.2.2.1 0 = .ok (.aload_n 0, 1) := by decide +kernel
theorem dX13_thrown_1 : decode KX13_thrown.2.2.1 1 = .ok (.getfield 92, 3) := by decide +kernel
theorem dX13_thrown_4 : decode KX13_thrown.2.2.1 4 = .ok (.ireturn, 1) := by decide +kernel
abbrev q_X13_thrown (h : MH) : MO → MH → Prop := mRI fun v h' => h = h' ∧ 0 ≤ v ∧ v ≤ 1 ∧ v = (h.2 2468).2.2 0
set_option maxRecDepth 20000 in
theorem c_X13_thrown {h : MH} (g : GI h) : MCal KX13_thrown yX13_thrown 0 0 [(2, 2468)] h (q_X13_thrown h) := by
  refine MCal.ofMW (Or.inl rfl) ⟨cp_X13, rfl⟩ (Nat.le_of_ble_eq_true rfl) ?_
  change MW _ _ _ _ _ [(0, (2, 2468))] _ _
  refine m_aload_n 1 dX13_thrown_0 rfl rfl (by decide) ?_
  refine m_getfield 4 dX13_thrown_1 rfl (ci := 13) rfl lu_X13 (k := 0) (by decide) lfX13_92 (tag := 0) rfl (by decide) (GI.lt g (by decide)) (gk2468 g) (fun v1 (ev1 : v1 = (h.2 2468).2.2 0) _ => ?_)
  have bv1 : 0 ≤ v1 ∧ v1 ≤ 1 := by rw [ev1]; exact gf2468_0 g
  exact m_ireturn dX13_thrown_4 rfl rfl (mqI ⟨rfl, by omega⟩)
theorem cy_X13_drop : yX13_drop.cls ≠ "java/lang/invoke/MethodHandle" ∧ yX13_drop.cls ≠ "java/lang/invoke/VarHandle" ∧ (parseMethodDescriptor yX13_drop.desc).map (fun d => d.parameters.length) = some 0 := by decide +kernel
theorem dX13_drop_0 : decode KX13_drop.2.2.1 0 = .ok (.aload_n 0, 1) := by decide +kernel
theorem dX13_drop_1 : decode KX13_drop.2.2.1 1 = .ok (.iconst 0, 1) := by decide +kernel
theorem dX13_drop_2 : decode KX13_drop.2.2.1 2 = .ok (.putfield 96, 3) := by decide +kernel
theorem dX13_drop_5 : decode KX13_drop.2.2.1 5 = .ok (.aload_n 0, 1) := by decide +kernel
theorem dX13_drop_6 : decode KX13_drop.2.2.1 6 = .ok (.iconst 0, 1) := by decide +kernel
theorem dX13_drop_7 : decode KX13_drop.2.2.1 7 = .ok (.putfield 100, 3) := by decide +kernel
theorem dX13_drop_10 : decode KX13_drop.2.2.1 10 = .ok (.return_, 1) := by decide +kernel
abbrev q_X13_drop (h : MH) : MO → MH → Prop := mRV fun h' => GI h'
set_option maxRecDepth 20000 in
theorem c_X13_drop {h : MH} (g : GI h) : MCal KX13_drop yX13_drop 0 0 [(2, 2468)] h (q_X13_drop h) := by
  refine MCal.ofMW (Or.inl rfl) ⟨cp_X13, rfl⟩ (Nat.le_of_ble_eq_true rfl) ?_
  change MW _ _ _ _ _ [(0, (2, 2468))] _ _
  refine m_aload_n 1 dX13_drop_0 rfl rfl (by decide) ?_
  refine m_iconst 2 dX13_drop_1 rfl (by decide) ?_
  refine m_putfield 5 dX13_drop_2 rfl (ci := 13) rfl lu_X13 tyX13_ok nmX13 (k := 33) (by decide) (Or.inl rfl) lfX13_96 (tag := 0) rfl (m_nz (by omega)) (m_fz (by omega)) (by decide) (GI.lt g (by decide)) (gk2468 g) ?_
  refine m_heap (fun h1 eh1 => ?_)
  have g2 : GI h1 := eh1 ▸ GI.set g (by decide) (fun _ => by show 0 ≤ _ ∧ _ ≤ 1; omega)
  have m3 : (h1.2 2468).2.2 33 = 0 := by rw [eh1]; rfl
  clear eh1
  refine m_aload_n 6 dX13_drop_5 rfl rfl (by decide) ?_
  refine m_iconst 7 dX13_drop_6 rfl (by decide) ?_
  refine m_putfield 10 dX13_drop_7 rfl (ci := 13) rfl lu_X13 tyX13_ok nmX13 (k := 34) (by decide) (Or.inl rfl) lfX13_100 (tag := 0) rfl (m_nz (by omega)) (m_fz (by omega)) (by decide) (GI.lt g2 (by decide)) (gk2468 g2) ?_
  refine m_heap (fun h4 eh4 => ?_)
  have g5 : GI h4 := eh4 ▸ GI.set g2 (by decide) (fun _ => by show 0 ≤ _ ∧ _ ≤ 1; omega)
  have m6 : (h4.2 2468).2.2 33 = 0 := by rw [eh4]; exact m3
  have m7 : (h4.2 2468).2.2 34 = 0 := by rw [eh4]; rfl
  clear eh4
  exact m_return dX13_drop_10 rfl (mqV g5)
theorem cy_X13_isOut : yX13_isOut.cls ≠ "java/lang/invoke/MethodHandle" ∧ yX13_isOut.cls ≠ "java/lang/invoke/VarHandle" ∧ (parseMethodDescriptor yX13_isOut.desc).map (fun d => d.parameters.length) = some 3 := by decide +kernel
theorem dX13_isOut_0 : decode KX13_isOut.2.2.1 0 = .ok (.lload_n 0, 1) := by decide +kernel
theorem dX13_isOut_1 : decode KX13_isOut.2.2.1 1 = .ok (.lload_n 2, 1) := by decide +kernel
theorem dX13_isOut_2 : decode KX13_isOut.2.2.1 2 = .ok (.lcmp, 1) := by decide +kernel
theorem dX13_isOut_3 : decode KX13_isOut.2.2.1 3 = .ok (.ifCond .lt 10, 3) := by decide +kernel
theorem dX13_isOut_6 : decode KX13_isOut.2.2.1 6 = .ok (.lload_n 0, 1) := by decide +kernel
theorem dX13_isOut_7 : decode KX13_isOut.2.2.1 7 = .ok (.lload 4, 2) := by decide +kernel
theorem dX13_isOut_9 : decode KX13_isOut.2.2.1 9 = .ok (.lcmp, 1) := by decide +kernel
theorem dX13_isOut_10 : decode KX13_isOut.2.2.1 10 = .ok (.ifCond .le 7, 3) := by decide +kernel
theorem dX13_isOut_13 : decode KX13_isOut.2.2.1 13 = .ok (.iconst 1, 1) := by decide +kernel
theorem dX13_isOut_14 : decode KX13_isOut.2.2.1 14 = .ok (.goto 4, 3) := by decide +kernel
theorem dX13_isOut_17 : decode KX13_isOut.2.2.1 17 = .ok (.iconst 0, 1) := by decide +kernel
theorem dX13_isOut_18 : decode KX13_isOut.2.2.1 18 = .ok (.ireturn, 1) := by decide +kernel
abbrev q_X13_isOut (a1 a2 a3 : Int) (h : MH) : MO → MH → Prop := mRI fun v h' => h = h' ∧ ((v = 0 ∧ ((a1 ≥ a2 ∧ a1 ≤ a3))) ∨ (v = 1 ∧ ((a1 < a2) ∨ (a1 ≥ a2 ∧ a1 > a3))))
set_option maxRecDepth 20000 in
theorem c_X13_isOut {a1 a2 a3 : Int} {h : MH} : MCal KX13_isOut yX13_isOut 0 0 [(1, a1), (1, a2), (1, a3)] h (q_X13_isOut a1 a2 a3 h) := by
  refine MCal.ofMW (Or.inl rfl) ⟨cp_X13, rfl⟩ (Nat.le_of_ble_eq_true rfl) ?_
  change MW _ _ _ _ _ [(0, (1, a1)), (2, (1, a2)), (4, (1, a3))] _ _
  refine m_locL (i := 0) rfl (fun ua1 wa1 => ?_)
  refine m_locL (i := 2) rfl (fun ua2 wa2 => ?_)
  refine m_locL (i := 4) rfl (fun ua3 wa3 => ?_)
  refine m_lload_n 1 dX13_isOut_0 rfl rfl ?_
  refine m_lload_n 2 dX13_isOut_1 rfl rfl ?_
  refine m_lc_lt 6 13 dX13_isOut_2 dX13_isOut_3 rfl rfl (fun c1 => ?_) (fun c1 => ?_)
  · skip
    refine m_iconst 14 dX13_isOut_13 rfl (by decide) ?_
    refine m_goto 18 dX13_isOut_14 rfl ?_
    exact m_ireturn dX13_isOut_18 rfl (m_narZ (by omega)) (mqI ⟨rfl, Or.inr (⟨rfl, by omega⟩)⟩)
  · skip
    refine m_lload_n 7 dX13_isOut_6 rfl rfl ?_
    refine m_lload 9 dX13_isOut_7 rfl rfl ?_
    refine m_lc_le 13 17 dX13_isOut_9 dX13_isOut_10 rfl rfl (fun c2 => ?_) (fun c2 => ?_)
    · skip
      refine m_iconst 18 dX13_isOut_17 rfl (by decide) ?_
      exact m_ireturn dX13_isOut_18 rfl (m_narZ (by omega)) (mqI ⟨rfl, Or.inl ⟨rfl, by omega⟩⟩)
    · skip
      refine m_iconst 14 dX13_isOut_13 rfl (by decide) ?_
      refine m_goto 18 dX13_isOut_14 rfl ?_
      exact m_ireturn dX13_isOut_18 rfl (m_narZ (by omega)) (mqI ⟨rfl, Or.inr (⟨rfl, by omega⟩)⟩)
theorem cy_X13_cut : yX13_cut.cls ≠ "java/lang/invoke/MethodHandle" ∧ yX13_cut.cls ≠ "java/lang/invoke/VarHandle" ∧ (parseMethodDescriptor yX13_cut.desc).map (fun d => d.parameters.length) = some 4 := by decide +kernel
theorem dX13_cut_0 : decode KX13_cut.2.2.1 0 = .ok (.aload_n 0, 1) := by decide +kernel
theorem dX13_cut_1 : decode KX13_cut.2.2.1 1 = .ok (.iconst 0, 1) := by decide +kernel
theorem dX13_cut_2 : decode KX13_cut.2.2.1 2 = .ok (.putfield 92, 3) := by decide +kernel
theorem dX13_cut_5 : decode KX13_cut.2.2.1 5 = .ok (.lload_n 1, 1) := by decide +kernel
theorem dX13_cut_6 : decode KX13_cut.2.2.1 6 = .ok (.lconst 1, 1) := by decide +kernel
theorem dX13_cut_7 : decode KX13_cut.2.2.1 7 = .ok (.ldc2_w 103, 3) := by decide +kernel
theorem dX13_cut_10 : decode KX13_cut.2.2.1 10 = .ok (.invokestatic 105, 3) := by decide +kernel
theorem dX13_cut_13 : decode KX13_cut.2.2.1 13 = .ok (.ifCond .ne 49, 3) := by decide +kernel
theorem dX13_cut_16 : decode KX13_cut.2.2.1 16 = .ok (.iload_n 3, 1) := by decide +kernel
theorem dX13_cut_17 : decode KX13_cut.2.2.1 17 = .ok (.i2l, 1) := by decide +kernel
theorem dX13_cut_18 : decode KX13_cut.2.2.1 18 = .ok (.lconst 0, 1) := by decide +kernel
theorem dX13_cut_19 : decode KX13_cut.2.2.1 19 = .ok (.ldc2_w 109, 3) := by decide +kernel
theorem dX13_cut_22 : decode KX13_cut.2.2.1 22 = .ok (.invokestatic 105, 3) := by decide +kernel
theorem dX13_cut_25 : decode KX13_cut.2.2.1 25 = .ok (.ifCond .ne 37, 3) := by decide +kernel
theorem dX13_cut_28 : decode KX13_cut.2.2.1 28 = .ok (.iload 4, 2) := by decide +kernel
theorem dX13_cut_30 : decode KX13_cut.2.2.1 30 = .ok (.i2l, 1) := by decide +kernel
theorem dX13_cut_31 : decode KX13_cut.2.2.1 31 = .ok (.lconst 0, 1) := by decide +kernel
theorem dX13_cut_32 : decode KX13_cut.2.2.1 32 = .ok (.ldc2_w 111, 3) := by decide +kernel
theorem dX13_cut_35 : decode KX13_cut.2.2.1 35 = .ok (.invokestatic 105, 3) := by decide +kernel
theorem dX13_cut_38 : decode KX13_cut.2.2.1 38 = .ok (.ifCond .ne 24, 3) := by decide +kernel
theorem dX13_cut_41 : decode KX13_cut.2.2.1 41 = .ok (.lload 5, 2) := by decide +kernel
theorem dX13_cut_43 : decode KX13_cut.2.2.1 43 = .ok (.lconst 0, 1) := by decide +kernel
theorem dX13_cut_44 : decode KX13_cut.2.2.1 44 = .ok (.ldc2_w 113, 3) := by decide +kernel
theorem dX13_cut_47 : decode KX13_cut.2.2.1 47 = .ok (.invokestatic 105, 3) := by decide +kernel
theorem dX13_cut_50 : decode KX13_cut.2.2.1 50 = .ok (.ifCond .ne 12, 3) := by decide +kernel
theorem dX13_cut_53 : decode KX13_cut.2.2.1 53 = .ok (.aload_n 0, 1) := by decide +kernel
theorem dX13_cut_54 : decode KX13_cut.2.2.1 54 = .ok (.getfield 115, 3) := by decide +kernel
theorem dX13_cut_57 : decode KX13_cut.2.2.1 57 = .ok (.bipush 8, 2) := by decide +kernel
theorem dX13_cut_59 : decode KX13_cut.2.2.1 59 = .ok (.if_icmp .ne 5, 3) := by decide +kernel
theorem dX13_cut_62 : decode KX13_cut.2.2.1 62 = .ok (.iconst (-1), 1) := by decide +kernel
theorem dX13_cut_63 : decode KX13_cut.2.2.1 63 = .ok (.ireturn, 1) := by decide +kernel
theorem dX13_cut_64 : decode KX13_cut.2.2.1 64 = .ok (.aload_n 0, 1) := by decide +kernel
theorem dX13_cut_65 : decode KX13_cut.2.2.1 65 = .ok (.getfield 7, 3) := by decide +kernel
theorem dX13_cut_68 : decode KX13_cut.2.2.1 68 = .ok (.aload_n 0, 1) := by decide +kernel
theorem dX13_cut_69 : decode KX13_cut.2.2.1 69 = .ok (.getfield 115, 3) := by decide +kernel
theorem dX13_cut_72 : decode KX13_cut.2.2.1 72 = .ok (.lload_n 1, 1) := by decide +kernel
theorem dX13_cut_73 : decode KX13_cut.2.2.1 73 = .ok (.l2i, 1) := by decide +kernel
theorem dX13_cut_74 : decode KX13_cut.2.2.1 74 = .ok (.iastore, 1) := by decide +kernel
theorem dX13_cut_75 : decode KX13_cut.2.2.1 75 = .ok (.aload_n 0, 1) := by decide +kernel
theorem dX13_cut_76 : decode KX13_cut.2.2.1 76 = .ok (.getfield 13, 3) := by decide +kernel
theorem dX13_cut_79 : decode KX13_cut.2.2.1 79 = .ok (.aload_n 0, 1) := by decide +kernel
theorem dX13_cut_80 : decode KX13_cut.2.2.1 80 = .ok (.getfield 115, 3) := by decide +kernel
theorem dX13_cut_83 : decode KX13_cut.2.2.1 83 = .ok (.iload_n 3, 1) := by decide +kernel
theorem dX13_cut_84 : decode KX13_cut.2.2.1 84 = .ok (.iastore, 1) := by decide +kernel
theorem dX13_cut_85 : decode KX13_cut.2.2.1 85 = .ok (.aload_n 0, 1) := by decide +kernel
theorem dX13_cut_86 : decode KX13_cut.2.2.1 86 = .ok (.getfield 16, 3) := by decide +kernel
theorem dX13_cut_89 : decode KX13_cut.2.2.1 89 = .ok (.aload_n 0, 1) := by decide +kernel
theorem dX13_cut_90 : decode KX13_cut.2.2.1 90 = .ok (.getfield 115, 3) := by decide +kernel
theorem dX13_cut_93 : decode KX13_cut.2.2.1 93 = .ok (.iload 4, 2) := by decide +kernel
theorem dX13_cut_95 : decode KX13_cut.2.2.1 95 = .ok (.iastore, 1) := by decide +kernel
theorem dX13_cut_96 : decode KX13_cut.2.2.1 96 = .ok (.aload_n 0, 1) := by decide +kernel
theorem dX13_cut_97 : decode KX13_cut.2.2.1 97 = .ok (.getfield 19, 3) := by decide +kernel
theorem dX13_cut_100 : decode KX13_cut.2.2.1 100 = .ok (.aload_n 0, 1) := by decide +kernel
theorem dX13_cut_101 : decode KX13_cut.2.2.1 101 = .ok (.getfield 115, 3) := by decide +kernel
theorem dX13_cut_104 : decode KX13_cut.2.2.1 104 = .ok (.lload 5, 2) := by decide +kernel
theorem dX13_cut_106 : decode KX13_cut.2.2.1 106 = .ok (.l2i, 1) := by decide +kernel
theorem dX13_cut_107 : decode KX13_cut.2.2.1 107 = .ok (.iastore, 1) := by decide +kernel
theorem dX13_cut_108 : decode KX13_cut.2.2.1 108 = .ok (.aload_n 0, 1) := by decide +kernel
theorem dX13_cut_109 : decode KX13_cut.2.2.1 109 = .ok (.dup, 1) := by decide +kernel
theorem dX13_cut_110 : decode KX13_cut.2.2.1 110 = .ok (.getfield 115, 3) := by decide +kernel
theorem dX13_cut_113 : decode KX13_cut.2.2.1 113 = .ok (.iconst 1, 1) := by decide +kernel
theorem dX13_cut_114 : decode KX13_cut.2.2.1 114 = .ok (.iadd, 1) := by decide +kernel
theorem dX13_cut_115 : decode KX13_cut.2.2.1 115 = .ok (.putfield 115, 3) := by decide +kernel
theorem dX13_cut_118 : decode KX13_cut.2.2.1 118 = .ok (.aload_n 0, 1) := by decide +kernel
theorem dX13_cut_119 : decode KX13_cut.2.2.1 119 = .ok (.invokevirtual 118, 3) := by decide +kernel
theorem dX13_cut_122 : decode KX13_cut.2.2.1 122 = .ok (.aload_n 0, 1) := by decide +kernel
theorem dX13_cut_123 : decode KX13_cut.2.2.1 123 = .ok (.getfield 115, 3) := by decide +kernel
theorem dX13_cut_126 : decode KX13_cut.2.2.1 126 = .ok (.iconst 1, 1) := by decide +kernel
theorem dX13_cut_127 : decode KX13_cut.2.2.1 127 = .ok (.isub, 1) := by decide +kernel
theorem dX13_cut_128 : decode KX13_cut.2.2.1 128 = .ok (.ireturn, 1) := by decide +kernel
abbrev q_X13_cut (a1 a2 a3 a4 : Int) (h : MH) : MO → MH → Prop := mRI fun v h' => GI h' ∧ (-1) ≤ v ∧ v ≤ 7
set_option maxRecDepth 20000 in
theorem c_X13_cut {a1 a2 a3 a4 : Int} {h : MH} (g : GI h) : MCal KX13_cut yX13_cut 0 0 [(2, 2468), (1, a1), (0, a2), (0, a3), (1, a4)] h (q_X13_cut a1 a2 a3 a4 h) := by
  refine MCal.ofMW (Or.inl rfl) ⟨cp_X13, rfl⟩ (Nat.le_of_ble_eq_true rfl) ?_
  change MW _ _ _ _ _ [(0, (2, 2468)), (1, (1, a1)), (3, (0, a2)), (4, (0, a3)), (5, (1, a4))] _ _
  refine m_locL (i := 1) rfl (fun ua1 wa1 => ?_)
  refine m_locI (i := 3) rfl (fun ua2 wa2 => ?_)
  refine m_locI (i := 4) rfl (fun ua3 wa3 => ?_)
  refine m_locL (i := 5) rfl (fun ua4 wa4 => ?_)
  refine m_aload_n 1 dX13_cut_0 rfl rfl (by decide) ?_
  refine m_iconst 2 dX13_cut_1 rfl (by decide) ?_
  refine m_putfield 5 dX13_cut_2 rfl (ci := 13) rfl lu_X13 tyX13_ok nmX13 (k := 0) (by decide) (Or.inl rfl) lfX13_92 (tag := 0) rfl (fun _ => rfl) (fun _ => rfl) (by decide) (GI.lt g (by decide)) (gk2468 g) ?_
  refine m_heap (fun h1 eh1 => ?_)
  have g2 : GI h1 := eh1 ▸ GI.set g (by decide) (fun _ => by show 0 ≤ _ ∧ _ ≤ 1; omega)
  have m3 : (h1.2 2468).2.2 0 = 0 := by rw [eh1]; rfl
  clear eh1
  refine m_lload_n 6 dX13_cut_5 rfl rfl ?_
  refine m_lconst 7 dX13_cut_6 rfl ?_
  refine m_ldc2 (n := 1000000) 10 dX13_cut_7 rfl lcX13_103 rfl (by decide) ?_
  refine m_invokestatic (K' := KX13_isOut) (As := [(1, a1), (1, 1), (1, 1000000)]) dX13_cut_10 (fun _ => by decide) ⟨lo_X13_isOut, li_X13⟩ ⟨lmX13_105, lv_X13_isOut_s⟩ ⟨rfl, cy_X13_isOut⟩ ⟨Nat.le_of_ble_eq_true rfl, Nat.le_of_ble_eq_true rfl⟩ (Nat.le_of_ble_eq_true rfl) rfl (Nat.zero_le _) (Nat.zero_le _) (c_X13_isOut) (mkI fun v4 h5 q6 => ?_)
  obtain ⟨rfl, q6⟩ := q6
  rcases q6 with ⟨rfl, q6⟩ | ⟨rfl, q6⟩
  · skip
    refine m_if_ne 16 62 dX13_cut_13 rfl rfl (fun c7 => ?_) (fun c7 => ?_)
    · exfalso; omega
    · skip
      refine m_iload_n 17 dX13_cut_16 rfl rfl ?_
      refine m_i2l 18 dX13_cut_17 rfl ?_
      refine m_lconst 19 dX13_cut_18 rfl ?_
      refine m_ldc2 (n := 3) 22 dX13_cut_19 rfl lcX13_109 rfl (by decide) ?_
      refine m_invokestatic (K' := KX13_isOut) (As := [(1, a2), (1, 0), (1, 3)]) dX13_cut_22 (fun _ => by decide) ⟨lo_X13_isOut, li_X13⟩ ⟨lmX13_105, lv_X13_isOut_s⟩ ⟨rfl, cy_X13_isOut⟩ ⟨Nat.le_of_ble_eq_true rfl, Nat.le_of_ble_eq_true rfl⟩ (Nat.le_of_ble_eq_true rfl) rfl (Nat.zero_le _) (Nat.zero_le _) (c_X13_isOut) (mkI fun v8 h9 q10 => ?_)
      obtain ⟨rfl, q10⟩ := q10
      rcases q10 with ⟨rfl, q10⟩ | ⟨rfl, q10⟩
      · skip
        refine m_if_ne 28 62 dX13_cut_25 rfl rfl (fun c11 => ?_) (fun c11 => ?_)
        · exfalso; omega
        · skip
          refine m_iload 30 dX13_cut_28 rfl rfl ?_
          refine m_i2l 31 dX13_cut_30 rfl ?_
          refine m_lconst 32 dX13_cut_31 rfl ?_
          refine m_ldc2 (n := 11) 35 dX13_cut_32 rfl lcX13_111 rfl (by decide) ?_
          refine m_invokestatic (K' := KX13_isOut) (As := [(1, a3), (1, 0), (1, 11)]) dX13_cut_35 (fun _ => by decide) ⟨lo_X13_isOut, li_X13⟩ ⟨lmX13_105, lv_X13_isOut_s⟩ ⟨rfl, cy_X13_isOut⟩ ⟨Nat.le_of_ble_eq_true rfl, Nat.le_of_ble_eq_true rfl⟩ (Nat.le_of_ble_eq_true rfl) rfl (Nat.zero_le _) (Nat.zero_le _) (c_X13_isOut) (mkI fun v12 h13 q14 => ?_)
          obtain ⟨rfl, q14⟩ := q14
          rcases q14 with ⟨rfl, q14⟩ | ⟨rfl, q14⟩
          · skip
            refine m_if_ne 41 62 dX13_cut_38 rfl rfl (fun c15 => ?_) (fun c15 => ?_)
            · exfalso; omega
            · skip
              refine m_lload 43 dX13_cut_41 rfl rfl ?_
              refine m_lconst 44 dX13_cut_43 rfl ?_
              refine m_ldc2 (n := 100000) 47 dX13_cut_44 rfl lcX13_113 rfl (by decide) ?_
              refine m_invokestatic (K' := KX13_isOut) (As := [(1, a4), (1, 0), (1, 100000)]) dX13_cut_47 (fun _ => by decide) ⟨lo_X13_isOut, li_X13⟩ ⟨lmX13_105, lv_X13_isOut_s⟩ ⟨rfl, cy_X13_isOut⟩ ⟨Nat.le_of_ble_eq_true rfl, Nat.le_of_ble_eq_true rfl⟩ (Nat.le_of_ble_eq_true rfl) rfl (Nat.zero_le _) (Nat.zero_le _) (c_X13_isOut) (mkI fun v16 h17 q18 => ?_)
              obtain ⟨rfl, q18⟩ := q18
              rcases q18 with ⟨rfl, q18⟩ | ⟨rfl, q18⟩
              · skip
                refine m_if_ne 53 62 dX13_cut_50 rfl rfl (fun c19 => ?_) (fun c19 => ?_)
                · exfalso; omega
                · skip
                  refine m_aload_n 54 dX13_cut_53 rfl rfl (by decide) ?_
                  refine m_getfield 57 dX13_cut_54 rfl (ci := 13) rfl lu_X13 (k := 1) (by decide) lfX13_115 (tag := 0) rfl (by decide) (GI.lt g2 (by decide)) (gk2468 g2) (fun v20 (ev20 : v20 = (h1.2 2468).2.2 1) _ => ?_)
                  have bv20 : 0 ≤ v20 ∧ v20 ≤ 8 := by rw [ev20]; exact gf2468_1 g2
                  refine m_bipush 59 dX13_cut_57 rfl (by decide) ?_
                  refine m_ic_ne 62 64 dX13_cut_59 rfl rfl (fun c21 => ?_) (fun c21 => ?_)
                  · skip
                    refine m_aload_n 65 dX13_cut_64 rfl rfl (by decide) ?_
                    refine m_getfieldC 68 dX13_cut_65 rfl (ci := 13) rfl lu_X13 (k := 2) (by decide) lfX13_7 (tag := 2) rfl (by decide) (GI.lt g2 (by decide)) (gk2468 g2) (gf2468_2 g2) ?_
                    refine m_aload_n 69 dX13_cut_68 rfl rfl (by decide) ?_
                    refine m_getfield 72 dX13_cut_69 rfl (ci := 13) rfl lu_X13 (k := 1) (by decide) lfX13_115 (tag := 0) rfl (by decide) (GI.lt g2 (by decide)) (gk2468 g2) (fun v22 (ev22 : v22 = (h1.2 2468).2.2 1) _ => ?_)
                    have bv22 : 0 ≤ v22 ∧ v22 ≤ 8 := by rw [ev22]; exact gf2468_1 g2
                    have qv22 : v20 = v22 := (ev22.trans ev20.symm).symm
                    subst qv22
                    refine m_lload_n 73 dX13_cut_72 rfl rfl ?_
                    refine m_l2i 74 dX13_cut_73 rfl (by omega) ?_
                    refine m_iast 75 dX13_cut_74 rfl (by decide) (by decide) (GI.lt g2 (by decide)) (gk2469 g2) (by omega) (m_len (gl2469 g2) (by omega)) ?_
                    refine m_heap (fun h23 eh23 => ?_)
                    have g24 : GI h23 := eh23 ▸ GI.set g2 (by decide) (fun _ => by show 0 ≤ _ ∧ _ ≤ 1000000; omega)
                    have m25 : (h23.2 2468).2.2 0 = 0 := by rw [eh23]; exact m3
                    have m26 : (h23.2 2468).2.2 1 = v20 := by rw [eh23]; exact ev20.symm
                    clear eh23
                    refine m_aload_n 76 dX13_cut_75 rfl rfl (by decide) ?_
                    refine m_getfieldC 79 dX13_cut_76 rfl (ci := 13) rfl lu_X13 (k := 3) (by decide) lfX13_13 (tag := 2) rfl (by decide) (GI.lt g24 (by decide)) (gk2468 g24) (gf2468_3 g24) ?_
                    refine m_aload_n 80 dX13_cut_79 rfl rfl (by decide) ?_
                    refine m_getfield 83 dX13_cut_80 rfl (ci := 13) rfl lu_X13 (k := 1) (by decide) lfX13_115 (tag := 0) rfl (by decide) (GI.lt g24 (by decide)) (gk2468 g24) (fun v27 (ev27 : v27 = (h23.2 2468).2.2 1) _ => ?_)
                    have bv27 : 0 ≤ v27 ∧ v27 ≤ 8 := by rw [ev27]; exact gf2468_1 g24
                    have qv27 : v20 = v27 := (ev27.trans m26).symm
                    subst qv27
                    refine m_iload_n 84 dX13_cut_83 rfl rfl ?_
                    refine m_iast 85 dX13_cut_84 rfl (by decide) (by decide) (GI.lt g24 (by decide)) (gk2470 g24) (by omega) (m_len (gl2470 g24) (by omega)) ?_
                    refine m_heap (fun h28 eh28 => ?_)
                    have g29 : GI h28 := eh28 ▸ GI.set g24 (by decide) (fun _ => by show 0 ≤ _ ∧ _ ≤ 3; omega)
                    have m30 : (h28.2 2468).2.2 0 = 0 := by rw [eh28]; exact m25
                    have m31 : (h28.2 2468).2.2 1 = v20 := by rw [eh28]; exact m26
                    clear eh28
                    refine m_aload_n 86 dX13_cut_85 rfl rfl (by decide) ?_
                    refine m_getfieldC 89 dX13_cut_86 rfl (ci := 13) rfl lu_X13 (k := 4) (by decide) lfX13_16 (tag := 2) rfl (by decide) (GI.lt g29 (by decide)) (gk2468 g29) (gf2468_4 g29) ?_
                    refine m_aload_n 90 dX13_cut_89 rfl rfl (by decide) ?_
                    refine m_getfield 93 dX13_cut_90 rfl (ci := 13) rfl lu_X13 (k := 1) (by decide) lfX13_115 (tag := 0) rfl (by decide) (GI.lt g29 (by decide)) (gk2468 g29) (fun v32 (ev32 : v32 = (h28.2 2468).2.2 1) _ => ?_)
                    have bv32 : 0 ≤ v32 ∧ v32 ≤ 8 := by rw [ev32]; exact gf2468_1 g29
                    have qv32 : v20 = v32 := (ev32.trans m31).symm
                    subst qv32
                    refine m_iload 95 dX13_cut_93 rfl rfl ?_
                    refine m_iast 96 dX13_cut_95 rfl (by decide) (by decide) (GI.lt g29 (by decide)) (gk2471 g29) (by omega) (m_len (gl2471 g29) (by omega)) ?_
                    refine m_heap (fun h33 eh33 => ?_)
                    have g34 : GI h33 := eh33 ▸ GI.set g29 (by decide) (fun _ => by show 0 ≤ _ ∧ _ ≤ 11; omega)
                    have m35 : (h33.2 2468).2.2 0 = 0 := by rw [eh33]; exact m30
                    have m36 : (h33.2 2468).2.2 1 = v20 := by rw [eh33]; exact m31
                    clear eh33
                    refine m_aload_n 97 dX13_cut_96 rfl rfl (by decide) ?_
                    refine m_getfieldC 100 dX13_cut_97 rfl (ci := 13) rfl lu_X13 (k := 5) (by decide) lfX13_19 (tag := 2) rfl (by decide) (GI.lt g34 (by decide)) (gk2468 g34) (gf2468_5 g34) ?_
                    refine m_aload_n 101 dX13_cut_100 rfl rfl (by decide) ?_
                    refine m_getfield 104 dX13_cut_101 rfl (ci := 13) rfl lu_X13 (k := 1) (by decide) lfX13_115 (tag := 0) rfl (by decide) (GI.lt g34 (by decide)) (gk2468 g34) (fun v37 (ev37 : v37 = (h33.2 2468).2.2 1) _ => ?_)
                    have bv37 : 0 ≤ v37 ∧ v37 ≤ 8 := by rw [ev37]; exact gf2468_1 g34
                    have qv37 : v20 = v37 := (ev37.trans m36).symm
                    subst qv37
                    refine m_lload 106 dX13_cut_104 rfl rfl ?_
                    refine m_l2i 107 dX13_cut_106 rfl (by omega) ?_
                    refine m_iast 108 dX13_cut_107 rfl (by decide) (by decide) (GI.lt g34 (by decide)) (gk2472 g34) (by omega) (m_len (gl2472 g34) (by omega)) ?_
                    refine m_heap (fun h38 eh38 => ?_)
                    have g39 : GI h38 := eh38 ▸ GI.set g34 (by decide) (fun _ => by show 0 ≤ _ ∧ _ ≤ 100000; omega)
                    have m40 : (h38.2 2468).2.2 0 = 0 := by rw [eh38]; exact m35
                    have m41 : (h38.2 2468).2.2 1 = v20 := by rw [eh38]; exact m36
                    clear eh38
                    refine m_aload_n 109 dX13_cut_108 rfl rfl (by decide) ?_
                    refine m_dup 110 dX13_cut_109 rfl rfl ?_
                    refine m_getfield 113 dX13_cut_110 rfl (ci := 13) rfl lu_X13 (k := 1) (by decide) lfX13_115 (tag := 0) rfl (by decide) (GI.lt g39 (by decide)) (gk2468 g39) (fun v42 (ev42 : v42 = (h38.2 2468).2.2 1) _ => ?_)
                    have bv42 : 0 ≤ v42 ∧ v42 ≤ 8 := by rw [ev42]; exact gf2468_1 g39
                    have qv42 : v20 = v42 := (ev42.trans m41).symm
                    subst qv42
                    refine m_iconst 114 dX13_cut_113 rfl (by decide) ?_
                    refine m_iadd 115 dX13_cut_114 rfl (by omega) ?_
                    refine m_putfield 118 dX13_cut_115 rfl (ci := 13) rfl lu_X13 tyX13_ok nmX13 (k := 1) (by decide) (Or.inl rfl) lfX13_115 (tag := 0) rfl (fun _ => rfl) (fun _ => rfl) (by decide) (GI.lt g39 (by decide)) (gk2468 g39) ?_
                    refine m_heap (fun h43 eh43 => ?_)
                    have g44 : GI h43 := eh43 ▸ GI.set g39 (by decide) (fun _ => by show 0 ≤ _ ∧ _ ≤ 8; omega)
                    have m45 : (h43.2 2468).2.2 0 = 0 := by rw [eh43]; exact m40
                    have m46 : (h43.2 2468).2.2 1 = (v20 + 1) := by rw [eh43]; rfl
                    clear eh43
                    refine m_aload_n 119 dX13_cut_118 rfl rfl (by decide) ?_
                    refine m_invokevirtual (K' := KX13_drop) (As := []) dX13_cut_119 (fun _ => by decide) ⟨lo_X13_drop, li_X13⟩ (ci := 13) (r := 2468) rfl (by decide) (GI.lt g44 (by decide)) (gk2468 g44) ⟨lmX13_118, lv_X13_drop_i, ls_X13_drop⟩ ⟨rfl, cy_X13_drop⟩ ⟨Nat.le_of_ble_eq_true rfl, Nat.le_of_ble_eq_true rfl⟩ (Nat.le_of_ble_eq_true rfl) rfl (Nat.zero_le _) (Nat.zero_le _) (c_X13_drop g44) (mkV fun h48 q49 => ?_)
                    have g50 : GI h48 := q49
                    refine m_aload_n 123 dX13_cut_122 rfl rfl (by decide) ?_
                    refine m_getfield 126 dX13_cut_123 rfl (ci := 13) rfl lu_X13 (k := 1) (by decide) lfX13_115 (tag := 0) rfl (by decide) (GI.lt g50 (by decide)) (gk2468 g50) (fun v51 (ev51 : v51 = (h48.2 2468).2.2 1) _ => ?_)
                    have bv51 : 0 ≤ v51 ∧ v51 ≤ 8 := by rw [ev51]; exact gf2468_1 g50
                    refine m_iconst 127 dX13_cut_126 rfl (by decide) ?_
                    refine m_isub 128 dX13_cut_127 rfl (by omega) ?_
                    exact m_ireturn dX13_cut_128 rfl rfl (mqI ⟨g50, by omega⟩)
                  · skip
                    refine m_iconst 63 dX13_cut_62 rfl (by decide) ?_
                    exact m_ireturn dX13_cut_63 rfl rfl (mqI ⟨g2, by omega⟩)
              · skip
                refine m_if_ne 53 62 dX13_cut_50 rfl rfl (fun c52 => ?_) (fun c52 => ?_)
                · skip
                  refine m_iconst 63 dX13_cut_62 rfl (by decide) ?_
                  exact m_ireturn dX13_cut_63 rfl rfl (mqI ⟨g2, by omega⟩)
                · exfalso; omega
          · skip
            refine m_if_ne 41 62 dX13_cut_38 rfl rfl (fun c53 => ?_) (fun c53 => ?_)
            · skip
              refine m_iconst 63 dX13_cut_62 rfl (by decide) ?_
              exact m_ireturn dX13_cut_63 rfl rfl (mqI ⟨g2, by omega⟩)
            · exfalso; omega
      · skip
        refine m_if_ne 28 62 dX13_cut_25 rfl rfl (fun c54 => ?_) (fun c54 => ?_)
        · skip
          refine m_iconst 63 dX13_cut_62 rfl (by decide) ?_
          exact m_ireturn dX13_cut_63 rfl rfl (mqI ⟨g2, by omega⟩)
        · exfalso; omega
  · skip
    refine m_if_ne 16 62 dX13_cut_13 rfl rfl (fun c55 => ?_) (fun c55 => ?_)
    · skip
      refine m_iconst 63 dX13_cut_62 rfl (by decide) ?_
      exact m_ireturn dX13_cut_63 rfl rfl (mqI ⟨g2, by omega⟩)
    · exfalso; omega
theorem cy_X13_fill : yX13_fill.cls ≠ "java/lang/invoke/MethodHandle" ∧ yX13_fill.cls ≠ "java/lang/invoke/VarHandle" ∧ (parseMethodDescriptor yX13_fill.desc).map (fun d => d.parameters.length) = some 3 := by decide +kernel
theorem dX13_fill_0 : decode KX13_fill.2.2.1 0 = .ok (.aload_n 0, 1) := by decide +kernel
theorem dX13_fill_1 : decode KX13_fill.2.2.1 1 = .ok (.iconst 0, 1) := by decide +kernel
theorem dX13_fill_2 : decode KX13_fill.2.2.1 2 = .ok (.putfield 92, 3) := by decide +kernel
theorem dX13_fill_5 : decode KX13_fill.2.2.1 5 = .ok (.lload_n 1, 1) := by decide +kernel
theorem dX13_fill_6 : decode KX13_fill.2.2.1 6 = .ok (.lconst 1, 1) := by decide +kernel
theorem dX13_fill_7 : decode KX13_fill.2.2.1 7 = .ok (.ldc2_w 103, 3) := by decide +kernel
theorem dX13_fill_10 : decode KX13_fill.2.2.1 10 = .ok (.invokestatic 105, 3) := by decide +kernel
theorem dX13_fill_13 : decode KX13_fill.2.2.1 13 = .ok (.ifCond .ne 36, 3) := by decide +kernel
theorem dX13_fill_16 : decode KX13_fill.2.2.1 16 = .ok (.iload_n 3, 1) := by decide +kernel
theorem dX13_fill_17 : decode KX13_fill.2.2.1 17 = .ok (.i2l, 1) := by decide +kernel
theorem dX13_fill_18 : decode KX13_fill.2.2.1 18 = .ok (.lconst 0, 1) := by decide +kernel
theorem dX13_fill_19 : decode KX13_fill.2.2.1 19 = .ok (.ldc2_w 111, 3) := by decide +kernel
theorem dX13_fill_22 : decode KX13_fill.2.2.1 22 = .ok (.invokestatic 105, 3) := by decide +kernel
theorem dX13_fill_25 : decode KX13_fill.2.2.1 25 = .ok (.ifCond .ne 24, 3) := by decide +kernel
theorem dX13_fill_28 : decode KX13_fill.2.2.1 28 = .ok (.lload 4, 2) := by decide +kernel
theorem dX13_fill_30 : decode KX13_fill.2.2.1 30 = .ok (.lconst 0, 1) := by decide +kernel
theorem dX13_fill_31 : decode KX13_fill.2.2.1 31 = .ok (.ldc2_w 113, 3) := by decide +kernel
theorem dX13_fill_34 : decode KX13_fill.2.2.1 34 = .ok (.invokestatic 105, 3) := by decide +kernel
theorem dX13_fill_37 : decode KX13_fill.2.2.1 37 = .ok (.ifCond .ne 12, 3) := by decide +kernel
theorem dX13_fill_40 : decode KX13_fill.2.2.1 40 = .ok (.aload_n 0, 1) := by decide +kernel
theorem dX13_fill_41 : decode KX13_fill.2.2.1 41 = .ok (.getfield 121, 3) := by decide +kernel
theorem dX13_fill_44 : decode KX13_fill.2.2.1 44 = .ok (.bipush 8, 2) := by decide +kernel
theorem dX13_fill_46 : decode KX13_fill.2.2.1 46 = .ok (.if_icmp .ne 5, 3) := by decide +kernel
theorem dX13_fill_49 : decode KX13_fill.2.2.1 49 = .ok (.iconst (-1), 1) := by decide +kernel
theorem dX13_fill_50 : decode KX13_fill.2.2.1 50 = .ok (.ireturn, 1) := by decide +kernel
theorem dX13_fill_51 : decode KX13_fill.2.2.1 51 = .ok (.aload_n 0, 1) := by decide +kernel
theorem dX13_fill_52 : decode KX13_fill.2.2.1 52 = .ok (.getfield 28, 3) := by decide +kernel
theorem dX13_fill_55 : decode KX13_fill.2.2.1 55 = .ok (.aload_n 0, 1) := by decide +kernel
theorem dX13_fill_56 : decode KX13_fill.2.2.1 56 = .ok (.getfield 121, 3) := by decide +kernel
theorem dX13_fill_59 : decode KX13_fill.2.2.1 59 = .ok (.lload_n 1, 1) := by decide +kernel
theorem dX13_fill_60 : decode KX13_fill.2.2.1 60 = .ok (.l2i, 1) := by decide +kernel
theorem dX13_fill_61 : decode KX13_fill.2.2.1 61 = .ok (.iastore, 1) := by decide +kernel
theorem dX13_fill_62 : decode KX13_fill.2.2.1 62 = .ok (.aload_n 0, 1) := by decide +kernel
theorem dX13_fill_63 : decode KX13_fill.2.2.1 63 = .ok (.getfield 31, 3) := by decide +kernel
theorem dX13_fill_66 : decode KX13_fill.2.2.1 66 = .ok (.aload_n 0, 1) := by decide +kernel
theorem dX13_fill_67 : decode KX13_fill.2.2.1 67 = .ok (.getfield 121, 3) := by decide +kernel
theorem dX13_fill_70 : decode KX13_fill.2.2.1 70 = .ok (.iload_n 3, 1) := by decide +kernel
theorem dX13_fill_71 : decode KX13_fill.2.2.1 71 = .ok (.iastore, 1) := by decide +kernel
theorem dX13_fill_72 : decode KX13_fill.2.2.1 72 = .ok (.aload_n 0, 1) := by decide +kernel
theorem dX13_fill_73 : decode KX13_fill.2.2.1 73 = .ok (.getfield 34, 3) := by decide +kernel
theorem dX13_fill_76 : decode KX13_fill.2.2.1 76 = .ok (.aload_n 0, 1) := by decide +kernel
theorem dX13_fill_77 : decode KX13_fill.2.2.1 77 = .ok (.getfield 121, 3) := by decide +kernel
theorem dX13_fill_80 : decode KX13_fill.2.2.1 80 = .ok (.lload 4, 2) := by decide +kernel
theorem dX13_fill_82 : decode KX13_fill.2.2.1 82 = .ok (.l2i, 1) := by decide +kernel
theorem dX13_fill_83 : decode KX13_fill.2.2.1 83 = .ok (.iastore, 1) := by decide +kernel
theorem dX13_fill_84 : decode KX13_fill.2.2.1 84 = .ok (.aload_n 0, 1) := by decide +kernel
theorem dX13_fill_85 : decode KX13_fill.2.2.1 85 = .ok (.dup, 1) := by decide +kernel
theorem dX13_fill_86 : decode KX13_fill.2.2.1 86 = .ok (.getfield 121, 3) := by decide +kernel
theorem dX13_fill_89 : decode KX13_fill.2.2.1 89 = .ok (.iconst 1, 1) := by decide +kernel
theorem dX13_fill_90 : decode KX13_fill.2.2.1 90 = .ok (.iadd, 1) := by decide +kernel
theorem dX13_fill_91 : decode KX13_fill.2.2.1 91 = .ok (.putfield 121, 3) := by decide +kernel
theorem dX13_fill_94 : decode KX13_fill.2.2.1 94 = .ok (.aload_n 0, 1) := by decide +kernel
theorem dX13_fill_95 : decode KX13_fill.2.2.1 95 = .ok (.invokevirtual 118, 3) := by decide +kernel
theorem dX13_fill_98 : decode KX13_fill.2.2.1 98 = .ok (.aload_n 0, 1) := by decide +kernel
theorem dX13_fill_99 : decode KX13_fill.2.2.1 99 = .ok (.getfield 121, 3) := by decide +kernel
theorem dX13_fill_102 : decode KX13_fill.2.2.1 102 = .ok (.iconst 1, 1) := by decide +kernel
theorem dX13_fill_103 : decode KX13_fill.2.2.1 103 = .ok (.isub, 1) := by decide +kernel
theorem dX13_fill_104 : decode KX13_fill.2.2.1 104 = .ok (.ireturn, 1) := by decide +kernel
abbrev q_X13_fill (a1 a2 a3 : Int) (h : MH) : MO → MH → Prop := mRI fun v h' => GI h' ∧ (-1) ≤ v ∧ v ≤ 7
set_option maxRecDepth 20000 in
theorem c_X13_fill {a1 a2 a3 : Int} {h : MH} (g : GI h) : MCal KX13_fill yX13_fill 0 0 [(2, 2468), (1, a1), (0, a2), (1, a3)] h (q_X13_fill a1 a2 a3 h) := by
  refine MCal.ofMW (Or.inl rfl) ⟨cp_X13, rfl⟩ (Nat.le_of_ble_eq_true rfl) ?_
  change MW _ _ _ _ _ [(0, (2, 2468)), (1, (1, a1)), (3, (0, a2)), (4, (1, a3))] _ _
  refine m_locL (i := 1) rfl (fun ua1 wa1 => ?_)
  refine m_locI (i := 3) rfl (fun ua2 wa2 => ?_)
  refine m_locL (i := 4) rfl (fun ua3 wa3 => ?_)
  refine m_aload_n 1 dX13_fill_0 rfl rfl (by decide) ?_
  refine m_iconst 2 dX13_fill_1 rfl (by decide) ?_
  refine m_putfield 5 dX13_fill_2 rfl (ci := 13) rfl lu_X13 tyX13_ok nmX13 (k := 0) (by decide) (Or.inl rfl) lfX13_92 (tag := 0) rfl (fun _ => rfl) (fun _ => rfl) (by decide) (GI.lt g (by decide)) (gk2468 g) ?_
  refine m_heap (fun h1 eh1 => ?_)
  have g2 : GI h1 := eh1 ▸ GI.set g (by decide) (fun _ => by show 0 ≤ _ ∧ _ ≤ 1; omega)
  have m3 : (h1.2 2468).2.2 0 = 0 := by rw [eh1]; rfl
  clear eh1
  refine m_lload_n 6 dX13_fill_5 rfl rfl ?_
  refine m_lconst 7 dX13_fill_6 rfl ?_
  refine m_ldc2 (n := 1000000) 10 dX13_fill_7 rfl lcX13_103 rfl (by decide) ?_
  refine m_invokestatic (K' := KX13_isOut) (As := [(1, a1), (1, 1), (1, 1000000)]) dX13_fill_10 (fun _ => by decide) ⟨lo_X13_isOut, li_X13⟩ ⟨lmX13_105, lv_X13_isOut_s⟩ ⟨rfl, cy_X13_isOut⟩ ⟨Nat.le_of_ble_eq_true rfl, Nat.le_of_ble_eq_true rfl⟩ (Nat.le_of_ble_eq_true rfl) rfl (Nat.zero_le _) (Nat.zero_le _) (c_X13_isOut) (mkI fun v4 h5 q6 => ?_)
  obtain ⟨rfl, q6⟩ := q6
  rcases q6 with ⟨rfl, q6⟩ | ⟨rfl, q6⟩
  · skip
    refine m_if_ne 16 49 dX13_fill_13 rfl rfl (fun c7 => ?_) (fun c7 => ?_)
    · exfalso; omega
    · skip
      refine m_iload_n 17 dX13_fill_16 rfl rfl ?_
      refine m_i2l 18 dX13_fill_17 rfl ?_
      refine m_lconst 19 dX13_fill_18 rfl ?_
      refine m_ldc2 (n := 11) 22 dX13_fill_19 rfl lcX13_111 rfl (by decide) ?_
      refine m_invokestatic (K' := KX13_isOut) (As := [(1, a2), (1, 0), (1, 11)]) dX13_fill_22 (fun _ => by decide) ⟨lo_X13_isOut, li_X13⟩ ⟨lmX13_105, lv_X13_isOut_s⟩ ⟨rfl, cy_X13_isOut⟩ ⟨Nat.le_of_ble_eq_true rfl, Nat.le_of_ble_eq_true rfl⟩ (Nat.le_of_ble_eq_true rfl) rfl (Nat.zero_le _) (Nat.zero_le _) (c_X13_isOut) (mkI fun v8 h9 q10 => ?_)
      obtain ⟨rfl, q10⟩ := q10
      rcases q10 with ⟨rfl, q10⟩ | ⟨rfl, q10⟩
      · skip
        refine m_if_ne 28 49 dX13_fill_25 rfl rfl (fun c11 => ?_) (fun c11 => ?_)
        · exfalso; omega
        · skip
          refine m_lload 30 dX13_fill_28 rfl rfl ?_
          refine m_lconst 31 dX13_fill_30 rfl ?_
          refine m_ldc2 (n := 100000) 34 dX13_fill_31 rfl lcX13_113 rfl (by decide) ?_
          refine m_invokestatic (K' := KX13_isOut) (As := [(1, a3), (1, 0), (1, 100000)]) dX13_fill_34 (fun _ => by decide) ⟨lo_X13_isOut, li_X13⟩ ⟨lmX13_105, lv_X13_isOut_s⟩ ⟨rfl, cy_X13_isOut⟩ ⟨Nat.le_of_ble_eq_true rfl, Nat.le_of_ble_eq_true rfl⟩ (Nat.le_of_ble_eq_true rfl) rfl (Nat.zero_le _) (Nat.zero_le _) (c_X13_isOut) (mkI fun v12 h13 q14 => ?_)
          obtain ⟨rfl, q14⟩ := q14
          rcases q14 with ⟨rfl, q14⟩ | ⟨rfl, q14⟩
          · skip
            refine m_if_ne 40 49 dX13_fill_37 rfl rfl (fun c15 => ?_) (fun c15 => ?_)
            · exfalso; omega
            · skip
              refine m_aload_n 41 dX13_fill_40 rfl rfl (by decide) ?_
              refine m_getfield 44 dX13_fill_41 rfl (ci := 13) rfl lu_X13 (k := 9) (by decide) lfX13_121 (tag := 0) rfl (by decide) (GI.lt g2 (by decide)) (gk2468 g2) (fun v16 (ev16 : v16 = (h1.2 2468).2.2 9) _ => ?_)
              have bv16 : 0 ≤ v16 ∧ v16 ≤ 8 := by rw [ev16]; exact gf2468_9 g2
              refine m_bipush 46 dX13_fill_44 rfl (by decide) ?_
              refine m_ic_ne 49 51 dX13_fill_46 rfl rfl (fun c17 => ?_) (fun c17 => ?_)
              · skip
                refine m_aload_n 52 dX13_fill_51 rfl rfl (by decide) ?_
                refine m_getfieldC 55 dX13_fill_52 rfl (ci := 13) rfl lu_X13 (k := 10) (by decide) lfX13_28 (tag := 2) rfl (by decide) (GI.lt g2 (by decide)) (gk2468 g2) (gf2468_10 g2) ?_
                refine m_aload_n 56 dX13_fill_55 rfl rfl (by decide) ?_
                refine m_getfield 59 dX13_fill_56 rfl (ci := 13) rfl lu_X13 (k := 9) (by decide) lfX13_121 (tag := 0) rfl (by decide) (GI.lt g2 (by decide)) (gk2468 g2) (fun v18 (ev18 : v18 = (h1.2 2468).2.2 9) _ => ?_)
                have bv18 : 0 ≤ v18 ∧ v18 ≤ 8 := by rw [ev18]; exact gf2468_9 g2
                have qv18 : v16 = v18 := (ev18.trans ev16.symm).symm
                subst qv18
                refine m_lload_n 60 dX13_fill_59 rfl rfl ?_
                refine m_l2i 61 dX13_fill_60 rfl (by omega) ?_
                refine m_iast 62 dX13_fill_61 rfl (by decide) (by decide) (GI.lt g2 (by decide)) (gk2475 g2) (by omega) (m_len (gl2475 g2) (by omega)) ?_
                refine m_heap (fun h19 eh19 => ?_)
                have g20 : GI h19 := eh19 ▸ GI.set g2 (by decide) (fun _ => by show 0 ≤ _ ∧ _ ≤ 1000000; omega)
                have m21 : (h19.2 2468).2.2 0 = 0 := by rw [eh19]; exact m3
                have m22 : (h19.2 2468).2.2 9 = v16 := by rw [eh19]; exact ev16.symm
                clear eh19
                refine m_aload_n 63 dX13_fill_62 rfl rfl (by decide) ?_
                refine m_getfieldC 66 dX13_fill_63 rfl (ci := 13) rfl lu_X13 (k := 11) (by decide) lfX13_31 (tag := 2) rfl (by decide) (GI.lt g20 (by decide)) (gk2468 g20) (gf2468_11 g20) ?_
                refine m_aload_n 67 dX13_fill_66 rfl rfl (by decide) ?_
                refine m_getfield 70 dX13_fill_67 rfl (ci := 13) rfl lu_X13 (k := 9) (by decide) lfX13_121 (tag := 0) rfl (by decide) (GI.lt g20 (by decide)) (gk2468 g20) (fun v23 (ev23 : v23 = (h19.2 2468).2.2 9) _ => ?_)
                have bv23 : 0 ≤ v23 ∧ v23 ≤ 8 := by rw [ev23]; exact gf2468_9 g20
                have qv23 : v16 = v23 := (ev23.trans m22).symm
                subst qv23
                refine m_iload_n 71 dX13_fill_70 rfl rfl ?_
                refine m_iast 72 dX13_fill_71 rfl (by decide) (by decide) (GI.lt g20 (by decide)) (gk2476 g20) (by omega) (m_len (gl2476 g20) (by omega)) ?_
                refine m_heap (fun h24 eh24 => ?_)
                have g25 : GI h24 := eh24 ▸ GI.set g20 (by decide) (fun _ => by show 0 ≤ _ ∧ _ ≤ 11; omega)
                have m26 : (h24.2 2468).2.2 0 = 0 := by rw [eh24]; exact m21
                have m27 : (h24.2 2468).2.2 9 = v16 := by rw [eh24]; exact m22
                clear eh24
                refine m_aload_n 73 dX13_fill_72 rfl rfl (by decide) ?_
                refine m_getfieldC 76 dX13_fill_73 rfl (ci := 13) rfl lu_X13 (k := 12) (by decide) lfX13_34 (tag := 2) rfl (by decide) (GI.lt g25 (by decide)) (gk2468 g25) (gf2468_12 g25) ?_
                refine m_aload_n 77 dX13_fill_76 rfl rfl (by decide) ?_
                refine m_getfield 80 dX13_fill_77 rfl (ci := 13) rfl lu_X13 (k := 9) (by decide) lfX13_121 (tag := 0) rfl (by decide) (GI.lt g25 (by decide)) (gk2468 g25) (fun v28 (ev28 : v28 = (h24.2 2468).2.2 9) _ => ?_)
                have bv28 : 0 ≤ v28 ∧ v28 ≤ 8 := by rw [ev28]; exact gf2468_9 g25
                have qv28 : v16 = v28 := (ev28.trans m27).symm
                subst qv28
                refine m_lload 82 dX13_fill_80 rfl rfl ?_
                refine m_l2i 83 dX13_fill_82 rfl (by omega) ?_
                refine m_iast 84 dX13_fill_83 rfl (by decide) (by decide) (GI.lt g25 (by decide)) (gk2477 g25) (by omega) (m_len (gl2477 g25) (by omega)) ?_
                refine m_heap (fun h29 eh29 => ?_)
                have g30 : GI h29 := eh29 ▸ GI.set g25 (by decide) (fun _ => by show 0 ≤ _ ∧ _ ≤ 100000; omega)
                have m31 : (h29.2 2468).2.2 0 = 0 := by rw [eh29]; exact m26
                have m32 : (h29.2 2468).2.2 9 = v16 := by rw [eh29]; exact m27
                clear eh29
                refine m_aload_n 85 dX13_fill_84 rfl rfl (by decide) ?_
                refine m_dup 86 dX13_fill_85 rfl rfl ?_
                refine m_getfield 89 dX13_fill_86 rfl (ci := 13) rfl lu_X13 (k := 9) (by decide) lfX13_121 (tag := 0) rfl (by decide) (GI.lt g30 (by decide)) (gk2468 g30) (fun v33 (ev33 : v33 = (h29.2 2468).2.2 9) _ => ?_)
                have bv33 : 0 ≤ v33 ∧ v33 ≤ 8 := by rw [ev33]; exact gf2468_9 g30
                have qv33 : v16 = v33 := (ev33.trans m32).symm
                subst qv33
                refine m_iconst 90 dX13_fill_89 rfl (by decide) ?_
                refine m_iadd 91 dX13_fill_90 rfl (by omega) ?_
                refine m_putfield 94 dX13_fill_91 rfl (ci := 13) rfl lu_X13 tyX13_ok nmX13 (k := 9) (by decide) (Or.inl rfl) lfX13_121 (tag := 0) rfl (fun _ => rfl) (fun _ => rfl) (by decide) (GI.lt g30 (by decide)) (gk2468 g30) ?_
                refine m_heap (fun h34 eh34 => ?_)
                have g35 : GI h34 := eh34 ▸ GI.set g30 (by decide) (fun _ => by show 0 ≤ _ ∧ _ ≤ 8; omega)
                have m36 : (h34.2 2468).2.2 0 = 0 := by rw [eh34]; exact m31
                have m37 : (h34.2 2468).2.2 9 = (v16 + 1) := by rw [eh34]; rfl
                clear eh34
                refine m_aload_n 95 dX13_fill_94 rfl rfl (by decide) ?_
                refine m_invokevirtual (K' := KX13_drop) (As := []) dX13_fill_95 (fun _ => by decide) ⟨lo_X13_drop, li_X13⟩ (ci := 13) (r := 2468) rfl (by decide) (GI.lt g35 (by decide)) (gk2468 g35) ⟨lmX13_118, lv_X13_drop_i, ls_X13_drop⟩ ⟨rfl, cy_X13_drop⟩ ⟨Nat.le_of_ble_eq_true rfl, Nat.le_of_ble_eq_true rfl⟩ (Nat.le_of_ble_eq_true rfl) rfl (Nat.zero_le _) (Nat.zero_le _) (c_X13_drop g35) (mkV fun h39 q40 => ?_)
                have g41 : GI h39 := q40
                refine m_aload_n 99 dX13_fill_98 rfl rfl (by decide) ?_
                refine m_getfield 102 dX13_fill_99 rfl (ci := 13) rfl lu_X13 (k := 9) (by decide) lfX13_121 (tag := 0) rfl (by decide) (GI.lt g41 (by decide)) (gk2468 g41) (fun v42 (ev42 : v42 = (h39.2 2468).2.2 9) _ => ?_)
                have bv42 : 0 ≤ v42 ∧ v42 ≤ 8 := by rw [ev42]; exact gf2468_9 g41
                refine m_iconst 103 dX13_fill_102 rfl (by decide) ?_
                refine m_isub 104 dX13_fill_103 rfl (by omega) ?_
                exact m_ireturn dX13_fill_104 rfl rfl (mqI ⟨g41, by omega⟩)
              · skip
                refine m_iconst 50 dX13_fill_49 rfl (by decide) ?_
                exact m_ireturn dX13_fill_50 rfl rfl (mqI ⟨g2, by omega⟩)
          · skip
            refine m_if_ne 40 49 dX13_fill_37 rfl rfl (fun c43 => ?_) (fun c43 => ?_)
            · skip
              refine m_iconst 50 dX13_fill_49 rfl (by decide) ?_
              exact m_ireturn dX13_fill_50 rfl rfl (mqI ⟨g2, by omega⟩)
            · exfalso; omega
      · skip
        refine m_if_ne 28 49 dX13_fill_25 rfl rfl (fun c44 => ?_) (fun c44 => ?_)
        · skip
          refine m_iconst 50 dX13_fill_49 rfl (by decide) ?_
          exact m_ireturn dX13_fill_50 rfl rfl (mqI ⟨g2, by omega⟩)
        · exfalso; omega
  · skip
    refine m_if_ne 16 49 dX13_fill_13 rfl rfl (fun c45 => ?_) (fun c45 => ?_)
    · skip
      refine m_iconst 50 dX13_fill_49 rfl (by decide) ?_
      exact m_ireturn dX13_fill_50 rfl rfl (mqI ⟨g2, by omega⟩)
    · exfalso; omega
theorem cy_X13_swell : yX13_swell.cls ≠ "java/lang/invoke/MethodHandle" ∧ yX13_swell.cls ≠ "java/lang/invoke/VarHandle" ∧ (parseMethodDescriptor yX13_swell.desc).map (fun d => d.parameters.length) = some 3 := by decide +kernel
theorem dX13_swell_0 : decode KX13_swell.2.2.1 0 = .ok (.aload_n 0, 1) := by decide +kernel
theorem dX13_swell_1 : decode KX13_swell.2.2.1 1 = .ok (.iconst 0, 1) := by decide +kernel
theorem dX13_swell_2 : decode KX13_swell.2.2.1 2 = .ok (.putfield 92, 3) := by decide +kernel
theorem dX13_swell_5 : decode KX13_swell.2.2.1 5 = .ok (.iload_n 1, 1) := by decide +kernel
theorem dX13_swell_6 : decode KX13_swell.2.2.1 6 = .ok (.i2l, 1) := by decide +kernel
theorem dX13_swell_7 : decode KX13_swell.2.2.1 7 = .ok (.lconst 0, 1) := by decide +kernel
theorem dX13_swell_8 : decode KX13_swell.2.2.1 8 = .ok (.ldc2_w 109, 3) := by decide +kernel
theorem dX13_swell_11 : decode KX13_swell.2.2.1 11 = .ok (.invokestatic 105, 3) := by decide +kernel
theorem dX13_swell_14 : decode KX13_swell.2.2.1 14 = .ok (.ifCond .ne 26, 3) := by decide +kernel
theorem dX13_swell_17 : decode KX13_swell.2.2.1 17 = .ok (.lload_n 2, 1) := by decide +kernel
theorem dX13_swell_18 : decode KX13_swell.2.2.1 18 = .ok (.lconst 1, 1) := by decide +kernel
theorem dX13_swell_19 : decode KX13_swell.2.2.1 19 = .ok (.ldc2_w 124, 3) := by decide +kernel
theorem dX13_swell_22 : decode KX13_swell.2.2.1 22 = .ok (.invokestatic 105, 3) := by decide +kernel
theorem dX13_swell_25 : decode KX13_swell.2.2.1 25 = .ok (.ifCond .ne 15, 3) := by decide +kernel
theorem dX13_swell_28 : decode KX13_swell.2.2.1 28 = .ok (.lload 4, 2) := by decide +kernel
theorem dX13_swell_30 : decode KX13_swell.2.2.1 30 = .ok (.lconst 1, 1) := by decide +kernel
theorem dX13_swell_31 : decode KX13_swell.2.2.1 31 = .ok (.ldc2_w 124, 3) := by decide +kernel
theorem dX13_swell_34 : decode KX13_swell.2.2.1 34 = .ok (.invokestatic 105, 3) := by decide +kernel
theorem dX13_swell_37 : decode KX13_swell.2.2.1 37 = .ok (.ifCond .eq 5, 3) := by decide +kernel
theorem dX13_swell_40 : decode KX13_swell.2.2.1 40 = .ok (.iconst 0, 1) := by decide +kernel
theorem dX13_swell_41 : decode KX13_swell.2.2.1 41 = .ok (.ireturn, 1) := by decide +kernel
theorem dX13_swell_42 : decode KX13_swell.2.2.1 42 = .ok (.aload_n 0, 1) := by decide +kernel
theorem dX13_swell_43 : decode KX13_swell.2.2.1 43 = .ok (.getfield 50, 3) := by decide +kernel
theorem dX13_swell_46 : decode KX13_swell.2.2.1 46 = .ok (.iload_n 1, 1) := by decide +kernel
theorem dX13_swell_47 : decode KX13_swell.2.2.1 47 = .ok (.lload_n 2, 1) := by decide +kernel
theorem dX13_swell_48 : decode KX13_swell.2.2.1 48 = .ok (.lastore, 1) := by decide +kernel
theorem dX13_swell_49 : decode KX13_swell.2.2.1 49 = .ok (.aload_n 0, 1) := by decide +kernel
theorem dX13_swell_50 : decode KX13_swell.2.2.1 50 = .ok (.getfield 54, 3) := by decide +kernel
theorem dX13_swell_53 : decode KX13_swell.2.2.1 53 = .ok (.iload_n 1, 1) := by decide +kernel
theorem dX13_swell_54 : decode KX13_swell.2.2.1 54 = .ok (.lload 4, 2) := by decide +kernel
theorem dX13_swell_56 : decode KX13_swell.2.2.1 56 = .ok (.lastore, 1) := by decide +kernel
theorem dX13_swell_57 : decode KX13_swell.2.2.1 57 = .ok (.aload_n 0, 1) := by decide +kernel
theorem dX13_swell_58 : decode KX13_swell.2.2.1 58 = .ok (.invokevirtual 118, 3) := by decide +kernel
theorem dX13_swell_61 : decode KX13_swell.2.2.1 61 = .ok (.iconst 1, 1) := by decide +kernel
theorem dX13_swell_62 : decode KX13_swell.2.2.1 62 = .ok (.ireturn, 1) := by decide +kernel
abbrev q_X13_swell (a1 a2 a3 : Int) (h : MH) : MO → MH → Prop := mRI fun v h' => GI h' ∧ 0 ≤ v ∧ v ≤ 1
set_option maxRecDepth 20000 in
theorem c_X13_swell {a1 a2 a3 : Int} {h : MH} (g : GI h) : MCal KX13_swell yX13_swell 0 0 [(2, 2468), (0, a1), (1, a2), (1, a3)] h (q_X13_swell a1 a2 a3 h) := by
  refine MCal.ofMW (Or.inl rfl) ⟨cp_X13, rfl⟩ (Nat.le_of_ble_eq_true rfl) ?_
  change MW _ _ _ _ _ [(0, (2, 2468)), (1, (0, a1)), (2, (1, a2)), (4, (1, a3))] _ _
  refine m_locI (i := 1) rfl (fun ua1 wa1 => ?_)
  refine m_locL (i := 2) rfl (fun ua2 wa2 => ?_)
  refine m_locL (i := 4) rfl (fun ua3 wa3 => ?_)
  refine m_aload_n 1 dX13_swell_0 rfl rfl (by decide) ?_
  refine m_iconst 2 dX13_swell_1 rfl (by decide) ?_
  refine m_putfield 5 dX13_swell_2 rfl (ci := 13) rfl lu_X13 tyX13_ok nmX13 (k := 0) (by decide) (Or.inl rfl) lfX13_92 (tag := 0) rfl (fun _ => rfl) (fun _ => rfl) (by decide) (GI.lt g (by decide)) (gk2468 g) ?_
  refine m_heap (fun h1 eh1 => ?_)
  have g2 : GI h1 := eh1 ▸ GI.set g (by decide) (fun _ => by show 0 ≤ _ ∧ _ ≤ 1; omega)
  have m3 : (h1.2 2468).2.2 0 = 0 := by rw [eh1]; rfl
  clear eh1
  refine m_iload_n 6 dX13_swell_5 rfl rfl ?_
  refine m_i2l 7 dX13_swell_6 rfl ?_
  refine m_lconst 8 dX13_swell_7 rfl ?_
  refine m_ldc2 (n := 3) 11 dX13_swell_8 rfl lcX13_109 rfl (by decide) ?_
  refine m_invokestatic (K' := KX13_isOut) (As := [(1, a1), (1, 0), (1, 3)]) dX13_swell_11 (fun _ => by decide) ⟨lo_X13_isOut, li_X13⟩ ⟨lmX13_105, lv_X13_isOut_s⟩ ⟨rfl, cy_X13_isOut⟩ ⟨Nat.le_of_ble_eq_true rfl, Nat.le_of_ble_eq_true rfl⟩ (Nat.le_of_ble_eq_true rfl) rfl (Nat.zero_le _) (Nat.zero_le _) (c_X13_isOut) (mkI fun v4 h5 q6 => ?_)
  obtain ⟨rfl, q6⟩ := q6
  rcases q6 with ⟨rfl, q6⟩ | ⟨rfl, q6⟩
  · skip
    refine m_if_ne 17 40 dX13_swell_14 rfl rfl (fun c7 => ?_) (fun c7 => ?_)
    · exfalso; omega
    · skip
      refine m_lload_n 18 dX13_swell_17 rfl rfl ?_
      refine m_lconst 19 dX13_swell_18 rfl ?_
      refine m_ldc2 (n := 1000) 22 dX13_swell_19 rfl lcX13_124 rfl (by decide) ?_
      refine m_invokestatic (K' := KX13_isOut) (As := [(1, a2), (1, 1), (1, 1000)]) dX13_swell_22 (fun _ => by decide) ⟨lo_X13_isOut, li_X13⟩ ⟨lmX13_105, lv_X13_isOut_s⟩ ⟨rfl, cy_X13_isOut⟩ ⟨Nat.le_of_ble_eq_true rfl, Nat.le_of_ble_eq_true rfl⟩ (Nat.le_of_ble_eq_true rfl) rfl (Nat.zero_le _) (Nat.zero_le _) (c_X13_isOut) (mkI fun v8 h9 q10 => ?_)
      obtain ⟨rfl, q10⟩ := q10
      rcases q10 with ⟨rfl, q10⟩ | ⟨rfl, q10⟩
      · skip
        refine m_if_ne 28 40 dX13_swell_25 rfl rfl (fun c11 => ?_) (fun c11 => ?_)
        · exfalso; omega
        · skip
          refine m_lload 30 dX13_swell_28 rfl rfl ?_
          refine m_lconst 31 dX13_swell_30 rfl ?_
          refine m_ldc2 (n := 1000) 34 dX13_swell_31 rfl lcX13_124 rfl (by decide) ?_
          refine m_invokestatic (K' := KX13_isOut) (As := [(1, a3), (1, 1), (1, 1000)]) dX13_swell_34 (fun _ => by decide) ⟨lo_X13_isOut, li_X13⟩ ⟨lmX13_105, lv_X13_isOut_s⟩ ⟨rfl, cy_X13_isOut⟩ ⟨Nat.le_of_ble_eq_true rfl, Nat.le_of_ble_eq_true rfl⟩ (Nat.le_of_ble_eq_true rfl) rfl (Nat.zero_le _) (Nat.zero_le _) (c_X13_isOut) (mkI fun v12 h13 q14 => ?_)
          obtain ⟨rfl, q14⟩ := q14
          rcases q14 with ⟨rfl, q14⟩ | ⟨rfl, q14⟩
          · skip
            refine m_if_eq 40 42 dX13_swell_37 rfl rfl (fun c15 => ?_) (fun c15 => ?_)
            · skip
              refine m_aload_n 43 dX13_swell_42 rfl rfl (by decide) ?_
              refine m_getfieldC 46 dX13_swell_43 rfl (ci := 13) rfl lu_X13 (k := 18) (by decide) lfX13_50 (tag := 2) rfl (by decide) (GI.lt g2 (by decide)) (gk2468 g2) (gf2468_18 g2) ?_
              refine m_iload_n 47 dX13_swell_46 rfl rfl ?_
              refine m_lload_n 48 dX13_swell_47 rfl rfl ?_
              refine m_last 49 dX13_swell_48 rfl (by decide) (by decide) (GI.lt g2 (by decide)) (gk2482 g2) (by omega) (m_len (gl2482 g2) (by omega)) ?_
              refine m_heap (fun h16 eh16 => ?_)
              have g17 : GI h16 := eh16 ▸ GI.set g2 (by decide) (fun _ => by show 1 ≤ _ ∧ _ ≤ 1000; omega)
              have m18 : (h16.2 2468).2.2 0 = 0 := by rw [eh16]; exact m3
              clear eh16
              refine m_aload_n 50 dX13_swell_49 rfl rfl (by decide) ?_
              refine m_getfieldC 53 dX13_swell_50 rfl (ci := 13) rfl lu_X13 (k := 19) (by decide) lfX13_54 (tag := 2) rfl (by decide) (GI.lt g17 (by decide)) (gk2468 g17) (gf2468_19 g17) ?_
              refine m_iload_n 54 dX13_swell_53 rfl rfl ?_
              refine m_lload 56 dX13_swell_54 rfl rfl ?_
              refine m_last 57 dX13_swell_56 rfl (by decide) (by decide) (GI.lt g17 (by decide)) (gk2483 g17) (by omega) (m_len (gl2483 g17) (by omega)) ?_
              refine m_heap (fun h19 eh19 => ?_)
              have g20 : GI h19 := eh19 ▸ GI.set g17 (by decide) (fun _ => by show 1 ≤ _ ∧ _ ≤ 1000; omega)
              have m21 : (h19.2 2468).2.2 0 = 0 := by rw [eh19]; exact m18
              clear eh19
              refine m_aload_n 58 dX13_swell_57 rfl rfl (by decide) ?_
              refine m_invokevirtual (K' := KX13_drop) (As := []) dX13_swell_58 (fun _ => by decide) ⟨lo_X13_drop, li_X13⟩ (ci := 13) (r := 2468) rfl (by decide) (GI.lt g20 (by decide)) (gk2468 g20) ⟨lmX13_118, lv_X13_drop_i, ls_X13_drop⟩ ⟨rfl, cy_X13_drop⟩ ⟨Nat.le_of_ble_eq_true rfl, Nat.le_of_ble_eq_true rfl⟩ (Nat.le_of_ble_eq_true rfl) rfl (Nat.zero_le _) (Nat.zero_le _) (c_X13_drop g20) (mkV fun h23 q24 => ?_)
              have g25 : GI h23 := q24
              refine m_iconst 62 dX13_swell_61 rfl (by decide) ?_
              exact m_ireturn dX13_swell_62 rfl (m_narZ (by omega)) (mqI ⟨g25, by omega⟩)
            · exfalso; omega
          · skip
            refine m_if_eq 40 42 dX13_swell_37 rfl rfl (fun c26 => ?_) (fun c26 => ?_)
            · exfalso; omega
            · skip
              refine m_iconst 41 dX13_swell_40 rfl (by decide) ?_
              exact m_ireturn dX13_swell_41 rfl (m_narZ (by omega)) (mqI ⟨g2, by omega⟩)
      · skip
        refine m_if_ne 28 40 dX13_swell_25 rfl rfl (fun c27 => ?_) (fun c27 => ?_)
        · skip
          refine m_iconst 41 dX13_swell_40 rfl (by decide) ?_
          exact m_ireturn dX13_swell_41 rfl (m_narZ (by omega)) (mqI ⟨g2, by omega⟩)
        · exfalso; omega
  · skip
    refine m_if_ne 17 40 dX13_swell_14 rfl rfl (fun c28 => ?_) (fun c28 => ?_)
    · skip
      refine m_iconst 41 dX13_swell_40 rfl (by decide) ?_
      exact m_ireturn dX13_swell_41 rfl (m_narZ (by omega)) (mqI ⟨g2, by omega⟩)
    · exfalso; omega
theorem cy_X13_noFill : yX13_noFill.cls ≠ "java/lang/invoke/MethodHandle" ∧ yX13_noFill.cls ≠ "java/lang/invoke/VarHandle" ∧ (parseMethodDescriptor yX13_noFill.desc).map (fun d => d.parameters.length) = some 1 := by decide +kernel
theorem dX13_noFill_0 : decode KX13_noFill.2.2.1 0 = .ok (.iload_n 1, 1) := by decide +kernel
theorem dX13_noFill_1 : decode KX13_noFill.2.2.1 1 = .ok (.ifCond .lt 11, 3) := by decide +kernel
theorem dX13_noFill_4 : decode KX13_noFill.2.2.1 4 = .ok (.iload_n 1, 1) := by decide +kernel
theorem dX13_noFill_5 : decode KX13_noFill.2.2.1 5 = .ok (.aload_n 0, 1) := by decide +kernel
theorem dX13_noFill_6 : decode KX13_noFill.2.2.1 6 = .ok (.getfield 121, 3) := by decide +kernel
theorem dX13_noFill_9 : decode KX13_noFill.2.2.1 9 = .ok (.if_icmp .lt 7, 3) := by decide +kernel
theorem dX13_noFill_12 : decode KX13_noFill.2.2.1 12 = .ok (.iconst 1, 1) := by decide +kernel
theorem dX13_noFill_13 : decode KX13_noFill.2.2.1 13 = .ok (.goto 4, 3) := by decide +kernel
theorem dX13_noFill_16 : decode KX13_noFill.2.2.1 16 = .ok (.iconst 0, 1) := by decide +kernel
theorem dX13_noFill_17 : decode KX13_noFill.2.2.1 17 = .ok (.ireturn, 1) := by decide +kernel
abbrev q_X13_noFill (a1 : Int) (h : MH) : MO → MH → Prop := mRI fun v h' => h = h' ∧ ((v = 0 ∧ ((a1 ≥ 0 ∧ a1 < (h.2 2468).2.2 9))) ∨ (v = 1 ∧ ((a1 < 0) ∨ (a1 ≥ 0 ∧ a1 ≥ (h.2 2468).2.2 9))))
set_option maxRecDepth 20000 in
theorem c_X13_noFill {a1 : Int} {h : MH} (g : GI h) : MCal KX13_noFill yX13_noFill 0 0 [(2, 2468), (0, a1)] h (q_X13_noFill a1 h) := by
  refine MCal.ofMW (Or.inl rfl) ⟨cp_X13, rfl⟩ (Nat.le_of_ble_eq_true rfl) ?_
  change MW _ _ _ _ _ [(0, (2, 2468)), (1, (0, a1))] _ _
  refine m_locI (i := 1) rfl (fun ua1 wa1 => ?_)
  refine m_iload_n 1 dX13_noFill_0 rfl rfl ?_
  refine m_if_lt 4 12 dX13_noFill_1 rfl rfl (fun c1 => ?_) (fun c1 => ?_)
  · skip
    refine m_iconst 13 dX13_noFill_12 rfl (by decide) ?_
    refine m_goto 17 dX13_noFill_13 rfl ?_
    exact m_ireturn dX13_noFill_17 rfl (m_narZ (by omega)) (mqI ⟨rfl, Or.inr (⟨rfl, by omega⟩)⟩)
  · skip
    refine m_iload_n 5 dX13_noFill_4 rfl rfl ?_
    refine m_aload_n 6 dX13_noFill_5 rfl rfl (by decide) ?_
    refine m_getfield 9 dX13_noFill_6 rfl (ci := 13) rfl lu_X13 (k := 9) (by decide) lfX13_121 (tag := 0) rfl (by decide) (GI.lt g (by decide)) (gk2468 g) (fun v2 (ev2 : v2 = (h.2 2468).2.2 9) _ => ?_)
    have bv2 : 0 ≤ v2 ∧ v2 ≤ 8 := by rw [ev2]; exact gf2468_9 g
    refine m_ic_lt 12 16 dX13_noFill_9 rfl rfl (fun c3 => ?_) (fun c3 => ?_)
    · skip
      refine m_iconst 17 dX13_noFill_16 rfl (by decide) ?_
      exact m_ireturn dX13_noFill_17 rfl (m_narZ (by omega)) (mqI ⟨rfl, Or.inl ⟨rfl, by omega⟩⟩)
    · skip
      refine m_iconst 13 dX13_noFill_12 rfl (by decide) ?_
      refine m_goto 17 dX13_noFill_13 rfl ?_
      exact m_ireturn dX13_noFill_17 rfl (m_narZ (by omega)) (mqI ⟨rfl, Or.inr (⟨rfl, by omega⟩)⟩)
theorem cy_X13_fits : yX13_fits.cls ≠ "java/lang/invoke/MethodHandle" ∧ yX13_fits.cls ≠ "java/lang/invoke/VarHandle" ∧ (parseMethodDescriptor yX13_fits.desc).map (fun d => d.parameters.length) = some 3 := by decide +kernel
theorem dX13_fits_0 : decode KX13_fits.2.2.1 0 = .ok (.aload_n 0, 1) := by decide +kernel
theorem dX13_fits_1 : decode KX13_fits.2.2.1 1 = .ok (.iconst 0, 1) := by decide +kernel
theorem dX13_fits_2 : decode KX13_fits.2.2.1 2 = .ok (.putfield 92, 3) := by decide +kernel
theorem dX13_fits_5 : decode KX13_fits.2.2.1 5 = .ok (.iload_n 1, 1) := by decide +kernel
theorem dX13_fits_6 : decode KX13_fits.2.2.1 6 = .ok (.i2l, 1) := by decide +kernel
theorem dX13_fits_7 : decode KX13_fits.2.2.1 7 = .ok (.lconst 0, 1) := by decide +kernel
theorem dX13_fits_8 : decode KX13_fits.2.2.1 8 = .ok (.ldc2_w 109, 3) := by decide +kernel
theorem dX13_fits_11 : decode KX13_fits.2.2.1 11 = .ok (.invokestatic 105, 3) := by decide +kernel
theorem dX13_fits_14 : decode KX13_fits.2.2.1 14 = .ok (.ifCond .ne 11, 3) := by decide +kernel
theorem dX13_fits_17 : decode KX13_fits.2.2.1 17 = .ok (.aload_n 0, 1) := by decide +kernel
theorem dX13_fits_18 : decode KX13_fits.2.2.1 18 = .ok (.iload_n 2, 1) := by decide +kernel
theorem dX13_fits_19 : decode KX13_fits.2.2.1 19 = .ok (.invokevirtual 126, 3) := by decide +kernel
theorem dX13_fits_22 : decode KX13_fits.2.2.1 22 = .ok (.ifCond .eq 5, 3) := by decide +kernel
theorem dX13_fits_25 : decode KX13_fits.2.2.1 25 = .ok (.iconst 0, 1) := by decide +kernel
theorem dX13_fits_26 : decode KX13_fits.2.2.1 26 = .ok (.ireturn, 1) := by decide +kernel
theorem dX13_fits_27 : decode KX13_fits.2.2.1 27 = .ok (.aload_n 0, 1) := by decide +kernel
theorem dX13_fits_28 : decode KX13_fits.2.2.1 28 = .ok (.getfield 57, 3) := by decide +kernel
theorem dX13_fits_31 : decode KX13_fits.2.2.1 31 = .ok (.bipush 8, 2) := by decide +kernel
theorem dX13_fits_33 : decode KX13_fits.2.2.1 33 = .ok (.iload_n 1, 1) := by decide +kernel
theorem dX13_fits_34 : decode KX13_fits.2.2.1 34 = .ok (.imul, 1) := by decide +kernel
theorem dX13_fits_35 : decode KX13_fits.2.2.1 35 = .ok (.iload_n 2, 1) := by decide +kernel
theorem dX13_fits_36 : decode KX13_fits.2.2.1 36 = .ok (.iadd, 1) := by decide +kernel
theorem dX13_fits_37 : decode KX13_fits.2.2.1 37 = .ok (.iload_n 3, 1) := by decide +kernel
theorem dX13_fits_38 : decode KX13_fits.2.2.1 38 = .ok (.ifCond .ne 7, 3) := by decide +kernel
theorem dX13_fits_41 : decode KX13_fits.2.2.1 41 = .ok (.iconst 1, 1) := by decide +kernel
theorem dX13_fits_42 : decode KX13_fits.2.2.1 42 = .ok (.goto 4, 3) := by decide +kernel
theorem dX13_fits_45 : decode KX13_fits.2.2.1 45 = .ok (.iconst 0, 1) := by decide +kernel
theorem dX13_fits_46 : decode KX13_fits.2.2.1 46 = .ok (.bastore, 1) := by decide +kernel
theorem dX13_fits_47 : decode KX13_fits.2.2.1 47 = .ok (.aload_n 0, 1) := by decide +kernel
theorem dX13_fits_48 : decode KX13_fits.2.2.1 48 = .ok (.invokevirtual 118, 3) := by decide +kernel
theorem dX13_fits_51 : decode KX13_fits.2.2.1 51 = .ok (.iconst 1, 1) := by decide +kernel
theorem dX13_fits_52 : decode KX13_fits.2.2.1 52 = .ok (.ireturn, 1) := by decide +kernel
abbrev q_X13_fits (a1 a2 a3 : Int) (h : MH) : MO → MH → Prop := mRI fun v h' => GI h' ∧ 0 ≤ v ∧ v ≤ 1
set_option maxRecDepth 20000 in
theorem c_X13_fits {a1 a2 a3 : Int} {h : MH} (g : GI h) : MCal KX13_fits yX13_fits 0 0 [(2, 2468), (0, a1), (0, a2), (0, a3)] h (q_X13_fits a1 a2 a3 h) := by
  refine MCal.ofMW (Or.inl rfl) ⟨cp_X13, rfl⟩ (Nat.le_of_ble_eq_true rfl) ?_
  change MW _ _ _ _ _ [(0, (2, 2468)), (1, (0, a1)), (2, (0, a2)), (3, (0, a3))] _ _
  refine m_locI (i := 1) rfl (fun ua1 wa1 => ?_)
  refine m_locI (i := 2) rfl (fun ua2 wa2 => ?_)
  refine m_locI (i := 3) rfl (fun ua3 wa3 => ?_)
  refine m_aload_n 1 dX13_fits_0 rfl rfl (by decide) ?_
  refine m_iconst 2 dX13_fits_1 rfl (by decide) ?_
  refine m_putfield 5 dX13_fits_2 rfl (ci := 13) rfl lu_X13 tyX13_ok nmX13 (k := 0) (by decide) (Or.inl rfl) lfX13_92 (tag := 0) rfl (fun _ => rfl) (fun _ => rfl) (by decide) (GI.lt g (by decide)) (gk2468 g) ?_
  refine m_heap (fun h1 eh1 => ?_)
  have g2 : GI h1 := eh1 ▸ GI.set g (by decide) (fun _ => by show 0 ≤ _ ∧ _ ≤ 1; omega)
  have m3 : (h1.2 2468).2.2 0 = 0 := by rw [eh1]; rfl
  clear eh1
  refine m_iload_n 6 dX13_fits_5 rfl rfl ?_
  refine m_i2l 7 dX13_fits_6 rfl ?_
  refine m_lconst 8 dX13_fits_7 rfl ?_
  refine m_ldc2 (n := 3) 11 dX13_fits_8 rfl lcX13_109 rfl (by decide) ?_
  refine m_invokestatic (K' := KX13_isOut) (As := [(1, a1), (1, 0), (1, 3)]) dX13_fits_11 (fun _ => by decide) ⟨lo_X13_isOut, li_X13⟩ ⟨lmX13_105, lv_X13_isOut_s⟩ ⟨rfl, cy_X13_isOut⟩ ⟨Nat.le_of_ble_eq_true rfl, Nat.le_of_ble_eq_true rfl⟩ (Nat.le_of_ble_eq_true rfl) rfl (Nat.zero_le _) (Nat.zero_le _) (c_X13_isOut) (mkI fun v4 h5 q6 => ?_)
  obtain ⟨rfl, q6⟩ := q6
  rcases q6 with ⟨rfl, q6⟩ | ⟨rfl, q6⟩
  · skip
    refine m_if_ne 17 25 dX13_fits_14 rfl rfl (fun c7 => ?_) (fun c7 => ?_)
    · exfalso; omega
    · skip
      refine m_aload_n 18 dX13_fits_17 rfl rfl (by decide) ?_
      refine m_iload_n 19 dX13_fits_18 rfl rfl ?_
      refine m_invokevirtual (K' := KX13_noFill) (As := [(0, a2)]) dX13_fits_19 (fun _ => by decide) ⟨lo_X13_noFill, li_X13⟩ (ci := 13) (r := 2468) rfl (by decide) (GI.lt g2 (by decide)) (gk2468 g2) ⟨lmX13_126, lv_X13_noFill_i, ls_X13_noFill⟩ ⟨rfl, cy_X13_noFill⟩ ⟨Nat.le_of_ble_eq_true rfl, Nat.le_of_ble_eq_true rfl⟩ (Nat.le_of_ble_eq_true rfl) rfl (Nat.zero_le _) (Nat.zero_le _) (c_X13_noFill g2) (mkI fun v8 h9 q10 => ?_)
      obtain ⟨rfl, q10⟩ := q10
      have f11 := gf2468_9 g2
      rcases q10 with ⟨rfl, q10⟩ | ⟨rfl, q10⟩
      · skip
        refine m_if_eq 25 27 dX13_fits_22 rfl rfl (fun c12 => ?_) (fun c12 => ?_)
        · skip
          refine m_aload_n 28 dX13_fits_27 rfl rfl (by decide) ?_
          refine m_getfieldC 31 dX13_fits_28 rfl (ci := 13) rfl lu_X13 (k := 20) (by decide) lfX13_57 (tag := 2) rfl (by decide) (GI.lt g2 (by decide)) (gk2468 g2) (gf2468_20 g2) ?_
          refine m_bipush 33 dX13_fits_31 rfl (by decide) ?_
          refine m_iload_n 34 dX13_fits_33 rfl rfl ?_
          refine m_imul 35 dX13_fits_34 rfl (by omega) ?_
          refine m_iload_n 36 dX13_fits_35 rfl rfl ?_
          refine m_iadd 37 dX13_fits_36 rfl (by omega) ?_
          refine m_iload_n 38 dX13_fits_37 rfl rfl ?_
          refine m_if_ne 41 45 dX13_fits_38 rfl rfl (fun c13 => ?_) (fun c13 => ?_)
          · skip
            refine m_iconst 46 dX13_fits_45 rfl (by decide) ?_
            refine m_zast 47 dX13_fits_46 rfl (by decide) (by decide) (GI.lt g2 (by decide)) (gk2484 g2) (by omega) (m_len (gl2484 g2) (by omega)) (by omega) ?_
            refine m_heap (fun h14 eh14 => ?_)
            have g15 : GI h14 := eh14 ▸ GI.set g2 (by decide) (fun _ => by show 0 ≤ _ ∧ _ ≤ 1; omega)
            have m16 : (h14.2 2468).2.2 0 = 0 := by rw [eh14]; exact m3
            clear eh14
            refine m_aload_n 48 dX13_fits_47 rfl rfl (by decide) ?_
            refine m_invokevirtual (K' := KX13_drop) (As := []) dX13_fits_48 (fun _ => by decide) ⟨lo_X13_drop, li_X13⟩ (ci := 13) (r := 2468) rfl (by decide) (GI.lt g15 (by decide)) (gk2468 g15) ⟨lmX13_118, lv_X13_drop_i, ls_X13_drop⟩ ⟨rfl, cy_X13_drop⟩ ⟨Nat.le_of_ble_eq_true rfl, Nat.le_of_ble_eq_true rfl⟩ (Nat.le_of_ble_eq_true rfl) rfl (Nat.zero_le _) (Nat.zero_le _) (c_X13_drop g15) (mkV fun h18 q19 => ?_)
            have g20 : GI h18 := q19
            refine m_iconst 52 dX13_fits_51 rfl (by decide) ?_
            exact m_ireturn dX13_fits_52 rfl (m_narZ (by omega)) (mqI ⟨g20, by omega⟩)
          · skip
            refine m_iconst 42 dX13_fits_41 rfl (by decide) ?_
            refine m_goto 46 dX13_fits_42 rfl ?_
            refine m_zast 47 dX13_fits_46 rfl (by decide) (by decide) (GI.lt g2 (by decide)) (gk2484 g2) (by omega) (m_len (gl2484 g2) (by omega)) (by omega) ?_
            refine m_heap (fun h21 eh21 => ?_)
            have g22 : GI h21 := eh21 ▸ GI.set g2 (by decide) (fun _ => by show 0 ≤ _ ∧ _ ≤ 1; omega)
            have m23 : (h21.2 2468).2.2 0 = 0 := by rw [eh21]; exact m3
            clear eh21
            refine m_aload_n 48 dX13_fits_47 rfl rfl (by decide) ?_
            refine m_invokevirtual (K' := KX13_drop) (As := []) dX13_fits_48 (fun _ => by decide) ⟨lo_X13_drop, li_X13⟩ (ci := 13) (r := 2468) rfl (by decide) (GI.lt g22 (by decide)) (gk2468 g22) ⟨lmX13_118, lv_X13_drop_i, ls_X13_drop⟩ ⟨rfl, cy_X13_drop⟩ ⟨Nat.le_of_ble_eq_true rfl, Nat.le_of_ble_eq_true rfl⟩ (Nat.le_of_ble_eq_true rfl) rfl (Nat.zero_le _) (Nat.zero_le _) (c_X13_drop g22) (mkV fun h25 q26 => ?_)
            have g27 : GI h25 := q26
            refine m_iconst 52 dX13_fits_51 rfl (by decide) ?_
            exact m_ireturn dX13_fits_52 rfl (m_narZ (by omega)) (mqI ⟨g27, by omega⟩)
        · exfalso; omega
      · skip
        refine m_if_eq 25 27 dX13_fits_22 rfl rfl (fun c28 => ?_) (fun c28 => ?_)
        · exfalso; omega
        · skip
          refine m_iconst 26 dX13_fits_25 rfl (by decide) ?_
          exact m_ireturn dX13_fits_26 rfl (m_narZ (by omega)) (mqI ⟨g2, by omega⟩)
  · skip
    refine m_if_ne 17 25 dX13_fits_14 rfl rfl (fun c29 => ?_) (fun c29 => ?_)
    · skip
      refine m_iconst 26 dX13_fits_25 rfl (by decide) ?_
      exact m_ireturn dX13_fits_26 rfl (m_narZ (by omega)) (mqI ⟨g2, by omega⟩)
    · exfalso; omega
theorem cy_X13_way : yX13_way.cls ≠ "java/lang/invoke/MethodHandle" ∧ yX13_way.cls ≠ "java/lang/invoke/VarHandle" ∧ (parseMethodDescriptor yX13_way.desc).map (fun d => d.parameters.length) = some 3 := by decide +kernel
theorem dX13_way_0 : decode KX13_way.2.2.1 0 = .ok (.aload_n 0, 1) := by decide +kernel
theorem dX13_way_1 : decode KX13_way.2.2.1 1 = .ok (.iconst 0, 1) := by decide +kernel
theorem dX13_way_2 : decode KX13_way.2.2.1 2 = .ok (.putfield 92, 3) := by decide +kernel
theorem dX13_way_5 : decode KX13_way.2.2.1 5 = .ok (.lload_n 1, 1) := by decide +kernel
theorem dX13_way_6 : decode KX13_way.2.2.1 6 = .ok (.lconst 0, 1) := by decide +kernel
theorem dX13_way_7 : decode KX13_way.2.2.1 7 = .ok (.ldc2_w 113, 3) := by decide +kernel
theorem dX13_way_10 : decode KX13_way.2.2.1 10 = .ok (.invokestatic 105, 3) := by decide +kernel
theorem dX13_way_13 : decode KX13_way.2.2.1 13 = .ok (.ifCond .ne 35, 3) := by decide +kernel
theorem dX13_way_16 : decode KX13_way.2.2.1 16 = .ok (.lload_n 3, 1) := by decide +kernel
theorem dX13_way_17 : decode KX13_way.2.2.1 17 = .ok (.lconst 0, 1) := by decide +kernel
theorem dX13_way_18 : decode KX13_way.2.2.1 18 = .ok (.ldc2_w 113, 3) := by decide +kernel
theorem dX13_way_21 : decode KX13_way.2.2.1 21 = .ok (.invokestatic 105, 3) := by decide +kernel
theorem dX13_way_24 : decode KX13_way.2.2.1 24 = .ok (.ifCond .ne 24, 3) := by decide +kernel
theorem dX13_way_27 : decode KX13_way.2.2.1 27 = .ok (.lload 5, 2) := by decide +kernel
theorem dX13_way_29 : decode KX13_way.2.2.1 29 = .ok (.lconst 0, 1) := by decide +kernel
theorem dX13_way_30 : decode KX13_way.2.2.1 30 = .ok (.ldc2_w 113, 3) := by decide +kernel
theorem dX13_way_33 : decode KX13_way.2.2.1 33 = .ok (.invokestatic 105, 3) := by decide +kernel
theorem dX13_way_36 : decode KX13_way.2.2.1 36 = .ok (.ifCond .ne 12, 3) := by decide +kernel
theorem dX13_way_39 : decode KX13_way.2.2.1 39 = .ok (.aload_n 0, 1) := by decide +kernel
theorem dX13_way_40 : decode KX13_way.2.2.1 40 = .ok (.getfield 130, 3) := by decide +kernel
theorem dX13_way_43 : decode KX13_way.2.2.1 43 = .ok (.bipush 6, 2) := by decide +kernel
theorem dX13_way_45 : decode KX13_way.2.2.1 45 = .ok (.if_icmp .ne 5, 3) := by decide +kernel
theorem dX13_way_48 : decode KX13_way.2.2.1 48 = .ok (.iconst (-1), 1) := by decide +kernel
theorem dX13_way_49 : decode KX13_way.2.2.1 49 = .ok (.ireturn, 1) := by decide +kernel
theorem dX13_way_50 : decode KX13_way.2.2.1 50 = .ok (.aload_n 0, 1) := by decide +kernel
theorem dX13_way_51 : decode KX13_way.2.2.1 51 = .ok (.getfield 37, 3) := by decide +kernel
theorem dX13_way_54 : decode KX13_way.2.2.1 54 = .ok (.aload_n 0, 1) := by decide +kernel
theorem dX13_way_55 : decode KX13_way.2.2.1 55 = .ok (.getfield 130, 3) := by decide +kernel
theorem dX13_way_58 : decode KX13_way.2.2.1 58 = .ok (.lload_n 1, 1) := by decide +kernel
theorem dX13_way_59 : decode KX13_way.2.2.1 59 = .ok (.l2i, 1) := by decide +kernel
theorem dX13_way_60 : decode KX13_way.2.2.1 60 = .ok (.iastore, 1) := by decide +kernel
theorem dX13_way_61 : decode KX13_way.2.2.1 61 = .ok (.aload_n 0, 1) := by decide +kernel
theorem dX13_way_62 : decode KX13_way.2.2.1 62 = .ok (.getfield 40, 3) := by decide +kernel
theorem dX13_way_65 : decode KX13_way.2.2.1 65 = .ok (.aload_n 0, 1) := by decide +kernel
theorem dX13_way_66 : decode KX13_way.2.2.1 66 = .ok (.getfield 130, 3) := by decide +kernel
theorem dX13_way_69 : decode KX13_way.2.2.1 69 = .ok (.lload_n 3, 1) := by decide +kernel
theorem dX13_way_70 : decode KX13_way.2.2.1 70 = .ok (.l2i, 1) := by decide +kernel
theorem dX13_way_71 : decode KX13_way.2.2.1 71 = .ok (.iastore, 1) := by decide +kernel
theorem dX13_way_72 : decode KX13_way.2.2.1 72 = .ok (.aload_n 0, 1) := by decide +kernel
theorem dX13_way_73 : decode KX13_way.2.2.1 73 = .ok (.getfield 43, 3) := by decide +kernel
theorem dX13_way_76 : decode KX13_way.2.2.1 76 = .ok (.aload_n 0, 1) := by decide +kernel
theorem dX13_way_77 : decode KX13_way.2.2.1 77 = .ok (.getfield 130, 3) := by decide +kernel
theorem dX13_way_80 : decode KX13_way.2.2.1 80 = .ok (.lload 5, 2) := by decide +kernel
theorem dX13_way_82 : decode KX13_way.2.2.1 82 = .ok (.l2i, 1) := by decide +kernel
theorem dX13_way_83 : decode KX13_way.2.2.1 83 = .ok (.iastore, 1) := by decide +kernel
theorem dX13_way_84 : decode KX13_way.2.2.1 84 = .ok (.aload_n 0, 1) := by decide +kernel
theorem dX13_way_85 : decode KX13_way.2.2.1 85 = .ok (.dup, 1) := by decide +kernel
theorem dX13_way_86 : decode KX13_way.2.2.1 86 = .ok (.getfield 130, 3) := by decide +kernel
theorem dX13_way_89 : decode KX13_way.2.2.1 89 = .ok (.iconst 1, 1) := by decide +kernel
theorem dX13_way_90 : decode KX13_way.2.2.1 90 = .ok (.iadd, 1) := by decide +kernel
theorem dX13_way_91 : decode KX13_way.2.2.1 91 = .ok (.putfield 130, 3) := by decide +kernel
theorem dX13_way_94 : decode KX13_way.2.2.1 94 = .ok (.aload_n 0, 1) := by decide +kernel
theorem dX13_way_95 : decode KX13_way.2.2.1 95 = .ok (.invokevirtual 118, 3) := by decide +kernel
theorem dX13_way_98 : decode KX13_way.2.2.1 98 = .ok (.aload_n 0, 1) := by decide +kernel
theorem dX13_way_99 : decode KX13_way.2.2.1 99 = .ok (.getfield 130, 3) := by decide +kernel
theorem dX13_way_102 : decode KX13_way.2.2.1 102 = .ok (.iconst 1, 1) := by decide +kernel
theorem dX13_way_103 : decode KX13_way.2.2.1 103 = .ok (.isub, 1) := by decide +kernel
theorem dX13_way_104 : decode KX13_way.2.2.1 104 = .ok (.ireturn, 1) := by decide +kernel
abbrev q_X13_way (a1 a2 a3 : Int) (h : MH) : MO → MH → Prop := mRI fun v h' => GI h' ∧ (-1) ≤ v ∧ v ≤ 5
set_option maxRecDepth 20000 in
theorem c_X13_way {a1 a2 a3 : Int} {h : MH} (g : GI h) : MCal KX13_way yX13_way 0 0 [(2, 2468), (1, a1), (1, a2), (1, a3)] h (q_X13_way a1 a2 a3 h) := by
  refine MCal.ofMW (Or.inl rfl) ⟨cp_X13, rfl⟩ (Nat.le_of_ble_eq_true rfl) ?_
  change MW _ _ _ _ _ [(0, (2, 2468)), (1, (1, a1)), (3, (1, a2)), (5, (1, a3))] _ _
  refine m_locL (i := 1) rfl (fun ua1 wa1 => ?_)
  refine m_locL (i := 3) rfl (fun ua2 wa2 => ?_)
  refine m_locL (i := 5) rfl (fun ua3 wa3 => ?_)
  refine m_aload_n 1 dX13_way_0 rfl rfl (by decide) ?_
  refine m_iconst 2 dX13_way_1 rfl (by decide) ?_
  refine m_putfield 5 dX13_way_2 rfl (ci := 13) rfl lu_X13 tyX13_ok nmX13 (k := 0) (by decide) (Or.inl rfl) lfX13_92 (tag := 0) rfl (fun _ => rfl) (fun _ => rfl) (by decide) (GI.lt g (by decide)) (gk2468 g) ?_
  refine m_heap (fun h1 eh1 => ?_)
  have g2 : GI h1 := eh1 ▸ GI.set g (by decide) (fun _ => by show 0 ≤ _ ∧ _ ≤ 1; omega)
  have m3 : (h1.2 2468).2.2 0 = 0 := by rw [eh1]; rfl
  clear eh1
  refine m_lload_n 6 dX13_way_5 rfl rfl ?_
  refine m_lconst 7 dX13_way_6 rfl ?_
  refine m_ldc2 (n := 100000) 10 dX13_way_7 rfl lcX13_113 rfl (by decide) ?_
  refine m_invokestatic (K' := KX13_isOut) (As := [(1, a1), (1, 0), (1, 100000)]) dX13_way_10 (fun _ => by decide) ⟨lo_X13_isOut, li_X13⟩ ⟨lmX13_105, lv_X13_isOut_s⟩ ⟨rfl, cy_X13_isOut⟩ ⟨Nat.le_of_ble_eq_true rfl, Nat.le_of_ble_eq_true rfl⟩ (Nat.le_of_ble_eq_true rfl) rfl (Nat.zero_le _) (Nat.zero_le _) (c_X13_isOut) (mkI fun v4 h5 q6 => ?_)
  obtain ⟨rfl, q6⟩ := q6
  rcases q6 with ⟨rfl, q6⟩ | ⟨rfl, q6⟩
  · skip
    refine m_if_ne 16 48 dX13_way_13 rfl rfl (fun c7 => ?_) (fun c7 => ?_)
    · exfalso; omega
    · skip
      refine m_lload_n 17 dX13_way_16 rfl rfl ?_
      refine m_lconst 18 dX13_way_17 rfl ?_
      refine m_ldc2 (n := 100000) 21 dX13_way_18 rfl lcX13_113 rfl (by decide) ?_
      refine m_invokestatic (K' := KX13_isOut) (As := [(1, a2), (1, 0), (1, 100000)]) dX13_way_21 (fun _ => by decide) ⟨lo_X13_isOut, li_X13⟩ ⟨lmX13_105, lv_X13_isOut_s⟩ ⟨rfl, cy_X13_isOut⟩ ⟨Nat.le_of_ble_eq_true rfl, Nat.le_of_ble_eq_true rfl⟩ (Nat.le_of_ble_eq_true rfl) rfl (Nat.zero_le _) (Nat.zero_le _) (c_X13_isOut) (mkI fun v8 h9 q10 => ?_)
      obtain ⟨rfl, q10⟩ := q10
      rcases q10 with ⟨rfl, q10⟩ | ⟨rfl, q10⟩
      · skip
        refine m_if_ne 27 48 dX13_way_24 rfl rfl (fun c11 => ?_) (fun c11 => ?_)
        · exfalso; omega
        · skip
          refine m_lload 29 dX13_way_27 rfl rfl ?_
          refine m_lconst 30 dX13_way_29 rfl ?_
          refine m_ldc2 (n := 100000) 33 dX13_way_30 rfl lcX13_113 rfl (by decide) ?_
          refine m_invokestatic (K' := KX13_isOut) (As := [(1, a3), (1, 0), (1, 100000)]) dX13_way_33 (fun _ => by decide) ⟨lo_X13_isOut, li_X13⟩ ⟨lmX13_105, lv_X13_isOut_s⟩ ⟨rfl, cy_X13_isOut⟩ ⟨Nat.le_of_ble_eq_true rfl, Nat.le_of_ble_eq_true rfl⟩ (Nat.le_of_ble_eq_true rfl) rfl (Nat.zero_le _) (Nat.zero_le _) (c_X13_isOut) (mkI fun v12 h13 q14 => ?_)
          obtain ⟨rfl, q14⟩ := q14
          rcases q14 with ⟨rfl, q14⟩ | ⟨rfl, q14⟩
          · skip
            refine m_if_ne 39 48 dX13_way_36 rfl rfl (fun c15 => ?_) (fun c15 => ?_)
            · exfalso; omega
            · skip
              refine m_aload_n 40 dX13_way_39 rfl rfl (by decide) ?_
              refine m_getfield 43 dX13_way_40 rfl (ci := 13) rfl lu_X13 (k := 13) (by decide) lfX13_130 (tag := 0) rfl (by decide) (GI.lt g2 (by decide)) (gk2468 g2) (fun v16 (ev16 : v16 = (h1.2 2468).2.2 13) _ => ?_)
              have bv16 : 0 ≤ v16 ∧ v16 ≤ 6 := by rw [ev16]; exact gf2468_13 g2
              refine m_bipush 45 dX13_way_43 rfl (by decide) ?_
              refine m_ic_ne 48 50 dX13_way_45 rfl rfl (fun c17 => ?_) (fun c17 => ?_)
              · skip
                refine m_aload_n 51 dX13_way_50 rfl rfl (by decide) ?_
                refine m_getfieldC 54 dX13_way_51 rfl (ci := 13) rfl lu_X13 (k := 14) (by decide) lfX13_37 (tag := 2) rfl (by decide) (GI.lt g2 (by decide)) (gk2468 g2) (gf2468_14 g2) ?_
                refine m_aload_n 55 dX13_way_54 rfl rfl (by decide) ?_
                refine m_getfield 58 dX13_way_55 rfl (ci := 13) rfl lu_X13 (k := 13) (by decide) lfX13_130 (tag := 0) rfl (by decide) (GI.lt g2 (by decide)) (gk2468 g2) (fun v18 (ev18 : v18 = (h1.2 2468).2.2 13) _ => ?_)
                have bv18 : 0 ≤ v18 ∧ v18 ≤ 6 := by rw [ev18]; exact gf2468_13 g2
                have qv18 : v16 = v18 := (ev18.trans ev16.symm).symm
                subst qv18
                refine m_lload_n 59 dX13_way_58 rfl rfl ?_
                refine m_l2i 60 dX13_way_59 rfl (by omega) ?_
                refine m_iast 61 dX13_way_60 rfl (by decide) (by decide) (GI.lt g2 (by decide)) (gk2478 g2) (by omega) (m_len (gl2478 g2) (by omega)) ?_
                refine m_heap (fun h19 eh19 => ?_)
                have g20 : GI h19 := eh19 ▸ GI.set g2 (by decide) (fun _ => by show 0 ≤ _ ∧ _ ≤ 100000; omega)
                have m21 : (h19.2 2468).2.2 0 = 0 := by rw [eh19]; exact m3
                have m22 : (h19.2 2468).2.2 13 = v16 := by rw [eh19]; exact ev16.symm
                clear eh19
                refine m_aload_n 62 dX13_way_61 rfl rfl (by decide) ?_
                refine m_getfieldC 65 dX13_way_62 rfl (ci := 13) rfl lu_X13 (k := 15) (by decide) lfX13_40 (tag := 2) rfl (by decide) (GI.lt g20 (by decide)) (gk2468 g20) (gf2468_15 g20) ?_
                refine m_aload_n 66 dX13_way_65 rfl rfl (by decide) ?_
                refine m_getfield 69 dX13_way_66 rfl (ci := 13) rfl lu_X13 (k := 13) (by decide) lfX13_130 (tag := 0) rfl (by decide) (GI.lt g20 (by decide)) (gk2468 g20) (fun v23 (ev23 : v23 = (h19.2 2468).2.2 13) _ => ?_)
                have bv23 : 0 ≤ v23 ∧ v23 ≤ 6 := by rw [ev23]; exact gf2468_13 g20
                have qv23 : v16 = v23 := (ev23.trans m22).symm
                subst qv23
                refine m_lload_n 70 dX13_way_69 rfl rfl ?_
                refine m_l2i 71 dX13_way_70 rfl (by omega) ?_
                refine m_iast 72 dX13_way_71 rfl (by decide) (by decide) (GI.lt g20 (by decide)) (gk2479 g20) (by omega) (m_len (gl2479 g20) (by omega)) ?_
                refine m_heap (fun h24 eh24 => ?_)
                have g25 : GI h24 := eh24 ▸ GI.set g20 (by decide) (fun _ => by show 0 ≤ _ ∧ _ ≤ 100000; omega)
                have m26 : (h24.2 2468).2.2 0 = 0 := by rw [eh24]; exact m21
                have m27 : (h24.2 2468).2.2 13 = v16 := by rw [eh24]; exact m22
                clear eh24
                refine m_aload_n 73 dX13_way_72 rfl rfl (by decide) ?_
                refine m_getfieldC 76 dX13_way_73 rfl (ci := 13) rfl lu_X13 (k := 16) (by decide) lfX13_43 (tag := 2) rfl (by decide) (GI.lt g25 (by decide)) (gk2468 g25) (gf2468_16 g25) ?_
                refine m_aload_n 77 dX13_way_76 rfl rfl (by decide) ?_
                refine m_getfield 80 dX13_way_77 rfl (ci := 13) rfl lu_X13 (k := 13) (by decide) lfX13_130 (tag := 0) rfl (by decide) (GI.lt g25 (by decide)) (gk2468 g25) (fun v28 (ev28 : v28 = (h24.2 2468).2.2 13) _ => ?_)
                have bv28 : 0 ≤ v28 ∧ v28 ≤ 6 := by rw [ev28]; exact gf2468_13 g25
                have qv28 : v16 = v28 := (ev28.trans m27).symm
                subst qv28
                refine m_lload 82 dX13_way_80 rfl rfl ?_
                refine m_l2i 83 dX13_way_82 rfl (by omega) ?_
                refine m_iast 84 dX13_way_83 rfl (by decide) (by decide) (GI.lt g25 (by decide)) (gk2480 g25) (by omega) (m_len (gl2480 g25) (by omega)) ?_
                refine m_heap (fun h29 eh29 => ?_)
                have g30 : GI h29 := eh29 ▸ GI.set g25 (by decide) (fun _ => by show 0 ≤ _ ∧ _ ≤ 100000; omega)
                have m31 : (h29.2 2468).2.2 0 = 0 := by rw [eh29]; exact m26
                have m32 : (h29.2 2468).2.2 13 = v16 := by rw [eh29]; exact m27
                clear eh29
                refine m_aload_n 85 dX13_way_84 rfl rfl (by decide) ?_
                refine m_dup 86 dX13_way_85 rfl rfl ?_
                refine m_getfield 89 dX13_way_86 rfl (ci := 13) rfl lu_X13 (k := 13) (by decide) lfX13_130 (tag := 0) rfl (by decide) (GI.lt g30 (by decide)) (gk2468 g30) (fun v33 (ev33 : v33 = (h29.2 2468).2.2 13) _ => ?_)
                have bv33 : 0 ≤ v33 ∧ v33 ≤ 6 := by rw [ev33]; exact gf2468_13 g30
                have qv33 : v16 = v33 := (ev33.trans m32).symm
                subst qv33
                refine m_iconst 90 dX13_way_89 rfl (by decide) ?_
                refine m_iadd 91 dX13_way_90 rfl (by omega) ?_
                refine m_putfield 94 dX13_way_91 rfl (ci := 13) rfl lu_X13 tyX13_ok nmX13 (k := 13) (by decide) (Or.inl rfl) lfX13_130 (tag := 0) rfl (fun _ => rfl) (fun _ => rfl) (by decide) (GI.lt g30 (by decide)) (gk2468 g30) ?_
                refine m_heap (fun h34 eh34 => ?_)
                have g35 : GI h34 := eh34 ▸ GI.set g30 (by decide) (fun _ => by show 0 ≤ _ ∧ _ ≤ 6; omega)
                have m36 : (h34.2 2468).2.2 0 = 0 := by rw [eh34]; exact m31
                have m37 : (h34.2 2468).2.2 13 = (v16 + 1) := by rw [eh34]; rfl
                clear eh34
                refine m_aload_n 95 dX13_way_94 rfl rfl (by decide) ?_
                refine m_invokevirtual (K' := KX13_drop) (As := []) dX13_way_95 (fun _ => by decide) ⟨lo_X13_drop, li_X13⟩ (ci := 13) (r := 2468) rfl (by decide) (GI.lt g35 (by decide)) (gk2468 g35) ⟨lmX13_118, lv_X13_drop_i, ls_X13_drop⟩ ⟨rfl, cy_X13_drop⟩ ⟨Nat.le_of_ble_eq_true rfl, Nat.le_of_ble_eq_true rfl⟩ (Nat.le_of_ble_eq_true rfl) rfl (Nat.zero_le _) (Nat.zero_le _) (c_X13_drop g35) (mkV fun h39 q40 => ?_)
                have g41 : GI h39 := q40
                refine m_aload_n 99 dX13_way_98 rfl rfl (by decide) ?_
                refine m_getfield 102 dX13_way_99 rfl (ci := 13) rfl lu_X13 (k := 13) (by decide) lfX13_130 (tag := 0) rfl (by decide) (GI.lt g41 (by decide)) (gk2468 g41) (fun v42 (ev42 : v42 = (h39.2 2468).2.2 13) _ => ?_)
                have bv42 : 0 ≤ v42 ∧ v42 ≤ 6 := by rw [ev42]; exact gf2468_13 g41
                refine m_iconst 103 dX13_way_102 rfl (by decide) ?_
                refine m_isub 104 dX13_way_103 rfl (by omega) ?_
                exact m_ireturn dX13_way_104 rfl rfl (mqI ⟨g41, by omega⟩)
              · skip
                refine m_iconst 49 dX13_way_48 rfl (by decide) ?_
                exact m_ireturn dX13_way_49 rfl rfl (mqI ⟨g2, by omega⟩)
          · skip
            refine m_if_ne 39 48 dX13_way_36 rfl rfl (fun c43 => ?_) (fun c43 => ?_)
            · skip
              refine m_iconst 49 dX13_way_48 rfl (by decide) ?_
              exact m_ireturn dX13_way_49 rfl rfl (mqI ⟨g2, by omega⟩)
            · exfalso; omega
      · skip
        refine m_if_ne 27 48 dX13_way_24 rfl rfl (fun c44 => ?_) (fun c44 => ?_)
        · skip
          refine m_iconst 49 dX13_way_48 rfl (by decide) ?_
          exact m_ireturn dX13_way_49 rfl rfl (mqI ⟨g2, by omega⟩)
        · exfalso; omega
  · skip
    refine m_if_ne 16 48 dX13_way_13 rfl rfl (fun c45 => ?_) (fun c45 => ?_)
    · skip
      refine m_iconst 49 dX13_way_48 rfl (by decide) ?_
      exact m_ireturn dX13_way_49 rfl rfl (mqI ⟨g2, by omega⟩)
    · exfalso; omega
theorem cy_X13_noWay : yX13_noWay.cls ≠ "java/lang/invoke/MethodHandle" ∧ yX13_noWay.cls ≠ "java/lang/invoke/VarHandle" ∧ (parseMethodDescriptor yX13_noWay.desc).map (fun d => d.parameters.length) = some 1 := by decide +kernel
theorem dX13_noWay_0 : decode KX13_noWay.2.2.1 0 = .ok (.iload_n 1, 1) := by decide +kernel
theorem dX13_noWay_1 : decode KX13_noWay.2.2.1 1 = .ok (.ifCond .lt 11, 3) := by decide +kernel
theorem dX13_noWay_4 : decode KX13_noWay.2.2.1 4 = .ok (.iload_n 1, 1) := by decide +kernel
theorem dX13_noWay_5 : decode KX13_noWay.2.2.1 5 = .ok (.aload_n 0, 1) := by decide +kernel
theorem dX13_noWay_6 : decode KX13_noWay.2.2.1 6 = .ok (.getfield 130, 3) := by decide +kernel
theorem dX13_noWay_9 : decode KX13_noWay.2.2.1 9 = .ok (.if_icmp .lt 7, 3) := by decide +kernel
theorem dX13_noWay_12 : decode KX13_noWay.2.2.1 12 = .ok (.iconst 1, 1) := by decide +kernel
theorem dX13_noWay_13 : decode KX13_noWay.2.2.1 13 = .ok (.goto 4, 3) := by decide +kernel
theorem dX13_noWay_16 : decode KX13_noWay.2.2.1 16 = .ok (.iconst 0, 1) := by decide +kernel
theorem dX13_noWay_17 : decode KX13_noWay.2.2.1 17 = .ok (.ireturn, 1) := by decide +kernel
abbrev q_X13_noWay (a1 : Int) (h : MH) : MO → MH → Prop := mRI fun v h' => h = h' ∧ ((v = 0 ∧ ((a1 ≥ 0 ∧ a1 < (h.2 2468).2.2 13))) ∨ (v = 1 ∧ ((a1 < 0) ∨ (a1 ≥ 0 ∧ a1 ≥ (h.2 2468).2.2 13))))
set_option maxRecDepth 20000 in
theorem c_X13_noWay {a1 : Int} {h : MH} (g : GI h) : MCal KX13_noWay yX13_noWay 0 0 [(2, 2468), (0, a1)] h (q_X13_noWay a1 h) := by
  refine MCal.ofMW (Or.inl rfl) ⟨cp_X13, rfl⟩ (Nat.le_of_ble_eq_true rfl) ?_
  change MW _ _ _ _ _ [(0, (2, 2468)), (1, (0, a1))] _ _
  refine m_locI (i := 1) rfl (fun ua1 wa1 => ?_)
  refine m_iload_n 1 dX13_noWay_0 rfl rfl ?_
  refine m_if_lt 4 12 dX13_noWay_1 rfl rfl (fun c1 => ?_) (fun c1 => ?_)
  · skip
    refine m_iconst 13 dX13_noWay_12 rfl (by decide) ?_
    refine m_goto 17 dX13_noWay_13 rfl ?_
    exact m_ireturn dX13_noWay_17 rfl (m_narZ (by omega)) (mqI ⟨rfl, Or.inr (⟨rfl, by omega⟩)⟩)
  · skip
    refine m_iload_n 5 dX13_noWay_4 rfl rfl ?_
    refine m_aload_n 6 dX13_noWay_5 rfl rfl (by decide) ?_
    refine m_getfield 9 dX13_noWay_6 rfl (ci := 13) rfl lu_X13 (k := 13) (by decide) lfX13_130 (tag := 0) rfl (by decide) (GI.lt g (by decide)) (gk2468 g) (fun v2 (ev2 : v2 = (h.2 2468).2.2 13) _ => ?_)
    have bv2 : 0 ≤ v2 ∧ v2 ≤ 6 := by rw [ev2]; exact gf2468_13 g
    refine m_ic_lt 12 16 dX13_noWay_9 rfl rfl (fun c3 => ?_) (fun c3 => ?_)
    · skip
      refine m_iconst 17 dX13_noWay_16 rfl (by decide) ?_
      exact m_ireturn dX13_noWay_17 rfl (m_narZ (by omega)) (mqI ⟨rfl, Or.inl ⟨rfl, by omega⟩⟩)
    · skip
      refine m_iconst 13 dX13_noWay_12 rfl (by decide) ?_
      refine m_goto 17 dX13_noWay_13 rfl ?_
      exact m_ireturn dX13_noWay_17 rfl (m_narZ (by omega)) (mqI ⟨rfl, Or.inr (⟨rfl, by omega⟩)⟩)
theorem cy_X13_bar : yX13_bar.cls ≠ "java/lang/invoke/MethodHandle" ∧ yX13_bar.cls ≠ "java/lang/invoke/VarHandle" ∧ (parseMethodDescriptor yX13_bar.desc).map (fun d => d.parameters.length) = some 3 := by decide +kernel
theorem dX13_bar_0 : decode KX13_bar.2.2.1 0 = .ok (.aload_n 0, 1) := by decide +kernel
theorem dX13_bar_1 : decode KX13_bar.2.2.1 1 = .ok (.iconst 0, 1) := by decide +kernel
theorem dX13_bar_2 : decode KX13_bar.2.2.1 2 = .ok (.putfield 92, 3) := by decide +kernel
theorem dX13_bar_5 : decode KX13_bar.2.2.1 5 = .ok (.aload_n 0, 1) := by decide +kernel
theorem dX13_bar_6 : decode KX13_bar.2.2.1 6 = .ok (.iload_n 1, 1) := by decide +kernel
theorem dX13_bar_7 : decode KX13_bar.2.2.1 7 = .ok (.invokevirtual 133, 3) := by decide +kernel
theorem dX13_bar_10 : decode KX13_bar.2.2.1 10 = .ok (.ifCond .ne 32, 3) := by decide +kernel
theorem dX13_bar_13 : decode KX13_bar.2.2.1 13 = .ok (.iload_n 2, 1) := by decide +kernel
theorem dX13_bar_14 : decode KX13_bar.2.2.1 14 = .ok (.i2l, 1) := by decide +kernel
theorem dX13_bar_15 : decode KX13_bar.2.2.1 15 = .ok (.lconst 0, 1) := by decide +kernel
theorem dX13_bar_16 : decode KX13_bar.2.2.1 16 = .ok (.ldc2_w 111, 3) := by decide +kernel
theorem dX13_bar_19 : decode KX13_bar.2.2.1 19 = .ok (.invokestatic 105, 3) := by decide +kernel
theorem dX13_bar_22 : decode KX13_bar.2.2.1 22 = .ok (.ifCond .ne 20, 3) := by decide +kernel
theorem dX13_bar_25 : decode KX13_bar.2.2.1 25 = .ok (.iload_n 3, 1) := by decide +kernel
theorem dX13_bar_26 : decode KX13_bar.2.2.1 26 = .ok (.i2l, 1) := by decide +kernel
theorem dX13_bar_27 : decode KX13_bar.2.2.1 27 = .ok (.lconst 0, 1) := by decide +kernel
theorem dX13_bar_28 : decode KX13_bar.2.2.1 28 = .ok (.ldc2_w 111, 3) := by decide +kernel
theorem dX13_bar_31 : decode KX13_bar.2.2.1 31 = .ok (.invokestatic 105, 3) := by decide +kernel
theorem dX13_bar_34 : decode KX13_bar.2.2.1 34 = .ok (.ifCond .ne 8, 3) := by decide +kernel
theorem dX13_bar_37 : decode KX13_bar.2.2.1 37 = .ok (.iload_n 2, 1) := by decide +kernel
theorem dX13_bar_38 : decode KX13_bar.2.2.1 38 = .ok (.iload_n 3, 1) := by decide +kernel
theorem dX13_bar_39 : decode KX13_bar.2.2.1 39 = .ok (.if_icmp .le 5, 3) := by decide +kernel
theorem dX13_bar_42 : decode KX13_bar.2.2.1 42 = .ok (.iconst 0, 1) := by decide +kernel
theorem dX13_bar_43 : decode KX13_bar.2.2.1 43 = .ok (.ireturn, 1) := by decide +kernel
theorem dX13_bar_44 : decode KX13_bar.2.2.1 44 = .ok (.iload_n 2, 1) := by decide +kernel
theorem dX13_bar_45 : decode KX13_bar.2.2.1 45 = .ok (.istore 4, 2) := by decide +kernel
theorem dX13_bar_47 : decode KX13_bar.2.2.1 47 = .ok (.iload 4, 2) := by decide +kernel
theorem dX13_bar_49 : decode KX13_bar.2.2.1 49 = .ok (.iload_n 3, 1) := by decide +kernel
theorem dX13_bar_50 : decode KX13_bar.2.2.1 50 = .ok (.if_icmp .gt 22, 3) := by decide +kernel
theorem dX13_bar_53 : decode KX13_bar.2.2.1 53 = .ok (.aload_n 0, 1) := by decide +kernel
theorem dX13_bar_54 : decode KX13_bar.2.2.1 54 = .ok (.getfield 46, 3) := by decide +kernel
theorem dX13_bar_57 : decode KX13_bar.2.2.1 57 = .ok (.bipush 12, 2) := by decide +kernel
theorem dX13_bar_59 : decode KX13_bar.2.2.1 59 = .ok (.iload_n 1, 1) := by decide +kernel
theorem dX13_bar_60 : decode KX13_bar.2.2.1 60 = .ok (.imul, 1) := by decide +kernel
theorem dX13_bar_61 : decode KX13_bar.2.2.1 61 = .ok (.iload 4, 2) := by decide +kernel
theorem dX13_bar_63 : decode KX13_bar.2.2.1 63 = .ok (.iadd, 1) := by decide +kernel
theorem dX13_bar_64 : decode KX13_bar.2.2.1 64 = .ok (.iconst 1, 1) := by decide +kernel
theorem dX13_bar_65 : decode KX13_bar.2.2.1 65 = .ok (.bastore, 1) := by decide +kernel
theorem dX13_bar_66 : decode KX13_bar.2.2.1 66 = .ok (.iinc 4 1, 3) := by decide +kernel
theorem dX13_bar_69 : decode KX13_bar.2.2.1 69 = .ok (.goto (-22), 3) := by decide +kernel
theorem dX13_bar_72 : decode KX13_bar.2.2.1 72 = .ok (.aload_n 0, 1) := by decide +kernel
theorem dX13_bar_73 : decode KX13_bar.2.2.1 73 = .ok (.invokevirtual 118, 3) := by decide +kernel
theorem dX13_bar_76 : decode KX13_bar.2.2.1 76 = .ok (.iconst 1, 1) := by decide +kernel
theorem dX13_bar_77 : decode KX13_bar.2.2.1 77 = .ok (.ireturn, 1) := by decide +kernel
abbrev q_X13_bar (a1 a2 a3 : Int) (h : MH) : MO → MH → Prop := mRI fun v h' => GI h' ∧ 0 ≤ v ∧ v ≤ 1
set_option maxRecDepth 20000 in
theorem c_X13_bar {a1 a2 a3 : Int} {h : MH} (g : GI h) : MCal KX13_bar yX13_bar 0 0 [(2, 2468), (0, a1), (0, a2), (0, a3)] h (q_X13_bar a1 a2 a3 h) := by
  refine MCal.ofMW (Or.inl rfl) ⟨cp_X13, rfl⟩ (Nat.le_of_ble_eq_true rfl) ?_
  change MW _ _ _ _ _ [(0, (2, 2468)), (1, (0, a1)), (2, (0, a2)), (3, (0, a3))] _ _
  refine m_locI (i := 1) rfl (fun ua1 wa1 => ?_)
  refine m_locI (i := 2) rfl (fun ua2 wa2 => ?_)
  refine m_locI (i := 3) rfl (fun ua3 wa3 => ?_)
  refine m_aload_n 1 dX13_bar_0 rfl rfl (by decide) ?_
  refine m_iconst 2 dX13_bar_1 rfl (by decide) ?_
  refine m_putfield 5 dX13_bar_2 rfl (ci := 13) rfl lu_X13 tyX13_ok nmX13 (k := 0) (by decide) (Or.inl rfl) lfX13_92 (tag := 0) rfl (fun _ => rfl) (fun _ => rfl) (by decide) (GI.lt g (by decide)) (gk2468 g) ?_
  refine m_heap (fun h1 eh1 => ?_)
  have g2 : GI h1 := eh1 ▸ GI.set g (by decide) (fun _ => by show 0 ≤ _ ∧ _ ≤ 1; omega)
  have m3 : (h1.2 2468).2.2 0 = 0 := by rw [eh1]; rfl
  clear eh1
  refine m_aload_n 6 dX13_bar_5 rfl rfl (by decide) ?_
  refine m_iload_n 7 dX13_bar_6 rfl rfl ?_
  refine m_invokevirtual (K' := KX13_noWay) (As := [(0, a1)]) dX13_bar_7 (fun _ => by decide) ⟨lo_X13_noWay, li_X13⟩ (ci := 13) (r := 2468) rfl (by decide) (GI.lt g2 (by decide)) (gk2468 g2) ⟨lmX13_133, lv_X13_noWay_i, ls_X13_noWay⟩ ⟨rfl, cy_X13_noWay⟩ ⟨Nat.le_of_ble_eq_true rfl, Nat.le_of_ble_eq_true rfl⟩ (Nat.le_of_ble_eq_true rfl) rfl (Nat.zero_le _) (Nat.zero_le _) (c_X13_noWay g2) (mkI fun v4 h5 q6 => ?_)
  obtain ⟨rfl, q6⟩ := q6
  have f7 := gf2468_13 g2
  rcases q6 with ⟨rfl, q6⟩ | ⟨rfl, q6⟩
  · skip
    refine m_if_ne 13 42 dX13_bar_10 rfl rfl (fun c8 => ?_) (fun c8 => ?_)
    · exfalso; omega
    · skip
      refine m_iload_n 14 dX13_bar_13 rfl rfl ?_
      refine m_i2l 15 dX13_bar_14 rfl ?_
      refine m_lconst 16 dX13_bar_15 rfl ?_
      refine m_ldc2 (n := 11) 19 dX13_bar_16 rfl lcX13_111 rfl (by decide) ?_
      refine m_invokestatic (K' := KX13_isOut) (As := [(1, a2), (1, 0), (1, 11)]) dX13_bar_19 (fun _ => by decide) ⟨lo_X13_isOut, li_X13⟩ ⟨lmX13_105, lv_X13_isOut_s⟩ ⟨rfl, cy_X13_isOut⟩ ⟨Nat.le_of_ble_eq_true rfl, Nat.le_of_ble_eq_true rfl⟩ (Nat.le_of_ble_eq_true rfl) rfl (Nat.zero_le _) (Nat.zero_le _) (c_X13_isOut) (mkI fun v9 h10 q11 => ?_)
      obtain ⟨rfl, q11⟩ := q11
      rcases q11 with ⟨rfl, q11⟩ | ⟨rfl, q11⟩
      · skip
        refine m_if_ne 25 42 dX13_bar_22 rfl rfl (fun c12 => ?_) (fun c12 => ?_)
        · exfalso; omega
        · skip
          refine m_iload_n 26 dX13_bar_25 rfl rfl ?_
          refine m_i2l 27 dX13_bar_26 rfl ?_
          refine m_lconst 28 dX13_bar_27 rfl ?_
          refine m_ldc2 (n := 11) 31 dX13_bar_28 rfl lcX13_111 rfl (by decide) ?_
          refine m_invokestatic (K' := KX13_isOut) (As := [(1, a3), (1, 0), (1, 11)]) dX13_bar_31 (fun _ => by decide) ⟨lo_X13_isOut, li_X13⟩ ⟨lmX13_105, lv_X13_isOut_s⟩ ⟨rfl, cy_X13_isOut⟩ ⟨Nat.le_of_ble_eq_true rfl, Nat.le_of_ble_eq_true rfl⟩ (Nat.le_of_ble_eq_true rfl) rfl (Nat.zero_le _) (Nat.zero_le _) (c_X13_isOut) (mkI fun v13 h14 q15 => ?_)
          obtain ⟨rfl, q15⟩ := q15
          rcases q15 with ⟨rfl, q15⟩ | ⟨rfl, q15⟩
          · skip
            refine m_if_ne 37 42 dX13_bar_34 rfl rfl (fun c16 => ?_) (fun c16 => ?_)
            · exfalso; omega
            · skip
              refine m_iload_n 38 dX13_bar_37 rfl rfl ?_
              refine m_iload_n 39 dX13_bar_38 rfl rfl ?_
              refine m_ic_le 42 44 dX13_bar_39 rfl rfl (fun c17 => ?_) (fun c17 => ?_)
              · skip
                refine m_iload_n 45 dX13_bar_44 rfl rfl ?_
                refine m_istore 47 dX13_bar_45 rfl (by decide) ?_
                have lp47 : ∀ (n : Nat) (x18 : Int) (h19 : MH), GI h19 → (0 ≤ x18 ∧ x18 ≤ 12) → (12 - x18).toNat = n → MW KX13_bar (q_X13_bar a1 a2 a3 h) 0 0 47 [(0, (2, 2468)), (1, (0, a1)), (3, (0, a3)), (4, (0, x18))] [] h19 := by
                  intro n
                  induction n using Nat.strongRecOn with
                  | _ n ih47 =>
                  intro x18 h19 g20 b21 hm47
                  refine m_iload 49 dX13_bar_47 rfl rfl ?_
                  refine m_iload_n 50 dX13_bar_49 rfl rfl ?_
                  refine m_ic_gt 53 72 dX13_bar_50 rfl rfl (fun c22 => ?_) (fun c22 => ?_)
                  · skip
                    refine m_aload_n 73 dX13_bar_72 rfl rfl (by decide) ?_
                    refine m_invokevirtual (K' := KX13_drop) (As := []) dX13_bar_73 (fun _ => by decide) ⟨lo_X13_drop, li_X13⟩ (ci := 13) (r := 2468) rfl (by decide) (GI.lt g20 (by decide)) (gk2468 g20) ⟨lmX13_118, lv_X13_drop_i, ls_X13_drop⟩ ⟨rfl, cy_X13_drop⟩ ⟨Nat.le_of_ble_eq_true rfl, Nat.le_of_ble_eq_true rfl⟩ (Nat.le_of_ble_eq_true rfl) rfl (Nat.zero_le _) (Nat.zero_le _) (c_X13_drop g20) (mkV fun h24 q25 => ?_)
                    have g26 : GI h24 := q25
                    refine m_iconst 77 dX13_bar_76 rfl (by decide) ?_
                    exact m_ireturn dX13_bar_77 rfl (m_narZ (by omega)) (mqI ⟨g26, by omega⟩)
                  · skip
                    refine m_aload_n 54 dX13_bar_53 rfl rfl (by decide) ?_
                    refine m_getfieldC 57 dX13_bar_54 rfl (ci := 13) rfl lu_X13 (k := 17) (by decide) lfX13_46 (tag := 2) rfl (by decide) (GI.lt g20 (by decide)) (gk2468 g20) (gf2468_17 g20) ?_
                    refine m_bipush 59 dX13_bar_57 rfl (by decide) ?_
                    refine m_iload_n 60 dX13_bar_59 rfl rfl ?_
                    refine m_imul 61 dX13_bar_60 rfl (by omega) ?_
                    refine m_iload 63 dX13_bar_61 rfl rfl ?_
                    refine m_iadd 64 dX13_bar_63 rfl (by omega) ?_
                    refine m_iconst 65 dX13_bar_64 rfl (by decide) ?_
                    refine m_zast 66 dX13_bar_65 rfl (by decide) (by decide) (GI.lt g20 (by decide)) (gk2481 g20) (by omega) (m_len (gl2481 g20) (by omega)) (by omega) ?_
                    refine m_heap (fun h27 eh27 => ?_)
                    have g28 : GI h27 := eh27 ▸ GI.set g20 (by decide) (fun _ => by show 0 ≤ _ ∧ _ ≤ 1; omega)
                    clear eh27
                    refine m_iinc 69 dX13_bar_66 rfl (by decide) rfl (by omega) ?_
                    refine m_goto 47 dX13_bar_69 rfl ?_
                    refine m_sub [(0, (2, 2468)), (1, (0, a1)), (3, (0, a3)), (4, (0, (x18 + 1)))] (List.forall_mem_cons.mpr ⟨rfl, List.forall_mem_cons.mpr ⟨rfl, List.forall_mem_cons.mpr ⟨rfl, List.forall_mem_cons.mpr ⟨rfl, fun _ h => absurd h List.not_mem_nil⟩⟩⟩⟩) ?_
                    exact ih47 _ (by omega) ((x18 + 1)) h27 g28 (by omega) rfl
                refine m_sub [(0, (2, 2468)), (1, (0, a1)), (3, (0, a3)), (4, (0, a2))] (List.forall_mem_cons.mpr ⟨rfl, List.forall_mem_cons.mpr ⟨rfl, List.forall_mem_cons.mpr ⟨rfl, List.forall_mem_cons.mpr ⟨rfl, fun _ h => absurd h List.not_mem_nil⟩⟩⟩⟩) ?_
                exact lp47 _ (a2) h1 g2 (by omega) rfl
              · skip
                refine m_iconst 43 dX13_bar_42 rfl (by decide) ?_
                exact m_ireturn dX13_bar_43 rfl (m_narZ (by omega)) (mqI ⟨g2, by omega⟩)
          · skip
            refine m_if_ne 37 42 dX13_bar_34 rfl rfl (fun c29 => ?_) (fun c29 => ?_)
            · skip
              refine m_iconst 43 dX13_bar_42 rfl (by decide) ?_
              exact m_ireturn dX13_bar_43 rfl (m_narZ (by omega)) (mqI ⟨g2, by omega⟩)
            · exfalso; omega
      · skip
        refine m_if_ne 25 42 dX13_bar_22 rfl rfl (fun c30 => ?_) (fun c30 => ?_)
        · skip
          refine m_iconst 43 dX13_bar_42 rfl (by decide) ?_
          exact m_ireturn dX13_bar_43 rfl (m_narZ (by omega)) (mqI ⟨g2, by omega⟩)
        · exfalso; omega
  · skip
    refine m_if_ne 13 42 dX13_bar_10 rfl rfl (fun c31 => ?_) (fun c31 => ?_)
    · skip
      refine m_iconst 43 dX13_bar_42 rfl (by decide) ?_
      exact m_ireturn dX13_bar_43 rfl (m_narZ (by omega)) (mqI ⟨g2, by omega⟩)
    · exfalso; omega
theorem cy_X13_borrow : yX13_borrow.cls ≠ "java/lang/invoke/MethodHandle" ∧ yX13_borrow.cls ≠ "java/lang/invoke/VarHandle" ∧ (parseMethodDescriptor yX13_borrow.desc).map (fun d => d.parameters.length) = some 2 := by decide +kernel
theorem dX13_borrow_0 : decode KX13_borrow.2.2.1 0 = .ok (.aload_n 0, 1) := by decide +kernel
theorem dX13_borrow_1 : decode KX13_borrow.2.2.1 1 = .ok (.iconst 0, 1) := by decide +kernel
theorem dX13_borrow_2 : decode KX13_borrow.2.2.1 2 = .ok (.putfield 92, 3) := by decide +kernel
theorem dX13_borrow_5 : decode KX13_borrow.2.2.1 5 = .ok (.lload_n 1, 1) := by decide +kernel
theorem dX13_borrow_6 : decode KX13_borrow.2.2.1 6 = .ok (.lconst 0, 1) := by decide +kernel
theorem dX13_borrow_7 : decode KX13_borrow.2.2.1 7 = .ok (.ldc2_w 113, 3) := by decide +kernel
theorem dX13_borrow_10 : decode KX13_borrow.2.2.1 10 = .ok (.invokestatic 105, 3) := by decide +kernel
theorem dX13_borrow_13 : decode KX13_borrow.2.2.1 13 = .ok (.ifCond .ne 22, 3) := by decide +kernel
theorem dX13_borrow_16 : decode KX13_borrow.2.2.1 16 = .ok (.lload_n 3, 1) := by decide +kernel
theorem dX13_borrow_17 : decode KX13_borrow.2.2.1 17 = .ok (.lconst 0, 1) := by decide +kernel
theorem dX13_borrow_18 : decode KX13_borrow.2.2.1 18 = .ok (.ldc2_w 113, 3) := by decide +kernel
theorem dX13_borrow_21 : decode KX13_borrow.2.2.1 21 = .ok (.invokestatic 105, 3) := by decide +kernel
theorem dX13_borrow_24 : decode KX13_borrow.2.2.1 24 = .ok (.ifCond .ne 11, 3) := by decide +kernel
theorem dX13_borrow_27 : decode KX13_borrow.2.2.1 27 = .ok (.aload_n 0, 1) := by decide +kernel
theorem dX13_borrow_28 : decode KX13_borrow.2.2.1 28 = .ok (.getfield 136, 3) := by decide +kernel
theorem dX13_borrow_31 : decode KX13_borrow.2.2.1 31 = .ok (.iconst 4, 1) := by decide +kernel
theorem dX13_borrow_32 : decode KX13_borrow.2.2.1 32 = .ok (.if_icmp .ne 5, 3) := by decide +kernel
theorem dX13_borrow_35 : decode KX13_borrow.2.2.1 35 = .ok (.iconst (-1), 1) := by decide +kernel
theorem dX13_borrow_36 : decode KX13_borrow.2.2.1 36 = .ok (.ireturn, 1) := by decide +kernel
theorem dX13_borrow_37 : decode KX13_borrow.2.2.1 37 = .ok (.aload_n 0, 1) := by decide +kernel
theorem dX13_borrow_38 : decode KX13_borrow.2.2.1 38 = .ok (.getfield 22, 3) := by decide +kernel
theorem dX13_borrow_41 : decode KX13_borrow.2.2.1 41 = .ok (.aload_n 0, 1) := by decide +kernel
theorem dX13_borrow_42 : decode KX13_borrow.2.2.1 42 = .ok (.getfield 136, 3) := by decide +kernel
theorem dX13_borrow_45 : decode KX13_borrow.2.2.1 45 = .ok (.lload_n 1, 1) := by decide +kernel
theorem dX13_borrow_46 : decode KX13_borrow.2.2.1 46 = .ok (.l2i, 1) := by decide +kernel
theorem dX13_borrow_47 : decode KX13_borrow.2.2.1 47 = .ok (.iastore, 1) := by decide +kernel
theorem dX13_borrow_48 : decode KX13_borrow.2.2.1 48 = .ok (.aload_n 0, 1) := by decide +kernel
theorem dX13_borrow_49 : decode KX13_borrow.2.2.1 49 = .ok (.getfield 25, 3) := by decide +kernel
theorem dX13_borrow_52 : decode KX13_borrow.2.2.1 52 = .ok (.aload_n 0, 1) := by decide +kernel
theorem dX13_borrow_53 : decode KX13_borrow.2.2.1 53 = .ok (.getfield 136, 3) := by decide +kernel
theorem dX13_borrow_56 : decode KX13_borrow.2.2.1 56 = .ok (.lload_n 3, 1) := by decide +kernel
theorem dX13_borrow_57 : decode KX13_borrow.2.2.1 57 = .ok (.l2i, 1) := by decide +kernel
theorem dX13_borrow_58 : decode KX13_borrow.2.2.1 58 = .ok (.iastore, 1) := by decide +kernel
theorem dX13_borrow_59 : decode KX13_borrow.2.2.1 59 = .ok (.aload_n 0, 1) := by decide +kernel
theorem dX13_borrow_60 : decode KX13_borrow.2.2.1 60 = .ok (.dup, 1) := by decide +kernel
theorem dX13_borrow_61 : decode KX13_borrow.2.2.1 61 = .ok (.getfield 136, 3) := by decide +kernel
theorem dX13_borrow_64 : decode KX13_borrow.2.2.1 64 = .ok (.iconst 1, 1) := by decide +kernel
theorem dX13_borrow_65 : decode KX13_borrow.2.2.1 65 = .ok (.iadd, 1) := by decide +kernel
theorem dX13_borrow_66 : decode KX13_borrow.2.2.1 66 = .ok (.putfield 136, 3) := by decide +kernel
theorem dX13_borrow_69 : decode KX13_borrow.2.2.1 69 = .ok (.aload_n 0, 1) := by decide +kernel
theorem dX13_borrow_70 : decode KX13_borrow.2.2.1 70 = .ok (.invokevirtual 118, 3) := by decide +kernel
theorem dX13_borrow_73 : decode KX13_borrow.2.2.1 73 = .ok (.aload_n 0, 1) := by decide +kernel
theorem dX13_borrow_74 : decode KX13_borrow.2.2.1 74 = .ok (.getfield 136, 3) := by decide +kernel
theorem dX13_borrow_77 : decode KX13_borrow.2.2.1 77 = .ok (.iconst 1, 1) := by decide +kernel
theorem dX13_borrow_78 : decode KX13_borrow.2.2.1 78 = .ok (.isub, 1) := by decide +kernel
theorem dX13_borrow_79 : decode KX13_borrow.2.2.1 79 = .ok (.ireturn, 1) := by decide +kernel
abbrev q_X13_borrow (a1 a2 : Int) (h : MH) : MO → MH → Prop := mRI fun v h' => GI h' ∧ (-1) ≤ v ∧ v ≤ 3
set_option maxRecDepth 20000 in
theorem c_X13_borrow {a1 a2 : Int} {h : MH} (g : GI h) : MCal KX13_borrow yX13_borrow 0 0 [(2, 2468), (1, a1), (1, a2)] h (q_X13_borrow a1 a2 h) := by
  refine MCal.ofMW (Or.inl rfl) ⟨cp_X13, rfl⟩ (Nat.le_of_ble_eq_true rfl) ?_
  change MW _ _ _ _ _ [(0, (2, 2468)), (1, (1, a1)), (3, (1, a2))] _ _
  refine m_locL (i := 1) rfl (fun ua1 wa1 => ?_)
  refine m_locL (i := 3) rfl (fun ua2 wa2 => ?_)
  refine m_aload_n 1 dX13_borrow_0 rfl rfl (by decide) ?_
  refine m_iconst 2 dX13_borrow_1 rfl (by decide) ?_
  refine m_putfield 5 dX13_borrow_2 rfl (ci := 13) rfl lu_X13 tyX13_ok nmX13 (k := 0) (by decide) (Or.inl rfl) lfX13_92 (tag := 0) rfl (fun _ => rfl) (fun _ => rfl) (by decide) (GI.lt g (by decide)) (gk2468 g) ?_
  refine m_heap (fun h1 eh1 => ?_)
  have g2 : GI h1 := eh1 ▸ GI.set g (by decide) (fun _ => by show 0 ≤ _ ∧ _ ≤ 1; omega)
  have m3 : (h1.2 2468).2.2 0 = 0 := by rw [eh1]; rfl
  clear eh1
  refine m_lload_n 6 dX13_borrow_5 rfl rfl ?_
  refine m_lconst 7 dX13_borrow_6 rfl ?_
  refine m_ldc2 (n := 100000) 10 dX13_borrow_7 rfl lcX13_113 rfl (by decide) ?_
  refine m_invokestatic (K' := KX13_isOut) (As := [(1, a1), (1, 0), (1, 100000)]) dX13_borrow_10 (fun _ => by decide) ⟨lo_X13_isOut, li_X13⟩ ⟨lmX13_105, lv_X13_isOut_s⟩ ⟨rfl, cy_X13_isOut⟩ ⟨Nat.le_of_ble_eq_true rfl, Nat.le_of_ble_eq_true rfl⟩ (Nat.le_of_ble_eq_true rfl) rfl (Nat.zero_le _) (Nat.zero_le _) (c_X13_isOut) (mkI fun v4 h5 q6 => ?_)
  obtain ⟨rfl, q6⟩ := q6
  rcases q6 with ⟨rfl, q6⟩ | ⟨rfl, q6⟩
  · skip
    refine m_if_ne 16 35 dX13_borrow_13 rfl rfl (fun c7 => ?_) (fun c7 => ?_)
    · exfalso; omega
    · skip
      refine m_lload_n 17 dX13_borrow_16 rfl rfl ?_
      refine m_lconst 18 dX13_borrow_17 rfl ?_
      refine m_ldc2 (n := 100000) 21 dX13_borrow_18 rfl lcX13_113 rfl (by decide) ?_
      refine m_invokestatic (K' := KX13_isOut) (As := [(1, a2), (1, 0), (1, 100000)]) dX13_borrow_21 (fun _ => by decide) ⟨lo_X13_isOut, li_X13⟩ ⟨lmX13_105, lv_X13_isOut_s⟩ ⟨rfl, cy_X13_isOut⟩ ⟨Nat.le_of_ble_eq_true rfl, Nat.le_of_ble_eq_true rfl⟩ (Nat.le_of_ble_eq_true rfl) rfl (Nat.zero_le _) (Nat.zero_le _) (c_X13_isOut) (mkI fun v8 h9 q10 => ?_)
      obtain ⟨rfl, q10⟩ := q10
      rcases q10 with ⟨rfl, q10⟩ | ⟨rfl, q10⟩
      · skip
        refine m_if_ne 27 35 dX13_borrow_24 rfl rfl (fun c11 => ?_) (fun c11 => ?_)
        · exfalso; omega
        · skip
          refine m_aload_n 28 dX13_borrow_27 rfl rfl (by decide) ?_
          refine m_getfield 31 dX13_borrow_28 rfl (ci := 13) rfl lu_X13 (k := 6) (by decide) lfX13_136 (tag := 0) rfl (by decide) (GI.lt g2 (by decide)) (gk2468 g2) (fun v12 (ev12 : v12 = (h1.2 2468).2.2 6) _ => ?_)
          have bv12 : 0 ≤ v12 ∧ v12 ≤ 4 := by rw [ev12]; exact gf2468_6 g2
          refine m_iconst 32 dX13_borrow_31 rfl (by decide) ?_
          refine m_ic_ne 35 37 dX13_borrow_32 rfl rfl (fun c13 => ?_) (fun c13 => ?_)
          · skip
            refine m_aload_n 38 dX13_borrow_37 rfl rfl (by decide) ?_
            refine m_getfieldC 41 dX13_borrow_38 rfl (ci := 13) rfl lu_X13 (k := 7) (by decide) lfX13_22 (tag := 2) rfl (by decide) (GI.lt g2 (by decide)) (gk2468 g2) (gf2468_7 g2) ?_
            refine m_aload_n 42 dX13_borrow_41 rfl rfl (by decide) ?_
            refine m_getfield 45 dX13_borrow_42 rfl (ci := 13) rfl lu_X13 (k := 6) (by decide) lfX13_136 (tag := 0) rfl (by decide) (GI.lt g2 (by decide)) (gk2468 g2) (fun v14 (ev14 : v14 = (h1.2 2468).2.2 6) _ => ?_)
            have bv14 : 0 ≤ v14 ∧ v14 ≤ 4 := by rw [ev14]; exact gf2468_6 g2
            have qv14 : v12 = v14 := (ev14.trans ev12.symm).symm
            subst qv14
            refine m_lload_n 46 dX13_borrow_45 rfl rfl ?_
            refine m_l2i 47 dX13_borrow_46 rfl (by omega) ?_
            refine m_iast 48 dX13_borrow_47 rfl (by decide) (by decide) (GI.lt g2 (by decide)) (gk2473 g2) (by omega) (m_len (gl2473 g2) (by omega)) ?_
            refine m_heap (fun h15 eh15 => ?_)
            have g16 : GI h15 := eh15 ▸ GI.set g2 (by decide) (fun _ => by show 0 ≤ _ ∧ _ ≤ 100000; omega)
            have m17 : (h15.2 2468).2.2 0 = 0 := by rw [eh15]; exact m3
            have m18 : (h15.2 2468).2.2 6 = v12 := by rw [eh15]; exact ev12.symm
            clear eh15
            refine m_aload_n 49 dX13_borrow_48 rfl rfl (by decide) ?_
            refine m_getfieldC 52 dX13_borrow_49 rfl (ci := 13) rfl lu_X13 (k := 8) (by decide) lfX13_25 (tag := 2) rfl (by decide) (GI.lt g16 (by decide)) (gk2468 g16) (gf2468_8 g16) ?_
            refine m_aload_n 53 dX13_borrow_52 rfl rfl (by decide) ?_
            refine m_getfield 56 dX13_borrow_53 rfl (ci := 13) rfl lu_X13 (k := 6) (by decide) lfX13_136 (tag := 0) rfl (by decide) (GI.lt g16 (by decide)) (gk2468 g16) (fun v19 (ev19 : v19 = (h15.2 2468).2.2 6) _ => ?_)
            have bv19 : 0 ≤ v19 ∧ v19 ≤ 4 := by rw [ev19]; exact gf2468_6 g16
            have qv19 : v12 = v19 := (ev19.trans m18).symm
            subst qv19
            refine m_lload_n 57 dX13_borrow_56 rfl rfl ?_
            refine m_l2i 58 dX13_borrow_57 rfl (by omega) ?_
            refine m_iast 59 dX13_borrow_58 rfl (by decide) (by decide) (GI.lt g16 (by decide)) (gk2474 g16) (by omega) (m_len (gl2474 g16) (by omega)) ?_
            refine m_heap (fun h20 eh20 => ?_)
            have g21 : GI h20 := eh20 ▸ GI.set g16 (by decide) (fun _ => by show 0 ≤ _ ∧ _ ≤ 100000; omega)
            have m22 : (h20.2 2468).2.2 0 = 0 := by rw [eh20]; exact m17
            have m23 : (h20.2 2468).2.2 6 = v12 := by rw [eh20]; exact m18
            clear eh20
            refine m_aload_n 60 dX13_borrow_59 rfl rfl (by decide) ?_
            refine m_dup 61 dX13_borrow_60 rfl rfl ?_
            refine m_getfield 64 dX13_borrow_61 rfl (ci := 13) rfl lu_X13 (k := 6) (by decide) lfX13_136 (tag := 0) rfl (by decide) (GI.lt g21 (by decide)) (gk2468 g21) (fun v24 (ev24 : v24 = (h20.2 2468).2.2 6) _ => ?_)
            have bv24 : 0 ≤ v24 ∧ v24 ≤ 4 := by rw [ev24]; exact gf2468_6 g21
            have qv24 : v12 = v24 := (ev24.trans m23).symm
            subst qv24
            refine m_iconst 65 dX13_borrow_64 rfl (by decide) ?_
            refine m_iadd 66 dX13_borrow_65 rfl (by omega) ?_
            refine m_putfield 69 dX13_borrow_66 rfl (ci := 13) rfl lu_X13 tyX13_ok nmX13 (k := 6) (by decide) (Or.inl rfl) lfX13_136 (tag := 0) rfl (fun _ => rfl) (fun _ => rfl) (by decide) (GI.lt g21 (by decide)) (gk2468 g21) ?_
            refine m_heap (fun h25 eh25 => ?_)
            have g26 : GI h25 := eh25 ▸ GI.set g21 (by decide) (fun _ => by show 0 ≤ _ ∧ _ ≤ 4; omega)
            have m27 : (h25.2 2468).2.2 0 = 0 := by rw [eh25]; exact m22
            have m28 : (h25.2 2468).2.2 6 = (v12 + 1) := by rw [eh25]; rfl
            clear eh25
            refine m_aload_n 70 dX13_borrow_69 rfl rfl (by decide) ?_
            refine m_invokevirtual (K' := KX13_drop) (As := []) dX13_borrow_70 (fun _ => by decide) ⟨lo_X13_drop, li_X13⟩ (ci := 13) (r := 2468) rfl (by decide) (GI.lt g26 (by decide)) (gk2468 g26) ⟨lmX13_118, lv_X13_drop_i, ls_X13_drop⟩ ⟨rfl, cy_X13_drop⟩ ⟨Nat.le_of_ble_eq_true rfl, Nat.le_of_ble_eq_true rfl⟩ (Nat.le_of_ble_eq_true rfl) rfl (Nat.zero_le _) (Nat.zero_le _) (c_X13_drop g26) (mkV fun h30 q31 => ?_)
            have g32 : GI h30 := q31
            refine m_aload_n 74 dX13_borrow_73 rfl rfl (by decide) ?_
            refine m_getfield 77 dX13_borrow_74 rfl (ci := 13) rfl lu_X13 (k := 6) (by decide) lfX13_136 (tag := 0) rfl (by decide) (GI.lt g32 (by decide)) (gk2468 g32) (fun v33 (ev33 : v33 = (h30.2 2468).2.2 6) _ => ?_)
            have bv33 : 0 ≤ v33 ∧ v33 ≤ 4 := by rw [ev33]; exact gf2468_6 g32
            refine m_iconst 78 dX13_borrow_77 rfl (by decide) ?_
            refine m_isub 79 dX13_borrow_78 rfl (by omega) ?_
            exact m_ireturn dX13_borrow_79 rfl rfl (mqI ⟨g32, by omega⟩)
          · skip
            refine m_iconst 36 dX13_borrow_35 rfl (by decide) ?_
            exact m_ireturn dX13_borrow_36 rfl rfl (mqI ⟨g2, by omega⟩)
      · skip
        refine m_if_ne 27 35 dX13_borrow_24 rfl rfl (fun c34 => ?_) (fun c34 => ?_)
        · skip
          refine m_iconst 36 dX13_borrow_35 rfl (by decide) ?_
          exact m_ireturn dX13_borrow_36 rfl rfl (mqI ⟨g2, by omega⟩)
        · exfalso; omega
  · skip
    refine m_if_ne 16 35 dX13_borrow_13 rfl rfl (fun c35 => ?_) (fun c35 => ?_)
    · skip
      refine m_iconst 36 dX13_borrow_35 rfl (by decide) ?_
      exact m_ireturn dX13_borrow_36 rfl rfl (mqI ⟨g2, by omega⟩)
    · exfalso; omega
theorem cy_X13_most : yX13_most.cls ≠ "java/lang/invoke/MethodHandle" ∧ yX13_most.cls ≠ "java/lang/invoke/VarHandle" ∧ (parseMethodDescriptor yX13_most.desc).map (fun d => d.parameters.length) = some 2 := by decide +kernel
theorem dX13_most_0 : decode KX13_most.2.2.1 0 = .ok (.aload_n 0, 1) := by decide +kernel
theorem dX13_most_1 : decode KX13_most.2.2.1 1 = .ok (.iconst 0, 1) := by decide +kernel
theorem dX13_most_2 : decode KX13_most.2.2.1 2 = .ok (.putfield 92, 3) := by decide +kernel
theorem dX13_most_5 : decode KX13_most.2.2.1 5 = .ok (.iload_n 1, 1) := by decide +kernel
theorem dX13_most_6 : decode KX13_most.2.2.1 6 = .ok (.i2l, 1) := by decide +kernel
theorem dX13_most_7 : decode KX13_most.2.2.1 7 = .ok (.lconst 0, 1) := by decide +kernel
theorem dX13_most_8 : decode KX13_most.2.2.1 8 = .ok (.ldc2_w 111, 3) := by decide +kernel
theorem dX13_most_11 : decode KX13_most.2.2.1 11 = .ok (.invokestatic 105, 3) := by decide +kernel
theorem dX13_most_14 : decode KX13_most.2.2.1 14 = .ok (.ifCond .ne 14, 3) := by decide +kernel
theorem dX13_most_17 : decode KX13_most.2.2.1 17 = .ok (.lload_n 2, 1) := by decide +kernel
theorem dX13_most_18 : decode KX13_most.2.2.1 18 = .ok (.lconst 0, 1) := by decide +kernel
theorem dX13_most_19 : decode KX13_most.2.2.1 19 = .ok (.ldc2_w 139, 3) := by decide +kernel
theorem dX13_most_22 : decode KX13_most.2.2.1 22 = .ok (.invokestatic 105, 3) := by decide +kernel
theorem dX13_most_25 : decode KX13_most.2.2.1 25 = .ok (.ifCond .eq 5, 3) := by decide +kernel
theorem dX13_most_28 : decode KX13_most.2.2.1 28 = .ok (.iconst 0, 1) := by decide +kernel
theorem dX13_most_29 : decode KX13_most.2.2.1 29 = .ok (.ireturn, 1) := by decide +kernel
theorem dX13_most_30 : decode KX13_most.2.2.1 30 = .ok (.aload_n 0, 1) := by decide +kernel
theorem dX13_most_31 : decode KX13_most.2.2.1 31 = .ok (.getfield 60, 3) := by decide +kernel
theorem dX13_most_34 : decode KX13_most.2.2.1 34 = .ok (.iload_n 1, 1) := by decide +kernel
theorem dX13_most_35 : decode KX13_most.2.2.1 35 = .ok (.lload_n 2, 1) := by decide +kernel
theorem dX13_most_36 : decode KX13_most.2.2.1 36 = .ok (.lastore, 1) := by decide +kernel
theorem dX13_most_37 : decode KX13_most.2.2.1 37 = .ok (.aload_n 0, 1) := by decide +kernel
theorem dX13_most_38 : decode KX13_most.2.2.1 38 = .ok (.invokevirtual 118, 3) := by decide +kernel
theorem dX13_most_41 : decode KX13_most.2.2.1 41 = .ok (.iconst 1, 1) := by decide +kernel
theorem dX13_most_42 : decode KX13_most.2.2.1 42 = .ok (.ireturn, 1) := by decide +kernel
abbrev q_X13_most (a1 a2 : Int) (h : MH) : MO → MH → Prop := mRI fun v h' => GI h' ∧ 0 ≤ v ∧ v ≤ 1
set_option maxRecDepth 20000 in
theorem c_X13_most {a1 a2 : Int} {h : MH} (g : GI h) : MCal KX13_most yX13_most 0 0 [(2, 2468), (0, a1), (1, a2)] h (q_X13_most a1 a2 h) := by
  refine MCal.ofMW (Or.inl rfl) ⟨cp_X13, rfl⟩ (Nat.le_of_ble_eq_true rfl) ?_
  change MW _ _ _ _ _ [(0, (2, 2468)), (1, (0, a1)), (2, (1, a2))] _ _
  refine m_locI (i := 1) rfl (fun ua1 wa1 => ?_)
  refine m_locL (i := 2) rfl (fun ua2 wa2 => ?_)
  refine m_aload_n 1 dX13_most_0 rfl rfl (by decide) ?_
  refine m_iconst 2 dX13_most_1 rfl (by decide) ?_
  refine m_putfield 5 dX13_most_2 rfl (ci := 13) rfl lu_X13 tyX13_ok nmX13 (k := 0) (by decide) (Or.inl rfl) lfX13_92 (tag := 0) rfl (fun _ => rfl) (fun _ => rfl) (by decide) (GI.lt g (by decide)) (gk2468 g) ?_
  refine m_heap (fun h1 eh1 => ?_)
  have g2 : GI h1 := eh1 ▸ GI.set g (by decide) (fun _ => by show 0 ≤ _ ∧ _ ≤ 1; omega)
  have m3 : (h1.2 2468).2.2 0 = 0 := by rw [eh1]; rfl
  clear eh1
  refine m_iload_n 6 dX13_most_5 rfl rfl ?_
  refine m_i2l 7 dX13_most_6 rfl ?_
  refine m_lconst 8 dX13_most_7 rfl ?_
  refine m_ldc2 (n := 11) 11 dX13_most_8 rfl lcX13_111 rfl (by decide) ?_
  refine m_invokestatic (K' := KX13_isOut) (As := [(1, a1), (1, 0), (1, 11)]) dX13_most_11 (fun _ => by decide) ⟨lo_X13_isOut, li_X13⟩ ⟨lmX13_105, lv_X13_isOut_s⟩ ⟨rfl, cy_X13_isOut⟩ ⟨Nat.le_of_ble_eq_true rfl, Nat.le_of_ble_eq_true rfl⟩ (Nat.le_of_ble_eq_true rfl) rfl (Nat.zero_le _) (Nat.zero_le _) (c_X13_isOut) (mkI fun v4 h5 q6 => ?_)
  obtain ⟨rfl, q6⟩ := q6
  rcases q6 with ⟨rfl, q6⟩ | ⟨rfl, q6⟩
  · skip
    refine m_if_ne 17 28 dX13_most_14 rfl rfl (fun c7 => ?_) (fun c7 => ?_)
    · exfalso; omega
    · skip
      refine m_lload_n 18 dX13_most_17 rfl rfl ?_
      refine m_lconst 19 dX13_most_18 rfl ?_
      refine m_ldc2 (n := 10000000) 22 dX13_most_19 rfl lcX13_139 rfl (by decide) ?_
      refine m_invokestatic (K' := KX13_isOut) (As := [(1, a2), (1, 0), (1, 10000000)]) dX13_most_22 (fun _ => by decide) ⟨lo_X13_isOut, li_X13⟩ ⟨lmX13_105, lv_X13_isOut_s⟩ ⟨rfl, cy_X13_isOut⟩ ⟨Nat.le_of_ble_eq_true rfl, Nat.le_of_ble_eq_true rfl⟩ (Nat.le_of_ble_eq_true rfl) rfl (Nat.zero_le _) (Nat.zero_le _) (c_X13_isOut) (mkI fun v8 h9 q10 => ?_)
      obtain ⟨rfl, q10⟩ := q10
      rcases q10 with ⟨rfl, q10⟩ | ⟨rfl, q10⟩
      · skip
        refine m_if_eq 28 30 dX13_most_25 rfl rfl (fun c11 => ?_) (fun c11 => ?_)
        · skip
          refine m_aload_n 31 dX13_most_30 rfl rfl (by decide) ?_
          refine m_getfieldC 34 dX13_most_31 rfl (ci := 13) rfl lu_X13 (k := 21) (by decide) lfX13_60 (tag := 2) rfl (by decide) (GI.lt g2 (by decide)) (gk2468 g2) (gf2468_21 g2) ?_
          refine m_iload_n 35 dX13_most_34 rfl rfl ?_
          refine m_lload_n 36 dX13_most_35 rfl rfl ?_
          refine m_last 37 dX13_most_36 rfl (by decide) (by decide) (GI.lt g2 (by decide)) (gk2485 g2) (by omega) (m_len (gl2485 g2) (by omega)) ?_
          refine m_heap (fun h12 eh12 => ?_)
          have g13 : GI h12 := eh12 ▸ GI.set g2 (by decide) (fun _ => by show 0 ≤ _ ∧ _ ≤ 1125899906842624; omega)
          have m14 : (h12.2 2468).2.2 0 = 0 := by rw [eh12]; exact m3
          clear eh12
          refine m_aload_n 38 dX13_most_37 rfl rfl (by decide) ?_
          refine m_invokevirtual (K' := KX13_drop) (As := []) dX13_most_38 (fun _ => by decide) ⟨lo_X13_drop, li_X13⟩ (ci := 13) (r := 2468) rfl (by decide) (GI.lt g13 (by decide)) (gk2468 g13) ⟨lmX13_118, lv_X13_drop_i, ls_X13_drop⟩ ⟨rfl, cy_X13_drop⟩ ⟨Nat.le_of_ble_eq_true rfl, Nat.le_of_ble_eq_true rfl⟩ (Nat.le_of_ble_eq_true rfl) rfl (Nat.zero_le _) (Nat.zero_le _) (c_X13_drop g13) (mkV fun h16 q17 => ?_)
          have g18 : GI h16 := q17
          refine m_iconst 42 dX13_most_41 rfl (by decide) ?_
          exact m_ireturn dX13_most_42 rfl (m_narZ (by omega)) (mqI ⟨g18, by omega⟩)
        · exfalso; omega
      · skip
        refine m_if_eq 28 30 dX13_most_25 rfl rfl (fun c19 => ?_) (fun c19 => ?_)
        · exfalso; omega
        · skip
          refine m_iconst 29 dX13_most_28 rfl (by decide) ?_
          exact m_ireturn dX13_most_29 rfl (m_narZ (by omega)) (mqI ⟨g2, by omega⟩)
  · skip
    refine m_if_ne 17 28 dX13_most_14 rfl rfl (fun c20 => ?_) (fun c20 => ?_)
    · skip
      refine m_iconst 29 dX13_most_28 rfl (by decide) ?_
      exact m_ireturn dX13_most_29 rfl (m_narZ (by omega)) (mqI ⟨g2, by omega⟩)
    · exfalso; omega
theorem cy_X13_sources : yX13_sources.cls ≠ "java/lang/invoke/MethodHandle" ∧ yX13_sources.cls ≠ "java/lang/invoke/VarHandle" ∧ (parseMethodDescriptor yX13_sources.desc).map (fun d => d.parameters.length) = some 0 := by decide +kernel
theorem dX13_sources_0 : decode KX13_sources.2.2.1 0 = .ok (.aload_n 0, 1) := by decide +kernel
theorem dX13_sources_1 : decode KX13_sources.2.2.1 1 = .ok (.getfield 115, 3) := by decide +kernel
theorem dX13_sources_4 : decode KX13_sources.2.2.1 4 = .ok (.aload_n 0, 1) := by decide +kernel
theorem dX13_sources_5 : decode KX13_sources.2.2.1 5 = .ok (.getfield 136, 3) := by decide +kernel
theorem dX13_sources_8 : decode KX13_sources.2.2.1 8 = .ok (.iadd, 1) := by decide +kernel
theorem dX13_sources_9 : decode KX13_sources.2.2.1 9 = .ok (.ireturn, 1) := by decide +kernel
abbrev q_X13_sources (h : MH) : MO → MH → Prop := mRI fun v h' => h = h' ∧ 0 ≤ v ∧ v ≤ 12 ∧ v = ((h.2 2468).2.2 1 + (h.2 2468).2.2 6)
set_option maxRecDepth 20000 in
theorem c_X13_sources {h : MH} (g : GI h) : MCal KX13_sources yX13_sources 0 0 [(2, 2468)] h (q_X13_sources h) := by
  refine MCal.ofMW (Or.inl rfl) ⟨cp_X13, rfl⟩ (Nat.le_of_ble_eq_true rfl) ?_
  change MW _ _ _ _ _ [(0, (2, 2468))] _ _
  refine m_aload_n 1 dX13_sources_0 rfl rfl (by decide) ?_
  refine m_getfield 4 dX13_sources_1 rfl (ci := 13) rfl lu_X13 (k := 1) (by decide) lfX13_115 (tag := 0) rfl (by decide) (GI.lt g (by decide)) (gk2468 g) (fun v1 (ev1 : v1 = (h.2 2468).2.2 1) _ => ?_)
  have bv1 : 0 ≤ v1 ∧ v1 ≤ 8 := by rw [ev1]; exact gf2468_1 g
  refine m_aload_n 5 dX13_sources_4 rfl rfl (by decide) ?_
  refine m_getfield 8 dX13_sources_5 rfl (ci := 13) rfl lu_X13 (k := 6) (by decide) lfX13_136 (tag := 0) rfl (by decide) (GI.lt g (by decide)) (gk2468 g) (fun v2 (ev2 : v2 = (h.2 2468).2.2 6) _ => ?_)
  have bv2 : 0 ≤ v2 ∧ v2 ≤ 4 := by rw [ev2]; exact gf2468_6 g
  refine m_iadd 9 dX13_sources_8 rfl (by omega) ?_
  exact m_ireturn dX13_sources_9 rfl rfl (mqI ⟨rfl, by omega⟩)
theorem cy_X13_gives : yX13_gives.cls ≠ "java/lang/invoke/MethodHandle" ∧ yX13_gives.cls ≠ "java/lang/invoke/VarHandle" ∧ (parseMethodDescriptor yX13_gives.desc).map (fun d => d.parameters.length) = some 1 := by decide +kernel
theorem dX13_gives_0 : decode KX13_gives.2.2.1 0 = .ok (.aload_n 0, 1) := by decide +kernel
theorem dX13_gives_1 : decode KX13_gives.2.2.1 1 = .ok (.getfield 7, 3) := by decide +kernel
theorem dX13_gives_4 : decode KX13_gives.2.2.1 4 = .ok (.iload_n 1, 1) := by decide +kernel
theorem dX13_gives_5 : decode KX13_gives.2.2.1 5 = .ok (.iaload, 1) := by decide +kernel
theorem dX13_gives_6 : decode KX13_gives.2.2.1 6 = .ok (.i2l, 1) := by decide +kernel
theorem dX13_gives_7 : decode KX13_gives.2.2.1 7 = .ok (.aload_n 0, 1) := by decide +kernel
theorem dX13_gives_8 : decode KX13_gives.2.2.1 8 = .ok (.getfield 50, 3) := by decide +kernel
theorem dX13_gives_11 : decode KX13_gives.2.2.1 11 = .ok (.aload_n 0, 1) := by decide +kernel
theorem dX13_gives_12 : decode KX13_gives.2.2.1 12 = .ok (.getfield 13, 3) := by decide +kernel
theorem dX13_gives_15 : decode KX13_gives.2.2.1 15 = .ok (.iload_n 1, 1) := by decide +kernel
theorem dX13_gives_16 : decode KX13_gives.2.2.1 16 = .ok (.iaload, 1) := by decide +kernel
theorem dX13_gives_17 : decode KX13_gives.2.2.1 17 = .ok (.laload, 1) := by decide +kernel
theorem dX13_gives_18 : decode KX13_gives.2.2.1 18 = .ok (.lmul, 1) := by decide +kernel
theorem dX13_gives_19 : decode KX13_gives.2.2.1 19 = .ok (.aload_n 0, 1) := by decide +kernel
theorem dX13_gives_20 : decode KX13_gives.2.2.1 20 = .ok (.getfield 54, 3) := by decide +kernel
theorem dX13_gives_23 : decode KX13_gives.2.2.1 23 = .ok (.aload_n 0, 1) := by decide +kernel
theorem dX13_gives_24 : decode KX13_gives.2.2.1 24 = .ok (.getfield 13, 3) := by decide +kernel
theorem dX13_gives_27 : decode KX13_gives.2.2.1 27 = .ok (.iload_n 1, 1) := by decide +kernel
theorem dX13_gives_28 : decode KX13_gives.2.2.1 28 = .ok (.iaload, 1) := by decide +kernel
theorem dX13_gives_29 : decode KX13_gives.2.2.1 29 = .ok (.laload, 1) := by decide +kernel
theorem dX13_gives_30 : decode KX13_gives.2.2.1 30 = .ok (.ldiv, 1) := by decide +kernel
theorem dX13_gives_31 : decode KX13_gives.2.2.1 31 = .ok (.lreturn, 1) := by decide +kernel
abbrev q_X13_gives (a1 : Int) (h : MH) : MO → MH → Prop := mRL fun v h' => h = h' ∧ 0 ≤ v ∧ v ≤ 1000000000
set_option maxRecDepth 20000 in
theorem c_X13_gives {a1 : Int} {h : MH} (g : GI h) (pa1 : 0 ≤ a1 ∧ a1 ≤ 7) : MCal KX13_gives yX13_gives 0 0 [(2, 2468), (0, a1)] h (q_X13_gives a1 h) := by
  refine MCal.ofMW (Or.inl rfl) ⟨cp_X13, rfl⟩ (Nat.le_of_ble_eq_true rfl) ?_
  change MW _ _ _ _ _ [(0, (2, 2468)), (1, (0, a1))] _ _
  refine m_locI (i := 1) rfl (fun ua1 wa1 => ?_)
  refine m_aload_n 1 dX13_gives_0 rfl rfl (by decide) ?_
  refine m_getfieldC 4 dX13_gives_1 rfl (ci := 13) rfl lu_X13 (k := 2) (by decide) lfX13_7 (tag := 2) rfl (by decide) (GI.lt g (by decide)) (gk2468 g) (gf2468_2 g) ?_
  refine m_iload_n 5 dX13_gives_4 rfl rfl ?_
  refine m_iald 6 dX13_gives_5 rfl (by decide) (GI.lt g (by decide)) (gk2469 g) (by omega) (m_len (gl2469 g) (by omega)) (fun v1 ev1 _ => ?_)
  have bv1 : 0 ≤ v1 ∧ v1 ≤ 1000000 := by rw [ev1]; exact ge2469 g (by omega)
  clear ev1
  refine m_i2l 7 dX13_gives_6 rfl ?_
  refine m_aload_n 8 dX13_gives_7 rfl rfl (by decide) ?_
  refine m_getfieldC 11 dX13_gives_8 rfl (ci := 13) rfl lu_X13 (k := 18) (by decide) lfX13_50 (tag := 2) rfl (by decide) (GI.lt g (by decide)) (gk2468 g) (gf2468_18 g) ?_
  refine m_aload_n 12 dX13_gives_11 rfl rfl (by decide) ?_
  refine m_getfieldC 15 dX13_gives_12 rfl (ci := 13) rfl lu_X13 (k := 3) (by decide) lfX13_13 (tag := 2) rfl (by decide) (GI.lt g (by decide)) (gk2468 g) (gf2468_3 g) ?_
  refine m_iload_n 16 dX13_gives_15 rfl rfl ?_
  refine m_iald 17 dX13_gives_16 rfl (by decide) (GI.lt g (by decide)) (gk2470 g) (by omega) (m_len (gl2470 g) (by omega)) (fun v2 ev2 _ => ?_)
  have bv2 : 0 ≤ v2 ∧ v2 ≤ 3 := by rw [ev2]; exact ge2470 g (by omega)
  clear ev2
  refine m_lald 18 dX13_gives_17 rfl (by decide) (GI.lt g (by decide)) (gk2482 g) (by omega) (m_len (gl2482 g) (by omega)) (fun v3 ev3 _ => ?_)
  have bv3 : 1 ≤ v3 ∧ v3 ≤ 1000 := by rw [ev3]; exact ge2482 g (by omega)
  clear ev3
  have bv4 : 0 ≤ (v1 * v3) ∧ (v1 * v3) ≤ 1000000000 := m_mulB (a := 0) (b := 1000000) (c := 1) (d := 1000) (by omega) (by omega) (by omega) (by omega) (by decide) (by decide)
  refine m_lmul 19 dX13_gives_18 rfl (by omega) ?_
  obtain ⟨v4, ev4⟩ : ∃ v4 : Int, v4 = (v1 * v3) := ⟨_, rfl⟩
  rw [← ev4] at bv4 ⊢
  clear ev4
  refine m_aload_n 20 dX13_gives_19 rfl rfl (by decide) ?_
  refine m_getfieldC 23 dX13_gives_20 rfl (ci := 13) rfl lu_X13 (k := 19) (by decide) lfX13_54 (tag := 2) rfl (by decide) (GI.lt g (by decide)) (gk2468 g) (gf2468_19 g) ?_
  refine m_aload_n 24 dX13_gives_23 rfl rfl (by decide) ?_
  refine m_getfieldC 27 dX13_gives_24 rfl (ci := 13) rfl lu_X13 (k := 3) (by decide) lfX13_13 (tag := 2) rfl (by decide) (GI.lt g (by decide)) (gk2468 g) (gf2468_3 g) ?_
  refine m_iload_n 28 dX13_gives_27 rfl rfl ?_
  refine m_iald 29 dX13_gives_28 rfl (by decide) (GI.lt g (by decide)) (gk2470 g) (by omega) (m_len (gl2470 g) (by omega)) (fun v5 ev5 _ => ?_)
  have bv5 : 0 ≤ v5 ∧ v5 ≤ 3 := by rw [ev5]; exact ge2470 g (by omega)
  clear ev5
  refine m_lald 30 dX13_gives_29 rfl (by decide) (GI.lt g (by decide)) (gk2483 g) (by omega) (m_len (gl2483 g) (by omega)) (fun v6 ev6 _ => ?_)
  have bv6 : 1 ≤ v6 ∧ v6 ≤ 1000 := by rw [ev6]; exact ge2483 g (by omega)
  clear ev6
  refine m_ldivP 31 dX13_gives_30 rfl (by omega) (by omega) (by omega) (fun v7 bv7 => ?_)
  exact m_lreturn dX13_gives_31 rfl (mqL ⟨rfl, by omega⟩)
theorem cy_X13_metreOf : yX13_metreOf.cls ≠ "java/lang/invoke/MethodHandle" ∧ yX13_metreOf.cls ≠ "java/lang/invoke/VarHandle" ∧ (parseMethodDescriptor yX13_metreOf.desc).map (fun d => d.parameters.length) = some 1 := by decide +kernel
theorem dX13_metreOf_0 : decode KX13_metreOf.2.2.1 0 = .ok (.iload_n 1, 1) := by decide +kernel
theorem dX13_metreOf_1 : decode KX13_metreOf.2.2.1 1 = .ok (.aload_n 0, 1) := by decide +kernel
theorem dX13_metreOf_2 : decode KX13_metreOf.2.2.1 2 = .ok (.getfield 115, 3) := by decide +kernel
theorem dX13_metreOf_5 : decode KX13_metreOf.2.2.1 5 = .ok (.if_icmp .ge 12, 3) := by decide +kernel
theorem dX13_metreOf_8 : decode KX13_metreOf.2.2.1 8 = .ok (.aload_n 0, 1) := by decide +kernel
theorem dX13_metreOf_9 : decode KX13_metreOf.2.2.1 9 = .ok (.getfield 19, 3) := by decide +kernel
theorem dX13_metreOf_12 : decode KX13_metreOf.2.2.1 12 = .ok (.iload_n 1, 1) := by decide +kernel
theorem dX13_metreOf_13 : decode KX13_metreOf.2.2.1 13 = .ok (.iaload, 1) := by decide +kernel
theorem dX13_metreOf_14 : decode KX13_metreOf.2.2.1 14 = .ok (.goto 14, 3) := by decide +kernel
theorem dX13_metreOf_17 : decode KX13_metreOf.2.2.1 17 = .ok (.aload_n 0, 1) := by decide +kernel
theorem dX13_metreOf_18 : decode KX13_metreOf.2.2.1 18 = .ok (.getfield 22, 3) := by decide +kernel
theorem dX13_metreOf_21 : decode KX13_metreOf.2.2.1 21 = .ok (.iload_n 1, 1) := by decide +kernel
theorem dX13_metreOf_22 : decode KX13_metreOf.2.2.1 22 = .ok (.aload_n 0, 1) := by decide +kernel
theorem dX13_metreOf_23 : decode KX13_metreOf.2.2.1 23 = .ok (.getfield 115, 3) := by decide +kernel
theorem dX13_metreOf_26 : decode KX13_metreOf.2.2.1 26 = .ok (.isub, 1) := by decide +kernel
theorem dX13_metreOf_27 : decode KX13_metreOf.2.2.1 27 = .ok (.iaload, 1) := by decide +kernel
theorem dX13_metreOf_28 : decode KX13_metreOf.2.2.1 28 = .ok (.ireturn, 1) := by decide +kernel
abbrev q_X13_metreOf (a1 : Int) (h : MH) : MO → MH → Prop := mRI fun v h' => h = h' ∧ 0 ≤ v ∧ v ≤ 100000
set_option maxRecDepth 20000 in
theorem c_X13_metreOf {a1 : Int} {h : MH} (g : GI h) (pa1 : 0 ≤ a1 ∧ a1 ≤ 11) (r0 : a1 < (h.2 2468).2.2 1 + (h.2 2468).2.2 6) : MCal KX13_metreOf yX13_metreOf 0 0 [(2, 2468), (0, a1)] h (q_X13_metreOf a1 h) := by
  refine MCal.ofMW (Or.inl rfl) ⟨cp_X13, rfl⟩ (Nat.le_of_ble_eq_true rfl) ?_
  change MW _ _ _ _ _ [(0, (2, 2468)), (1, (0, a1))] _ _
  refine m_locI (i := 1) rfl (fun ua1 wa1 => ?_)
  have f1 := gf2468_1 g
  have f2 := gf2468_6 g
  refine m_iload_n 1 dX13_metreOf_0 rfl rfl ?_
  refine m_aload_n 2 dX13_metreOf_1 rfl rfl (by decide) ?_
  refine m_getfield 5 dX13_metreOf_2 rfl (ci := 13) rfl lu_X13 (k := 1) (by decide) lfX13_115 (tag := 0) rfl (by decide) (GI.lt g (by decide)) (gk2468 g) (fun v3 (ev3 : v3 = (h.2 2468).2.2 1) _ => ?_)
  have bv3 : 0 ≤ v3 ∧ v3 ≤ 8 := by rw [ev3]; exact gf2468_1 g
  refine m_ic_ge 8 17 dX13_metreOf_5 rfl rfl (fun c4 => ?_) (fun c4 => ?_)
  · skip
    refine m_aload_n 18 dX13_metreOf_17 rfl rfl (by decide) ?_
    refine m_getfieldC 21 dX13_metreOf_18 rfl (ci := 13) rfl lu_X13 (k := 7) (by decide) lfX13_22 (tag := 2) rfl (by decide) (GI.lt g (by decide)) (gk2468 g) (gf2468_7 g) ?_
    refine m_iload_n 22 dX13_metreOf_21 rfl rfl ?_
    refine m_aload_n 23 dX13_metreOf_22 rfl rfl (by decide) ?_
    refine m_getfield 26 dX13_metreOf_23 rfl (ci := 13) rfl lu_X13 (k := 1) (by decide) lfX13_115 (tag := 0) rfl (by decide) (GI.lt g (by decide)) (gk2468 g) (fun v5 (ev5 : v5 = (h.2 2468).2.2 1) _ => ?_)
    have bv5 : 0 ≤ v5 ∧ v5 ≤ 8 := by rw [ev5]; exact gf2468_1 g
    have qv5 : v3 = v5 := (ev5.trans ev3.symm).symm
    subst qv5
    refine m_isub 27 dX13_metreOf_26 rfl (by omega) ?_
    refine m_iald 28 dX13_metreOf_27 rfl (by decide) (GI.lt g (by decide)) (gk2473 g) (by omega) (m_len (gl2473 g) (by omega)) (fun v6 ev6 _ => ?_)
    have bv6 : 0 ≤ v6 ∧ v6 ≤ 100000 := by rw [ev6]; exact ge2473 g (by omega)
    clear ev6
    exact m_ireturn dX13_metreOf_28 rfl rfl (mqI ⟨rfl, by omega⟩)
  · skip
    refine m_aload_n 9 dX13_metreOf_8 rfl rfl (by decide) ?_
    refine m_getfieldC 12 dX13_metreOf_9 rfl (ci := 13) rfl lu_X13 (k := 5) (by decide) lfX13_19 (tag := 2) rfl (by decide) (GI.lt g (by decide)) (gk2468 g) (gf2468_5 g) ?_
    refine m_iload_n 13 dX13_metreOf_12 rfl rfl ?_
    refine m_iald 14 dX13_metreOf_13 rfl (by decide) (GI.lt g (by decide)) (gk2472 g) (by omega) (m_len (gl2472 g) (by omega)) (fun v7 ev7 _ => ?_)
    have bv7 : 0 ≤ v7 ∧ v7 ≤ 100000 := by rw [ev7]; exact ge2472 g (by omega)
    clear ev7
    refine m_goto 28 dX13_metreOf_14 rfl ?_
    exact m_ireturn dX13_metreOf_28 rfl rfl (mqI ⟨rfl, by omega⟩)
theorem cy_X13_serves : yX13_serves.cls ≠ "java/lang/invoke/MethodHandle" ∧ yX13_serves.cls ≠ "java/lang/invoke/VarHandle" ∧ (parseMethodDescriptor yX13_serves.desc).map (fun d => d.parameters.length) = some 2 := by decide +kernel
theorem dX13_serves_0 : decode KX13_serves.2.2.1 0 = .ok (.iload_n 1, 1) := by decide +kernel
theorem dX13_serves_1 : decode KX13_serves.2.2.1 1 = .ok (.aload_n 0, 1) := by decide +kernel
theorem dX13_serves_2 : decode KX13_serves.2.2.1 2 = .ok (.getfield 115, 3) := by decide +kernel
theorem dX13_serves_5 : decode KX13_serves.2.2.1 5 = .ok (.if_icmp .ge 37, 3) := by decide +kernel
theorem dX13_serves_8 : decode KX13_serves.2.2.1 8 = .ok (.aload_n 0, 1) := by decide +kernel
theorem dX13_serves_9 : decode KX13_serves.2.2.1 9 = .ok (.getfield 57, 3) := by decide +kernel
theorem dX13_serves_12 : decode KX13_serves.2.2.1 12 = .ok (.bipush 8, 2) := by decide +kernel
theorem dX13_serves_14 : decode KX13_serves.2.2.1 14 = .ok (.aload_n 0, 1) := by decide +kernel
theorem dX13_serves_15 : decode KX13_serves.2.2.1 15 = .ok (.getfield 13, 3) := by decide +kernel
theorem dX13_serves_18 : decode KX13_serves.2.2.1 18 = .ok (.iload_n 1, 1) := by decide +kernel
theorem dX13_serves_19 : decode KX13_serves.2.2.1 19 = .ok (.iaload, 1) := by decide +kernel
theorem dX13_serves_20 : decode KX13_serves.2.2.1 20 = .ok (.imul, 1) := by decide +kernel
theorem dX13_serves_21 : decode KX13_serves.2.2.1 21 = .ok (.iload_n 2, 1) := by decide +kernel
theorem dX13_serves_22 : decode KX13_serves.2.2.1 22 = .ok (.iadd, 1) := by decide +kernel
theorem dX13_serves_23 : decode KX13_serves.2.2.1 23 = .ok (.baload, 1) := by decide +kernel
theorem dX13_serves_24 : decode KX13_serves.2.2.1 24 = .ok (.ifCond .ne 22, 3) := by decide +kernel
theorem dX13_serves_27 : decode KX13_serves.2.2.1 27 = .ok (.aload_n 0, 1) := by decide +kernel
theorem dX13_serves_28 : decode KX13_serves.2.2.1 28 = .ok (.getfield 16, 3) := by decide +kernel
theorem dX13_serves_31 : decode KX13_serves.2.2.1 31 = .ok (.iload_n 1, 1) := by decide +kernel
theorem dX13_serves_32 : decode KX13_serves.2.2.1 32 = .ok (.iaload, 1) := by decide +kernel
theorem dX13_serves_33 : decode KX13_serves.2.2.1 33 = .ok (.aload_n 0, 1) := by decide +kernel
theorem dX13_serves_34 : decode KX13_serves.2.2.1 34 = .ok (.getfield 31, 3) := by decide +kernel
theorem dX13_serves_37 : decode KX13_serves.2.2.1 37 = .ok (.iload_n 2, 1) := by decide +kernel
theorem dX13_serves_38 : decode KX13_serves.2.2.1 38 = .ok (.iaload, 1) := by decide +kernel
theorem dX13_serves_39 : decode KX13_serves.2.2.1 39 = .ok (.if_icmp .gt 7, 3) := by decide +kernel
theorem dX13_serves_42 : decode KX13_serves.2.2.1 42 = .ok (.iconst 1, 1) := by decide +kernel
theorem dX13_serves_43 : decode KX13_serves.2.2.1 43 = .ok (.goto 4, 3) := by decide +kernel
theorem dX13_serves_46 : decode KX13_serves.2.2.1 46 = .ok (.iconst 0, 1) := by decide +kernel
theorem dX13_serves_47 : decode KX13_serves.2.2.1 47 = .ok (.ireturn, 1) := by decide +kernel
abbrev q_X13_serves (a1 a2 : Int) (h : MH) : MO → MH → Prop := mRI fun v h' => h = h' ∧ 0 ≤ v ∧ v ≤ 1
set_option maxRecDepth 20000 in
theorem c_X13_serves {a1 a2 : Int} {h : MH} (g : GI h) (pa1 : 0 ≤ a1 ∧ a1 ≤ 11) (pa2 : 0 ≤ a2 ∧ a2 ≤ 7) : MCal KX13_serves yX13_serves 0 0 [(2, 2468), (0, a1), (0, a2)] h (q_X13_serves a1 a2 h) := by
  refine MCal.ofMW (Or.inl rfl) ⟨cp_X13, rfl⟩ (Nat.le_of_ble_eq_true rfl) ?_
  change MW _ _ _ _ _ [(0, (2, 2468)), (1, (0, a1)), (2, (0, a2))] _ _
  refine m_locI (i := 1) rfl (fun ua1 wa1 => ?_)
  refine m_locI (i := 2) rfl (fun ua2 wa2 => ?_)
  refine m_iload_n 1 dX13_serves_0 rfl rfl ?_
  refine m_aload_n 2 dX13_serves_1 rfl rfl (by decide) ?_
  refine m_getfield 5 dX13_serves_2 rfl (ci := 13) rfl lu_X13 (k := 1) (by decide) lfX13_115 (tag := 0) rfl (by decide) (GI.lt g (by decide)) (gk2468 g) (fun v1 (ev1 : v1 = (h.2 2468).2.2 1) _ => ?_)
  have bv1 : 0 ≤ v1 ∧ v1 ≤ 8 := by rw [ev1]; exact gf2468_1 g
  refine m_ic_ge 8 42 dX13_serves_5 rfl rfl (fun c2 => ?_) (fun c2 => ?_)
  · skip
    refine m_iconst 43 dX13_serves_42 rfl (by decide) ?_
    refine m_goto 47 dX13_serves_43 rfl ?_
    exact m_ireturn dX13_serves_47 rfl (m_narZ (by omega)) (mqI ⟨rfl, by omega⟩)
  · skip
    refine m_aload_n 9 dX13_serves_8 rfl rfl (by decide) ?_
    refine m_getfieldC 12 dX13_serves_9 rfl (ci := 13) rfl lu_X13 (k := 20) (by decide) lfX13_57 (tag := 2) rfl (by decide) (GI.lt g (by decide)) (gk2468 g) (gf2468_20 g) ?_
    refine m_bipush 14 dX13_serves_12 rfl (by decide) ?_
    refine m_aload_n 15 dX13_serves_14 rfl rfl (by decide) ?_
    refine m_getfieldC 18 dX13_serves_15 rfl (ci := 13) rfl lu_X13 (k := 3) (by decide) lfX13_13 (tag := 2) rfl (by decide) (GI.lt g (by decide)) (gk2468 g) (gf2468_3 g) ?_
    refine m_iload_n 19 dX13_serves_18 rfl rfl ?_
    refine m_iald 20 dX13_serves_19 rfl (by decide) (GI.lt g (by decide)) (gk2470 g) (by omega) (m_len (gl2470 g) (by omega)) (fun v3 ev3 _ => ?_)
    have bv3 : 0 ≤ v3 ∧ v3 ≤ 3 := by rw [ev3]; exact ge2470 g (by omega)
    clear ev3
    refine m_imul 21 dX13_serves_20 rfl (by omega) ?_
    refine m_iload_n 22 dX13_serves_21 rfl rfl ?_
    refine m_iadd 23 dX13_serves_22 rfl (by omega) ?_
    refine m_zald 24 dX13_serves_23 rfl (by decide) (GI.lt g (by decide)) (gk2484 g) (by omega) (m_len (gl2484 g) (by omega)) (fun v4 ev4 _ => ?_)
    have bv4 : 0 ≤ v4 ∧ v4 ≤ 1 := by rw [ev4]; exact ge2484 g (by omega)
    clear ev4
    refine m_if_ne 27 46 dX13_serves_24 rfl rfl (fun c5 => ?_) (fun c5 => ?_)
    · skip
      refine m_iconst 47 dX13_serves_46 rfl (by decide) ?_
      exact m_ireturn dX13_serves_47 rfl (m_narZ (by omega)) (mqI ⟨rfl, by omega⟩)
    · skip
      refine m_aload_n 28 dX13_serves_27 rfl rfl (by decide) ?_
      refine m_getfieldC 31 dX13_serves_28 rfl (ci := 13) rfl lu_X13 (k := 4) (by decide) lfX13_16 (tag := 2) rfl (by decide) (GI.lt g (by decide)) (gk2468 g) (gf2468_4 g) ?_
      refine m_iload_n 32 dX13_serves_31 rfl rfl ?_
      refine m_iald 33 dX13_serves_32 rfl (by decide) (GI.lt g (by decide)) (gk2471 g) (by omega) (m_len (gl2471 g) (by omega)) (fun v6 ev6 _ => ?_)
      have bv6 : 0 ≤ v6 ∧ v6 ≤ 11 := by rw [ev6]; exact ge2471 g (by omega)
      clear ev6
      refine m_aload_n 34 dX13_serves_33 rfl rfl (by decide) ?_
      refine m_getfieldC 37 dX13_serves_34 rfl (ci := 13) rfl lu_X13 (k := 11) (by decide) lfX13_31 (tag := 2) rfl (by decide) (GI.lt g (by decide)) (gk2468 g) (gf2468_11 g) ?_
      refine m_iload_n 38 dX13_serves_37 rfl rfl ?_
      refine m_iald 39 dX13_serves_38 rfl (by decide) (GI.lt g (by decide)) (gk2476 g) (by omega) (m_len (gl2476 g) (by omega)) (fun v7 ev7 _ => ?_)
      have bv7 : 0 ≤ v7 ∧ v7 ≤ 11 := by rw [ev7]; exact ge2476 g (by omega)
      clear ev7
      refine m_ic_gt 42 46 dX13_serves_39 rfl rfl (fun c8 => ?_) (fun c8 => ?_)
      · skip
        refine m_iconst 47 dX13_serves_46 rfl (by decide) ?_
        exact m_ireturn dX13_serves_47 rfl (m_narZ (by omega)) (mqI ⟨rfl, by omega⟩)
      · skip
        refine m_iconst 43 dX13_serves_42 rfl (by decide) ?_
        refine m_goto 47 dX13_serves_43 rfl ?_
        exact m_ireturn dX13_serves_47 rfl (m_narZ (by omega)) (mqI ⟨rfl, by omega⟩)
theorem cy_X13_apart : yX13_apart.cls ≠ "java/lang/invoke/MethodHandle" ∧ yX13_apart.cls ≠ "java/lang/invoke/VarHandle" ∧ (parseMethodDescriptor yX13_apart.desc).map (fun d => d.parameters.length) = some 2 := by decide +kernel
theorem dX13_apart_0 : decode KX13_apart.2.2.1 0 = .ok (.lload_n 0, 1) := by decide +kernel
theorem dX13_apart_1 : decode KX13_apart.2.2.1 1 = .ok (.lload_n 2, 1) := by decide +kernel
theorem dX13_apart_2 : decode KX13_apart.2.2.1 2 = .ok (.lcmp, 1) := by decide +kernel
theorem dX13_apart_3 : decode KX13_apart.2.2.1 3 = .ok (.ifCond .ge 9, 3) := by decide +kernel
theorem dX13_apart_6 : decode KX13_apart.2.2.1 6 = .ok (.lload_n 2, 1) := by decide +kernel
theorem dX13_apart_7 : decode KX13_apart.2.2.1 7 = .ok (.lload_n 0, 1) := by decide +kernel
theorem dX13_apart_8 : decode KX13_apart.2.2.1 8 = .ok (.lsub, 1) := by decide +kernel
theorem dX13_apart_9 : decode KX13_apart.2.2.1 9 = .ok (.goto 6, 3) := by decide +kernel
theorem dX13_apart_12 : decode KX13_apart.2.2.1 12 = .ok (.lload_n 0, 1) := by decide +kernel
theorem dX13_apart_13 : decode KX13_apart.2.2.1 13 = .ok (.lload_n 2, 1) := by decide +kernel
theorem dX13_apart_14 : decode KX13_apart.2.2.1 14 = .ok (.lsub, 1) := by decide +kernel
theorem dX13_apart_15 : decode KX13_apart.2.2.1 15 = .ok (.lreturn, 1) := by decide +kernel
abbrev q_X13_apart (a1 a2 : Int) (h : MH) : MO → MH → Prop := mRL fun v h' => h = h' ∧ (-9223372036854775808) ≤ v ∧ v ≤ 9223372036854775807
set_option maxRecDepth 20000 in
theorem c_X13_apart {a1 a2 : Int} {h : MH} : MCal KX13_apart yX13_apart 0 0 [(1, a1), (1, a2)] h (q_X13_apart a1 a2 h) := by
  refine MCal.ofMW (Or.inl rfl) ⟨cp_X13, rfl⟩ (Nat.le_of_ble_eq_true rfl) ?_
  change MW _ _ _ _ _ [(0, (1, a1)), (2, (1, a2))] _ _
  refine m_locL (i := 0) rfl (fun ua1 wa1 => ?_)
  refine m_locL (i := 2) rfl (fun ua2 wa2 => ?_)
  refine m_lload_n 1 dX13_apart_0 rfl rfl ?_
  refine m_lload_n 2 dX13_apart_1 rfl rfl ?_
  refine m_lc_ge 6 12 dX13_apart_2 dX13_apart_3 rfl rfl (fun c1 => ?_) (fun c1 => ?_)
  · skip
    refine m_lload_n 13 dX13_apart_12 rfl rfl ?_
    refine m_lload_n 14 dX13_apart_13 rfl rfl ?_
    refine m_lsubW 15 dX13_apart_14 rfl ?_
    obtain ⟨v2, ev2⟩ : ∃ v2 : Int, v2 = (a1 - a2).bmod 18446744073709551616 := ⟨_, rfl⟩
    rw [← ev2]
    have bv2 : (-9223372036854775808) ≤ v2 ∧ v2 ≤ 9223372036854775807 := ev2 ▸ mL_bm _
    clear ev2
    exact m_lreturn dX13_apart_15 rfl (mqL ⟨rfl, by omega⟩)
  · skip
    refine m_lload_n 7 dX13_apart_6 rfl rfl ?_
    refine m_lload_n 8 dX13_apart_7 rfl rfl ?_
    refine m_lsubW 9 dX13_apart_8 rfl ?_
    obtain ⟨v3, ev3⟩ : ∃ v3 : Int, v3 = (a2 - a1).bmod 18446744073709551616 := ⟨_, rfl⟩
    rw [← ev3]
    have bv3 : (-9223372036854775808) ≤ v3 ∧ v3 ≤ 9223372036854775807 := ev3 ▸ mL_bm _
    clear ev3
    refine m_goto 15 dX13_apart_9 rfl ?_
    exact m_lreturn dX13_apart_15 rfl (mqL ⟨rfl, by omega⟩)
theorem cy_X13_priceOf : yX13_priceOf.cls ≠ "java/lang/invoke/MethodHandle" ∧ yX13_priceOf.cls ≠ "java/lang/invoke/VarHandle" ∧ (parseMethodDescriptor yX13_priceOf.desc).map (fun d => d.parameters.length) = some 3 := by decide +kernel
theorem dX13_priceOf_0 : decode KX13_priceOf.2.2.1 0 = .ok (.aload_n 0, 1) := by decide +kernel
theorem dX13_priceOf_1 : decode KX13_priceOf.2.2.1 1 = .ok (.iload_n 1, 1) := by decide +kernel
theorem dX13_priceOf_2 : decode KX13_priceOf.2.2.1 2 = .ok (.invokevirtual 141, 3) := by decide +kernel
theorem dX13_priceOf_5 : decode KX13_priceOf.2.2.1 5 = .ok (.istore 4, 2) := by decide +kernel
theorem dX13_priceOf_7 : decode KX13_priceOf.2.2.1 7 = .ok (.aload_n 0, 1) := by decide +kernel
theorem dX13_priceOf_8 : decode KX13_priceOf.2.2.1 8 = .ok (.getfield 34, 3) := by decide +kernel
theorem dX13_priceOf_11 : decode KX13_priceOf.2.2.1 11 = .ok (.iload_n 2, 1) := by decide +kernel
theorem dX13_priceOf_12 : decode KX13_priceOf.2.2.1 12 = .ok (.iaload, 1) := by decide +kernel
theorem dX13_priceOf_13 : decode KX13_priceOf.2.2.1 13 = .ok (.istore 5, 2) := by decide +kernel
theorem dX13_priceOf_15 : decode KX13_priceOf.2.2.1 15 = .ok (.iload 4, 2) := by decide +kernel
theorem dX13_priceOf_17 : decode KX13_priceOf.2.2.1 17 = .ok (.i2l, 1) := by decide +kernel
theorem dX13_priceOf_18 : decode KX13_priceOf.2.2.1 18 = .ok (.iload 5, 2) := by decide +kernel
theorem dX13_priceOf_20 : decode KX13_priceOf.2.2.1 20 = .ok (.i2l, 1) := by decide +kernel
theorem dX13_priceOf_21 : decode KX13_priceOf.2.2.1 21 = .ok (.invokestatic 145, 3) := by decide +kernel
theorem dX13_priceOf_24 : decode KX13_priceOf.2.2.1 24 = .ok (.lstore 6, 2) := by decide +kernel
theorem dX13_priceOf_26 : decode KX13_priceOf.2.2.1 26 = .ok (.iconst 0, 1) := by decide +kernel
theorem dX13_priceOf_27 : decode KX13_priceOf.2.2.1 27 = .ok (.istore 8, 2) := by decide +kernel
theorem dX13_priceOf_29 : decode KX13_priceOf.2.2.1 29 = .ok (.iload 8, 2) := by decide +kernel
theorem dX13_priceOf_31 : decode KX13_priceOf.2.2.1 31 = .ok (.aload_n 0, 1) := by decide +kernel
theorem dX13_priceOf_32 : decode KX13_priceOf.2.2.1 32 = .ok (.getfield 130, 3) := by decide +kernel
theorem dX13_priceOf_35 : decode KX13_priceOf.2.2.1 35 = .ok (.if_icmp .ge 149, 3) := by decide +kernel
theorem dX13_priceOf_38 : decode KX13_priceOf.2.2.1 38 = .ok (.iload 4, 2) := by decide +kernel
theorem dX13_priceOf_40 : decode KX13_priceOf.2.2.1 40 = .ok (.i2l, 1) := by decide +kernel
theorem dX13_priceOf_41 : decode KX13_priceOf.2.2.1 41 = .ok (.aload_n 0, 1) := by decide +kernel
theorem dX13_priceOf_42 : decode KX13_priceOf.2.2.1 42 = .ok (.getfield 37, 3) := by decide +kernel
theorem dX13_priceOf_45 : decode KX13_priceOf.2.2.1 45 = .ok (.iload 8, 2) := by decide +kernel
theorem dX13_priceOf_47 : decode KX13_priceOf.2.2.1 47 = .ok (.iaload, 1) := by decide +kernel
theorem dX13_priceOf_48 : decode KX13_priceOf.2.2.1 48 = .ok (.i2l, 1) := by decide +kernel
theorem dX13_priceOf_49 : decode KX13_priceOf.2.2.1 49 = .ok (.invokestatic 145, 3) := by decide +kernel
theorem dX13_priceOf_52 : decode KX13_priceOf.2.2.1 52 = .ok (.aload_n 0, 1) := by decide +kernel
theorem dX13_priceOf_53 : decode KX13_priceOf.2.2.1 53 = .ok (.getfield 40, 3) := by decide +kernel
theorem dX13_priceOf_56 : decode KX13_priceOf.2.2.1 56 = .ok (.iload 8, 2) := by decide +kernel
theorem dX13_priceOf_58 : decode KX13_priceOf.2.2.1 58 = .ok (.iaload, 1) := by decide +kernel
theorem dX13_priceOf_59 : decode KX13_priceOf.2.2.1 59 = .ok (.i2l, 1) := by decide +kernel
theorem dX13_priceOf_60 : decode KX13_priceOf.2.2.1 60 = .ok (.iload 5, 2) := by decide +kernel
theorem dX13_priceOf_62 : decode KX13_priceOf.2.2.1 62 = .ok (.i2l, 1) := by decide +kernel
theorem dX13_priceOf_63 : decode KX13_priceOf.2.2.1 63 = .ok (.invokestatic 145, 3) := by decide +kernel
theorem dX13_priceOf_66 : decode KX13_priceOf.2.2.1 66 = .ok (.ladd, 1) := by decide +kernel
theorem dX13_priceOf_67 : decode KX13_priceOf.2.2.1 67 = .ok (.aload_n 0, 1) := by decide +kernel
theorem dX13_priceOf_68 : decode KX13_priceOf.2.2.1 68 = .ok (.getfield 43, 3) := by decide +kernel
theorem dX13_priceOf_71 : decode KX13_priceOf.2.2.1 71 = .ok (.iload 8, 2) := by decide +kernel
theorem dX13_priceOf_73 : decode KX13_priceOf.2.2.1 73 = .ok (.iaload, 1) := by decide +kernel
theorem dX13_priceOf_74 : decode KX13_priceOf.2.2.1 74 = .ok (.i2l, 1) := by decide +kernel
theorem dX13_priceOf_75 : decode KX13_priceOf.2.2.1 75 = .ok (.ladd, 1) := by decide +kernel
theorem dX13_priceOf_76 : decode KX13_priceOf.2.2.1 76 = .ok (.lstore 9, 2) := by decide +kernel
theorem dX13_priceOf_78 : decode KX13_priceOf.2.2.1 78 = .ok (.iload 4, 2) := by decide +kernel
theorem dX13_priceOf_80 : decode KX13_priceOf.2.2.1 80 = .ok (.i2l, 1) := by decide +kernel
theorem dX13_priceOf_81 : decode KX13_priceOf.2.2.1 81 = .ok (.aload_n 0, 1) := by decide +kernel
theorem dX13_priceOf_82 : decode KX13_priceOf.2.2.1 82 = .ok (.getfield 40, 3) := by decide +kernel
theorem dX13_priceOf_85 : decode KX13_priceOf.2.2.1 85 = .ok (.iload 8, 2) := by decide +kernel
theorem dX13_priceOf_87 : decode KX13_priceOf.2.2.1 87 = .ok (.iaload, 1) := by decide +kernel
theorem dX13_priceOf_88 : decode KX13_priceOf.2.2.1 88 = .ok (.i2l, 1) := by decide +kernel
theorem dX13_priceOf_89 : decode KX13_priceOf.2.2.1 89 = .ok (.invokestatic 145, 3) := by decide +kernel
theorem dX13_priceOf_92 : decode KX13_priceOf.2.2.1 92 = .ok (.aload_n 0, 1) := by decide +kernel
theorem dX13_priceOf_93 : decode KX13_priceOf.2.2.1 93 = .ok (.getfield 37, 3) := by decide +kernel
theorem dX13_priceOf_96 : decode KX13_priceOf.2.2.1 96 = .ok (.iload 8, 2) := by decide +kernel
theorem dX13_priceOf_98 : decode KX13_priceOf.2.2.1 98 = .ok (.iaload, 1) := by decide +kernel
theorem dX13_priceOf_99 : decode KX13_priceOf.2.2.1 99 = .ok (.i2l, 1) := by decide +kernel
theorem dX13_priceOf_100 : decode KX13_priceOf.2.2.1 100 = .ok (.iload 5, 2) := by decide +kernel
theorem dX13_priceOf_102 : decode KX13_priceOf.2.2.1 102 = .ok (.i2l, 1) := by decide +kernel
theorem dX13_priceOf_103 : decode KX13_priceOf.2.2.1 103 = .ok (.invokestatic 145, 3) := by decide +kernel
theorem dX13_priceOf_106 : decode KX13_priceOf.2.2.1 106 = .ok (.ladd, 1) := by decide +kernel
theorem dX13_priceOf_107 : decode KX13_priceOf.2.2.1 107 = .ok (.aload_n 0, 1) := by decide +kernel
theorem dX13_priceOf_108 : decode KX13_priceOf.2.2.1 108 = .ok (.getfield 43, 3) := by decide +kernel
theorem dX13_priceOf_111 : decode KX13_priceOf.2.2.1 111 = .ok (.iload 8, 2) := by decide +kernel
theorem dX13_priceOf_113 : decode KX13_priceOf.2.2.1 113 = .ok (.iaload, 1) := by decide +kernel
theorem dX13_priceOf_114 : decode KX13_priceOf.2.2.1 114 = .ok (.i2l, 1) := by decide +kernel
theorem dX13_priceOf_115 : decode KX13_priceOf.2.2.1 115 = .ok (.ladd, 1) := by decide +kernel
theorem dX13_priceOf_116 : decode KX13_priceOf.2.2.1 116 = .ok (.lstore 11, 2) := by decide +kernel
theorem dX13_priceOf_118 : decode KX13_priceOf.2.2.1 118 = .ok (.lload 9, 2) := by decide +kernel
theorem dX13_priceOf_120 : decode KX13_priceOf.2.2.1 120 = .ok (.lload 11, 2) := by decide +kernel
theorem dX13_priceOf_122 : decode KX13_priceOf.2.2.1 122 = .ok (.lcmp, 1) := by decide +kernel
theorem dX13_priceOf_123 : decode KX13_priceOf.2.2.1 123 = .ok (.ifCond .ge 8, 3) := by decide +kernel
theorem dX13_priceOf_126 : decode KX13_priceOf.2.2.1 126 = .ok (.lload 9, 2) := by decide +kernel
theorem dX13_priceOf_128 : decode KX13_priceOf.2.2.1 128 = .ok (.goto 5, 3) := by decide +kernel
theorem dX13_priceOf_131 : decode KX13_priceOf.2.2.1 131 = .ok (.lload 11, 2) := by decide +kernel
theorem dX13_priceOf_133 : decode KX13_priceOf.2.2.1 133 = .ok (.lstore 13, 2) := by decide +kernel
theorem dX13_priceOf_135 : decode KX13_priceOf.2.2.1 135 = .ok (.iload 8, 2) := by decide +kernel
theorem dX13_priceOf_137 : decode KX13_priceOf.2.2.1 137 = .ok (.iload_n 3, 1) := by decide +kernel
theorem dX13_priceOf_138 : decode KX13_priceOf.2.2.1 138 = .ok (.if_icmp .eq 36, 3) := by decide +kernel
theorem dX13_priceOf_141 : decode KX13_priceOf.2.2.1 141 = .ok (.aload_n 0, 1) := by decide +kernel
theorem dX13_priceOf_142 : decode KX13_priceOf.2.2.1 142 = .ok (.getfield 46, 3) := by decide +kernel
theorem dX13_priceOf_145 : decode KX13_priceOf.2.2.1 145 = .ok (.bipush 12, 2) := by decide +kernel
theorem dX13_priceOf_147 : decode KX13_priceOf.2.2.1 147 = .ok (.iload 8, 2) := by decide +kernel
theorem dX13_priceOf_149 : decode KX13_priceOf.2.2.1 149 = .ok (.imul, 1) := by decide +kernel
theorem dX13_priceOf_150 : decode KX13_priceOf.2.2.1 150 = .ok (.aload_n 0, 1) := by decide +kernel
theorem dX13_priceOf_151 : decode KX13_priceOf.2.2.1 151 = .ok (.getfield 31, 3) := by decide +kernel
theorem dX13_priceOf_154 : decode KX13_priceOf.2.2.1 154 = .ok (.iload_n 2, 1) := by decide +kernel
theorem dX13_priceOf_155 : decode KX13_priceOf.2.2.1 155 = .ok (.iaload, 1) := by decide +kernel
theorem dX13_priceOf_156 : decode KX13_priceOf.2.2.1 156 = .ok (.iadd, 1) := by decide +kernel
theorem dX13_priceOf_157 : decode KX13_priceOf.2.2.1 157 = .ok (.baload, 1) := by decide +kernel
theorem dX13_priceOf_158 : decode KX13_priceOf.2.2.1 158 = .ok (.ifCond .ne 16, 3) := by decide +kernel
theorem dX13_priceOf_161 : decode KX13_priceOf.2.2.1 161 = .ok (.lload 13, 2) := by decide +kernel
theorem dX13_priceOf_163 : decode KX13_priceOf.2.2.1 163 = .ok (.lload 6, 2) := by decide +kernel
theorem dX13_priceOf_165 : decode KX13_priceOf.2.2.1 165 = .ok (.lcmp, 1) := by decide +kernel
theorem dX13_priceOf_166 : decode KX13_priceOf.2.2.1 166 = .ok (.ifCond .ge 8, 3) := by decide +kernel
theorem dX13_priceOf_169 : decode KX13_priceOf.2.2.1 169 = .ok (.lload 13, 2) := by decide +kernel
theorem dX13_priceOf_171 : decode KX13_priceOf.2.2.1 171 = .ok (.goto 5, 3) := by decide +kernel
theorem dX13_priceOf_174 : decode KX13_priceOf.2.2.1 174 = .ok (.lload 6, 2) := by decide +kernel
theorem dX13_priceOf_176 : decode KX13_priceOf.2.2.1 176 = .ok (.lstore 6, 2) := by decide +kernel
theorem dX13_priceOf_178 : decode KX13_priceOf.2.2.1 178 = .ok (.iinc 8 1, 3) := by decide +kernel
theorem dX13_priceOf_181 : decode KX13_priceOf.2.2.1 181 = .ok (.goto (-152), 3) := by decide +kernel
theorem dX13_priceOf_184 : decode KX13_priceOf.2.2.1 184 = .ok (.lload 6, 2) := by decide +kernel
theorem dX13_priceOf_186 : decode KX13_priceOf.2.2.1 186 = .ok (.iload_n 1, 1) := by decide +kernel
theorem dX13_priceOf_187 : decode KX13_priceOf.2.2.1 187 = .ok (.aload_n 0, 1) := by decide +kernel
theorem dX13_priceOf_188 : decode KX13_priceOf.2.2.1 188 = .ok (.getfield 115, 3) := by decide +kernel
theorem dX13_priceOf_191 : decode KX13_priceOf.2.2.1 191 = .ok (.if_icmp .ge 7, 3) := by decide +kernel
theorem dX13_priceOf_194 : decode KX13_priceOf.2.2.1 194 = .ok (.iconst 0, 1) := by decide +kernel
theorem dX13_priceOf_195 : decode KX13_priceOf.2.2.1 195 = .ok (.goto 14, 3) := by decide +kernel
theorem dX13_priceOf_198 : decode KX13_priceOf.2.2.1 198 = .ok (.aload_n 0, 1) := by decide +kernel
theorem dX13_priceOf_199 : decode KX13_priceOf.2.2.1 199 = .ok (.getfield 25, 3) := by decide +kernel
theorem dX13_priceOf_202 : decode KX13_priceOf.2.2.1 202 = .ok (.iload_n 1, 1) := by decide +kernel
theorem dX13_priceOf_203 : decode KX13_priceOf.2.2.1 203 = .ok (.aload_n 0, 1) := by decide +kernel
theorem dX13_priceOf_204 : decode KX13_priceOf.2.2.1 204 = .ok (.getfield 115, 3) := by decide +kernel
theorem dX13_priceOf_207 : decode KX13_priceOf.2.2.1 207 = .ok (.isub, 1) := by decide +kernel
theorem dX13_priceOf_208 : decode KX13_priceOf.2.2.1 208 = .ok (.iaload, 1) := by decide +kernel
theorem dX13_priceOf_209 : decode KX13_priceOf.2.2.1 209 = .ok (.i2l, 1) := by decide +kernel
theorem dX13_priceOf_210 : decode KX13_priceOf.2.2.1 210 = .ok (.ladd, 1) := by decide +kernel
theorem dX13_priceOf_211 : decode KX13_priceOf.2.2.1 211 = .ok (.lreturn, 1) := by decide +kernel
abbrev q_X13_priceOf (a1 a2 a3 : Int) (h : MH) : MO → MH → Prop := mRL fun v h' => h = h' ∧ (-9223372036854775808) ≤ v ∧ v ≤ 9223372036854775807
set_option maxRecDepth 20000 in
theorem c_X13_priceOf {a1 a2 a3 : Int} {h : MH} (g : GI h) (pa1 : 0 ≤ a1 ∧ a1 ≤ 11) (pa2 : 0 ≤ a2 ∧ a2 ≤ 7) (pa3 : (-1) ≤ a3 ∧ a3 ≤ 5) (r0 : a1 < (h.2 2468).2.2 1 + (h.2 2468).2.2 6) : MCal KX13_priceOf yX13_priceOf 0 0 [(2, 2468), (0, a1), (0, a2), (0, a3)] h (q_X13_priceOf a1 a2 a3 h) := by
  refine MCal.ofMW (Or.inl rfl) ⟨cp_X13, rfl⟩ (Nat.le_of_ble_eq_true rfl) ?_
  change MW _ _ _ _ _ [(0, (2, 2468)), (1, (0, a1)), (2, (0, a2)), (3, (0, a3))] _ _
  refine m_locI (i := 1) rfl (fun ua1 wa1 => ?_)
  refine m_locI (i := 2) rfl (fun ua2 wa2 => ?_)
  refine m_locI (i := 3) rfl (fun ua3 wa3 => ?_)
  have f1 := gf2468_1 g
  have f2 := gf2468_6 g
  refine m_aload_n 1 dX13_priceOf_0 rfl rfl (by decide) ?_
  refine m_iload_n 2 dX13_priceOf_1 rfl rfl ?_
  refine m_invokevirtual (K' := KX13_metreOf) (As := [(0, a1)]) dX13_priceOf_2 (fun _ => by decide) ⟨lo_X13_metreOf, li_X13⟩ (ci := 13) (r := 2468) rfl (by decide) (GI.lt g (by decide)) (gk2468 g) ⟨lmX13_141, lv_X13_metreOf_i, ls_X13_metreOf⟩ ⟨rfl, cy_X13_metreOf⟩ ⟨Nat.le_of_ble_eq_true rfl, Nat.le_of_ble_eq_true rfl⟩ (Nat.le_of_ble_eq_true rfl) rfl (Nat.zero_le _) (Nat.zero_le _) (c_X13_metreOf g (by omega) (by omega)) (mkI fun v3 h4 q5 => ?_)
  obtain ⟨rfl, q5⟩ := q5
  refine m_istore 7 dX13_priceOf_5 rfl (by decide) ?_
  refine m_aload_n 8 dX13_priceOf_7 rfl rfl (by decide) ?_
  refine m_getfieldC 11 dX13_priceOf_8 rfl (ci := 13) rfl lu_X13 (k := 12) (by decide) lfX13_34 (tag := 2) rfl (by decide) (GI.lt g (by decide)) (gk2468 g) (gf2468_12 g) ?_
  refine m_iload_n 12 dX13_priceOf_11 rfl rfl ?_
  refine m_iald 13 dX13_priceOf_12 rfl (by decide) (GI.lt g (by decide)) (gk2477 g) (by omega) (m_len (gl2477 g) (by omega)) (fun v6 ev6 _ => ?_)
  have bv6 : 0 ≤ v6 ∧ v6 ≤ 100000 := by rw [ev6]; exact ge2477 g (by omega)
  clear ev6
  refine m_istore 15 dX13_priceOf_13 rfl (by decide) ?_
  refine m_iload 17 dX13_priceOf_15 rfl rfl ?_
  refine m_i2l 18 dX13_priceOf_17 rfl ?_
  refine m_iload 20 dX13_priceOf_18 rfl rfl ?_
  refine m_i2l 21 dX13_priceOf_20 rfl ?_
  refine m_invokestatic (K' := KX13_apart) (As := [(1, v3), (1, v6)]) dX13_priceOf_21 (fun _ => by decide) ⟨lo_X13_apart, li_X13⟩ ⟨lmX13_145, lv_X13_apart_s⟩ ⟨rfl, cy_X13_apart⟩ ⟨Nat.le_of_ble_eq_true rfl, Nat.le_of_ble_eq_true rfl⟩ (Nat.le_of_ble_eq_true rfl) rfl (Nat.zero_le _) (Nat.zero_le _) (c_X13_apart) (mkL fun v7 h8 q9 => ?_)
  obtain ⟨rfl, q9⟩ := q9
  refine m_lstore 26 dX13_priceOf_24 rfl (by decide) ?_
  refine m_iconst 27 dX13_priceOf_26 rfl (by decide) ?_
  refine m_istore 29 dX13_priceOf_27 rfl (by decide) ?_
  have lp29 : ∀ (n : Nat) (x10 x11 : Int), True → ((-9223372036854775808) ≤ x10 ∧ x10 ≤ 9223372036854775807) → (0 ≤ x11 ∧ x11 ≤ 6) → (6 - x11).toNat = n → MW KX13_priceOf (q_X13_priceOf a1 a2 a3 h) 0 0 29 [(0, (2, 2468)), (1, (0, a1)), (2, (0, a2)), (3, (0, a3)), (4, (0, v3)), (5, (0, v6)), (6, (1, x10)), (8, (0, x11))] [] h := by
    intro n
    induction n using Nat.strongRecOn with
    | _ n ih29 =>
    intro x10 x11 _ b12 b13 hm29
    refine m_iload 31 dX13_priceOf_29 rfl rfl ?_
    refine m_aload_n 32 dX13_priceOf_31 rfl rfl (by decide) ?_
    refine m_getfield 35 dX13_priceOf_32 rfl (ci := 13) rfl lu_X13 (k := 13) (by decide) lfX13_130 (tag := 0) rfl (by decide) (GI.lt g (by decide)) (gk2468 g) (fun v14 (ev14 : v14 = (h.2 2468).2.2 13) _ => ?_)
    have bv14 : 0 ≤ v14 ∧ v14 ≤ 6 := by rw [ev14]; exact gf2468_13 g
    refine m_ic_ge 38 184 dX13_priceOf_35 rfl rfl (fun c15 => ?_) (fun c15 => ?_)
    · skip
      refine m_lload 186 dX13_priceOf_184 rfl rfl ?_
      refine m_iload_n 187 dX13_priceOf_186 rfl rfl ?_
      refine m_aload_n 188 dX13_priceOf_187 rfl rfl (by decide) ?_
      refine m_getfield 191 dX13_priceOf_188 rfl (ci := 13) rfl lu_X13 (k := 1) (by decide) lfX13_115 (tag := 0) rfl (by decide) (GI.lt g (by decide)) (gk2468 g) (fun v16 (ev16 : v16 = (h.2 2468).2.2 1) _ => ?_)
      have bv16 : 0 ≤ v16 ∧ v16 ≤ 8 := by rw [ev16]; exact gf2468_1 g
      refine m_ic_ge 194 198 dX13_priceOf_191 rfl rfl (fun c17 => ?_) (fun c17 => ?_)
      · skip
        refine m_aload_n 199 dX13_priceOf_198 rfl rfl (by decide) ?_
        refine m_getfieldC 202 dX13_priceOf_199 rfl (ci := 13) rfl lu_X13 (k := 8) (by decide) lfX13_25 (tag := 2) rfl (by decide) (GI.lt g (by decide)) (gk2468 g) (gf2468_8 g) ?_
        refine m_iload_n 203 dX13_priceOf_202 rfl rfl ?_
        refine m_aload_n 204 dX13_priceOf_203 rfl rfl (by decide) ?_
        refine m_getfield 207 dX13_priceOf_204 rfl (ci := 13) rfl lu_X13 (k := 1) (by decide) lfX13_115 (tag := 0) rfl (by decide) (GI.lt g (by decide)) (gk2468 g) (fun v18 (ev18 : v18 = (h.2 2468).2.2 1) _ => ?_)
        have bv18 : 0 ≤ v18 ∧ v18 ≤ 8 := by rw [ev18]; exact gf2468_1 g
        have qv18 : v16 = v18 := (ev18.trans ev16.symm).symm
        subst qv18
        refine m_isub 208 dX13_priceOf_207 rfl (by omega) ?_
        refine m_iald 209 dX13_priceOf_208 rfl (by decide) (GI.lt g (by decide)) (gk2474 g) (by omega) (m_len (gl2474 g) (by omega)) (fun v19 ev19 _ => ?_)
        have bv19 : 0 ≤ v19 ∧ v19 ≤ 100000 := by rw [ev19]; exact ge2474 g (by omega)
        clear ev19
        refine m_i2l 210 dX13_priceOf_209 rfl ?_
        refine m_laddW 211 dX13_priceOf_210 rfl ?_
        obtain ⟨v20, ev20⟩ : ∃ v20 : Int, v20 = (x10 + v19).bmod 18446744073709551616 := ⟨_, rfl⟩
        rw [← ev20]
        have bv20 : (-9223372036854775808) ≤ v20 ∧ v20 ≤ 9223372036854775807 := ev20 ▸ mL_bm _
        clear ev20
        exact m_lreturn dX13_priceOf_211 rfl (mqL ⟨rfl, by omega⟩)
      · skip
        refine m_iconst 195 dX13_priceOf_194 rfl (by decide) ?_
        refine m_goto 209 dX13_priceOf_195 rfl ?_
        refine m_i2l 210 dX13_priceOf_209 rfl ?_
        refine m_ladd 211 dX13_priceOf_210 rfl (by omega) ?_
        exact m_lreturn dX13_priceOf_211 rfl (mqL ⟨rfl, by omega⟩)
    · skip
      refine m_iload 40 dX13_priceOf_38 rfl rfl ?_
      refine m_i2l 41 dX13_priceOf_40 rfl ?_
      refine m_aload_n 42 dX13_priceOf_41 rfl rfl (by decide) ?_
      refine m_getfieldC 45 dX13_priceOf_42 rfl (ci := 13) rfl lu_X13 (k := 14) (by decide) lfX13_37 (tag := 2) rfl (by decide) (GI.lt g (by decide)) (gk2468 g) (gf2468_14 g) ?_
      refine m_iload 47 dX13_priceOf_45 rfl rfl ?_
      refine m_iald 48 dX13_priceOf_47 rfl (by decide) (GI.lt g (by decide)) (gk2478 g) (by omega) (m_len (gl2478 g) (by omega)) (fun v21 ev21 _ => ?_)
      have bv21 : 0 ≤ v21 ∧ v21 ≤ 100000 := by rw [ev21]; exact ge2478 g (by omega)
      clear ev21
      refine m_i2l 49 dX13_priceOf_48 rfl ?_
      refine m_invokestatic (K' := KX13_apart) (As := [(1, v3), (1, v21)]) dX13_priceOf_49 (fun _ => by decide) ⟨lo_X13_apart, li_X13⟩ ⟨lmX13_145, lv_X13_apart_s⟩ ⟨rfl, cy_X13_apart⟩ ⟨Nat.le_of_ble_eq_true rfl, Nat.le_of_ble_eq_true rfl⟩ (Nat.le_of_ble_eq_true rfl) rfl (Nat.zero_le _) (Nat.zero_le _) (c_X13_apart) (mkL fun v22 h23 q24 => ?_)
      obtain ⟨rfl, q24⟩ := q24
      refine m_aload_n 53 dX13_priceOf_52 rfl rfl (by decide) ?_
      refine m_getfieldC 56 dX13_priceOf_53 rfl (ci := 13) rfl lu_X13 (k := 15) (by decide) lfX13_40 (tag := 2) rfl (by decide) (GI.lt g (by decide)) (gk2468 g) (gf2468_15 g) ?_
      refine m_iload 58 dX13_priceOf_56 rfl rfl ?_
      refine m_iald 59 dX13_priceOf_58 rfl (by decide) (GI.lt g (by decide)) (gk2479 g) (by omega) (m_len (gl2479 g) (by omega)) (fun v25 ev25 _ => ?_)
      have bv25 : 0 ≤ v25 ∧ v25 ≤ 100000 := by rw [ev25]; exact ge2479 g (by omega)
      clear ev25
      refine m_i2l 60 dX13_priceOf_59 rfl ?_
      refine m_iload 62 dX13_priceOf_60 rfl rfl ?_
      refine m_i2l 63 dX13_priceOf_62 rfl ?_
      refine m_invokestatic (K' := KX13_apart) (As := [(1, v25), (1, v6)]) dX13_priceOf_63 (fun _ => by decide) ⟨lo_X13_apart, li_X13⟩ ⟨lmX13_145, lv_X13_apart_s⟩ ⟨rfl, cy_X13_apart⟩ ⟨Nat.le_of_ble_eq_true rfl, Nat.le_of_ble_eq_true rfl⟩ (Nat.le_of_ble_eq_true rfl) rfl (Nat.zero_le _) (Nat.zero_le _) (c_X13_apart) (mkL fun v26 h27 q28 => ?_)
      obtain ⟨rfl, q28⟩ := q28
      refine m_laddW 67 dX13_priceOf_66 rfl ?_
      obtain ⟨v29, ev29⟩ : ∃ v29 : Int, v29 = (v22 + v26).bmod 18446744073709551616 := ⟨_, rfl⟩
      rw [← ev29]
      have bv29 : (-9223372036854775808) ≤ v29 ∧ v29 ≤ 9223372036854775807 := ev29 ▸ mL_bm _
      clear ev29
      refine m_aload_n 68 dX13_priceOf_67 rfl rfl (by decide) ?_
      refine m_getfieldC 71 dX13_priceOf_68 rfl (ci := 13) rfl lu_X13 (k := 16) (by decide) lfX13_43 (tag := 2) rfl (by decide) (GI.lt g (by decide)) (gk2468 g) (gf2468_16 g) ?_
      refine m_iload 73 dX13_priceOf_71 rfl rfl ?_
      refine m_iald 74 dX13_priceOf_73 rfl (by decide) (GI.lt g (by decide)) (gk2480 g) (by omega) (m_len (gl2480 g) (by omega)) (fun v30 ev30 _ => ?_)
      have bv30 : 0 ≤ v30 ∧ v30 ≤ 100000 := by rw [ev30]; exact ge2480 g (by omega)
      clear ev30
      refine m_i2l 75 dX13_priceOf_74 rfl ?_
      refine m_laddW 76 dX13_priceOf_75 rfl ?_
      obtain ⟨v31, ev31⟩ : ∃ v31 : Int, v31 = (v29 + v30).bmod 18446744073709551616 := ⟨_, rfl⟩
      rw [← ev31]
      have bv31 : (-9223372036854775808) ≤ v31 ∧ v31 ≤ 9223372036854775807 := ev31 ▸ mL_bm _
      clear ev31
      refine m_lstore 78 dX13_priceOf_76 rfl (by decide) ?_
      refine m_iload 80 dX13_priceOf_78 rfl rfl ?_
      refine m_i2l 81 dX13_priceOf_80 rfl ?_
      refine m_aload_n 82 dX13_priceOf_81 rfl rfl (by decide) ?_
      refine m_getfieldC 85 dX13_priceOf_82 rfl (ci := 13) rfl lu_X13 (k := 15) (by decide) lfX13_40 (tag := 2) rfl (by decide) (GI.lt g (by decide)) (gk2468 g) (gf2468_15 g) ?_
      refine m_iload 87 dX13_priceOf_85 rfl rfl ?_
      refine m_iald 88 dX13_priceOf_87 rfl (by decide) (GI.lt g (by decide)) (gk2479 g) (by omega) (m_len (gl2479 g) (by omega)) (fun v32 ev32 _ => ?_)
      have bv32 : 0 ≤ v32 ∧ v32 ≤ 100000 := by rw [ev32]; exact ge2479 g (by omega)
      clear ev32
      refine m_i2l 89 dX13_priceOf_88 rfl ?_
      refine m_invokestatic (K' := KX13_apart) (As := [(1, v3), (1, v32)]) dX13_priceOf_89 (fun _ => by decide) ⟨lo_X13_apart, li_X13⟩ ⟨lmX13_145, lv_X13_apart_s⟩ ⟨rfl, cy_X13_apart⟩ ⟨Nat.le_of_ble_eq_true rfl, Nat.le_of_ble_eq_true rfl⟩ (Nat.le_of_ble_eq_true rfl) rfl (Nat.zero_le _) (Nat.zero_le _) (c_X13_apart) (mkL fun v33 h34 q35 => ?_)
      obtain ⟨rfl, q35⟩ := q35
      refine m_aload_n 93 dX13_priceOf_92 rfl rfl (by decide) ?_
      refine m_getfieldC 96 dX13_priceOf_93 rfl (ci := 13) rfl lu_X13 (k := 14) (by decide) lfX13_37 (tag := 2) rfl (by decide) (GI.lt g (by decide)) (gk2468 g) (gf2468_14 g) ?_
      refine m_iload 98 dX13_priceOf_96 rfl rfl ?_
      refine m_iald 99 dX13_priceOf_98 rfl (by decide) (GI.lt g (by decide)) (gk2478 g) (by omega) (m_len (gl2478 g) (by omega)) (fun v36 ev36 _ => ?_)
      have bv36 : 0 ≤ v36 ∧ v36 ≤ 100000 := by rw [ev36]; exact ge2478 g (by omega)
      clear ev36
      refine m_i2l 100 dX13_priceOf_99 rfl ?_
      refine m_iload 102 dX13_priceOf_100 rfl rfl ?_
      refine m_i2l 103 dX13_priceOf_102 rfl ?_
      refine m_invokestatic (K' := KX13_apart) (As := [(1, v36), (1, v6)]) dX13_priceOf_103 (fun _ => by decide) ⟨lo_X13_apart, li_X13⟩ ⟨lmX13_145, lv_X13_apart_s⟩ ⟨rfl, cy_X13_apart⟩ ⟨Nat.le_of_ble_eq_true rfl, Nat.le_of_ble_eq_true rfl⟩ (Nat.le_of_ble_eq_true rfl) rfl (Nat.zero_le _) (Nat.zero_le _) (c_X13_apart) (mkL fun v37 h38 q39 => ?_)
      obtain ⟨rfl, q39⟩ := q39
      refine m_laddW 107 dX13_priceOf_106 rfl ?_
      obtain ⟨v40, ev40⟩ : ∃ v40 : Int, v40 = (v33 + v37).bmod 18446744073709551616 := ⟨_, rfl⟩
      rw [← ev40]
      have bv40 : (-9223372036854775808) ≤ v40 ∧ v40 ≤ 9223372036854775807 := ev40 ▸ mL_bm _
      clear ev40
      refine m_aload_n 108 dX13_priceOf_107 rfl rfl (by decide) ?_
      refine m_getfieldC 111 dX13_priceOf_108 rfl (ci := 13) rfl lu_X13 (k := 16) (by decide) lfX13_43 (tag := 2) rfl (by decide) (GI.lt g (by decide)) (gk2468 g) (gf2468_16 g) ?_
      refine m_iload 113 dX13_priceOf_111 rfl rfl ?_
      refine m_iald 114 dX13_priceOf_113 rfl (by decide) (GI.lt g (by decide)) (gk2480 g) (by omega) (m_len (gl2480 g) (by omega)) (fun v41 ev41 _ => ?_)
      have bv41 : 0 ≤ v41 ∧ v41 ≤ 100000 := by rw [ev41]; exact ge2480 g (by omega)
      clear ev41
      refine m_i2l 115 dX13_priceOf_114 rfl ?_
      refine m_laddW 116 dX13_priceOf_115 rfl ?_
      obtain ⟨v42, ev42⟩ : ∃ v42 : Int, v42 = (v40 + v41).bmod 18446744073709551616 := ⟨_, rfl⟩
      rw [← ev42]
      have bv42 : (-9223372036854775808) ≤ v42 ∧ v42 ≤ 9223372036854775807 := ev42 ▸ mL_bm _
      clear ev42
      refine m_lstore 118 dX13_priceOf_116 rfl (by decide) ?_
      refine m_lload 120 dX13_priceOf_118 rfl rfl ?_
      refine m_lload 122 dX13_priceOf_120 rfl rfl ?_
      have jn133_44 : ∀ (x44 : Int), True → ((-9223372036854775808) ≤ x44 ∧ x44 ≤ 9223372036854775807) → ((-9223372036854775808) ≤ v31 ∧ v31 ≤ 9223372036854775807) → ((-9223372036854775808) ≤ v42 ∧ v42 ≤ 9223372036854775807) → MW KX13_priceOf (q_X13_priceOf a1 a2 a3 h) 0 0 133 [(0, (2, 2468)), (1, (0, a1)), (2, (0, a2)), (3, (0, a3)), (4, (0, v3)), (5, (0, v6)), (6, (1, x10)), (8, (0, x11))] [(1, x44)] h := by
        intro x44 _ b45 b46 b47
        refine m_lstore 135 dX13_priceOf_133 rfl (by decide) ?_
        refine m_iload 137 dX13_priceOf_135 rfl rfl ?_
        refine m_iload_n 138 dX13_priceOf_137 rfl rfl ?_
        have jn176_49 : ∀ (x49 : Int), True → ((-9223372036854775808) ≤ x49 ∧ x49 ≤ 9223372036854775807) → ((-1) ≤ a3 ∧ a3 ≤ 5) → MW KX13_priceOf (q_X13_priceOf a1 a2 a3 h) 0 0 176 [(0, (2, 2468)), (1, (0, a1)), (2, (0, a2)), (3, (0, a3)), (4, (0, v3)), (5, (0, v6)), (8, (0, x11))] [(1, x49)] h := by
          intro x49 _ b50 b51
          refine m_lstore 178 dX13_priceOf_176 rfl (by decide) ?_
          refine m_iinc 181 dX13_priceOf_178 rfl (by decide) rfl (by omega) ?_
          refine m_goto 29 dX13_priceOf_181 rfl ?_
          refine m_sub [(0, (2, 2468)), (1, (0, a1)), (2, (0, a2)), (3, (0, a3)), (4, (0, v3)), (5, (0, v6)), (6, (1, x49)), (8, (0, (x11 + 1)))] (List.forall_mem_cons.mpr ⟨rfl, List.forall_mem_cons.mpr ⟨rfl, List.forall_mem_cons.mpr ⟨rfl, List.forall_mem_cons.mpr ⟨rfl, List.forall_mem_cons.mpr ⟨rfl, List.forall_mem_cons.mpr ⟨rfl, List.forall_mem_cons.mpr ⟨rfl, List.forall_mem_cons.mpr ⟨rfl, fun _ h => absurd h List.not_mem_nil⟩⟩⟩⟩⟩⟩⟩⟩) ?_
          exact ih29 _ (by omega) (x49) ((x11 + 1)) trivial (by omega) (by omega) rfl
        refine m_ic_eq 141 174 dX13_priceOf_138 rfl rfl (fun c48 => ?_) (fun c48 => ?_)
        · skip
          refine m_lload 176 dX13_priceOf_174 rfl rfl ?_
          refine m_sub [(0, (2, 2468)), (1, (0, a1)), (2, (0, a2)), (3, (0, a3)), (4, (0, v3)), (5, (0, v6)), (8, (0, x11))] (List.forall_mem_cons.mpr ⟨rfl, List.forall_mem_cons.mpr ⟨rfl, List.forall_mem_cons.mpr ⟨rfl, List.forall_mem_cons.mpr ⟨rfl, List.forall_mem_cons.mpr ⟨rfl, List.forall_mem_cons.mpr ⟨rfl, List.forall_mem_cons.mpr ⟨rfl, fun _ h => absurd h List.not_mem_nil⟩⟩⟩⟩⟩⟩⟩) ?_
          exact jn176_49 (x10) trivial (by omega) (by omega)
        · skip
          refine m_aload_n 142 dX13_priceOf_141 rfl rfl (by decide) ?_
          refine m_getfieldC 145 dX13_priceOf_142 rfl (ci := 13) rfl lu_X13 (k := 17) (by decide) lfX13_46 (tag := 2) rfl (by decide) (GI.lt g (by decide)) (gk2468 g) (gf2468_17 g) ?_
          refine m_bipush 147 dX13_priceOf_145 rfl (by decide) ?_
          refine m_iload 149 dX13_priceOf_147 rfl rfl ?_
          refine m_imul 150 dX13_priceOf_149 rfl (by omega) ?_
          refine m_aload_n 151 dX13_priceOf_150 rfl rfl (by decide) ?_
          refine m_getfieldC 154 dX13_priceOf_151 rfl (ci := 13) rfl lu_X13 (k := 11) (by decide) lfX13_31 (tag := 2) rfl (by decide) (GI.lt g (by decide)) (gk2468 g) (gf2468_11 g) ?_
          refine m_iload_n 155 dX13_priceOf_154 rfl rfl ?_
          refine m_iald 156 dX13_priceOf_155 rfl (by decide) (GI.lt g (by decide)) (gk2476 g) (by omega) (m_len (gl2476 g) (by omega)) (fun v52 ev52 _ => ?_)
          have bv52 : 0 ≤ v52 ∧ v52 ≤ 11 := by rw [ev52]; exact ge2476 g (by omega)
          clear ev52
          refine m_iadd 157 dX13_priceOf_156 rfl (by omega) ?_
          refine m_zald 158 dX13_priceOf_157 rfl (by decide) (GI.lt g (by decide)) (gk2481 g) (by omega) (m_len (gl2481 g) (by omega)) (fun v53 ev53 _ => ?_)
          have bv53 : 0 ≤ v53 ∧ v53 ≤ 1 := by rw [ev53]; exact ge2481 g (by omega)
          clear ev53
          refine m_if_ne 161 174 dX13_priceOf_158 rfl rfl (fun c54 => ?_) (fun c54 => ?_)
          · skip
            refine m_lload 176 dX13_priceOf_174 rfl rfl ?_
            refine m_sub [(0, (2, 2468)), (1, (0, a1)), (2, (0, a2)), (3, (0, a3)), (4, (0, v3)), (5, (0, v6)), (8, (0, x11))] (List.forall_mem_cons.mpr ⟨rfl, List.forall_mem_cons.mpr ⟨rfl, List.forall_mem_cons.mpr ⟨rfl, List.forall_mem_cons.mpr ⟨rfl, List.forall_mem_cons.mpr ⟨rfl, List.forall_mem_cons.mpr ⟨rfl, List.forall_mem_cons.mpr ⟨rfl, fun _ h => absurd h List.not_mem_nil⟩⟩⟩⟩⟩⟩⟩) ?_
            exact jn176_49 (x10) trivial (by omega) (by omega)
          · skip
            refine m_lload 163 dX13_priceOf_161 rfl rfl ?_
            refine m_lload 165 dX13_priceOf_163 rfl rfl ?_
            refine m_lc_ge 169 174 dX13_priceOf_165 dX13_priceOf_166 rfl rfl (fun c55 => ?_) (fun c55 => ?_)
            · skip
              refine m_lload 176 dX13_priceOf_174 rfl rfl ?_
              refine m_sub [(0, (2, 2468)), (1, (0, a1)), (2, (0, a2)), (3, (0, a3)), (4, (0, v3)), (5, (0, v6)), (8, (0, x11))] (List.forall_mem_cons.mpr ⟨rfl, List.forall_mem_cons.mpr ⟨rfl, List.forall_mem_cons.mpr ⟨rfl, List.forall_mem_cons.mpr ⟨rfl, List.forall_mem_cons.mpr ⟨rfl, List.forall_mem_cons.mpr ⟨rfl, List.forall_mem_cons.mpr ⟨rfl, fun _ h => absurd h List.not_mem_nil⟩⟩⟩⟩⟩⟩⟩) ?_
              exact jn176_49 (x10) trivial (by omega) (by omega)
            · skip
              refine m_lload 171 dX13_priceOf_169 rfl rfl ?_
              refine m_goto 176 dX13_priceOf_171 rfl ?_
              refine m_sub [(0, (2, 2468)), (1, (0, a1)), (2, (0, a2)), (3, (0, a3)), (4, (0, v3)), (5, (0, v6)), (8, (0, x11))] (List.forall_mem_cons.mpr ⟨rfl, List.forall_mem_cons.mpr ⟨rfl, List.forall_mem_cons.mpr ⟨rfl, List.forall_mem_cons.mpr ⟨rfl, List.forall_mem_cons.mpr ⟨rfl, List.forall_mem_cons.mpr ⟨rfl, List.forall_mem_cons.mpr ⟨rfl, fun _ h => absurd h List.not_mem_nil⟩⟩⟩⟩⟩⟩⟩) ?_
              exact jn176_49 (x44) trivial (by omega) (by omega)
      refine m_lc_ge 126 131 dX13_priceOf_122 dX13_priceOf_123 rfl rfl (fun c43 => ?_) (fun c43 => ?_)
      · skip
        refine m_lload 133 dX13_priceOf_131 rfl rfl ?_
        refine m_sub [(0, (2, 2468)), (1, (0, a1)), (2, (0, a2)), (3, (0, a3)), (4, (0, v3)), (5, (0, v6)), (6, (1, x10)), (8, (0, x11))] (List.forall_mem_cons.mpr ⟨rfl, List.forall_mem_cons.mpr ⟨rfl, List.forall_mem_cons.mpr ⟨rfl, List.forall_mem_cons.mpr ⟨rfl, List.forall_mem_cons.mpr ⟨rfl, List.forall_mem_cons.mpr ⟨rfl, List.forall_mem_cons.mpr ⟨rfl, List.forall_mem_cons.mpr ⟨rfl, fun _ h => absurd h List.not_mem_nil⟩⟩⟩⟩⟩⟩⟩⟩) ?_
        exact jn133_44 (v42) trivial (by omega) (by omega) (by omega)
      · skip
        refine m_lload 128 dX13_priceOf_126 rfl rfl ?_
        refine m_goto 133 dX13_priceOf_128 rfl ?_
        refine m_sub [(0, (2, 2468)), (1, (0, a1)), (2, (0, a2)), (3, (0, a3)), (4, (0, v3)), (5, (0, v6)), (6, (1, x10)), (8, (0, x11))] (List.forall_mem_cons.mpr ⟨rfl, List.forall_mem_cons.mpr ⟨rfl, List.forall_mem_cons.mpr ⟨rfl, List.forall_mem_cons.mpr ⟨rfl, List.forall_mem_cons.mpr ⟨rfl, List.forall_mem_cons.mpr ⟨rfl, List.forall_mem_cons.mpr ⟨rfl, List.forall_mem_cons.mpr ⟨rfl, fun _ h => absurd h List.not_mem_nil⟩⟩⟩⟩⟩⟩⟩⟩) ?_
        exact jn133_44 (v31) trivial (by omega) (by omega) (by omega)
  refine m_sub [(0, (2, 2468)), (1, (0, a1)), (2, (0, a2)), (3, (0, a3)), (4, (0, v3)), (5, (0, v6)), (6, (1, v7)), (8, (0, 0))] (List.forall_mem_cons.mpr ⟨rfl, List.forall_mem_cons.mpr ⟨rfl, List.forall_mem_cons.mpr ⟨rfl, List.forall_mem_cons.mpr ⟨rfl, List.forall_mem_cons.mpr ⟨rfl, List.forall_mem_cons.mpr ⟨rfl, List.forall_mem_cons.mpr ⟨rfl, List.forall_mem_cons.mpr ⟨rfl, fun _ h => absurd h List.not_mem_nil⟩⟩⟩⟩⟩⟩⟩⟩) ?_
  exact lp29 _ (v7) (0) trivial (by omega) (by omega) rfl
theorem cy_X13_arc : yX13_arc.cls ≠ "java/lang/invoke/MethodHandle" ∧ yX13_arc.cls ≠ "java/lang/invoke/VarHandle" ∧ (parseMethodDescriptor yX13_arc.desc).map (fun d => d.parameters.length) = some 4 := by decide +kernel
theorem dX13_arc_0 : decode KX13_arc.2.2.1 0 = .ok (.aload_n 0, 1) := by decide +kernel
theorem dX13_arc_1 : decode KX13_arc.2.2.1 1 = .ok (.getfield 63, 3) := by decide +kernel
theorem dX13_arc_4 : decode KX13_arc.2.2.1 4 = .ok (.aload_n 0, 1) := by decide +kernel
theorem dX13_arc_5 : decode KX13_arc.2.2.1 5 = .ok (.getfield 149, 3) := by decide +kernel
theorem dX13_arc_8 : decode KX13_arc.2.2.1 8 = .ok (.iload_n 1, 1) := by decide +kernel
theorem dX13_arc_9 : decode KX13_arc.2.2.1 9 = .ok (.iastore, 1) := by decide +kernel
theorem dX13_arc_10 : decode KX13_arc.2.2.1 10 = .ok (.aload_n 0, 1) := by decide +kernel
theorem dX13_arc_11 : decode KX13_arc.2.2.1 11 = .ok (.getfield 66, 3) := by decide +kernel
theorem dX13_arc_14 : decode KX13_arc.2.2.1 14 = .ok (.aload_n 0, 1) := by decide +kernel
theorem dX13_arc_15 : decode KX13_arc.2.2.1 15 = .ok (.getfield 149, 3) := by decide +kernel
theorem dX13_arc_18 : decode KX13_arc.2.2.1 18 = .ok (.iload_n 2, 1) := by decide +kernel
theorem dX13_arc_19 : decode KX13_arc.2.2.1 19 = .ok (.iastore, 1) := by decide +kernel
theorem dX13_arc_20 : decode KX13_arc.2.2.1 20 = .ok (.aload_n 0, 1) := by decide +kernel
theorem dX13_arc_21 : decode KX13_arc.2.2.1 21 = .ok (.getfield 69, 3) := by decide +kernel
theorem dX13_arc_24 : decode KX13_arc.2.2.1 24 = .ok (.aload_n 0, 1) := by decide +kernel
theorem dX13_arc_25 : decode KX13_arc.2.2.1 25 = .ok (.getfield 149, 3) := by decide +kernel
theorem dX13_arc_28 : decode KX13_arc.2.2.1 28 = .ok (.lload_n 3, 1) := by decide +kernel
theorem dX13_arc_29 : decode KX13_arc.2.2.1 29 = .ok (.lastore, 1) := by decide +kernel
theorem dX13_arc_30 : decode KX13_arc.2.2.1 30 = .ok (.aload_n 0, 1) := by decide +kernel
theorem dX13_arc_31 : decode KX13_arc.2.2.1 31 = .ok (.getfield 72, 3) := by decide +kernel
theorem dX13_arc_34 : decode KX13_arc.2.2.1 34 = .ok (.aload_n 0, 1) := by decide +kernel
theorem dX13_arc_35 : decode KX13_arc.2.2.1 35 = .ok (.getfield 149, 3) := by decide +kernel
theorem dX13_arc_38 : decode KX13_arc.2.2.1 38 = .ok (.lload 5, 2) := by decide +kernel
theorem dX13_arc_40 : decode KX13_arc.2.2.1 40 = .ok (.lastore, 1) := by decide +kernel
theorem dX13_arc_41 : decode KX13_arc.2.2.1 41 = .ok (.aload_n 0, 1) := by decide +kernel
theorem dX13_arc_42 : decode KX13_arc.2.2.1 42 = .ok (.getfield 75, 3) := by decide +kernel
theorem dX13_arc_45 : decode KX13_arc.2.2.1 45 = .ok (.aload_n 0, 1) := by decide +kernel
theorem dX13_arc_46 : decode KX13_arc.2.2.1 46 = .ok (.getfield 149, 3) := by decide +kernel
theorem dX13_arc_49 : decode KX13_arc.2.2.1 49 = .ok (.lconst 0, 1) := by decide +kernel
theorem dX13_arc_50 : decode KX13_arc.2.2.1 50 = .ok (.lastore, 1) := by decide +kernel
theorem dX13_arc_51 : decode KX13_arc.2.2.1 51 = .ok (.aload_n 0, 1) := by decide +kernel
theorem dX13_arc_52 : decode KX13_arc.2.2.1 52 = .ok (.getfield 78, 3) := by decide +kernel
theorem dX13_arc_55 : decode KX13_arc.2.2.1 55 = .ok (.aload_n 0, 1) := by decide +kernel
theorem dX13_arc_56 : decode KX13_arc.2.2.1 56 = .ok (.getfield 149, 3) := by decide +kernel
theorem dX13_arc_59 : decode KX13_arc.2.2.1 59 = .ok (.iconst 0, 1) := by decide +kernel
theorem dX13_arc_60 : decode KX13_arc.2.2.1 60 = .ok (.bastore, 1) := by decide +kernel
theorem dX13_arc_61 : decode KX13_arc.2.2.1 61 = .ok (.aload_n 0, 1) := by decide +kernel
theorem dX13_arc_62 : decode KX13_arc.2.2.1 62 = .ok (.dup, 1) := by decide +kernel
theorem dX13_arc_63 : decode KX13_arc.2.2.1 63 = .ok (.getfield 149, 3) := by decide +kernel
theorem dX13_arc_66 : decode KX13_arc.2.2.1 66 = .ok (.iconst 1, 1) := by decide +kernel
theorem dX13_arc_67 : decode KX13_arc.2.2.1 67 = .ok (.iadd, 1) := by decide +kernel
theorem dX13_arc_68 : decode KX13_arc.2.2.1 68 = .ok (.putfield 149, 3) := by decide +kernel
theorem dX13_arc_71 : decode KX13_arc.2.2.1 71 = .ok (.return_, 1) := by decide +kernel
abbrev q_X13_arc (a1 a2 a3 a4 : Int) (h : MH) : MO → MH → Prop := mRV fun h' => GI h' ∧ (h'.2 2468).2.2 22 = (h.2 2468).2.2 22 + 1
set_option maxRecDepth 20000 in
theorem c_X13_arc {a1 a2 a3 a4 : Int} {h : MH} (g : GI h) (pa1 : 0 ≤ a1 ∧ a1 ≤ 33) (pa2 : 0 ≤ a2 ∧ a2 ≤ 33) (pa3 : (-1) ≤ a3 ∧ a3 ≤ 1125899906842624) (pa4 : 0 ≤ a4 ∧ a4 ≤ 1000000000) (r0 : (h.2 2468).2.2 22 < 140) : MCal KX13_arc yX13_arc 0 0 [(2, 2468), (0, a1), (0, a2), (1, a3), (1, a4)] h (q_X13_arc a1 a2 a3 a4 h) := by
  refine MCal.ofMW (Or.inl rfl) ⟨cp_X13, rfl⟩ (Nat.le_of_ble_eq_true rfl) ?_
  change MW _ _ _ _ _ [(0, (2, 2468)), (1, (0, a1)), (2, (0, a2)), (3, (1, a3)), (5, (1, a4))] _ _
  refine m_locI (i := 1) rfl (fun ua1 wa1 => ?_)
  refine m_locI (i := 2) rfl (fun ua2 wa2 => ?_)
  refine m_locL (i := 3) rfl (fun ua3 wa3 => ?_)
  refine m_locL (i := 5) rfl (fun ua4 wa4 => ?_)
  have f1 := gf2468_22 g
  refine m_aload_n 1 dX13_arc_0 rfl rfl (by decide) ?_
  refine m_getfieldC 4 dX13_arc_1 rfl (ci := 13) rfl lu_X13 (k := 23) (by decide) lfX13_63 (tag := 2) rfl (by decide) (GI.lt g (by decide)) (gk2468 g) (gf2468_23 g) ?_
  refine m_aload_n 5 dX13_arc_4 rfl rfl (by decide) ?_
  refine m_getfield 8 dX13_arc_5 rfl (ci := 13) rfl lu_X13 (k := 22) (by decide) lfX13_149 (tag := 0) rfl (by decide) (GI.lt g (by decide)) (gk2468 g) (fun v2 (ev2 : v2 = (h.2 2468).2.2 22) _ => ?_)
  have bv2 : 0 ≤ v2 ∧ v2 ≤ 140 := by rw [ev2]; exact gf2468_22 g
  refine m_iload_n 9 dX13_arc_8 rfl rfl ?_
  refine m_iast 10 dX13_arc_9 rfl (by decide) (by decide) (GI.lt g (by decide)) (gk2486 g) (by omega) (m_len (gl2486 g) (by omega)) ?_
  refine m_heap (fun h3 eh3 => ?_)
  have g4 : GI h3 := eh3 ▸ GI.set g (by decide) (fun _ => by show 0 ≤ _ ∧ _ ≤ 33; omega)
  have m5 : (h3.2 2468).2.2 22 = v2 := by rw [eh3]; exact ev2.symm
  have w6 : (h3.2 2468).2.2 22 = (h.2 2468).2.2 22 := by rw [eh3]; rfl
  clear eh3
  refine m_aload_n 11 dX13_arc_10 rfl rfl (by decide) ?_
  refine m_getfieldC 14 dX13_arc_11 rfl (ci := 13) rfl lu_X13 (k := 24) (by decide) lfX13_66 (tag := 2) rfl (by decide) (GI.lt g4 (by decide)) (gk2468 g4) (gf2468_24 g4) ?_
  refine m_aload_n 15 dX13_arc_14 rfl rfl (by decide) ?_
  refine m_getfield 18 dX13_arc_15 rfl (ci := 13) rfl lu_X13 (k := 22) (by decide) lfX13_149 (tag := 0) rfl (by decide) (GI.lt g4 (by decide)) (gk2468 g4) (fun v7 (ev7 : v7 = (h3.2 2468).2.2 22) _ => ?_)
  have bv7 : 0 ≤ v7 ∧ v7 ≤ 140 := by rw [ev7]; exact gf2468_22 g4
  have qv7 : v2 = v7 := (ev7.trans m5).symm
  subst qv7
  refine m_iload_n 19 dX13_arc_18 rfl rfl ?_
  refine m_iast 20 dX13_arc_19 rfl (by decide) (by decide) (GI.lt g4 (by decide)) (gk2487 g4) (by omega) (m_len (gl2487 g4) (by omega)) ?_
  refine m_heap (fun h8 eh8 => ?_)
  have g9 : GI h8 := eh8 ▸ GI.set g4 (by decide) (fun _ => by show 0 ≤ _ ∧ _ ≤ 33; omega)
  have m10 : (h8.2 2468).2.2 22 = v2 := by rw [eh8]; exact m5
  have w11 : (h8.2 2468).2.2 22 = (h3.2 2468).2.2 22 := by rw [eh8]; rfl
  clear eh8
  refine m_aload_n 21 dX13_arc_20 rfl rfl (by decide) ?_
  refine m_getfieldC 24 dX13_arc_21 rfl (ci := 13) rfl lu_X13 (k := 25) (by decide) lfX13_69 (tag := 2) rfl (by decide) (GI.lt g9 (by decide)) (gk2468 g9) (gf2468_25 g9) ?_
  refine m_aload_n 25 dX13_arc_24 rfl rfl (by decide) ?_
  refine m_getfield 28 dX13_arc_25 rfl (ci := 13) rfl lu_X13 (k := 22) (by decide) lfX13_149 (tag := 0) rfl (by decide) (GI.lt g9 (by decide)) (gk2468 g9) (fun v12 (ev12 : v12 = (h8.2 2468).2.2 22) _ => ?_)
  have bv12 : 0 ≤ v12 ∧ v12 ≤ 140 := by rw [ev12]; exact gf2468_22 g9
  have qv12 : v2 = v12 := (ev12.trans m10).symm
  subst qv12
  refine m_lload_n 29 dX13_arc_28 rfl rfl ?_
  refine m_last 30 dX13_arc_29 rfl (by decide) (by decide) (GI.lt g9 (by decide)) (gk2488 g9) (by omega) (m_len (gl2488 g9) (by omega)) ?_
  refine m_heap (fun h13 eh13 => ?_)
  have g14 : GI h13 := eh13 ▸ GI.set g9 (by decide) (fun _ => by show (-1) ≤ _ ∧ _ ≤ 1125899906842624; omega)
  have m15 : (h13.2 2468).2.2 22 = v2 := by rw [eh13]; exact m10
  have w16 : (h13.2 2468).2.2 22 = (h8.2 2468).2.2 22 := by rw [eh13]; rfl
  clear eh13
  refine m_aload_n 31 dX13_arc_30 rfl rfl (by decide) ?_
  refine m_getfieldC 34 dX13_arc_31 rfl (ci := 13) rfl lu_X13 (k := 26) (by decide) lfX13_72 (tag := 2) rfl (by decide) (GI.lt g14 (by decide)) (gk2468 g14) (gf2468_26 g14) ?_
  refine m_aload_n 35 dX13_arc_34 rfl rfl (by decide) ?_
  refine m_getfield 38 dX13_arc_35 rfl (ci := 13) rfl lu_X13 (k := 22) (by decide) lfX13_149 (tag := 0) rfl (by decide) (GI.lt g14 (by decide)) (gk2468 g14) (fun v17 (ev17 : v17 = (h13.2 2468).2.2 22) _ => ?_)
  have bv17 : 0 ≤ v17 ∧ v17 ≤ 140 := by rw [ev17]; exact gf2468_22 g14
  have qv17 : v2 = v17 := (ev17.trans m15).symm
  subst qv17
  refine m_lload 40 dX13_arc_38 rfl rfl ?_
  refine m_last 41 dX13_arc_40 rfl (by decide) (by decide) (GI.lt g14 (by decide)) (gk2489 g14) (by omega) (m_len (gl2489 g14) (by omega)) ?_
  refine m_heap (fun h18 eh18 => ?_)
  have g19 : GI h18 := eh18 ▸ GI.set g14 (by decide) (fun _ => by show 0 ≤ _ ∧ _ ≤ 1000000000; omega)
  have m20 : (h18.2 2468).2.2 22 = v2 := by rw [eh18]; exact m15
  have w21 : (h18.2 2468).2.2 22 = (h13.2 2468).2.2 22 := by rw [eh18]; rfl
  clear eh18
  refine m_aload_n 42 dX13_arc_41 rfl rfl (by decide) ?_
  refine m_getfieldC 45 dX13_arc_42 rfl (ci := 13) rfl lu_X13 (k := 27) (by decide) lfX13_75 (tag := 2) rfl (by decide) (GI.lt g19 (by decide)) (gk2468 g19) (gf2468_27 g19) ?_
  refine m_aload_n 46 dX13_arc_45 rfl rfl (by decide) ?_
  refine m_getfield 49 dX13_arc_46 rfl (ci := 13) rfl lu_X13 (k := 22) (by decide) lfX13_149 (tag := 0) rfl (by decide) (GI.lt g19 (by decide)) (gk2468 g19) (fun v22 (ev22 : v22 = (h18.2 2468).2.2 22) _ => ?_)
  have bv22 : 0 ≤ v22 ∧ v22 ≤ 140 := by rw [ev22]; exact gf2468_22 g19
  have qv22 : v2 = v22 := (ev22.trans m20).symm
  subst qv22
  refine m_lconst 50 dX13_arc_49 rfl ?_
  refine m_last 51 dX13_arc_50 rfl (by decide) (by decide) (GI.lt g19 (by decide)) (gk2490 g19) (by omega) (m_len (gl2490 g19) (by omega)) ?_
  refine m_heap (fun h23 eh23 => ?_)
  have g24 : GI h23 := eh23 ▸ GI.set g19 (by decide) (fun _ => by show (-9223372036854775808) ≤ _ ∧ _ ≤ 9223372036854775807; omega)
  have m25 : (h23.2 2468).2.2 22 = v2 := by rw [eh23]; exact m20
  have w26 : (h23.2 2468).2.2 22 = (h18.2 2468).2.2 22 := by rw [eh23]; rfl
  clear eh23
  refine m_aload_n 52 dX13_arc_51 rfl rfl (by decide) ?_
  refine m_getfieldC 55 dX13_arc_52 rfl (ci := 13) rfl lu_X13 (k := 28) (by decide) lfX13_78 (tag := 2) rfl (by decide) (GI.lt g24 (by decide)) (gk2468 g24) (gf2468_28 g24) ?_
  refine m_aload_n 56 dX13_arc_55 rfl rfl (by decide) ?_
  refine m_getfield 59 dX13_arc_56 rfl (ci := 13) rfl lu_X13 (k := 22) (by decide) lfX13_149 (tag := 0) rfl (by decide) (GI.lt g24 (by decide)) (gk2468 g24) (fun v27 (ev27 : v27 = (h23.2 2468).2.2 22) _ => ?_)
  have bv27 : 0 ≤ v27 ∧ v27 ≤ 140 := by rw [ev27]; exact gf2468_22 g24
  have qv27 : v2 = v27 := (ev27.trans m25).symm
  subst qv27
  refine m_iconst 60 dX13_arc_59 rfl (by decide) ?_
  refine m_zast 61 dX13_arc_60 rfl (by decide) (by decide) (GI.lt g24 (by decide)) (gk2491 g24) (by omega) (m_len (gl2491 g24) (by omega)) (by omega) ?_
  refine m_heap (fun h28 eh28 => ?_)
  have g29 : GI h28 := eh28 ▸ GI.set g24 (by decide) (fun _ => by show 0 ≤ _ ∧ _ ≤ 1; omega)
  have m30 : (h28.2 2468).2.2 22 = v2 := by rw [eh28]; exact m25
  have w31 : (h28.2 2468).2.2 22 = (h23.2 2468).2.2 22 := by rw [eh28]; rfl
  clear eh28
  refine m_aload_n 62 dX13_arc_61 rfl rfl (by decide) ?_
  refine m_dup 63 dX13_arc_62 rfl rfl ?_
  refine m_getfield 66 dX13_arc_63 rfl (ci := 13) rfl lu_X13 (k := 22) (by decide) lfX13_149 (tag := 0) rfl (by decide) (GI.lt g29 (by decide)) (gk2468 g29) (fun v32 (ev32 : v32 = (h28.2 2468).2.2 22) _ => ?_)
  have bv32 : 0 ≤ v32 ∧ v32 ≤ 140 := by rw [ev32]; exact gf2468_22 g29
  have qv32 : v2 = v32 := (ev32.trans m30).symm
  subst qv32
  refine m_iconst 67 dX13_arc_66 rfl (by decide) ?_
  refine m_iadd 68 dX13_arc_67 rfl (by omega) ?_
  refine m_putfield 71 dX13_arc_68 rfl (ci := 13) rfl lu_X13 tyX13_ok nmX13 (k := 22) (by decide) (Or.inl rfl) lfX13_149 (tag := 0) rfl (fun _ => rfl) (fun _ => rfl) (by decide) (GI.lt g29 (by decide)) (gk2468 g29) ?_
  refine m_heap (fun h33 eh33 => ?_)
  have g34 : GI h33 := eh33 ▸ GI.set g29 (by decide) (fun _ => by show 0 ≤ _ ∧ _ ≤ 140; omega)
  have m35 : (h33.2 2468).2.2 22 = (v2 + 1) := by rw [eh33]; rfl
  have w36 : (h33.2 2468).2.2 22 = (v2 + 1) := by rw [eh33]; rfl
  clear eh33
  exact m_return dX13_arc_71 rfl (mqV ⟨g34, by omega⟩)
theorem cy_X13_wanted : yX13_wanted.cls ≠ "java/lang/invoke/MethodHandle" ∧ yX13_wanted.cls ≠ "java/lang/invoke/VarHandle" ∧ (parseMethodDescriptor yX13_wanted.desc).map (fun d => d.parameters.length) = some 0 := by decide +kernel
theorem dX13_wanted_0 : decode KX13_wanted.2.2.1 0 = .ok (.lconst 0, 1) := by decide +kernel
theorem dX13_wanted_1 : decode KX13_wanted.2.2.1 1 = .ok (.lstore_n 1, 1) := by decide +kernel
theorem dX13_wanted_2 : decode KX13_wanted.2.2.1 2 = .ok (.iconst 0, 1) := by decide +kernel
theorem dX13_wanted_3 : decode KX13_wanted.2.2.1 3 = .ok (.istore_n 3, 1) := by decide +kernel
theorem dX13_wanted_4 : decode KX13_wanted.2.2.1 4 = .ok (.iload_n 3, 1) := by decide +kernel
theorem dX13_wanted_5 : decode KX13_wanted.2.2.1 5 = .ok (.aload_n 0, 1) := by decide +kernel
theorem dX13_wanted_6 : decode KX13_wanted.2.2.1 6 = .ok (.getfield 121, 3) := by decide +kernel
theorem dX13_wanted_9 : decode KX13_wanted.2.2.1 9 = .ok (.if_icmp .ge 19, 3) := by decide +kernel
theorem dX13_wanted_12 : decode KX13_wanted.2.2.1 12 = .ok (.lload_n 1, 1) := by decide +kernel
theorem dX13_wanted_13 : decode KX13_wanted.2.2.1 13 = .ok (.aload_n 0, 1) := by decide +kernel
theorem dX13_wanted_14 : decode KX13_wanted.2.2.1 14 = .ok (.getfield 28, 3) := by decide +kernel
theorem dX13_wanted_17 : decode KX13_wanted.2.2.1 17 = .ok (.iload_n 3, 1) := by decide +kernel
theorem dX13_wanted_18 : decode KX13_wanted.2.2.1 18 = .ok (.iaload, 1) := by decide +kernel
theorem dX13_wanted_19 : decode KX13_wanted.2.2.1 19 = .ok (.i2l, 1) := by decide +kernel
theorem dX13_wanted_20 : decode KX13_wanted.2.2.1 20 = .ok (.ladd, 1) := by decide +kernel
theorem dX13_wanted_21 : decode KX13_wanted.2.2.1 21 = .ok (.lstore_n 1, 1) := by decide +kernel
theorem dX13_wanted_22 : decode KX13_wanted.2.2.1 22 = .ok (.iinc 3 1, 3) := by decide +kernel
theorem dX13_wanted_25 : decode KX13_wanted.2.2.1 25 = .ok (.goto (-21), 3) := by decide +kernel
theorem dX13_wanted_28 : decode KX13_wanted.2.2.1 28 = .ok (.lload_n 1, 1) := by decide +kernel
theorem dX13_wanted_29 : decode KX13_wanted.2.2.1 29 = .ok (.lreturn, 1) := by decide +kernel
abbrev q_X13_wanted (h : MH) : MO → MH → Prop := mRL fun v h' => h = h' ∧ (-9223372036854775808) ≤ v ∧ v ≤ 9223372036854775807
set_option maxRecDepth 20000 in
theorem c_X13_wanted {h : MH} (g : GI h) : MCal KX13_wanted yX13_wanted 0 0 [(2, 2468)] h (q_X13_wanted h) := by
  refine MCal.ofMW (Or.inl rfl) ⟨cp_X13, rfl⟩ (Nat.le_of_ble_eq_true rfl) ?_
  change MW _ _ _ _ _ [(0, (2, 2468))] _ _
  refine m_lconst 1 dX13_wanted_0 rfl ?_
  refine m_lstore_n 2 (i := 1) rfl dX13_wanted_1 rfl (by decide) ?_
  refine m_iconst 3 dX13_wanted_2 rfl (by decide) ?_
  refine m_istore_n 4 (i := 3) rfl dX13_wanted_3 rfl (by decide) ?_
  have lp4 : ∀ (n : Nat) (x1 x2 : Int), True → ((-9223372036854775808) ≤ x1 ∧ x1 ≤ 9223372036854775807) → (0 ≤ x2 ∧ x2 ≤ 8) → (8 - x2).toNat = n → MW KX13_wanted (q_X13_wanted h) 0 0 4 [(0, (2, 2468)), (1, (1, x1)), (3, (0, x2))] [] h := by
    intro n
    induction n using Nat.strongRecOn with
    | _ n ih4 =>
    intro x1 x2 _ b3 b4 hm4
    refine m_iload_n 5 dX13_wanted_4 rfl rfl ?_
    refine m_aload_n 6 dX13_wanted_5 rfl rfl (by decide) ?_
    refine m_getfield 9 dX13_wanted_6 rfl (ci := 13) rfl lu_X13 (k := 9) (by decide) lfX13_121 (tag := 0) rfl (by decide) (GI.lt g (by decide)) (gk2468 g) (fun v5 (ev5 : v5 = (h.2 2468).2.2 9) _ => ?_)
    have bv5 : 0 ≤ v5 ∧ v5 ≤ 8 := by rw [ev5]; exact gf2468_9 g
    refine m_ic_ge 12 28 dX13_wanted_9 rfl rfl (fun c6 => ?_) (fun c6 => ?_)
    · skip
      refine m_lload_n 29 dX13_wanted_28 rfl rfl ?_
      exact m_lreturn dX13_wanted_29 rfl (mqL ⟨rfl, by omega⟩)
    · skip
      refine m_lload_n 13 dX13_wanted_12 rfl rfl ?_
      refine m_aload_n 14 dX13_wanted_13 rfl rfl (by decide) ?_
      refine m_getfieldC 17 dX13_wanted_14 rfl (ci := 13) rfl lu_X13 (k := 10) (by decide) lfX13_28 (tag := 2) rfl (by decide) (GI.lt g (by decide)) (gk2468 g) (gf2468_10 g) ?_
      refine m_iload_n 18 dX13_wanted_17 rfl rfl ?_
      refine m_iald 19 dX13_wanted_18 rfl (by decide) (GI.lt g (by decide)) (gk2475 g) (by omega) (m_len (gl2475 g) (by omega)) (fun v7 ev7 _ => ?_)
      have bv7 : 0 ≤ v7 ∧ v7 ≤ 1000000 := by rw [ev7]; exact ge2475 g (by omega)
      clear ev7
      refine m_i2l 20 dX13_wanted_19 rfl ?_
      refine m_laddW 21 dX13_wanted_20 rfl ?_
      obtain ⟨v8, ev8⟩ : ∃ v8 : Int, v8 = (x1 + v7).bmod 18446744073709551616 := ⟨_, rfl⟩
      rw [← ev8]
      have bv8 : (-9223372036854775808) ≤ v8 ∧ v8 ≤ 9223372036854775807 := ev8 ▸ mL_bm _
      clear ev8
      refine m_lstore_n 22 (i := 1) rfl dX13_wanted_21 rfl (by decide) ?_
      refine m_iinc 25 dX13_wanted_22 rfl (by decide) rfl (by omega) ?_
      refine m_goto 4 dX13_wanted_25 rfl ?_
      refine m_sub [(0, (2, 2468)), (1, (1, v8)), (3, (0, (x2 + 1)))] (List.forall_mem_cons.mpr ⟨rfl, List.forall_mem_cons.mpr ⟨rfl, List.forall_mem_cons.mpr ⟨rfl, fun _ h => absurd h List.not_mem_nil⟩⟩⟩) ?_
      exact ih4 _ (by omega) (v8) ((x2 + 1)) trivial (by omega) (by omega) rfl
  refine m_sub [(0, (2, 2468)), (1, (1, 0)), (3, (0, 0))] (List.forall_mem_cons.mpr ⟨rfl, List.forall_mem_cons.mpr ⟨rfl, List.forall_mem_cons.mpr ⟨rfl, fun _ h => absurd h List.not_mem_nil⟩⟩⟩) ?_
  exact lp4 _ (0) (0) trivial (by omega) (by omega) rfl
theorem cy_X13_noSource : yX13_noSource.cls ≠ "java/lang/invoke/MethodHandle" ∧ yX13_noSource.cls ≠ "java/lang/invoke/VarHandle" ∧ (parseMethodDescriptor yX13_noSource.desc).map (fun d => d.parameters.length) = some 1 := by decide +kernel
theorem dX13_noSource_0 : decode KX13_noSource.2.2.1 0 = .ok (.iload_n 1, 1) := by decide +kernel
theorem dX13_noSource_1 : decode KX13_noSource.2.2.1 1 = .ok (.ifCond .lt 11, 3) := by decide +kernel
theorem dX13_noSource_4 : decode KX13_noSource.2.2.1 4 = .ok (.iload_n 1, 1) := by decide +kernel
theorem dX13_noSource_5 : decode KX13_noSource.2.2.1 5 = .ok (.aload_n 0, 1) := by decide +kernel
theorem dX13_noSource_6 : decode KX13_noSource.2.2.1 6 = .ok (.invokevirtual 152, 3) := by decide +kernel
theorem dX13_noSource_9 : decode KX13_noSource.2.2.1 9 = .ok (.if_icmp .lt 7, 3) := by decide +kernel
theorem dX13_noSource_12 : decode KX13_noSource.2.2.1 12 = .ok (.iconst 1, 1) := by decide +kernel
theorem dX13_noSource_13 : decode KX13_noSource.2.2.1 13 = .ok (.goto 4, 3) := by decide +kernel
theorem dX13_noSource_16 : decode KX13_noSource.2.2.1 16 = .ok (.iconst 0, 1) := by decide +kernel
theorem dX13_noSource_17 : decode KX13_noSource.2.2.1 17 = .ok (.ireturn, 1) := by decide +kernel
abbrev q_X13_noSource (a1 : Int) (h : MH) : MO → MH → Prop := mRI fun v h' => h = h' ∧ 0 ≤ v ∧ v ≤ 1
set_option maxRecDepth 20000 in
theorem c_X13_noSource {a1 : Int} {h : MH} (g : GI h) : MCal KX13_noSource yX13_noSource 0 0 [(2, 2468), (0, a1)] h (q_X13_noSource a1 h) := by
  refine MCal.ofMW (Or.inl rfl) ⟨cp_X13, rfl⟩ (Nat.le_of_ble_eq_true rfl) ?_
  change MW _ _ _ _ _ [(0, (2, 2468)), (1, (0, a1))] _ _
  refine m_locI (i := 1) rfl (fun ua1 wa1 => ?_)
  refine m_iload_n 1 dX13_noSource_0 rfl rfl ?_
  refine m_if_lt 4 12 dX13_noSource_1 rfl rfl (fun c1 => ?_) (fun c1 => ?_)
  · skip
    refine m_iconst 13 dX13_noSource_12 rfl (by decide) ?_
    refine m_goto 17 dX13_noSource_13 rfl ?_
    exact m_ireturn dX13_noSource_17 rfl (m_narZ (by omega)) (mqI ⟨rfl, by omega⟩)
  · skip
    refine m_iload_n 5 dX13_noSource_4 rfl rfl ?_
    refine m_aload_n 6 dX13_noSource_5 rfl rfl (by decide) ?_
    refine m_invokevirtual (K' := KX13_sources) (As := []) dX13_noSource_6 (fun _ => by decide) ⟨lo_X13_sources, li_X13⟩ (ci := 13) (r := 2468) rfl (by decide) (GI.lt g (by decide)) (gk2468 g) ⟨lmX13_152, lv_X13_sources_i, ls_X13_sources⟩ ⟨rfl, cy_X13_sources⟩ ⟨Nat.le_of_ble_eq_true rfl, Nat.le_of_ble_eq_true rfl⟩ (Nat.le_of_ble_eq_true rfl) rfl (Nat.zero_le _) (Nat.zero_le _) (c_X13_sources g) (mkI fun v2 h3 q4 => ?_)
    obtain ⟨rfl, q4⟩ := q4
    refine m_ic_lt 12 16 dX13_noSource_9 rfl rfl (fun c5 => ?_) (fun c5 => ?_)
    · skip
      refine m_iconst 17 dX13_noSource_16 rfl (by decide) ?_
      exact m_ireturn dX13_noSource_17 rfl (m_narZ (by omega)) (mqI ⟨rfl, by omega⟩)
    · skip
      refine m_iconst 13 dX13_noSource_12 rfl (by decide) ?_
      refine m_goto 17 dX13_noSource_13 rfl ?_
      exact m_ireturn dX13_noSource_17 rfl (m_narZ (by omega)) (mqI ⟨rfl, by omega⟩)
theorem cy_X13_cost : yX13_cost.cls ≠ "java/lang/invoke/MethodHandle" ∧ yX13_cost.cls ≠ "java/lang/invoke/VarHandle" ∧ (parseMethodDescriptor yX13_cost.desc).map (fun d => d.parameters.length) = some 1 := by decide +kernel
theorem dX13_cost_0 : decode KX13_cost.2.2.1 0 = .ok (.aload_n 0, 1) := by decide +kernel
theorem dX13_cost_1 : decode KX13_cost.2.2.1 1 = .ok (.iconst 0, 1) := by decide +kernel
theorem dX13_cost_2 : decode KX13_cost.2.2.1 2 = .ok (.putfield 92, 3) := by decide +kernel
theorem dX13_cost_5 : decode KX13_cost.2.2.1 5 = .ok (.aload_n 0, 1) := by decide +kernel
theorem dX13_cost_6 : decode KX13_cost.2.2.1 6 = .ok (.getfield 96, 3) := by decide +kernel
theorem dX13_cost_9 : decode KX13_cost.2.2.1 9 = .ok (.ifCond .eq 12, 3) := by decide +kernel
theorem dX13_cost_12 : decode KX13_cost.2.2.1 12 = .ok (.iload_n 1, 1) := by decide +kernel
theorem dX13_cost_13 : decode KX13_cost.2.2.1 13 = .ok (.ifCond .lt 8, 3) := by decide +kernel
theorem dX13_cost_16 : decode KX13_cost.2.2.1 16 = .ok (.iload_n 1, 1) := by decide +kernel
theorem dX13_cost_17 : decode KX13_cost.2.2.1 17 = .ok (.iconst 2, 1) := by decide +kernel
theorem dX13_cost_18 : decode KX13_cost.2.2.1 18 = .ok (.if_icmp .le 7, 3) := by decide +kernel
theorem dX13_cost_21 : decode KX13_cost.2.2.1 21 = .ok (.ldc2_w 210, 3) := by decide +kernel
theorem dX13_cost_24 : decode KX13_cost.2.2.1 24 = .ok (.lreturn, 1) := by decide +kernel
theorem dX13_cost_25 : decode KX13_cost.2.2.1 25 = .ok (.lconst 0, 1) := by decide +kernel
theorem dX13_cost_26 : decode KX13_cost.2.2.1 26 = .ok (.lstore_n 2, 1) := by decide +kernel
theorem dX13_cost_27 : decode KX13_cost.2.2.1 27 = .ok (.lconst 0, 1) := by decide +kernel
theorem dX13_cost_28 : decode KX13_cost.2.2.1 28 = .ok (.lstore 4, 2) := by decide +kernel
theorem dX13_cost_30 : decode KX13_cost.2.2.1 30 = .ok (.lconst 0, 1) := by decide +kernel
theorem dX13_cost_31 : decode KX13_cost.2.2.1 31 = .ok (.lstore 6, 2) := by decide +kernel
theorem dX13_cost_33 : decode KX13_cost.2.2.1 33 = .ok (.iconst 0, 1) := by decide +kernel
theorem dX13_cost_34 : decode KX13_cost.2.2.1 34 = .ok (.istore 8, 2) := by decide +kernel
theorem dX13_cost_36 : decode KX13_cost.2.2.1 36 = .ok (.iload 8, 2) := by decide +kernel
theorem dX13_cost_38 : decode KX13_cost.2.2.1 38 = .ok (.aload_n 0, 1) := by decide +kernel
theorem dX13_cost_39 : decode KX13_cost.2.2.1 39 = .ok (.invokevirtual 152, 3) := by decide +kernel
theorem dX13_cost_42 : decode KX13_cost.2.2.1 42 = .ok (.if_icmp .ge 102, 3) := by decide +kernel
theorem dX13_cost_45 : decode KX13_cost.2.2.1 45 = .ok (.iconst 0, 1) := by decide +kernel
theorem dX13_cost_46 : decode KX13_cost.2.2.1 46 = .ok (.istore 9, 2) := by decide +kernel
theorem dX13_cost_48 : decode KX13_cost.2.2.1 48 = .ok (.iload 9, 2) := by decide +kernel
theorem dX13_cost_50 : decode KX13_cost.2.2.1 50 = .ok (.aload_n 0, 1) := by decide +kernel
theorem dX13_cost_51 : decode KX13_cost.2.2.1 51 = .ok (.getfield 121, 3) := by decide +kernel
theorem dX13_cost_54 : decode KX13_cost.2.2.1 54 = .ok (.if_icmp .ge 84, 3) := by decide +kernel
theorem dX13_cost_57 : decode KX13_cost.2.2.1 57 = .ok (.lload_n 2, 1) := by decide +kernel
theorem dX13_cost_58 : decode KX13_cost.2.2.1 58 = .ok (.aload_n 0, 1) := by decide +kernel
theorem dX13_cost_59 : decode KX13_cost.2.2.1 59 = .ok (.getfield 87, 3) := by decide +kernel
theorem dX13_cost_62 : decode KX13_cost.2.2.1 62 = .ok (.bipush 8, 2) := by decide +kernel
theorem dX13_cost_64 : decode KX13_cost.2.2.1 64 = .ok (.iload 8, 2) := by decide +kernel
theorem dX13_cost_66 : decode KX13_cost.2.2.1 66 = .ok (.imul, 1) := by decide +kernel
theorem dX13_cost_67 : decode KX13_cost.2.2.1 67 = .ok (.iload 9, 2) := by decide +kernel
theorem dX13_cost_69 : decode KX13_cost.2.2.1 69 = .ok (.iadd, 1) := by decide +kernel
theorem dX13_cost_70 : decode KX13_cost.2.2.1 70 = .ok (.laload, 1) := by decide +kernel
theorem dX13_cost_71 : decode KX13_cost.2.2.1 71 = .ok (.aload_n 0, 1) := by decide +kernel
theorem dX13_cost_72 : decode KX13_cost.2.2.1 72 = .ok (.iload 8, 2) := by decide +kernel
theorem dX13_cost_74 : decode KX13_cost.2.2.1 74 = .ok (.iload 9, 2) := by decide +kernel
theorem dX13_cost_76 : decode KX13_cost.2.2.1 76 = .ok (.iconst (-1), 1) := by decide +kernel
theorem dX13_cost_77 : decode KX13_cost.2.2.1 77 = .ok (.invokevirtual 168, 3) := by decide +kernel
theorem dX13_cost_80 : decode KX13_cost.2.2.1 80 = .ok (.lmul, 1) := by decide +kernel
theorem dX13_cost_81 : decode KX13_cost.2.2.1 81 = .ok (.ladd, 1) := by decide +kernel
theorem dX13_cost_82 : decode KX13_cost.2.2.1 82 = .ok (.lstore_n 2, 1) := by decide +kernel
theorem dX13_cost_83 : decode KX13_cost.2.2.1 83 = .ok (.lload 4, 2) := by decide +kernel
theorem dX13_cost_85 : decode KX13_cost.2.2.1 85 = .ok (.aload_n 0, 1) := by decide +kernel
theorem dX13_cost_86 : decode KX13_cost.2.2.1 86 = .ok (.getfield 87, 3) := by decide +kernel
theorem dX13_cost_89 : decode KX13_cost.2.2.1 89 = .ok (.bipush 8, 2) := by decide +kernel
theorem dX13_cost_91 : decode KX13_cost.2.2.1 91 = .ok (.iload 8, 2) := by decide +kernel
theorem dX13_cost_93 : decode KX13_cost.2.2.1 93 = .ok (.imul, 1) := by decide +kernel
theorem dX13_cost_94 : decode KX13_cost.2.2.1 94 = .ok (.iload 9, 2) := by decide +kernel
theorem dX13_cost_96 : decode KX13_cost.2.2.1 96 = .ok (.iadd, 1) := by decide +kernel
theorem dX13_cost_97 : decode KX13_cost.2.2.1 97 = .ok (.laload, 1) := by decide +kernel
theorem dX13_cost_98 : decode KX13_cost.2.2.1 98 = .ok (.ladd, 1) := by decide +kernel
theorem dX13_cost_99 : decode KX13_cost.2.2.1 99 = .ok (.lstore 4, 2) := by decide +kernel
theorem dX13_cost_101 : decode KX13_cost.2.2.1 101 = .ok (.lload 6, 2) := by decide +kernel
theorem dX13_cost_103 : decode KX13_cost.2.2.1 103 = .ok (.iload 8, 2) := by decide +kernel
theorem dX13_cost_105 : decode KX13_cost.2.2.1 105 = .ok (.aload_n 0, 1) := by decide +kernel
theorem dX13_cost_106 : decode KX13_cost.2.2.1 106 = .ok (.getfield 115, 3) := by decide +kernel
theorem dX13_cost_109 : decode KX13_cost.2.2.1 109 = .ok (.if_icmp .ge 7, 3) := by decide +kernel
theorem dX13_cost_112 : decode KX13_cost.2.2.1 112 = .ok (.lconst 0, 1) := by decide +kernel
theorem dX13_cost_113 : decode KX13_cost.2.2.1 113 = .ok (.goto 16, 3) := by decide +kernel
theorem dX13_cost_116 : decode KX13_cost.2.2.1 116 = .ok (.aload_n 0, 1) := by decide +kernel
theorem dX13_cost_117 : decode KX13_cost.2.2.1 117 = .ok (.getfield 87, 3) := by decide +kernel
theorem dX13_cost_120 : decode KX13_cost.2.2.1 120 = .ok (.bipush 8, 2) := by decide +kernel
theorem dX13_cost_122 : decode KX13_cost.2.2.1 122 = .ok (.iload 8, 2) := by decide +kernel
theorem dX13_cost_124 : decode KX13_cost.2.2.1 124 = .ok (.imul, 1) := by decide +kernel
theorem dX13_cost_125 : decode KX13_cost.2.2.1 125 = .ok (.iload 9, 2) := by decide +kernel
theorem dX13_cost_127 : decode KX13_cost.2.2.1 127 = .ok (.iadd, 1) := by decide +kernel
theorem dX13_cost_128 : decode KX13_cost.2.2.1 128 = .ok (.laload, 1) := by decide +kernel
theorem dX13_cost_129 : decode KX13_cost.2.2.1 129 = .ok (.ladd, 1) := by decide +kernel
theorem dX13_cost_130 : decode KX13_cost.2.2.1 130 = .ok (.lstore 6, 2) := by decide +kernel
theorem dX13_cost_132 : decode KX13_cost.2.2.1 132 = .ok (.iinc 9 1, 3) := by decide +kernel
theorem dX13_cost_135 : decode KX13_cost.2.2.1 135 = .ok (.goto (-87), 3) := by decide +kernel
theorem dX13_cost_138 : decode KX13_cost.2.2.1 138 = .ok (.iinc 8 1, 3) := by decide +kernel
theorem dX13_cost_141 : decode KX13_cost.2.2.1 141 = .ok (.goto (-105), 3) := by decide +kernel
theorem dX13_cost_144 : decode KX13_cost.2.2.1 144 = .ok (.iload_n 1, 1) := by decide +kernel
theorem dX13_cost_145 : decode KX13_cost.2.2.1 145 = .ok (.ifCond .ne 7, 3) := by decide +kernel
theorem dX13_cost_148 : decode KX13_cost.2.2.1 148 = .ok (.lload_n 2, 1) := by decide +kernel
theorem dX13_cost_149 : decode KX13_cost.2.2.1 149 = .ok (.goto 15, 3) := by decide +kernel
theorem dX13_cost_152 : decode KX13_cost.2.2.1 152 = .ok (.iload_n 1, 1) := by decide +kernel
theorem dX13_cost_153 : decode KX13_cost.2.2.1 153 = .ok (.iconst 1, 1) := by decide +kernel
theorem dX13_cost_154 : decode KX13_cost.2.2.1 154 = .ok (.if_icmp .ne 8, 3) := by decide +kernel
theorem dX13_cost_157 : decode KX13_cost.2.2.1 157 = .ok (.lload 4, 2) := by decide +kernel
theorem dX13_cost_159 : decode KX13_cost.2.2.1 159 = .ok (.goto 5, 3) := by decide +kernel
theorem dX13_cost_162 : decode KX13_cost.2.2.1 162 = .ok (.lload 6, 2) := by decide +kernel
theorem dX13_cost_164 : decode KX13_cost.2.2.1 164 = .ok (.lreturn, 1) := by decide +kernel
abbrev q_X13_cost (a1 : Int) (h : MH) : MO → MH → Prop := mRL fun v h' => GI h' ∧ (-9223372036854775808) ≤ v ∧ v ≤ 9223372036854775807
set_option maxRecDepth 20000 in
theorem c_X13_cost {a1 : Int} {h : MH} (g : GI h) : MCal KX13_cost yX13_cost 0 0 [(2, 2468), (0, a1)] h (q_X13_cost a1 h) := by
  refine MCal.ofMW (Or.inl rfl) ⟨cp_X13, rfl⟩ (Nat.le_of_ble_eq_true rfl) ?_
  change MW _ _ _ _ _ [(0, (2, 2468)), (1, (0, a1))] _ _
  refine m_locI (i := 1) rfl (fun ua1 wa1 => ?_)
  refine m_aload_n 1 dX13_cost_0 rfl rfl (by decide) ?_
  refine m_iconst 2 dX13_cost_1 rfl (by decide) ?_
  refine m_putfield 5 dX13_cost_2 rfl (ci := 13) rfl lu_X13 tyX13_ok nmX13 (k := 0) (by decide) (Or.inl rfl) lfX13_92 (tag := 0) rfl (fun _ => rfl) (fun _ => rfl) (by decide) (GI.lt g (by decide)) (gk2468 g) ?_
  refine m_heap (fun h1 eh1 => ?_)
  have g2 : GI h1 := eh1 ▸ GI.set g (by decide) (fun _ => by show 0 ≤ _ ∧ _ ≤ 1; omega)
  have m3 : (h1.2 2468).2.2 0 = 0 := by rw [eh1]; rfl
  clear eh1
  refine m_aload_n 6 dX13_cost_5 rfl rfl (by decide) ?_
  refine m_getfield 9 dX13_cost_6 rfl (ci := 13) rfl lu_X13 (k := 33) (by decide) lfX13_96 (tag := 0) rfl (by decide) (GI.lt g2 (by decide)) (gk2468 g2) (fun v4 (ev4 : v4 = (h1.2 2468).2.2 33) _ => ?_)
  have bv4 : 0 ≤ v4 ∧ v4 ≤ 1 := by rw [ev4]; exact gf2468_33 g2
  refine m_if_eq 12 21 dX13_cost_9 rfl rfl (fun c5 => ?_) (fun c5 => ?_)
  · skip
    refine m_ldc2 (n := (-1)) 24 dX13_cost_21 rfl lcX13_210 rfl (by decide) ?_
    exact m_lreturn dX13_cost_24 rfl (mqL ⟨g2, by omega⟩)
  · skip
    refine m_iload_n 13 dX13_cost_12 rfl rfl ?_
    refine m_if_lt 16 21 dX13_cost_13 rfl rfl (fun c6 => ?_) (fun c6 => ?_)
    · skip
      refine m_ldc2 (n := (-1)) 24 dX13_cost_21 rfl lcX13_210 rfl (by decide) ?_
      exact m_lreturn dX13_cost_24 rfl (mqL ⟨g2, by omega⟩)
    · skip
      refine m_iload_n 17 dX13_cost_16 rfl rfl ?_
      refine m_iconst 18 dX13_cost_17 rfl (by decide) ?_
      refine m_ic_le 21 25 dX13_cost_18 rfl rfl (fun c7 => ?_) (fun c7 => ?_)
      · skip
        refine m_lconst 26 dX13_cost_25 rfl ?_
        refine m_lstore_n 27 (i := 2) rfl dX13_cost_26 rfl (by decide) ?_
        refine m_lconst 28 dX13_cost_27 rfl ?_
        refine m_lstore 30 dX13_cost_28 rfl (by decide) ?_
        refine m_lconst 31 dX13_cost_30 rfl ?_
        refine m_lstore 33 dX13_cost_31 rfl (by decide) ?_
        refine m_iconst 34 dX13_cost_33 rfl (by decide) ?_
        refine m_istore 36 dX13_cost_34 rfl (by decide) ?_
        have lp36 : ∀ (n : Nat) (x8 x9 x10 x11 : Int), True → ((-9223372036854775808) ≤ x8 ∧ x8 ≤ 9223372036854775807) → ((-9223372036854775808) ≤ x9 ∧ x9 ≤ 9223372036854775807) → ((-9223372036854775808) ≤ x10 ∧ x10 ≤ 9223372036854775807) → (0 ≤ x11 ∧ x11 ≤ 12) → (12 - x11).toNat = n → MW KX13_cost (q_X13_cost a1 h) 0 0 36 [(0, (2, 2468)), (1, (0, a1)), (2, (1, x8)), (4, (1, x9)), (6, (1, x10)), (8, (0, x11))] [] h1 := by
          intro n
          induction n using Nat.strongRecOn with
          | _ n ih36 =>
          intro x8 x9 x10 x11 _ b12 b13 b14 b15 hm36
          refine m_iload 38 dX13_cost_36 rfl rfl ?_
          refine m_aload_n 39 dX13_cost_38 rfl rfl (by decide) ?_
          refine m_invokevirtual (K' := KX13_sources) (As := []) dX13_cost_39 (fun _ => by decide) ⟨lo_X13_sources, li_X13⟩ (ci := 13) (r := 2468) rfl (by decide) (GI.lt g2 (by decide)) (gk2468 g2) ⟨lmX13_152, lv_X13_sources_i, ls_X13_sources⟩ ⟨rfl, cy_X13_sources⟩ ⟨Nat.le_of_ble_eq_true rfl, Nat.le_of_ble_eq_true rfl⟩ (Nat.le_of_ble_eq_true rfl) rfl (Nat.zero_le _) (Nat.zero_le _) (c_X13_sources g2) (mkI fun v16 h17 q18 => ?_)
          obtain ⟨rfl, q18⟩ := q18
          refine m_ic_ge 45 144 dX13_cost_42 rfl rfl (fun c19 => ?_) (fun c19 => ?_)
          · skip
            refine m_iload_n 145 dX13_cost_144 rfl rfl ?_
            refine m_if_ne 148 152 dX13_cost_145 rfl rfl (fun c20 => ?_) (fun c20 => ?_)
            · skip
              refine m_iload_n 153 dX13_cost_152 rfl rfl ?_
              refine m_iconst 154 dX13_cost_153 rfl (by decide) ?_
              refine m_ic_ne 157 162 dX13_cost_154 rfl rfl (fun c21 => ?_) (fun c21 => ?_)
              · skip
                refine m_lload 164 dX13_cost_162 rfl rfl ?_
                exact m_lreturn dX13_cost_164 rfl (mqL ⟨g2, by omega⟩)
              · skip
                refine m_lload 159 dX13_cost_157 rfl rfl ?_
                refine m_goto 164 dX13_cost_159 rfl ?_
                exact m_lreturn dX13_cost_164 rfl (mqL ⟨g2, by omega⟩)
            · skip
              refine m_lload_n 149 dX13_cost_148 rfl rfl ?_
              refine m_goto 164 dX13_cost_149 rfl ?_
              exact m_lreturn dX13_cost_164 rfl (mqL ⟨g2, by omega⟩)
          · skip
            refine m_iconst 46 dX13_cost_45 rfl (by decide) ?_
            refine m_istore 48 dX13_cost_46 rfl (by decide) ?_
            have lp48 : ∀ (n : Nat) (x22 x23 x24 x25 : Int), True → ((-9223372036854775808) ≤ x22 ∧ x22 ≤ 9223372036854775807) → ((-9223372036854775808) ≤ x23 ∧ x23 ≤ 9223372036854775807) → ((-9223372036854775808) ≤ x24 ∧ x24 ≤ 9223372036854775807) → (0 ≤ x25 ∧ x25 ≤ 8) → (8 - x25).toNat = n → MW KX13_cost (q_X13_cost a1 h) 0 0 48 [(0, (2, 2468)), (1, (0, a1)), (2, (1, x22)), (4, (1, x23)), (6, (1, x24)), (8, (0, x11)), (9, (0, x25))] [] h1 := by
              intro n
              induction n using Nat.strongRecOn with
              | _ n ih48 =>
              intro x22 x23 x24 x25 _ b26 b27 b28 b29 hm48
              refine m_iload 50 dX13_cost_48 rfl rfl ?_
              refine m_aload_n 51 dX13_cost_50 rfl rfl (by decide) ?_
              refine m_getfield 54 dX13_cost_51 rfl (ci := 13) rfl lu_X13 (k := 9) (by decide) lfX13_121 (tag := 0) rfl (by decide) (GI.lt g2 (by decide)) (gk2468 g2) (fun v30 (ev30 : v30 = (h1.2 2468).2.2 9) _ => ?_)
              have bv30 : 0 ≤ v30 ∧ v30 ≤ 8 := by rw [ev30]; exact gf2468_9 g2
              refine m_ic_ge 57 138 dX13_cost_54 rfl rfl (fun c31 => ?_) (fun c31 => ?_)
              · skip
                refine m_iinc 141 dX13_cost_138 rfl (by decide) rfl (by omega) ?_
                refine m_goto 36 dX13_cost_141 rfl ?_
                refine m_sub [(0, (2, 2468)), (1, (0, a1)), (2, (1, x22)), (4, (1, x23)), (6, (1, x24)), (8, (0, (x11 + 1)))] (List.forall_mem_cons.mpr ⟨rfl, List.forall_mem_cons.mpr ⟨rfl, List.forall_mem_cons.mpr ⟨rfl, List.forall_mem_cons.mpr ⟨rfl, List.forall_mem_cons.mpr ⟨rfl, List.forall_mem_cons.mpr ⟨rfl, fun _ h => absurd h List.not_mem_nil⟩⟩⟩⟩⟩⟩) ?_
                exact ih36 _ (by omega) (x22) (x23) (x24) ((x11 + 1)) trivial (by omega) (by omega) (by omega) (by omega) rfl
              · skip
                refine m_lload_n 58 dX13_cost_57 rfl rfl ?_
                refine m_aload_n 59 dX13_cost_58 rfl rfl (by decide) ?_
                refine m_getfieldC 62 dX13_cost_59 rfl (ci := 13) rfl lu_X13 (k := 37) (by decide) lfX13_87 (tag := 2) rfl (by decide) (GI.lt g2 (by decide)) (gk2468 g2) (gf2468_37 g2) ?_
                refine m_bipush 64 dX13_cost_62 rfl (by decide) ?_
                refine m_iload 66 dX13_cost_64 rfl rfl ?_
                refine m_imul 67 dX13_cost_66 rfl (by omega) ?_
                refine m_iload 69 dX13_cost_67 rfl rfl ?_
                refine m_iadd 70 dX13_cost_69 rfl (by omega) ?_
                refine m_lald 71 dX13_cost_70 rfl (by decide) (GI.lt g2 (by decide)) (gk2494 g2) (by omega) (m_len (gl2494 g2) (by omega)) (fun v32 ev32 _ => ?_)
                have bv32 : (-9223372036854775808) ≤ v32 ∧ v32 ≤ 9223372036854775807 := by rw [ev32]; exact ge2494 g2 (by omega)
                clear ev32
                refine m_aload_n 72 dX13_cost_71 rfl rfl (by decide) ?_
                refine m_iload 74 dX13_cost_72 rfl rfl ?_
                refine m_iload 76 dX13_cost_74 rfl rfl ?_
                refine m_iconst 77 dX13_cost_76 rfl (by decide) ?_
                refine m_invokevirtual (K' := KX13_priceOf) (As := [(0, x11), (0, x25), (0, (-1))]) dX13_cost_77 (fun _ => by decide) ⟨lo_X13_priceOf, li_X13⟩ (ci := 13) (r := 2468) rfl (by decide) (GI.lt g2 (by decide)) (gk2468 g2) ⟨lmX13_168, lv_X13_priceOf_i, ls_X13_priceOf⟩ ⟨rfl, cy_X13_priceOf⟩ ⟨Nat.le_of_ble_eq_true rfl, Nat.le_of_ble_eq_true rfl⟩ (Nat.le_of_ble_eq_true rfl) rfl (Nat.zero_le _) (Nat.zero_le _) (c_X13_priceOf g2 (by omega) (by omega) (by omega) (by omega)) (mkL fun v33 h34 q35 => ?_)
                obtain ⟨rfl, q35⟩ := q35
                refine m_lmulW 81 dX13_cost_80 rfl ?_
                obtain ⟨v36, ev36⟩ : ∃ v36 : Int, v36 = (v32 * v33).bmod 18446744073709551616 := ⟨_, rfl⟩
                rw [← ev36]
                have bv36 : (-9223372036854775808) ≤ v36 ∧ v36 ≤ 9223372036854775807 := ev36 ▸ mL_bm _
                clear ev36
                refine m_laddW 82 dX13_cost_81 rfl ?_
                obtain ⟨v37, ev37⟩ : ∃ v37 : Int, v37 = (x22 + v36).bmod 18446744073709551616 := ⟨_, rfl⟩
                rw [← ev37]
                have bv37 : (-9223372036854775808) ≤ v37 ∧ v37 ≤ 9223372036854775807 := ev37 ▸ mL_bm _
                clear ev37
                refine m_lstore_n 83 (i := 2) rfl dX13_cost_82 rfl (by decide) ?_
                refine m_lload 85 dX13_cost_83 rfl rfl ?_
                refine m_aload_n 86 dX13_cost_85 rfl rfl (by decide) ?_
                refine m_getfieldC 89 dX13_cost_86 rfl (ci := 13) rfl lu_X13 (k := 37) (by decide) lfX13_87 (tag := 2) rfl (by decide) (GI.lt g2 (by decide)) (gk2468 g2) (gf2468_37 g2) ?_
                refine m_bipush 91 dX13_cost_89 rfl (by decide) ?_
                refine m_iload 93 dX13_cost_91 rfl rfl ?_
                refine m_imul 94 dX13_cost_93 rfl (by omega) ?_
                refine m_iload 96 dX13_cost_94 rfl rfl ?_
                refine m_iadd 97 dX13_cost_96 rfl (by omega) ?_
                refine m_lald 98 dX13_cost_97 rfl (by decide) (GI.lt g2 (by decide)) (gk2494 g2) (by omega) (m_len (gl2494 g2) (by omega)) (fun v38 ev38 _ => ?_)
                have bv38 : (-9223372036854775808) ≤ v38 ∧ v38 ≤ 9223372036854775807 := by rw [ev38]; exact ge2494 g2 (by omega)
                clear ev38
                refine m_laddW 99 dX13_cost_98 rfl ?_
                obtain ⟨v39, ev39⟩ : ∃ v39 : Int, v39 = (x23 + v38).bmod 18446744073709551616 := ⟨_, rfl⟩
                rw [← ev39]
                have bv39 : (-9223372036854775808) ≤ v39 ∧ v39 ≤ 9223372036854775807 := ev39 ▸ mL_bm _
                clear ev39
                refine m_lstore 101 dX13_cost_99 rfl (by decide) ?_
                refine m_lload 103 dX13_cost_101 rfl rfl ?_
                refine m_iload 105 dX13_cost_103 rfl rfl ?_
                refine m_aload_n 106 dX13_cost_105 rfl rfl (by decide) ?_
                refine m_getfield 109 dX13_cost_106 rfl (ci := 13) rfl lu_X13 (k := 1) (by decide) lfX13_115 (tag := 0) rfl (by decide) (GI.lt g2 (by decide)) (gk2468 g2) (fun v40 (ev40 : v40 = (h1.2 2468).2.2 1) _ => ?_)
                have bv40 : 0 ≤ v40 ∧ v40 ≤ 8 := by rw [ev40]; exact gf2468_1 g2
                have jn129_42 : ∀ (x42 : Int), True → ((-9223372036854775808) ≤ x42 ∧ x42 ≤ 9223372036854775807) → (0 ≤ v40 ∧ v40 ≤ 8) → MW KX13_cost (q_X13_cost a1 h) 0 0 129 [(0, (2, 2468)), (1, (0, a1)), (2, (1, v37)), (4, (1, v39)), (8, (0, x11)), (9, (0, x25))] [(1, x42), (1, x24)] h1 := by
                  intro x42 _ b43 b44
                  refine m_laddW 130 dX13_cost_129 rfl ?_
                  obtain ⟨v45, ev45⟩ : ∃ v45 : Int, v45 = (x24 + x42).bmod 18446744073709551616 := ⟨_, rfl⟩
                  rw [← ev45]
                  have bv45 : (-9223372036854775808) ≤ v45 ∧ v45 ≤ 9223372036854775807 := ev45 ▸ mL_bm _
                  clear ev45
                  refine m_lstore 132 dX13_cost_130 rfl (by decide) ?_
                  refine m_iinc 135 dX13_cost_132 rfl (by decide) rfl (by omega) ?_
                  refine m_goto 48 dX13_cost_135 rfl ?_
                  refine m_sub [(0, (2, 2468)), (1, (0, a1)), (2, (1, v37)), (4, (1, v39)), (6, (1, v45)), (8, (0, x11)), (9, (0, (x25 + 1)))] (List.forall_mem_cons.mpr ⟨rfl, List.forall_mem_cons.mpr ⟨rfl, List.forall_mem_cons.mpr ⟨rfl, List.forall_mem_cons.mpr ⟨rfl, List.forall_mem_cons.mpr ⟨rfl, List.forall_mem_cons.mpr ⟨rfl, List.forall_mem_cons.mpr ⟨rfl, fun _ h => absurd h List.not_mem_nil⟩⟩⟩⟩⟩⟩⟩) ?_
                  exact ih48 _ (by omega) (v37) (v39) (v45) ((x25 + 1)) trivial (by omega) (by omega) (by omega) (by omega) rfl
                refine m_ic_ge 112 116 dX13_cost_109 rfl rfl (fun c41 => ?_) (fun c41 => ?_)
                · skip
                  refine m_aload_n 117 dX13_cost_116 rfl rfl (by decide) ?_
                  refine m_getfieldC 120 dX13_cost_117 rfl (ci := 13) rfl lu_X13 (k := 37) (by decide) lfX13_87 (tag := 2) rfl (by decide) (GI.lt g2 (by decide)) (gk2468 g2) (gf2468_37 g2) ?_
                  refine m_bipush 122 dX13_cost_120 rfl (by decide) ?_
                  refine m_iload 124 dX13_cost_122 rfl rfl ?_
                  refine m_imul 125 dX13_cost_124 rfl (by omega) ?_
                  refine m_iload 127 dX13_cost_125 rfl rfl ?_
                  refine m_iadd 128 dX13_cost_127 rfl (by omega) ?_
                  refine m_lald 129 dX13_cost_128 rfl (by decide) (GI.lt g2 (by decide)) (gk2494 g2) (by omega) (m_len (gl2494 g2) (by omega)) (fun v46 ev46 _ => ?_)
                  have bv46 : (-9223372036854775808) ≤ v46 ∧ v46 ≤ 9223372036854775807 := by rw [ev46]; exact ge2494 g2 (by omega)
                  clear ev46
                  refine m_sub [(0, (2, 2468)), (1, (0, a1)), (2, (1, v37)), (4, (1, v39)), (8, (0, x11)), (9, (0, x25))] (List.forall_mem_cons.mpr ⟨rfl, List.forall_mem_cons.mpr ⟨rfl, List.forall_mem_cons.mpr ⟨rfl, List.forall_mem_cons.mpr ⟨rfl, List.forall_mem_cons.mpr ⟨rfl, List.forall_mem_cons.mpr ⟨rfl, fun _ h => absurd h List.not_mem_nil⟩⟩⟩⟩⟩⟩) ?_
                  exact jn129_42 (v46) trivial (by omega) (by omega)
                · skip
                  refine m_lconst 113 dX13_cost_112 rfl ?_
                  refine m_goto 129 dX13_cost_113 rfl ?_
                  refine m_sub [(0, (2, 2468)), (1, (0, a1)), (2, (1, v37)), (4, (1, v39)), (8, (0, x11)), (9, (0, x25))] (List.forall_mem_cons.mpr ⟨rfl, List.forall_mem_cons.mpr ⟨rfl, List.forall_mem_cons.mpr ⟨rfl, List.forall_mem_cons.mpr ⟨rfl, List.forall_mem_cons.mpr ⟨rfl, List.forall_mem_cons.mpr ⟨rfl, fun _ h => absurd h List.not_mem_nil⟩⟩⟩⟩⟩⟩) ?_
                  exact jn129_42 (0) trivial (by omega) (by omega)
            refine m_sub [(0, (2, 2468)), (1, (0, a1)), (2, (1, x8)), (4, (1, x9)), (6, (1, x10)), (8, (0, x11)), (9, (0, 0))] (List.forall_mem_cons.mpr ⟨rfl, List.forall_mem_cons.mpr ⟨rfl, List.forall_mem_cons.mpr ⟨rfl, List.forall_mem_cons.mpr ⟨rfl, List.forall_mem_cons.mpr ⟨rfl, List.forall_mem_cons.mpr ⟨rfl, List.forall_mem_cons.mpr ⟨rfl, fun _ h => absurd h List.not_mem_nil⟩⟩⟩⟩⟩⟩⟩) ?_
            exact lp48 _ (x8) (x9) (x10) (0) trivial (by omega) (by omega) (by omega) (by omega) rfl
        refine m_sub [(0, (2, 2468)), (1, (0, a1)), (2, (1, 0)), (4, (1, 0)), (6, (1, 0)), (8, (0, 0))] (List.forall_mem_cons.mpr ⟨rfl, List.forall_mem_cons.mpr ⟨rfl, List.forall_mem_cons.mpr ⟨rfl, List.forall_mem_cons.mpr ⟨rfl, List.forall_mem_cons.mpr ⟨rfl, List.forall_mem_cons.mpr ⟨rfl, fun _ h => absurd h List.not_mem_nil⟩⟩⟩⟩⟩⟩) ?_
        exact lp36 _ (0) (0) (0) (0) trivial (by omega) (by omega) (by omega) (by omega) rfl
      · skip
        refine m_ldc2 (n := (-1)) 24 dX13_cost_21 rfl lcX13_210 rfl (by decide) ?_
        exact m_lreturn dX13_cost_24 rfl (mqL ⟨g2, by omega⟩)
theorem cy_X13_list : yX13_list.cls ≠ "java/lang/invoke/MethodHandle" ∧ yX13_list.cls ≠ "java/lang/invoke/VarHandle" ∧ (parseMethodDescriptor yX13_list.desc).map (fun d => d.parameters.length) = some 3 := by decide +kernel
theorem dX13_list_0 : decode KX13_list.2.2.1 0 = .ok (.aload_n 0, 1) := by decide +kernel
theorem dX13_list_1 : decode KX13_list.2.2.1 1 = .ok (.iconst 0, 1) := by decide +kernel
theorem dX13_list_2 : decode KX13_list.2.2.1 2 = .ok (.putfield 92, 3) := by decide +kernel
theorem dX13_list_5 : decode KX13_list.2.2.1 5 = .ok (.aload_n 0, 1) := by decide +kernel
theorem dX13_list_6 : decode KX13_list.2.2.1 6 = .ok (.getfield 96, 3) := by decide +kernel
theorem dX13_list_9 : decode KX13_list.2.2.1 9 = .ok (.ifCond .eq 12, 3) := by decide +kernel
theorem dX13_list_12 : decode KX13_list.2.2.1 12 = .ok (.iload_n 3, 1) := by decide +kernel
theorem dX13_list_13 : decode KX13_list.2.2.1 13 = .ok (.ifCond .lt 8, 3) := by decide +kernel
theorem dX13_list_16 : decode KX13_list.2.2.1 16 = .ok (.iload_n 3, 1) := by decide +kernel
theorem dX13_list_17 : decode KX13_list.2.2.1 17 = .ok (.iconst 2, 1) := by decide +kernel
theorem dX13_list_18 : decode KX13_list.2.2.1 18 = .ok (.if_icmp .le 5, 3) := by decide +kernel
theorem dX13_list_21 : decode KX13_list.2.2.1 21 = .ok (.iconst (-1), 1) := by decide +kernel
theorem dX13_list_22 : decode KX13_list.2.2.1 22 = .ok (.ireturn, 1) := by decide +kernel
theorem dX13_list_23 : decode KX13_list.2.2.1 23 = .ok (.iconst 0, 1) := by decide +kernel
theorem dX13_list_24 : decode KX13_list.2.2.1 24 = .ok (.istore 4, 2) := by decide +kernel
theorem dX13_list_26 : decode KX13_list.2.2.1 26 = .ok (.iconst 0, 1) := by decide +kernel
theorem dX13_list_27 : decode KX13_list.2.2.1 27 = .ok (.istore 5, 2) := by decide +kernel
theorem dX13_list_29 : decode KX13_list.2.2.1 29 = .ok (.iload 5, 2) := by decide +kernel
theorem dX13_list_31 : decode KX13_list.2.2.1 31 = .ok (.bipush 8, 2) := by decide +kernel
theorem dX13_list_33 : decode KX13_list.2.2.1 33 = .ok (.aload_n 0, 1) := by decide +kernel
theorem dX13_list_34 : decode KX13_list.2.2.1 34 = .ok (.invokevirtual 152, 3) := by decide +kernel
theorem dX13_list_37 : decode KX13_list.2.2.1 37 = .ok (.imul, 1) := by decide +kernel
theorem dX13_list_38 : decode KX13_list.2.2.1 38 = .ok (.if_icmp .ge 88, 3) := by decide +kernel
theorem dX13_list_41 : decode KX13_list.2.2.1 41 = .ok (.iload 5, 2) := by decide +kernel
theorem dX13_list_43 : decode KX13_list.2.2.1 43 = .ok (.bipush 8, 2) := by decide +kernel
theorem dX13_list_45 : decode KX13_list.2.2.1 45 = .ok (.irem, 1) := by decide +kernel
theorem dX13_list_46 : decode KX13_list.2.2.1 46 = .ok (.istore 6, 2) := by decide +kernel
theorem dX13_list_48 : decode KX13_list.2.2.1 48 = .ok (.iload 6, 2) := by decide +kernel
theorem dX13_list_50 : decode KX13_list.2.2.1 50 = .ok (.aload_n 0, 1) := by decide +kernel
theorem dX13_list_51 : decode KX13_list.2.2.1 51 = .ok (.getfield 121, 3) := by decide +kernel
theorem dX13_list_54 : decode KX13_list.2.2.1 54 = .ok (.if_icmp .ge 66, 3) := by decide +kernel
theorem dX13_list_57 : decode KX13_list.2.2.1 57 = .ok (.aload_n 0, 1) := by decide +kernel
theorem dX13_list_58 : decode KX13_list.2.2.1 58 = .ok (.getfield 31, 3) := by decide +kernel
theorem dX13_list_61 : decode KX13_list.2.2.1 61 = .ok (.iload 6, 2) := by decide +kernel
theorem dX13_list_63 : decode KX13_list.2.2.1 63 = .ok (.iaload, 1) := by decide +kernel
theorem dX13_list_64 : decode KX13_list.2.2.1 64 = .ok (.iload_n 1, 1) := by decide +kernel
theorem dX13_list_65 : decode KX13_list.2.2.1 65 = .ok (.if_icmp .ne 55, 3) := by decide +kernel
theorem dX13_list_68 : decode KX13_list.2.2.1 68 = .ok (.aload_n 0, 1) := by decide +kernel
theorem dX13_list_69 : decode KX13_list.2.2.1 69 = .ok (.getfield 87, 3) := by decide +kernel
theorem dX13_list_72 : decode KX13_list.2.2.1 72 = .ok (.iload 5, 2) := by decide +kernel
theorem dX13_list_74 : decode KX13_list.2.2.1 74 = .ok (.laload, 1) := by decide +kernel
theorem dX13_list_75 : decode KX13_list.2.2.1 75 = .ok (.lconst 0, 1) := by decide +kernel
theorem dX13_list_76 : decode KX13_list.2.2.1 76 = .ok (.lcmp, 1) := by decide +kernel
theorem dX13_list_77 : decode KX13_list.2.2.1 77 = .ok (.ifCond .le 43, 3) := by decide +kernel
theorem dX13_list_80 : decode KX13_list.2.2.1 80 = .ok (.iload 4, 2) := by decide +kernel
theorem dX13_list_82 : decode KX13_list.2.2.1 82 = .ok (.iload_n 2, 1) := by decide +kernel
theorem dX13_list_83 : decode KX13_list.2.2.1 83 = .ok (.if_icmp .ne 34, 3) := by decide +kernel
theorem dX13_list_86 : decode KX13_list.2.2.1 86 = .ok (.iload_n 3, 1) := by decide +kernel
theorem dX13_list_87 : decode KX13_list.2.2.1 87 = .ok (.ifCond .ne 11, 3) := by decide +kernel
theorem dX13_list_90 : decode KX13_list.2.2.1 90 = .ok (.iload 5, 2) := by decide +kernel
theorem dX13_list_92 : decode KX13_list.2.2.1 92 = .ok (.bipush 8, 2) := by decide +kernel
theorem dX13_list_94 : decode KX13_list.2.2.1 94 = .ok (.idiv, 1) := by decide +kernel
theorem dX13_list_95 : decode KX13_list.2.2.1 95 = .ok (.goto 21, 3) := by decide +kernel
theorem dX13_list_98 : decode KX13_list.2.2.1 98 = .ok (.iload_n 3, 1) := by decide +kernel
theorem dX13_list_99 : decode KX13_list.2.2.1 99 = .ok (.iconst 1, 1) := by decide +kernel
theorem dX13_list_100 : decode KX13_list.2.2.1 100 = .ok (.if_icmp .ne 8, 3) := by decide +kernel
theorem dX13_list_103 : decode KX13_list.2.2.1 103 = .ok (.iload 6, 2) := by decide +kernel
theorem dX13_list_105 : decode KX13_list.2.2.1 105 = .ok (.goto 11, 3) := by decide +kernel
theorem dX13_list_108 : decode KX13_list.2.2.1 108 = .ok (.aload_n 0, 1) := by decide +kernel
theorem dX13_list_109 : decode KX13_list.2.2.1 109 = .ok (.getfield 87, 3) := by decide +kernel
theorem dX13_list_112 : decode KX13_list.2.2.1 112 = .ok (.iload 5, 2) := by decide +kernel
theorem dX13_list_114 : decode KX13_list.2.2.1 114 = .ok (.laload, 1) := by decide +kernel
theorem dX13_list_115 : decode KX13_list.2.2.1 115 = .ok (.l2i, 1) := by decide +kernel
theorem dX13_list_116 : decode KX13_list.2.2.1 116 = .ok (.ireturn, 1) := by decide +kernel
theorem dX13_list_117 : decode KX13_list.2.2.1 117 = .ok (.iinc 4 1, 3) := by decide +kernel
theorem dX13_list_120 : decode KX13_list.2.2.1 120 = .ok (.iinc 5 1, 3) := by decide +kernel
theorem dX13_list_123 : decode KX13_list.2.2.1 123 = .ok (.goto (-94), 3) := by decide +kernel
theorem dX13_list_126 : decode KX13_list.2.2.1 126 = .ok (.iconst (-1), 1) := by decide +kernel
theorem dX13_list_127 : decode KX13_list.2.2.1 127 = .ok (.ireturn, 1) := by decide +kernel
abbrev q_X13_list (a1 a2 a3 : Int) (h : MH) : MO → MH → Prop := mRI fun v h' => GI h' ∧ (-2147483648) ≤ v ∧ v ≤ 2147483647
set_option maxRecDepth 20000 in
theorem c_X13_list {a1 a2 a3 : Int} {h : MH} (g : GI h) : MCal KX13_list yX13_list 0 0 [(2, 2468), (0, a1), (0, a2), (0, a3)] h (q_X13_list a1 a2 a3 h) := by
  refine MCal.ofMW (Or.inl rfl) ⟨cp_X13, rfl⟩ (Nat.le_of_ble_eq_true rfl) ?_
  change MW _ _ _ _ _ [(0, (2, 2468)), (1, (0, a1)), (2, (0, a2)), (3, (0, a3))] _ _
  refine m_locI (i := 1) rfl (fun ua1 wa1 => ?_)
  refine m_locI (i := 2) rfl (fun ua2 wa2 => ?_)
  refine m_locI (i := 3) rfl (fun ua3 wa3 => ?_)
  refine m_aload_n 1 dX13_list_0 rfl rfl (by decide) ?_
  refine m_iconst 2 dX13_list_1 rfl (by decide) ?_
  refine m_putfield 5 dX13_list_2 rfl (ci := 13) rfl lu_X13 tyX13_ok nmX13 (k := 0) (by decide) (Or.inl rfl) lfX13_92 (tag := 0) rfl (fun _ => rfl) (fun _ => rfl) (by decide) (GI.lt g (by decide)) (gk2468 g) ?_
  refine m_heap (fun h1 eh1 => ?_)
  have g2 : GI h1 := eh1 ▸ GI.set g (by decide) (fun _ => by show 0 ≤ _ ∧ _ ≤ 1; omega)
  have m3 : (h1.2 2468).2.2 0 = 0 := by rw [eh1]; rfl
  clear eh1
  refine m_aload_n 6 dX13_list_5 rfl rfl (by decide) ?_
  refine m_getfield 9 dX13_list_6 rfl (ci := 13) rfl lu_X13 (k := 33) (by decide) lfX13_96 (tag := 0) rfl (by decide) (GI.lt g2 (by decide)) (gk2468 g2) (fun v4 (ev4 : v4 = (h1.2 2468).2.2 33) _ => ?_)
  have bv4 : 0 ≤ v4 ∧ v4 ≤ 1 := by rw [ev4]; exact gf2468_33 g2
  refine m_if_eq 12 21 dX13_list_9 rfl rfl (fun c5 => ?_) (fun c5 => ?_)
  · skip
    refine m_iconst 22 dX13_list_21 rfl (by decide) ?_
    exact m_ireturn dX13_list_22 rfl rfl (mqI ⟨g2, by omega⟩)
  · skip
    refine m_iload_n 13 dX13_list_12 rfl rfl ?_
    refine m_if_lt 16 21 dX13_list_13 rfl rfl (fun c6 => ?_) (fun c6 => ?_)
    · skip
      refine m_iconst 22 dX13_list_21 rfl (by decide) ?_
      exact m_ireturn dX13_list_22 rfl rfl (mqI ⟨g2, by omega⟩)
    · skip
      refine m_iload_n 17 dX13_list_16 rfl rfl ?_
      refine m_iconst 18 dX13_list_17 rfl (by decide) ?_
      refine m_ic_le 21 23 dX13_list_18 rfl rfl (fun c7 => ?_) (fun c7 => ?_)
      · skip
        refine m_iconst 24 dX13_list_23 rfl (by decide) ?_
        refine m_istore 26 dX13_list_24 rfl (by decide) ?_
        refine m_iconst 27 dX13_list_26 rfl (by decide) ?_
        refine m_istore 29 dX13_list_27 rfl (by decide) ?_
        have lp29 : ∀ (n : Nat) (x8 x9 : Int), True → ((-2147483648) ≤ x8 ∧ x8 ≤ 2147483647) → (0 ≤ x9 ∧ x9 ≤ 96) → (96 - x9).toNat = n → MW KX13_list (q_X13_list a1 a2 a3 h) 0 0 29 [(0, (2, 2468)), (1, (0, a1)), (2, (0, a2)), (3, (0, a3)), (4, (0, x8)), (5, (0, x9))] [] h1 := by
          intro n
          induction n using Nat.strongRecOn with
          | _ n ih29 =>
          intro x8 x9 _ b10 b11 hm29
          refine m_iload 31 dX13_list_29 rfl rfl ?_
          refine m_bipush 33 dX13_list_31 rfl (by decide) ?_
          refine m_aload_n 34 dX13_list_33 rfl rfl (by decide) ?_
          refine m_invokevirtual (K' := KX13_sources) (As := []) dX13_list_34 (fun _ => by decide) ⟨lo_X13_sources, li_X13⟩ (ci := 13) (r := 2468) rfl (by decide) (GI.lt g2 (by decide)) (gk2468 g2) ⟨lmX13_152, lv_X13_sources_i, ls_X13_sources⟩ ⟨rfl, cy_X13_sources⟩ ⟨Nat.le_of_ble_eq_true rfl, Nat.le_of_ble_eq_true rfl⟩ (Nat.le_of_ble_eq_true rfl) rfl (Nat.zero_le _) (Nat.zero_le _) (c_X13_sources g2) (mkI fun v12 h13 q14 => ?_)
          obtain ⟨rfl, q14⟩ := q14
          refine m_imul 38 dX13_list_37 rfl (by omega) ?_
          refine m_ic_ge 41 126 dX13_list_38 rfl rfl (fun c15 => ?_) (fun c15 => ?_)
          · skip
            refine m_iconst 127 dX13_list_126 rfl (by decide) ?_
            exact m_ireturn dX13_list_127 rfl rfl (mqI ⟨g2, by omega⟩)
          · skip
            refine m_iload 43 dX13_list_41 rfl rfl ?_
            refine m_bipush 45 dX13_list_43 rfl (by decide) ?_
            refine m_iremP 46 dX13_list_45 rfl (by omega) (by omega) (fun v16 bv16 => ?_)
            refine m_istore 48 dX13_list_46 rfl (by decide) ?_
            refine m_iload 50 dX13_list_48 rfl rfl ?_
            refine m_aload_n 51 dX13_list_50 rfl rfl (by decide) ?_
            refine m_getfield 54 dX13_list_51 rfl (ci := 13) rfl lu_X13 (k := 9) (by decide) lfX13_121 (tag := 0) rfl (by decide) (GI.lt g2 (by decide)) (gk2468 g2) (fun v17 (ev17 : v17 = (h1.2 2468).2.2 9) _ => ?_)
            have bv17 : 0 ≤ v17 ∧ v17 ≤ 8 := by rw [ev17]; exact gf2468_9 g2
            refine m_ic_ge 57 120 dX13_list_54 rfl rfl (fun c18 => ?_) (fun c18 => ?_)
            · skip
              refine m_iinc 123 dX13_list_120 rfl (by decide) rfl (by omega) ?_
              refine m_goto 29 dX13_list_123 rfl ?_
              refine m_sub [(0, (2, 2468)), (1, (0, a1)), (2, (0, a2)), (3, (0, a3)), (4, (0, x8)), (5, (0, (x9 + 1)))] (List.forall_mem_cons.mpr ⟨rfl, List.forall_mem_cons.mpr ⟨rfl, List.forall_mem_cons.mpr ⟨rfl, List.forall_mem_cons.mpr ⟨rfl, List.forall_mem_cons.mpr ⟨rfl, List.forall_mem_cons.mpr ⟨rfl, fun _ h => absurd h List.not_mem_nil⟩⟩⟩⟩⟩⟩) ?_
              exact ih29 _ (by omega) (x8) ((x9 + 1)) trivial (by omega) (by omega) rfl
            · skip
              refine m_aload_n 58 dX13_list_57 rfl rfl (by decide) ?_
              refine m_getfieldC 61 dX13_list_58 rfl (ci := 13) rfl lu_X13 (k := 11) (by decide) lfX13_31 (tag := 2) rfl (by decide) (GI.lt g2 (by decide)) (gk2468 g2) (gf2468_11 g2) ?_
              refine m_iload 63 dX13_list_61 rfl rfl ?_
              refine m_iald 64 dX13_list_63 rfl (by decide) (GI.lt g2 (by decide)) (gk2476 g2) (by omega) (m_len (gl2476 g2) (by omega)) (fun v19 ev19 _ => ?_)
              have bv19 : 0 ≤ v19 ∧ v19 ≤ 11 := by rw [ev19]; exact ge2476 g2 (by omega)
              clear ev19
              refine m_iload_n 65 dX13_list_64 rfl rfl ?_
              refine m_ic_ne 68 120 dX13_list_65 rfl rfl (fun c20 => ?_) (fun c20 => ?_)
              · skip
                refine m_iinc 123 dX13_list_120 rfl (by decide) rfl (by omega) ?_
                refine m_goto 29 dX13_list_123 rfl ?_
                refine m_sub [(0, (2, 2468)), (1, (0, a1)), (2, (0, a2)), (3, (0, a3)), (4, (0, x8)), (5, (0, (x9 + 1)))] (List.forall_mem_cons.mpr ⟨rfl, List.forall_mem_cons.mpr ⟨rfl, List.forall_mem_cons.mpr ⟨rfl, List.forall_mem_cons.mpr ⟨rfl, List.forall_mem_cons.mpr ⟨rfl, List.forall_mem_cons.mpr ⟨rfl, fun _ h => absurd h List.not_mem_nil⟩⟩⟩⟩⟩⟩) ?_
                exact ih29 _ (by omega) (x8) ((x9 + 1)) trivial (by omega) (by omega) rfl
              · skip
                refine m_aload_n 69 dX13_list_68 rfl rfl (by decide) ?_
                refine m_getfieldC 72 dX13_list_69 rfl (ci := 13) rfl lu_X13 (k := 37) (by decide) lfX13_87 (tag := 2) rfl (by decide) (GI.lt g2 (by decide)) (gk2468 g2) (gf2468_37 g2) ?_
                refine m_iload 74 dX13_list_72 rfl rfl ?_
                refine m_lald 75 dX13_list_74 rfl (by decide) (GI.lt g2 (by decide)) (gk2494 g2) (by omega) (m_len (gl2494 g2) (by omega)) (fun v21 ev21 _ => ?_)
                have bv21 : (-9223372036854775808) ≤ v21 ∧ v21 ≤ 9223372036854775807 := by rw [ev21]; exact ge2494 g2 (by omega)
                clear ev21
                refine m_lconst 76 dX13_list_75 rfl ?_
                refine m_lc_le 80 120 dX13_list_76 dX13_list_77 rfl rfl (fun c22 => ?_) (fun c22 => ?_)
                · skip
                  refine m_iinc 123 dX13_list_120 rfl (by decide) rfl (by omega) ?_
                  refine m_goto 29 dX13_list_123 rfl ?_
                  refine m_sub [(0, (2, 2468)), (1, (0, a1)), (2, (0, a2)), (3, (0, a3)), (4, (0, x8)), (5, (0, (x9 + 1)))] (List.forall_mem_cons.mpr ⟨rfl, List.forall_mem_cons.mpr ⟨rfl, List.forall_mem_cons.mpr ⟨rfl, List.forall_mem_cons.mpr ⟨rfl, List.forall_mem_cons.mpr ⟨rfl, List.forall_mem_cons.mpr ⟨rfl, fun _ h => absurd h List.not_mem_nil⟩⟩⟩⟩⟩⟩) ?_
                  exact ih29 _ (by omega) (x8) ((x9 + 1)) trivial (by omega) (by omega) rfl
                · skip
                  refine m_iload 82 dX13_list_80 rfl rfl ?_
                  refine m_iload_n 83 dX13_list_82 rfl rfl ?_
                  refine m_ic_ne 86 117 dX13_list_83 rfl rfl (fun c23 => ?_) (fun c23 => ?_)
                  · skip
                    refine m_iincW 120 dX13_list_117 rfl (by decide) rfl ?_
                    obtain ⟨v24, ev24⟩ : ∃ v24 : Int, v24 = (x8 + 1).bmod 4294967296 := ⟨_, rfl⟩
                    rw [← ev24]
                    have bv24 : -2147483648 ≤ v24 ∧ v24 ≤ 2147483647 := ev24 ▸ mI_bm _
                    clear ev24
                    refine m_iinc 123 dX13_list_120 rfl (by decide) rfl (by omega) ?_
                    refine m_goto 29 dX13_list_123 rfl ?_
                    refine m_sub [(0, (2, 2468)), (1, (0, a1)), (2, (0, a2)), (3, (0, a3)), (4, (0, v24)), (5, (0, (x9 + 1)))] (List.forall_mem_cons.mpr ⟨rfl, List.forall_mem_cons.mpr ⟨rfl, List.forall_mem_cons.mpr ⟨rfl, List.forall_mem_cons.mpr ⟨rfl, List.forall_mem_cons.mpr ⟨rfl, List.forall_mem_cons.mpr ⟨rfl, fun _ h => absurd h List.not_mem_nil⟩⟩⟩⟩⟩⟩) ?_
                    exact ih29 _ (by omega) (v24) ((x9 + 1)) trivial (by omega) (by omega) rfl
                  · skip
                    refine m_iload_n 87 dX13_list_86 rfl rfl ?_
                    refine m_if_ne 90 98 dX13_list_87 rfl rfl (fun c25 => ?_) (fun c25 => ?_)
                    · skip
                      refine m_iload_n 99 dX13_list_98 rfl rfl ?_
                      refine m_iconst 100 dX13_list_99 rfl (by decide) ?_
                      refine m_ic_ne 103 108 dX13_list_100 rfl rfl (fun c26 => ?_) (fun c26 => ?_)
                      · skip
                        refine m_aload_n 109 dX13_list_108 rfl rfl (by decide) ?_
                        refine m_getfieldC 112 dX13_list_109 rfl (ci := 13) rfl lu_X13 (k := 37) (by decide) lfX13_87 (tag := 2) rfl (by decide) (GI.lt g2 (by decide)) (gk2468 g2) (gf2468_37 g2) ?_
                        refine m_iload 114 dX13_list_112 rfl rfl ?_
                        refine m_lald 115 dX13_list_114 rfl (by decide) (GI.lt g2 (by decide)) (gk2494 g2) (by omega) (m_len (gl2494 g2) (by omega)) (fun v27 ev27 _ => ?_)
                        have bv27 : (-9223372036854775808) ≤ v27 ∧ v27 ≤ 9223372036854775807 := by rw [ev27]; exact ge2494 g2 (by omega)
                        clear ev27
                        refine m_l2iW 116 dX13_list_115 rfl ?_
                        obtain ⟨v28, ev28⟩ : ∃ v28 : Int, v28 = v27.bmod 4294967296 := ⟨_, rfl⟩
                        rw [← ev28]
                        have bv28 : -2147483648 ≤ v28 ∧ v28 ≤ 2147483647 := ev28 ▸ mI_bm _
                        clear ev28
                        exact m_ireturn dX13_list_116 rfl rfl (mqI ⟨g2, by omega⟩)
                      · skip
                        refine m_iload 105 dX13_list_103 rfl rfl ?_
                        refine m_goto 116 dX13_list_105 rfl ?_
                        exact m_ireturn dX13_list_116 rfl rfl (mqI ⟨g2, by omega⟩)
                    · skip
                      refine m_iload 92 dX13_list_90 rfl rfl ?_
                      refine m_bipush 94 dX13_list_92 rfl (by decide) ?_
                      refine m_idivP 95 dX13_list_94 rfl (by omega) (by omega) (by omega) (fun v29 bv29 => ?_)
                      refine m_goto 116 dX13_list_95 rfl ?_
                      exact m_ireturn dX13_list_116 rfl rfl (mqI ⟨g2, by omega⟩)
        refine m_sub [(0, (2, 2468)), (1, (0, a1)), (2, (0, a2)), (3, (0, a3)), (4, (0, 0)), (5, (0, 0))] (List.forall_mem_cons.mpr ⟨rfl, List.forall_mem_cons.mpr ⟨rfl, List.forall_mem_cons.mpr ⟨rfl, List.forall_mem_cons.mpr ⟨rfl, List.forall_mem_cons.mpr ⟨rfl, List.forall_mem_cons.mpr ⟨rfl, fun _ h => absurd h List.not_mem_nil⟩⟩⟩⟩⟩⟩) ?_
        exact lp29 _ (0) (0) trivial (by omega) (by omega) rfl
      · skip
        refine m_iconst 22 dX13_list_21 rfl (by decide) ?_
        exact m_ireturn dX13_list_22 rfl rfl (mqI ⟨g2, by omega⟩)
theorem cy_X13_mass : yX13_mass.cls ≠ "java/lang/invoke/MethodHandle" ∧ yX13_mass.cls ≠ "java/lang/invoke/VarHandle" ∧ (parseMethodDescriptor yX13_mass.desc).map (fun d => d.parameters.length) = some 2 := by decide +kernel
theorem dX13_mass_0 : decode KX13_mass.2.2.1 0 = .ok (.aload_n 0, 1) := by decide +kernel
theorem dX13_mass_1 : decode KX13_mass.2.2.1 1 = .ok (.iconst 0, 1) := by decide +kernel
theorem dX13_mass_2 : decode KX13_mass.2.2.1 2 = .ok (.putfield 92, 3) := by decide +kernel
theorem dX13_mass_5 : decode KX13_mass.2.2.1 5 = .ok (.lload_n 1, 1) := by decide +kernel
theorem dX13_mass_6 : decode KX13_mass.2.2.1 6 = .ok (.lconst 0, 1) := by decide +kernel
theorem dX13_mass_7 : decode KX13_mass.2.2.1 7 = .ok (.ldc2_w 113, 3) := by decide +kernel
theorem dX13_mass_10 : decode KX13_mass.2.2.1 10 = .ok (.invokestatic 105, 3) := by decide +kernel
theorem dX13_mass_13 : decode KX13_mass.2.2.1 13 = .ok (.ifCond .ne 24, 3) := by decide +kernel
theorem dX13_mass_16 : decode KX13_mass.2.2.1 16 = .ok (.iload_n 3, 1) := by decide +kernel
theorem dX13_mass_17 : decode KX13_mass.2.2.1 17 = .ok (.ifCond .lt 20, 3) := by decide +kernel
theorem dX13_mass_20 : decode KX13_mass.2.2.1 20 = .ok (.iload_n 3, 1) := by decide +kernel
theorem dX13_mass_21 : decode KX13_mass.2.2.1 21 = .ok (.iconst 3, 1) := by decide +kernel
theorem dX13_mass_22 : decode KX13_mass.2.2.1 22 = .ok (.if_icmp .gt 15, 3) := by decide +kernel
theorem dX13_mass_25 : decode KX13_mass.2.2.1 25 = .ok (.iload_n 3, 1) := by decide +kernel
theorem dX13_mass_26 : decode KX13_mass.2.2.1 26 = .ok (.iconst 1, 1) := by decide +kernel
theorem dX13_mass_27 : decode KX13_mass.2.2.1 27 = .ok (.if_icmp .le 14, 3) := by decide +kernel
theorem dX13_mass_30 : decode KX13_mass.2.2.1 30 = .ok (.aload_n 0, 1) := by decide +kernel
theorem dX13_mass_31 : decode KX13_mass.2.2.1 31 = .ok (.getfield 96, 3) := by decide +kernel
theorem dX13_mass_34 : decode KX13_mass.2.2.1 34 = .ok (.ifCond .ne 7, 3) := by decide +kernel
theorem dX13_mass_37 : decode KX13_mass.2.2.1 37 = .ok (.ldc2_w 210, 3) := by decide +kernel
theorem dX13_mass_40 : decode KX13_mass.2.2.1 40 = .ok (.lreturn, 1) := by decide +kernel
theorem dX13_mass_41 : decode KX13_mass.2.2.1 41 = .ok (.lconst 0, 1) := by decide +kernel
theorem dX13_mass_42 : decode KX13_mass.2.2.1 42 = .ok (.lstore 4, 2) := by decide +kernel
theorem dX13_mass_44 : decode KX13_mass.2.2.1 44 = .ok (.iconst 0, 1) := by decide +kernel
theorem dX13_mass_45 : decode KX13_mass.2.2.1 45 = .ok (.istore 6, 2) := by decide +kernel
theorem dX13_mass_47 : decode KX13_mass.2.2.1 47 = .ok (.iload 6, 2) := by decide +kernel
theorem dX13_mass_49 : decode KX13_mass.2.2.1 49 = .ok (.aload_n 0, 1) := by decide +kernel
theorem dX13_mass_50 : decode KX13_mass.2.2.1 50 = .ok (.invokevirtual 152, 3) := by decide +kernel
theorem dX13_mass_53 : decode KX13_mass.2.2.1 53 = .ok (.if_icmp .ge 148, 3) := by decide +kernel
theorem dX13_mass_56 : decode KX13_mass.2.2.1 56 = .ok (.aload_n 0, 1) := by decide +kernel
theorem dX13_mass_57 : decode KX13_mass.2.2.1 57 = .ok (.iload 6, 2) := by decide +kernel
theorem dX13_mass_59 : decode KX13_mass.2.2.1 59 = .ok (.invokevirtual 141, 3) := by decide +kernel
theorem dX13_mass_62 : decode KX13_mass.2.2.1 62 = .ok (.i2l, 1) := by decide +kernel
theorem dX13_mass_63 : decode KX13_mass.2.2.1 63 = .ok (.lload_n 1, 1) := by decide +kernel
theorem dX13_mass_64 : decode KX13_mass.2.2.1 64 = .ok (.lcmp, 1) := by decide +kernel
theorem dX13_mass_65 : decode KX13_mass.2.2.1 65 = .ok (.ifCond .gt 7, 3) := by decide +kernel
theorem dX13_mass_68 : decode KX13_mass.2.2.1 68 = .ok (.iconst 1, 1) := by decide +kernel
theorem dX13_mass_69 : decode KX13_mass.2.2.1 69 = .ok (.goto 4, 3) := by decide +kernel
theorem dX13_mass_72 : decode KX13_mass.2.2.1 72 = .ok (.iconst 0, 1) := by decide +kernel
theorem dX13_mass_73 : decode KX13_mass.2.2.1 73 = .ok (.istore 7, 2) := by decide +kernel
theorem dX13_mass_75 : decode KX13_mass.2.2.1 75 = .ok (.lload 4, 2) := by decide +kernel
theorem dX13_mass_77 : decode KX13_mass.2.2.1 77 = .ok (.iload_n 3, 1) := by decide +kernel
theorem dX13_mass_78 : decode KX13_mass.2.2.1 78 = .ok (.ifCond .ne 26, 3) := by decide +kernel
theorem dX13_mass_81 : decode KX13_mass.2.2.1 81 = .ok (.iload 6, 2) := by decide +kernel
theorem dX13_mass_83 : decode KX13_mass.2.2.1 83 = .ok (.aload_n 0, 1) := by decide +kernel
theorem dX13_mass_84 : decode KX13_mass.2.2.1 84 = .ok (.getfield 115, 3) := by decide +kernel
theorem dX13_mass_87 : decode KX13_mass.2.2.1 87 = .ok (.if_icmp .ge 17, 3) := by decide +kernel
theorem dX13_mass_90 : decode KX13_mass.2.2.1 90 = .ok (.iload 7, 2) := by decide +kernel
theorem dX13_mass_92 : decode KX13_mass.2.2.1 92 = .ok (.ifCond .eq 12, 3) := by decide +kernel
theorem dX13_mass_95 : decode KX13_mass.2.2.1 95 = .ok (.aload_n 0, 1) := by decide +kernel
theorem dX13_mass_96 : decode KX13_mass.2.2.1 96 = .ok (.iload 6, 2) := by decide +kernel
theorem dX13_mass_98 : decode KX13_mass.2.2.1 98 = .ok (.invokevirtual 156, 3) := by decide +kernel
theorem dX13_mass_101 : decode KX13_mass.2.2.1 101 = .ok (.goto 4, 3) := by decide +kernel
theorem dX13_mass_104 : decode KX13_mass.2.2.1 104 = .ok (.lconst 0, 1) := by decide +kernel
theorem dX13_mass_105 : decode KX13_mass.2.2.1 105 = .ok (.ladd, 1) := by decide +kernel
theorem dX13_mass_106 : decode KX13_mass.2.2.1 106 = .ok (.lstore 4, 2) := by decide +kernel
theorem dX13_mass_108 : decode KX13_mass.2.2.1 108 = .ok (.iconst 0, 1) := by decide +kernel
theorem dX13_mass_109 : decode KX13_mass.2.2.1 109 = .ok (.istore 8, 2) := by decide +kernel
theorem dX13_mass_111 : decode KX13_mass.2.2.1 111 = .ok (.iload 8, 2) := by decide +kernel
theorem dX13_mass_113 : decode KX13_mass.2.2.1 113 = .ok (.aload_n 0, 1) := by decide +kernel
theorem dX13_mass_114 : decode KX13_mass.2.2.1 114 = .ok (.getfield 121, 3) := by decide +kernel
theorem dX13_mass_117 : decode KX13_mass.2.2.1 117 = .ok (.if_icmp .ge 78, 3) := by decide +kernel
theorem dX13_mass_120 : decode KX13_mass.2.2.1 120 = .ok (.iload_n 3, 1) := by decide +kernel
theorem dX13_mass_121 : decode KX13_mass.2.2.1 121 = .ok (.iconst 1, 1) := by decide +kernel
theorem dX13_mass_122 : decode KX13_mass.2.2.1 122 = .ok (.if_icmp .le 73, 3) := by decide +kernel
theorem dX13_mass_125 : decode KX13_mass.2.2.1 125 = .ok (.aload_n 0, 1) := by decide +kernel
theorem dX13_mass_126 : decode KX13_mass.2.2.1 126 = .ok (.getfield 34, 3) := by decide +kernel
theorem dX13_mass_129 : decode KX13_mass.2.2.1 129 = .ok (.iload 8, 2) := by decide +kernel
theorem dX13_mass_131 : decode KX13_mass.2.2.1 131 = .ok (.iaload, 1) := by decide +kernel
theorem dX13_mass_132 : decode KX13_mass.2.2.1 132 = .ok (.i2l, 1) := by decide +kernel
theorem dX13_mass_133 : decode KX13_mass.2.2.1 133 = .ok (.lload_n 1, 1) := by decide +kernel
theorem dX13_mass_134 : decode KX13_mass.2.2.1 134 = .ok (.lcmp, 1) := by decide +kernel
theorem dX13_mass_135 : decode KX13_mass.2.2.1 135 = .ok (.ifCond .gt 7, 3) := by decide +kernel
theorem dX13_mass_138 : decode KX13_mass.2.2.1 138 = .ok (.iconst 1, 1) := by decide +kernel
theorem dX13_mass_139 : decode KX13_mass.2.2.1 139 = .ok (.goto 4, 3) := by decide +kernel
theorem dX13_mass_142 : decode KX13_mass.2.2.1 142 = .ok (.iconst 0, 1) := by decide +kernel
theorem dX13_mass_143 : decode KX13_mass.2.2.1 143 = .ok (.istore 9, 2) := by decide +kernel
theorem dX13_mass_145 : decode KX13_mass.2.2.1 145 = .ok (.lload 4, 2) := by decide +kernel
theorem dX13_mass_147 : decode KX13_mass.2.2.1 147 = .ok (.iload 7, 2) := by decide +kernel
theorem dX13_mass_149 : decode KX13_mass.2.2.1 149 = .ok (.iload 9, 2) := by decide +kernel
theorem dX13_mass_151 : decode KX13_mass.2.2.1 151 = .ok (.if_icmp .eq 34, 3) := by decide +kernel
theorem dX13_mass_154 : decode KX13_mass.2.2.1 154 = .ok (.iload 7, 2) := by decide +kernel
theorem dX13_mass_156 : decode KX13_mass.2.2.1 156 = .ok (.iload_n 3, 1) := by decide +kernel
theorem dX13_mass_157 : decode KX13_mass.2.2.1 157 = .ok (.iconst 2, 1) := by decide +kernel
theorem dX13_mass_158 : decode KX13_mass.2.2.1 158 = .ok (.if_icmp .ne 7, 3) := by decide +kernel
theorem dX13_mass_161 : decode KX13_mass.2.2.1 161 = .ok (.iconst 1, 1) := by decide +kernel
theorem dX13_mass_162 : decode KX13_mass.2.2.1 162 = .ok (.goto 4, 3) := by decide +kernel
theorem dX13_mass_165 : decode KX13_mass.2.2.1 165 = .ok (.iconst 0, 1) := by decide +kernel
theorem dX13_mass_166 : decode KX13_mass.2.2.1 166 = .ok (.if_icmp .ne 19, 3) := by decide +kernel
theorem dX13_mass_169 : decode KX13_mass.2.2.1 169 = .ok (.aload_n 0, 1) := by decide +kernel
theorem dX13_mass_170 : decode KX13_mass.2.2.1 170 = .ok (.getfield 87, 3) := by decide +kernel
theorem dX13_mass_173 : decode KX13_mass.2.2.1 173 = .ok (.bipush 8, 2) := by decide +kernel
theorem dX13_mass_175 : decode KX13_mass.2.2.1 175 = .ok (.iload 6, 2) := by decide +kernel
theorem dX13_mass_177 : decode KX13_mass.2.2.1 177 = .ok (.imul, 1) := by decide +kernel
theorem dX13_mass_178 : decode KX13_mass.2.2.1 178 = .ok (.iload 8, 2) := by decide +kernel
theorem dX13_mass_180 : decode KX13_mass.2.2.1 180 = .ok (.iadd, 1) := by decide +kernel
theorem dX13_mass_181 : decode KX13_mass.2.2.1 181 = .ok (.laload, 1) := by decide +kernel
theorem dX13_mass_182 : decode KX13_mass.2.2.1 182 = .ok (.goto 4, 3) := by decide +kernel
theorem dX13_mass_185 : decode KX13_mass.2.2.1 185 = .ok (.lconst 0, 1) := by decide +kernel
theorem dX13_mass_186 : decode KX13_mass.2.2.1 186 = .ok (.ladd, 1) := by decide +kernel
theorem dX13_mass_187 : decode KX13_mass.2.2.1 187 = .ok (.lstore 4, 2) := by decide +kernel
theorem dX13_mass_189 : decode KX13_mass.2.2.1 189 = .ok (.iinc 8 1, 3) := by decide +kernel
theorem dX13_mass_192 : decode KX13_mass.2.2.1 192 = .ok (.goto (-81), 3) := by decide +kernel
theorem dX13_mass_195 : decode KX13_mass.2.2.1 195 = .ok (.iinc 6 1, 3) := by decide +kernel
theorem dX13_mass_198 : decode KX13_mass.2.2.1 198 = .ok (.goto (-151), 3) := by decide +kernel
theorem dX13_mass_201 : decode KX13_mass.2.2.1 201 = .ok (.iconst 0, 1) := by decide +kernel
theorem dX13_mass_202 : decode KX13_mass.2.2.1 202 = .ok (.istore 6, 2) := by decide +kernel
theorem dX13_mass_204 : decode KX13_mass.2.2.1 204 = .ok (.iload 6, 2) := by decide +kernel
theorem dX13_mass_206 : decode KX13_mass.2.2.1 206 = .ok (.aload_n 0, 1) := by decide +kernel
theorem dX13_mass_207 : decode KX13_mass.2.2.1 207 = .ok (.getfield 121, 3) := by decide +kernel
theorem dX13_mass_210 : decode KX13_mass.2.2.1 210 = .ok (.if_icmp .ge 44, 3) := by decide +kernel
theorem dX13_mass_213 : decode KX13_mass.2.2.1 213 = .ok (.iload_n 3, 1) := by decide +kernel
theorem dX13_mass_214 : decode KX13_mass.2.2.1 214 = .ok (.iconst 1, 1) := by decide +kernel
theorem dX13_mass_215 : decode KX13_mass.2.2.1 215 = .ok (.if_icmp .ne 39, 3) := by decide +kernel
theorem dX13_mass_218 : decode KX13_mass.2.2.1 218 = .ok (.lload 4, 2) := by decide +kernel
theorem dX13_mass_220 : decode KX13_mass.2.2.1 220 = .ok (.aload_n 0, 1) := by decide +kernel
theorem dX13_mass_221 : decode KX13_mass.2.2.1 221 = .ok (.getfield 34, 3) := by decide +kernel
theorem dX13_mass_224 : decode KX13_mass.2.2.1 224 = .ok (.iload 6, 2) := by decide +kernel
theorem dX13_mass_226 : decode KX13_mass.2.2.1 226 = .ok (.iaload, 1) := by decide +kernel
theorem dX13_mass_227 : decode KX13_mass.2.2.1 227 = .ok (.i2l, 1) := by decide +kernel
theorem dX13_mass_228 : decode KX13_mass.2.2.1 228 = .ok (.lload_n 1, 1) := by decide +kernel
theorem dX13_mass_229 : decode KX13_mass.2.2.1 229 = .ok (.lcmp, 1) := by decide +kernel
theorem dX13_mass_230 : decode KX13_mass.2.2.1 230 = .ok (.ifCond .gt 14, 3) := by decide +kernel
theorem dX13_mass_233 : decode KX13_mass.2.2.1 233 = .ok (.aload_n 0, 1) := by decide +kernel
theorem dX13_mass_234 : decode KX13_mass.2.2.1 234 = .ok (.getfield 28, 3) := by decide +kernel
theorem dX13_mass_237 : decode KX13_mass.2.2.1 237 = .ok (.iload 6, 2) := by decide +kernel
theorem dX13_mass_239 : decode KX13_mass.2.2.1 239 = .ok (.iaload, 1) := by decide +kernel
theorem dX13_mass_240 : decode KX13_mass.2.2.1 240 = .ok (.i2l, 1) := by decide +kernel
theorem dX13_mass_241 : decode KX13_mass.2.2.1 241 = .ok (.goto 4, 3) := by decide +kernel
theorem dX13_mass_244 : decode KX13_mass.2.2.1 244 = .ok (.lconst 0, 1) := by decide +kernel
theorem dX13_mass_245 : decode KX13_mass.2.2.1 245 = .ok (.ladd, 1) := by decide +kernel
theorem dX13_mass_246 : decode KX13_mass.2.2.1 246 = .ok (.lstore 4, 2) := by decide +kernel
theorem dX13_mass_248 : decode KX13_mass.2.2.1 248 = .ok (.iinc 6 1, 3) := by decide +kernel
theorem dX13_mass_251 : decode KX13_mass.2.2.1 251 = .ok (.goto (-47), 3) := by decide +kernel
theorem dX13_mass_254 : decode KX13_mass.2.2.1 254 = .ok (.lload 4, 2) := by decide +kernel
theorem dX13_mass_256 : decode KX13_mass.2.2.1 256 = .ok (.lreturn, 1) := by decide +kernel
abbrev q_X13_mass (a1 a2 : Int) (h : MH) : MO → MH → Prop := mRL fun v h' => GI h' ∧ (-9223372036854775808) ≤ v ∧ v ≤ 9223372036854775807
set_option maxRecDepth 20000 in
theorem c_X13_mass {a1 a2 : Int} {h : MH} (g : GI h) : MCal KX13_mass yX13_mass 0 0 [(2, 2468), (1, a1), (0, a2)] h (q_X13_mass a1 a2 h) := by
  refine MCal.ofMW (Or.inl rfl) ⟨cp_X13, rfl⟩ (Nat.le_of_ble_eq_true rfl) ?_
  change MW _ _ _ _ _ [(0, (2, 2468)), (1, (1, a1)), (3, (0, a2))] _ _
  refine m_locL (i := 1) rfl (fun ua1 wa1 => ?_)
  refine m_locI (i := 3) rfl (fun ua2 wa2 => ?_)
  refine m_aload_n 1 dX13_mass_0 rfl rfl (by decide) ?_
  refine m_iconst 2 dX13_mass_1 rfl (by decide) ?_
  refine m_putfield 5 dX13_mass_2 rfl (ci := 13) rfl lu_X13 tyX13_ok nmX13 (k := 0) (by decide) (Or.inl rfl) lfX13_92 (tag := 0) rfl (fun _ => rfl) (fun _ => rfl) (by decide) (GI.lt g (by decide)) (gk2468 g) ?_
  refine m_heap (fun h1 eh1 => ?_)
  have g2 : GI h1 := eh1 ▸ GI.set g (by decide) (fun _ => by show 0 ≤ _ ∧ _ ≤ 1; omega)
  have m3 : (h1.2 2468).2.2 0 = 0 := by rw [eh1]; rfl
  clear eh1
  refine m_lload_n 6 dX13_mass_5 rfl rfl ?_
  refine m_lconst 7 dX13_mass_6 rfl ?_
  refine m_ldc2 (n := 100000) 10 dX13_mass_7 rfl lcX13_113 rfl (by decide) ?_
  refine m_invokestatic (K' := KX13_isOut) (As := [(1, a1), (1, 0), (1, 100000)]) dX13_mass_10 (fun _ => by decide) ⟨lo_X13_isOut, li_X13⟩ ⟨lmX13_105, lv_X13_isOut_s⟩ ⟨rfl, cy_X13_isOut⟩ ⟨Nat.le_of_ble_eq_true rfl, Nat.le_of_ble_eq_true rfl⟩ (Nat.le_of_ble_eq_true rfl) rfl (Nat.zero_le _) (Nat.zero_le _) (c_X13_isOut) (mkI fun v4 h5 q6 => ?_)
  obtain ⟨rfl, q6⟩ := q6
  rcases q6 with ⟨rfl, q6⟩ | ⟨rfl, q6⟩
  · skip
    refine m_if_ne 16 37 dX13_mass_13 rfl rfl (fun c7 => ?_) (fun c7 => ?_)
    · exfalso; omega
    · skip
      refine m_iload_n 17 dX13_mass_16 rfl rfl ?_
      refine m_if_lt 20 37 dX13_mass_17 rfl rfl (fun c8 => ?_) (fun c8 => ?_)
      · skip
        refine m_ldc2 (n := (-1)) 40 dX13_mass_37 rfl lcX13_210 rfl (by decide) ?_
        exact m_lreturn dX13_mass_40 rfl (mqL ⟨g2, by omega⟩)
      · skip
        refine m_iload_n 21 dX13_mass_20 rfl rfl ?_
        refine m_iconst 22 dX13_mass_21 rfl (by decide) ?_
        refine m_ic_gt 25 37 dX13_mass_22 rfl rfl (fun c9 => ?_) (fun c9 => ?_)
        · skip
          refine m_ldc2 (n := (-1)) 40 dX13_mass_37 rfl lcX13_210 rfl (by decide) ?_
          exact m_lreturn dX13_mass_40 rfl (mqL ⟨g2, by omega⟩)
        · skip
          refine m_iload_n 26 dX13_mass_25 rfl rfl ?_
          refine m_iconst 27 dX13_mass_26 rfl (by decide) ?_
          refine m_ic_le 30 41 dX13_mass_27 rfl rfl (fun c10 => ?_) (fun c10 => ?_)
          · skip
            refine m_lconst 42 dX13_mass_41 rfl ?_
            refine m_lstore 44 dX13_mass_42 rfl (by decide) ?_
            refine m_iconst 45 dX13_mass_44 rfl (by decide) ?_
            refine m_istore 47 dX13_mass_45 rfl (by decide) ?_
            have lp47 : ∀ (n : Nat) (x11 x12 : Int), True → ((-9223372036854775808) ≤ x11 ∧ x11 ≤ 9223372036854775807) → (0 ≤ x12 ∧ x12 ≤ 12) → (12 - x12).toNat = n → MW KX13_mass (q_X13_mass a1 a2 h) 0 0 47 [(0, (2, 2468)), (1, (1, a1)), (3, (0, a2)), (4, (1, x11)), (6, (0, x12))] [] h1 := by
              intro n
              induction n using Nat.strongRecOn with
              | _ n ih47 =>
              intro x11 x12 _ b13 b14 hm47
              refine m_iload 49 dX13_mass_47 rfl rfl ?_
              refine m_aload_n 50 dX13_mass_49 rfl rfl (by decide) ?_
              refine m_invokevirtual (K' := KX13_sources) (As := []) dX13_mass_50 (fun _ => by decide) ⟨lo_X13_sources, li_X13⟩ (ci := 13) (r := 2468) rfl (by decide) (GI.lt g2 (by decide)) (gk2468 g2) ⟨lmX13_152, lv_X13_sources_i, ls_X13_sources⟩ ⟨rfl, cy_X13_sources⟩ ⟨Nat.le_of_ble_eq_true rfl, Nat.le_of_ble_eq_true rfl⟩ (Nat.le_of_ble_eq_true rfl) rfl (Nat.zero_le _) (Nat.zero_le _) (c_X13_sources g2) (mkI fun v15 h16 q17 => ?_)
              obtain ⟨rfl, q17⟩ := q17
              refine m_ic_ge 56 201 dX13_mass_53 rfl rfl (fun c18 => ?_) (fun c18 => ?_)
              · skip
                refine m_iconst 202 dX13_mass_201 rfl (by decide) ?_
                refine m_istore 204 dX13_mass_202 rfl (by decide) ?_
                have lp204 : ∀ (n : Nat) (x19 x20 : Int), True → ((-9223372036854775808) ≤ x19 ∧ x19 ≤ 9223372036854775807) → (0 ≤ x20 ∧ x20 ≤ 8) → (8 - x20).toNat = n → MW KX13_mass (q_X13_mass a1 a2 h) 0 0 204 [(0, (2, 2468)), (1, (1, a1)), (3, (0, a2)), (4, (1, x19)), (6, (0, x20))] [] h1 := by
                  intro n
                  induction n using Nat.strongRecOn with
                  | _ n ih204 =>
                  intro x19 x20 _ b21 b22 hm204
                  refine m_iload 206 dX13_mass_204 rfl rfl ?_
                  refine m_aload_n 207 dX13_mass_206 rfl rfl (by decide) ?_
                  refine m_getfield 210 dX13_mass_207 rfl (ci := 13) rfl lu_X13 (k := 9) (by decide) lfX13_121 (tag := 0) rfl (by decide) (GI.lt g2 (by decide)) (gk2468 g2) (fun v23 (ev23 : v23 = (h1.2 2468).2.2 9) _ => ?_)
                  have bv23 : 0 ≤ v23 ∧ v23 ≤ 8 := by rw [ev23]; exact gf2468_9 g2
                  refine m_ic_ge 213 254 dX13_mass_210 rfl rfl (fun c24 => ?_) (fun c24 => ?_)
                  · skip
                    refine m_lload 256 dX13_mass_254 rfl rfl ?_
                    exact m_lreturn dX13_mass_256 rfl (mqL ⟨g2, by omega⟩)
                  · skip
                    refine m_iload_n 214 dX13_mass_213 rfl rfl ?_
                    refine m_iconst 215 dX13_mass_214 rfl (by decide) ?_
                    refine m_ic_ne 218 254 dX13_mass_215 rfl rfl (fun c25 => ?_) (fun c25 => ?_)
                    · skip
                      refine m_lload 256 dX13_mass_254 rfl rfl ?_
                      exact m_lreturn dX13_mass_256 rfl (mqL ⟨g2, by omega⟩)
                    · skip
                      refine m_lload 220 dX13_mass_218 rfl rfl ?_
                      refine m_aload_n 221 dX13_mass_220 rfl rfl (by decide) ?_
                      refine m_getfieldC 224 dX13_mass_221 rfl (ci := 13) rfl lu_X13 (k := 12) (by decide) lfX13_34 (tag := 2) rfl (by decide) (GI.lt g2 (by decide)) (gk2468 g2) (gf2468_12 g2) ?_
                      refine m_iload 226 dX13_mass_224 rfl rfl ?_
                      refine m_iald 227 dX13_mass_226 rfl (by decide) (GI.lt g2 (by decide)) (gk2477 g2) (by omega) (m_len (gl2477 g2) (by omega)) (fun v26 ev26 _ => ?_)
                      have bv26 : 0 ≤ v26 ∧ v26 ≤ 100000 := by rw [ev26]; exact ge2477 g2 (by omega)
                      clear ev26
                      refine m_i2l 228 dX13_mass_227 rfl ?_
                      refine m_lload_n 229 dX13_mass_228 rfl rfl ?_
                      have jn245_28 : ∀ (x28 : Int), True → (0 ≤ x28 ∧ x28 ≤ 1000000) → (0 ≤ v26 ∧ v26 ≤ 100000) → MW KX13_mass (q_X13_mass a1 a2 h) 0 0 245 [(0, (2, 2468)), (1, (1, a1)), (3, (0, a2)), (6, (0, x20))] [(1, x28), (1, x19)] h1 := by
                        intro x28 _ b29 b30
                        refine m_laddW 246 dX13_mass_245 rfl ?_
                        obtain ⟨v31, ev31⟩ : ∃ v31 : Int, v31 = (x19 + x28).bmod 18446744073709551616 := ⟨_, rfl⟩
                        rw [← ev31]
                        have bv31 : (-9223372036854775808) ≤ v31 ∧ v31 ≤ 9223372036854775807 := ev31 ▸ mL_bm _
                        clear ev31
                        refine m_lstore 248 dX13_mass_246 rfl (by decide) ?_
                        refine m_iinc 251 dX13_mass_248 rfl (by decide) rfl (by omega) ?_
                        refine m_goto 204 dX13_mass_251 rfl ?_
                        refine m_sub [(0, (2, 2468)), (1, (1, a1)), (3, (0, a2)), (4, (1, v31)), (6, (0, (x20 + 1)))] (List.forall_mem_cons.mpr ⟨rfl, List.forall_mem_cons.mpr ⟨rfl, List.forall_mem_cons.mpr ⟨rfl, List.forall_mem_cons.mpr ⟨rfl, List.forall_mem_cons.mpr ⟨rfl, fun _ h => absurd h List.not_mem_nil⟩⟩⟩⟩⟩) ?_
                        exact ih204 _ (by omega) (v31) ((x20 + 1)) trivial (by omega) (by omega) rfl
                      refine m_lc_gt 233 244 dX13_mass_229 dX13_mass_230 rfl rfl (fun c27 => ?_) (fun c27 => ?_)
                      · skip
                        refine m_lconst 245 dX13_mass_244 rfl ?_
                        refine m_sub [(0, (2, 2468)), (1, (1, a1)), (3, (0, a2)), (6, (0, x20))] (List.forall_mem_cons.mpr ⟨rfl, List.forall_mem_cons.mpr ⟨rfl, List.forall_mem_cons.mpr ⟨rfl, List.forall_mem_cons.mpr ⟨rfl, fun _ h => absurd h List.not_mem_nil⟩⟩⟩⟩) ?_
                        exact jn245_28 (0) trivial (by omega) (by omega)
                      · skip
                        refine m_aload_n 234 dX13_mass_233 rfl rfl (by decide) ?_
                        refine m_getfieldC 237 dX13_mass_234 rfl (ci := 13) rfl lu_X13 (k := 10) (by decide) lfX13_28 (tag := 2) rfl (by decide) (GI.lt g2 (by decide)) (gk2468 g2) (gf2468_10 g2) ?_
                        refine m_iload 239 dX13_mass_237 rfl rfl ?_
                        refine m_iald 240 dX13_mass_239 rfl (by decide) (GI.lt g2 (by decide)) (gk2475 g2) (by omega) (m_len (gl2475 g2) (by omega)) (fun v32 ev32 _ => ?_)
                        have bv32 : 0 ≤ v32 ∧ v32 ≤ 1000000 := by rw [ev32]; exact ge2475 g2 (by omega)
                        clear ev32
                        refine m_i2l 241 dX13_mass_240 rfl ?_
                        refine m_goto 245 dX13_mass_241 rfl ?_
                        refine m_sub [(0, (2, 2468)), (1, (1, a1)), (3, (0, a2)), (6, (0, x20))] (List.forall_mem_cons.mpr ⟨rfl, List.forall_mem_cons.mpr ⟨rfl, List.forall_mem_cons.mpr ⟨rfl, List.forall_mem_cons.mpr ⟨rfl, fun _ h => absurd h List.not_mem_nil⟩⟩⟩⟩) ?_
                        exact jn245_28 (v32) trivial (by omega) (by omega)
                refine m_sub [(0, (2, 2468)), (1, (1, a1)), (3, (0, a2)), (4, (1, x11)), (6, (0, 0))] (List.forall_mem_cons.mpr ⟨rfl, List.forall_mem_cons.mpr ⟨rfl, List.forall_mem_cons.mpr ⟨rfl, List.forall_mem_cons.mpr ⟨rfl, List.forall_mem_cons.mpr ⟨rfl, fun _ h => absurd h List.not_mem_nil⟩⟩⟩⟩⟩) ?_
                exact lp204 _ (x11) (0) trivial (by omega) (by omega) rfl
              · skip
                refine m_aload_n 57 dX13_mass_56 rfl rfl (by decide) ?_
                refine m_iload 59 dX13_mass_57 rfl rfl ?_
                refine m_invokevirtual (K' := KX13_metreOf) (As := [(0, x12)]) dX13_mass_59 (fun _ => by decide) ⟨lo_X13_metreOf, li_X13⟩ (ci := 13) (r := 2468) rfl (by decide) (GI.lt g2 (by decide)) (gk2468 g2) ⟨lmX13_141, lv_X13_metreOf_i, ls_X13_metreOf⟩ ⟨rfl, cy_X13_metreOf⟩ ⟨Nat.le_of_ble_eq_true rfl, Nat.le_of_ble_eq_true rfl⟩ (Nat.le_of_ble_eq_true rfl) rfl (Nat.zero_le _) (Nat.zero_le _) (c_X13_metreOf g2 (by omega) (by omega)) (mkI fun v33 h34 q35 => ?_)
                obtain ⟨rfl, q35⟩ := q35
                refine m_i2l 63 dX13_mass_62 rfl ?_
                refine m_lload_n 64 dX13_mass_63 rfl rfl ?_
                have jn73_37 : ∀ (x37 : Int), True → (0 ≤ x37 ∧ x37 ≤ 1) → (0 ≤ v33 ∧ v33 ≤ 100000) → MW KX13_mass (q_X13_mass a1 a2 h) 0 0 73 [(0, (2, 2468)), (1, (1, a1)), (3, (0, a2)), (4, (1, x11)), (6, (0, x12))] [(0, x37)] h1 := by
                  intro x37 _ b38 b39
                  refine m_istore 75 dX13_mass_73 rfl (by decide) ?_
                  refine m_lload 77 dX13_mass_75 rfl rfl ?_
                  refine m_iload_n 78 dX13_mass_77 rfl rfl ?_
                  have jn105_41 : ∀ (x41 : Int), True → (0 ≤ x41 ∧ x41 ≤ 1000000000) → MW KX13_mass (q_X13_mass a1 a2 h) 0 0 105 [(0, (2, 2468)), (1, (1, a1)), (3, (0, a2)), (6, (0, x12)), (7, (0, x37))] [(1, x41), (1, x11)] h1 := by
                    intro x41 _ b42
                    refine m_laddW 106 dX13_mass_105 rfl ?_
                    obtain ⟨v43, ev43⟩ : ∃ v43 : Int, v43 = (x11 + x41).bmod 18446744073709551616 := ⟨_, rfl⟩
                    rw [← ev43]
                    have bv43 : (-9223372036854775808) ≤ v43 ∧ v43 ≤ 9223372036854775807 := ev43 ▸ mL_bm _
                    clear ev43
                    refine m_lstore 108 dX13_mass_106 rfl (by decide) ?_
                    refine m_iconst 109 dX13_mass_108 rfl (by decide) ?_
                    refine m_istore 111 dX13_mass_109 rfl (by decide) ?_
                    have lp111 : ∀ (n : Nat) (x44 x45 : Int), True → ((-9223372036854775808) ≤ x44 ∧ x44 ≤ 9223372036854775807) → (0 ≤ x45 ∧ x45 ≤ 0) → (9223372036854775807 - x44).toNat = n → MW KX13_mass (q_X13_mass a1 a2 h) 0 0 111 [(0, (2, 2468)), (1, (1, a1)), (3, (0, a2)), (4, (1, x44)), (6, (0, x12)), (7, (0, x37)), (8, (0, x45))] [] h1 := by
                      intro n
                      induction n using Nat.strongRecOn with
                      | _ n ih111 =>
                      intro x44 x45 _ b46 b47 hm111
                      refine m_iload 113 dX13_mass_111 rfl rfl ?_
                      refine m_aload_n 114 dX13_mass_113 rfl rfl (by decide) ?_
                      refine m_getfield 117 dX13_mass_114 rfl (ci := 13) rfl lu_X13 (k := 9) (by decide) lfX13_121 (tag := 0) rfl (by decide) (GI.lt g2 (by decide)) (gk2468 g2) (fun v48 (ev48 : v48 = (h1.2 2468).2.2 9) _ => ?_)
                      have bv48 : 0 ≤ v48 ∧ v48 ≤ 8 := by rw [ev48]; exact gf2468_9 g2
                      have jn195_49 : True → (0 ≤ v48 ∧ v48 ≤ 8) → MW KX13_mass (q_X13_mass a1 a2 h) 0 0 195 [(0, (2, 2468)), (1, (1, a1)), (3, (0, a2)), (4, (1, x44)), (6, (0, x12))] [] h1 := by
                        intro _ b50
                        refine m_iinc 198 dX13_mass_195 rfl (by decide) rfl (by omega) ?_
                        refine m_goto 47 dX13_mass_198 rfl ?_
                        refine m_sub [(0, (2, 2468)), (1, (1, a1)), (3, (0, a2)), (4, (1, x44)), (6, (0, (x12 + 1)))] (List.forall_mem_cons.mpr ⟨rfl, List.forall_mem_cons.mpr ⟨rfl, List.forall_mem_cons.mpr ⟨rfl, List.forall_mem_cons.mpr ⟨rfl, List.forall_mem_cons.mpr ⟨rfl, fun _ h => absurd h List.not_mem_nil⟩⟩⟩⟩⟩) ?_
                        exact ih47 _ (by omega) (x44) ((x12 + 1)) trivial (by omega) (by omega) rfl
                      refine m_ic_ge 120 195 dX13_mass_117 rfl rfl (fun c49 => ?_) (fun c49 => ?_)
                      · skip
                        refine m_sub [(0, (2, 2468)), (1, (1, a1)), (3, (0, a2)), (4, (1, x44)), (6, (0, x12))] (List.forall_mem_cons.mpr ⟨rfl, List.forall_mem_cons.mpr ⟨rfl, List.forall_mem_cons.mpr ⟨rfl, List.forall_mem_cons.mpr ⟨rfl, List.forall_mem_cons.mpr ⟨rfl, fun _ h => absurd h List.not_mem_nil⟩⟩⟩⟩⟩) ?_
                        exact jn195_49  trivial (by omega)
                      · skip
                        refine m_iload_n 121 dX13_mass_120 rfl rfl ?_
                        refine m_iconst 122 dX13_mass_121 rfl (by decide) ?_
                        refine m_ic_le 125 195 dX13_mass_122 rfl rfl (fun c51 => ?_) (fun c51 => ?_)
                        · skip
                          refine m_sub [(0, (2, 2468)), (1, (1, a1)), (3, (0, a2)), (4, (1, x44)), (6, (0, x12))] (List.forall_mem_cons.mpr ⟨rfl, List.forall_mem_cons.mpr ⟨rfl, List.forall_mem_cons.mpr ⟨rfl, List.forall_mem_cons.mpr ⟨rfl, List.forall_mem_cons.mpr ⟨rfl, fun _ h => absurd h List.not_mem_nil⟩⟩⟩⟩⟩) ?_
                          exact jn195_49  trivial (by omega)
                        · exfalso; omega
                    refine m_sub [(0, (2, 2468)), (1, (1, a1)), (3, (0, a2)), (4, (1, v43)), (6, (0, x12)), (7, (0, x37)), (8, (0, 0))] (List.forall_mem_cons.mpr ⟨rfl, List.forall_mem_cons.mpr ⟨rfl, List.forall_mem_cons.mpr ⟨rfl, List.forall_mem_cons.mpr ⟨rfl, List.forall_mem_cons.mpr ⟨rfl, List.forall_mem_cons.mpr ⟨rfl, List.forall_mem_cons.mpr ⟨rfl, fun _ h => absurd h List.not_mem_nil⟩⟩⟩⟩⟩⟩⟩) ?_
                    exact lp111 _ (v43) (0) trivial (by omega) (by omega) rfl
                  refine m_if_ne 81 104 dX13_mass_78 rfl rfl (fun c40 => ?_) (fun c40 => ?_)
                  · skip
                    refine m_lconst 105 dX13_mass_104 rfl ?_
                    refine m_sub [(0, (2, 2468)), (1, (1, a1)), (3, (0, a2)), (6, (0, x12)), (7, (0, x37))] (List.forall_mem_cons.mpr ⟨rfl, List.forall_mem_cons.mpr ⟨rfl, List.forall_mem_cons.mpr ⟨rfl, List.forall_mem_cons.mpr ⟨rfl, List.forall_mem_cons.mpr ⟨rfl, fun _ h => absurd h List.not_mem_nil⟩⟩⟩⟩⟩) ?_
                    exact jn105_41 (0) trivial (by omega)
                  · skip
                    refine m_iload 83 dX13_mass_81 rfl rfl ?_
                    refine m_aload_n 84 dX13_mass_83 rfl rfl (by decide) ?_
                    refine m_getfield 87 dX13_mass_84 rfl (ci := 13) rfl lu_X13 (k := 1) (by decide) lfX13_115 (tag := 0) rfl (by decide) (GI.lt g2 (by decide)) (gk2468 g2) (fun v52 (ev52 : v52 = (h1.2 2468).2.2 1) _ => ?_)
                    have bv52 : 0 ≤ v52 ∧ v52 ≤ 8 := by rw [ev52]; exact gf2468_1 g2
                    refine m_ic_ge 90 104 dX13_mass_87 rfl rfl (fun c53 => ?_) (fun c53 => ?_)
                    · skip
                      refine m_lconst 105 dX13_mass_104 rfl ?_
                      refine m_sub [(0, (2, 2468)), (1, (1, a1)), (3, (0, a2)), (6, (0, x12)), (7, (0, x37))] (List.forall_mem_cons.mpr ⟨rfl, List.forall_mem_cons.mpr ⟨rfl, List.forall_mem_cons.mpr ⟨rfl, List.forall_mem_cons.mpr ⟨rfl, List.forall_mem_cons.mpr ⟨rfl, fun _ h => absurd h List.not_mem_nil⟩⟩⟩⟩⟩) ?_
                      exact jn105_41 (0) trivial (by omega)
                    · skip
                      refine m_iload 92 dX13_mass_90 rfl rfl ?_
                      refine m_if_eq 95 104 dX13_mass_92 rfl rfl (fun c54 => ?_) (fun c54 => ?_)
                      · skip
                        refine m_lconst 105 dX13_mass_104 rfl ?_
                        refine m_sub [(0, (2, 2468)), (1, (1, a1)), (3, (0, a2)), (6, (0, x12)), (7, (0, x37))] (List.forall_mem_cons.mpr ⟨rfl, List.forall_mem_cons.mpr ⟨rfl, List.forall_mem_cons.mpr ⟨rfl, List.forall_mem_cons.mpr ⟨rfl, List.forall_mem_cons.mpr ⟨rfl, fun _ h => absurd h List.not_mem_nil⟩⟩⟩⟩⟩) ?_
                        exact jn105_41 (0) trivial (by omega)
                      · skip
                        refine m_aload_n 96 dX13_mass_95 rfl rfl (by decide) ?_
                        refine m_iload 98 dX13_mass_96 rfl rfl ?_
                        refine m_invokevirtual (K' := KX13_gives) (As := [(0, x12)]) dX13_mass_98 (fun _ => by decide) ⟨lo_X13_gives, li_X13⟩ (ci := 13) (r := 2468) rfl (by decide) (GI.lt g2 (by decide)) (gk2468 g2) ⟨lmX13_156, lv_X13_gives_i, ls_X13_gives⟩ ⟨rfl, cy_X13_gives⟩ ⟨Nat.le_of_ble_eq_true rfl, Nat.le_of_ble_eq_true rfl⟩ (Nat.le_of_ble_eq_true rfl) rfl (Nat.zero_le _) (Nat.zero_le _) (c_X13_gives g2 (by omega)) (mkL fun v55 h56 q57 => ?_)
                        obtain ⟨rfl, q57⟩ := q57
                        refine m_goto 105 dX13_mass_101 rfl ?_
                        refine m_sub [(0, (2, 2468)), (1, (1, a1)), (3, (0, a2)), (6, (0, x12)), (7, (0, x37))] (List.forall_mem_cons.mpr ⟨rfl, List.forall_mem_cons.mpr ⟨rfl, List.forall_mem_cons.mpr ⟨rfl, List.forall_mem_cons.mpr ⟨rfl, List.forall_mem_cons.mpr ⟨rfl, fun _ h => absurd h List.not_mem_nil⟩⟩⟩⟩⟩) ?_
                        exact jn105_41 (v55) trivial (by omega)
                refine m_lc_gt 68 72 dX13_mass_64 dX13_mass_65 rfl rfl (fun c36 => ?_) (fun c36 => ?_)
                · skip
                  refine m_iconst 73 dX13_mass_72 rfl (by decide) ?_
                  refine m_sub [(0, (2, 2468)), (1, (1, a1)), (3, (0, a2)), (4, (1, x11)), (6, (0, x12))] (List.forall_mem_cons.mpr ⟨rfl, List.forall_mem_cons.mpr ⟨rfl, List.forall_mem_cons.mpr ⟨rfl, List.forall_mem_cons.mpr ⟨rfl, List.forall_mem_cons.mpr ⟨rfl, fun _ h => absurd h List.not_mem_nil⟩⟩⟩⟩⟩) ?_
                  exact jn73_37 (0) trivial (by omega) (by omega)
                · skip
                  refine m_iconst 69 dX13_mass_68 rfl (by decide) ?_
                  refine m_goto 73 dX13_mass_69 rfl ?_
                  refine m_sub [(0, (2, 2468)), (1, (1, a1)), (3, (0, a2)), (4, (1, x11)), (6, (0, x12))] (List.forall_mem_cons.mpr ⟨rfl, List.forall_mem_cons.mpr ⟨rfl, List.forall_mem_cons.mpr ⟨rfl, List.forall_mem_cons.mpr ⟨rfl, List.forall_mem_cons.mpr ⟨rfl, fun _ h => absurd h List.not_mem_nil⟩⟩⟩⟩⟩) ?_
                  exact jn73_37 (1) trivial (by omega) (by omega)
            refine m_sub [(0, (2, 2468)), (1, (1, a1)), (3, (0, a2)), (4, (1, 0)), (6, (0, 0))] (List.forall_mem_cons.mpr ⟨rfl, List.forall_mem_cons.mpr ⟨rfl, List.forall_mem_cons.mpr ⟨rfl, List.forall_mem_cons.mpr ⟨rfl, List.forall_mem_cons.mpr ⟨rfl, fun _ h => absurd h List.not_mem_nil⟩⟩⟩⟩⟩) ?_
            exact lp47 _ (0) (0) trivial (by omega) (by omega) rfl
          · skip
            refine m_aload_n 31 dX13_mass_30 rfl rfl (by decide) ?_
            refine m_getfield 34 dX13_mass_31 rfl (ci := 13) rfl lu_X13 (k := 33) (by decide) lfX13_96 (tag := 0) rfl (by decide) (GI.lt g2 (by decide)) (gk2468 g2) (fun v58 (ev58 : v58 = (h1.2 2468).2.2 33) _ => ?_)
            have bv58 : 0 ≤ v58 ∧ v58 ≤ 1 := by rw [ev58]; exact gf2468_33 g2
            refine m_if_ne 37 41 dX13_mass_34 rfl rfl (fun c59 => ?_) (fun c59 => ?_)
            · skip
              refine m_lconst 42 dX13_mass_41 rfl ?_
              refine m_lstore 44 dX13_mass_42 rfl (by decide) ?_
              refine m_iconst 45 dX13_mass_44 rfl (by decide) ?_
              refine m_istore 47 dX13_mass_45 rfl (by decide) ?_
              have lp47 : ∀ (n : Nat) (x60 x61 : Int), True → ((-9223372036854775808) ≤ x60 ∧ x60 ≤ 9223372036854775807) → (0 ≤ x61 ∧ x61 ≤ 12) → (12 - x61).toNat = n → MW KX13_mass (q_X13_mass a1 a2 h) 0 0 47 [(0, (2, 2468)), (1, (1, a1)), (3, (0, a2)), (4, (1, x60)), (6, (0, x61))] [] h1 := by
                intro n
                induction n using Nat.strongRecOn with
                | _ n ih47 =>
                intro x60 x61 _ b62 b63 hm47
                refine m_iload 49 dX13_mass_47 rfl rfl ?_
                refine m_aload_n 50 dX13_mass_49 rfl rfl (by decide) ?_
                refine m_invokevirtual (K' := KX13_sources) (As := []) dX13_mass_50 (fun _ => by decide) ⟨lo_X13_sources, li_X13⟩ (ci := 13) (r := 2468) rfl (by decide) (GI.lt g2 (by decide)) (gk2468 g2) ⟨lmX13_152, lv_X13_sources_i, ls_X13_sources⟩ ⟨rfl, cy_X13_sources⟩ ⟨Nat.le_of_ble_eq_true rfl, Nat.le_of_ble_eq_true rfl⟩ (Nat.le_of_ble_eq_true rfl) rfl (Nat.zero_le _) (Nat.zero_le _) (c_X13_sources g2) (mkI fun v64 h65 q66 => ?_)
                obtain ⟨rfl, q66⟩ := q66
                refine m_ic_ge 56 201 dX13_mass_53 rfl rfl (fun c67 => ?_) (fun c67 => ?_)
                · skip
                  refine m_iconst 202 dX13_mass_201 rfl (by decide) ?_
                  refine m_istore 204 dX13_mass_202 rfl (by decide) ?_
                  have lp204 : ∀ (n : Nat) (x68 x69 : Int), True → ((-9223372036854775808) ≤ x68 ∧ x68 ≤ 9223372036854775807) → (0 ≤ x69 ∧ x69 ≤ 0) → (9223372036854775807 - x68).toNat = n → MW KX13_mass (q_X13_mass a1 a2 h) 0 0 204 [(0, (2, 2468)), (1, (1, a1)), (3, (0, a2)), (4, (1, x68)), (6, (0, x69))] [] h1 := by
                    intro n
                    induction n using Nat.strongRecOn with
                    | _ n ih204 =>
                    intro x68 x69 _ b70 b71 hm204
                    refine m_iload 206 dX13_mass_204 rfl rfl ?_
                    refine m_aload_n 207 dX13_mass_206 rfl rfl (by decide) ?_
                    refine m_getfield 210 dX13_mass_207 rfl (ci := 13) rfl lu_X13 (k := 9) (by decide) lfX13_121 (tag := 0) rfl (by decide) (GI.lt g2 (by decide)) (gk2468 g2) (fun v72 (ev72 : v72 = (h1.2 2468).2.2 9) _ => ?_)
                    have bv72 : 0 ≤ v72 ∧ v72 ≤ 8 := by rw [ev72]; exact gf2468_9 g2
                    refine m_ic_ge 213 254 dX13_mass_210 rfl rfl (fun c73 => ?_) (fun c73 => ?_)
                    · skip
                      refine m_lload 256 dX13_mass_254 rfl rfl ?_
                      exact m_lreturn dX13_mass_256 rfl (mqL ⟨g2, by omega⟩)
                    · skip
                      refine m_iload_n 214 dX13_mass_213 rfl rfl ?_
                      refine m_iconst 215 dX13_mass_214 rfl (by decide) ?_
                      refine m_ic_ne 218 254 dX13_mass_215 rfl rfl (fun c74 => ?_) (fun c74 => ?_)
                      · skip
                        refine m_lload 256 dX13_mass_254 rfl rfl ?_
                        exact m_lreturn dX13_mass_256 rfl (mqL ⟨g2, by omega⟩)
                      · exfalso; omega
                  refine m_sub [(0, (2, 2468)), (1, (1, a1)), (3, (0, a2)), (4, (1, x60)), (6, (0, 0))] (List.forall_mem_cons.mpr ⟨rfl, List.forall_mem_cons.mpr ⟨rfl, List.forall_mem_cons.mpr ⟨rfl, List.forall_mem_cons.mpr ⟨rfl, List.forall_mem_cons.mpr ⟨rfl, fun _ h => absurd h List.not_mem_nil⟩⟩⟩⟩⟩) ?_
                  exact lp204 _ (x60) (0) trivial (by omega) (by omega) rfl
                · skip
                  refine m_aload_n 57 dX13_mass_56 rfl rfl (by decide) ?_
                  refine m_iload 59 dX13_mass_57 rfl rfl ?_
                  refine m_invokevirtual (K' := KX13_metreOf) (As := [(0, x61)]) dX13_mass_59 (fun _ => by decide) ⟨lo_X13_metreOf, li_X13⟩ (ci := 13) (r := 2468) rfl (by decide) (GI.lt g2 (by decide)) (gk2468 g2) ⟨lmX13_141, lv_X13_metreOf_i, ls_X13_metreOf⟩ ⟨rfl, cy_X13_metreOf⟩ ⟨Nat.le_of_ble_eq_true rfl, Nat.le_of_ble_eq_true rfl⟩ (Nat.le_of_ble_eq_true rfl) rfl (Nat.zero_le _) (Nat.zero_le _) (c_X13_metreOf g2 (by omega) (by omega)) (mkI fun v75 h76 q77 => ?_)
                  obtain ⟨rfl, q77⟩ := q77
                  refine m_i2l 63 dX13_mass_62 rfl ?_
                  refine m_lload_n 64 dX13_mass_63 rfl rfl ?_
                  have jn73_79 : ∀ (x79 : Int), True → (0 ≤ x79 ∧ x79 ≤ 1) → (0 ≤ v75 ∧ v75 ≤ 100000) → MW KX13_mass (q_X13_mass a1 a2 h) 0 0 73 [(0, (2, 2468)), (1, (1, a1)), (3, (0, a2)), (4, (1, x60)), (6, (0, x61))] [(0, x79)] h1 := by
                    intro x79 _ b80 b81
                    refine m_istore 75 dX13_mass_73 rfl (by decide) ?_
                    refine m_lload 77 dX13_mass_75 rfl rfl ?_
                    refine m_iload_n 78 dX13_mass_77 rfl rfl ?_
                    refine m_if_ne 81 104 dX13_mass_78 rfl rfl (fun c82 => ?_) (fun c82 => ?_)
                    · skip
                      refine m_lconst 105 dX13_mass_104 rfl ?_
                      refine m_ladd 106 dX13_mass_105 rfl (by omega) ?_
                      refine m_lstore 108 dX13_mass_106 rfl (by decide) ?_
                      refine m_iconst 109 dX13_mass_108 rfl (by decide) ?_
                      refine m_istore 111 dX13_mass_109 rfl (by decide) ?_
                      have lp111 : ∀ (n : Nat) (x83 x84 : Int), True → ((-9223372036854775808) ≤ x83 ∧ x83 ≤ 9223372036854775807) → (0 ≤ x84 ∧ x84 ≤ 8) → (8 - x84).toNat = n → MW KX13_mass (q_X13_mass a1 a2 h) 0 0 111 [(0, (2, 2468)), (1, (1, a1)), (3, (0, a2)), (4, (1, x83)), (6, (0, x61)), (7, (0, x79)), (8, (0, x84))] [] h1 := by
                        intro n
                        induction n using Nat.strongRecOn with
                        | _ n ih111 =>
                        intro x83 x84 _ b85 b86 hm111
                        refine m_iload 113 dX13_mass_111 rfl rfl ?_
                        refine m_aload_n 114 dX13_mass_113 rfl rfl (by decide) ?_
                        refine m_getfield 117 dX13_mass_114 rfl (ci := 13) rfl lu_X13 (k := 9) (by decide) lfX13_121 (tag := 0) rfl (by decide) (GI.lt g2 (by decide)) (gk2468 g2) (fun v87 (ev87 : v87 = (h1.2 2468).2.2 9) _ => ?_)
                        have bv87 : 0 ≤ v87 ∧ v87 ≤ 8 := by rw [ev87]; exact gf2468_9 g2
                        refine m_ic_ge 120 195 dX13_mass_117 rfl rfl (fun c88 => ?_) (fun c88 => ?_)
                        · skip
                          refine m_iinc 198 dX13_mass_195 rfl (by decide) rfl (by omega) ?_
                          refine m_goto 47 dX13_mass_198 rfl ?_
                          refine m_sub [(0, (2, 2468)), (1, (1, a1)), (3, (0, a2)), (4, (1, x83)), (6, (0, (x61 + 1)))] (List.forall_mem_cons.mpr ⟨rfl, List.forall_mem_cons.mpr ⟨rfl, List.forall_mem_cons.mpr ⟨rfl, List.forall_mem_cons.mpr ⟨rfl, List.forall_mem_cons.mpr ⟨rfl, fun _ h => absurd h List.not_mem_nil⟩⟩⟩⟩⟩) ?_
                          exact ih47 _ (by omega) (x83) ((x61 + 1)) trivial (by omega) (by omega) rfl
                        · skip
                          refine m_iload_n 121 dX13_mass_120 rfl rfl ?_
                          refine m_iconst 122 dX13_mass_121 rfl (by decide) ?_
                          refine m_ic_le 125 195 dX13_mass_122 rfl rfl (fun c89 => ?_) (fun c89 => ?_)
                          · exfalso; omega
                          · skip
                            refine m_aload_n 126 dX13_mass_125 rfl rfl (by decide) ?_
                            refine m_getfieldC 129 dX13_mass_126 rfl (ci := 13) rfl lu_X13 (k := 12) (by decide) lfX13_34 (tag := 2) rfl (by decide) (GI.lt g2 (by decide)) (gk2468 g2) (gf2468_12 g2) ?_
                            refine m_iload 131 dX13_mass_129 rfl rfl ?_
                            refine m_iald 132 dX13_mass_131 rfl (by decide) (GI.lt g2 (by decide)) (gk2477 g2) (by omega) (m_len (gl2477 g2) (by omega)) (fun v90 ev90 _ => ?_)
                            have bv90 : 0 ≤ v90 ∧ v90 ≤ 100000 := by rw [ev90]; exact ge2477 g2 (by omega)
                            clear ev90
                            refine m_i2l 133 dX13_mass_132 rfl ?_
                            refine m_lload_n 134 dX13_mass_133 rfl rfl ?_
                            have jn143_92 : ∀ (x92 : Int), True → (0 ≤ x92 ∧ x92 ≤ 1) → (0 ≤ v90 ∧ v90 ≤ 100000) → MW KX13_mass (q_X13_mass a1 a2 h) 0 0 143 [(0, (2, 2468)), (1, (1, a1)), (3, (0, a2)), (4, (1, x83)), (6, (0, x61)), (7, (0, x79)), (8, (0, x84))] [(0, x92)] h1 := by
                              intro x92 _ b93 b94
                              refine m_istore 145 dX13_mass_143 rfl (by decide) ?_
                              refine m_lload 147 dX13_mass_145 rfl rfl ?_
                              refine m_iload 149 dX13_mass_147 rfl rfl ?_
                              refine m_iload 151 dX13_mass_149 rfl rfl ?_
                              have jn186_96 : ∀ (x96 : Int), True → ((-9223372036854775808) ≤ x96 ∧ x96 ≤ 9223372036854775807) → MW KX13_mass (q_X13_mass a1 a2 h) 0 0 186 [(0, (2, 2468)), (1, (1, a1)), (3, (0, a2)), (6, (0, x61)), (7, (0, x79)), (8, (0, x84))] [(1, x96), (1, x83)] h1 := by
                                intro x96 _ b97
                                refine m_laddW 187 dX13_mass_186 rfl ?_
                                obtain ⟨v98, ev98⟩ : ∃ v98 : Int, v98 = (x83 + x96).bmod 18446744073709551616 := ⟨_, rfl⟩
                                rw [← ev98]
                                have bv98 : (-9223372036854775808) ≤ v98 ∧ v98 ≤ 9223372036854775807 := ev98 ▸ mL_bm _
                                clear ev98
                                refine m_lstore 189 dX13_mass_187 rfl (by decide) ?_
                                refine m_iinc 192 dX13_mass_189 rfl (by decide) rfl (by omega) ?_
                                refine m_goto 111 dX13_mass_192 rfl ?_
                                refine m_sub [(0, (2, 2468)), (1, (1, a1)), (3, (0, a2)), (4, (1, v98)), (6, (0, x61)), (7, (0, x79)), (8, (0, (x84 + 1)))] (List.forall_mem_cons.mpr ⟨rfl, List.forall_mem_cons.mpr ⟨rfl, List.forall_mem_cons.mpr ⟨rfl, List.forall_mem_cons.mpr ⟨rfl, List.forall_mem_cons.mpr ⟨rfl, List.forall_mem_cons.mpr ⟨rfl, List.forall_mem_cons.mpr ⟨rfl, fun _ h => absurd h List.not_mem_nil⟩⟩⟩⟩⟩⟩⟩) ?_
                                exact ih111 _ (by omega) (v98) ((x84 + 1)) trivial (by omega) (by omega) rfl
                              refine m_ic_eq 154 185 dX13_mass_151 rfl rfl (fun c95 => ?_) (fun c95 => ?_)
                              · skip
                                refine m_lconst 186 dX13_mass_185 rfl ?_
                                refine m_sub [(0, (2, 2468)), (1, (1, a1)), (3, (0, a2)), (6, (0, x61)), (7, (0, x79)), (8, (0, x84))] (List.forall_mem_cons.mpr ⟨rfl, List.forall_mem_cons.mpr ⟨rfl, List.forall_mem_cons.mpr ⟨rfl, List.forall_mem_cons.mpr ⟨rfl, List.forall_mem_cons.mpr ⟨rfl, List.forall_mem_cons.mpr ⟨rfl, fun _ h => absurd h List.not_mem_nil⟩⟩⟩⟩⟩⟩) ?_
                                exact jn186_96 (0) trivial (by omega)
                              · skip
                                refine m_iload 156 dX13_mass_154 rfl rfl ?_
                                refine m_iload_n 157 dX13_mass_156 rfl rfl ?_
                                refine m_iconst 158 dX13_mass_157 rfl (by decide) ?_
                                have jn166_100 : ∀ (x100 : Int), True → (0 ≤ x100 ∧ x100 ≤ 1) → MW KX13_mass (q_X13_mass a1 a2 h) 0 0 166 [(0, (2, 2468)), (1, (1, a1)), (3, (0, a2)), (6, (0, x61)), (7, (0, x79)), (8, (0, x84))] [(0, x100), (0, x79), (1, x83)] h1 := by
                                  intro x100 _ b101
                                  refine m_ic_ne 169 185 dX13_mass_166 rfl rfl (fun c102 => ?_) (fun c102 => ?_)
                                  · skip
                                    refine m_lconst 186 dX13_mass_185 rfl ?_
                                    refine m_sub [(0, (2, 2468)), (1, (1, a1)), (3, (0, a2)), (6, (0, x61)), (7, (0, x79)), (8, (0, x84))] (List.forall_mem_cons.mpr ⟨rfl, List.forall_mem_cons.mpr ⟨rfl, List.forall_mem_cons.mpr ⟨rfl, List.forall_mem_cons.mpr ⟨rfl, List.forall_mem_cons.mpr ⟨rfl, List.forall_mem_cons.mpr ⟨rfl, fun _ h => absurd h List.not_mem_nil⟩⟩⟩⟩⟩⟩) ?_
                                    exact jn186_96 (0) trivial (by omega)
                                  · skip
                                    refine m_aload_n 170 dX13_mass_169 rfl rfl (by decide) ?_
                                    refine m_getfieldC 173 dX13_mass_170 rfl (ci := 13) rfl lu_X13 (k := 37) (by decide) lfX13_87 (tag := 2) rfl (by decide) (GI.lt g2 (by decide)) (gk2468 g2) (gf2468_37 g2) ?_
                                    refine m_bipush 175 dX13_mass_173 rfl (by decide) ?_
                                    refine m_iload 177 dX13_mass_175 rfl rfl ?_
                                    refine m_imul 178 dX13_mass_177 rfl (by omega) ?_
                                    refine m_iload 180 dX13_mass_178 rfl rfl ?_
                                    refine m_iadd 181 dX13_mass_180 rfl (by omega) ?_
                                    refine m_lald 182 dX13_mass_181 rfl (by decide) (GI.lt g2 (by decide)) (gk2494 g2) (by omega) (m_len (gl2494 g2) (by omega)) (fun v103 ev103 _ => ?_)
                                    have bv103 : (-9223372036854775808) ≤ v103 ∧ v103 ≤ 9223372036854775807 := by rw [ev103]; exact ge2494 g2 (by omega)
                                    clear ev103
                                    refine m_goto 186 dX13_mass_182 rfl ?_
                                    refine m_sub [(0, (2, 2468)), (1, (1, a1)), (3, (0, a2)), (6, (0, x61)), (7, (0, x79)), (8, (0, x84))] (List.forall_mem_cons.mpr ⟨rfl, List.forall_mem_cons.mpr ⟨rfl, List.forall_mem_cons.mpr ⟨rfl, List.forall_mem_cons.mpr ⟨rfl, List.forall_mem_cons.mpr ⟨rfl, List.forall_mem_cons.mpr ⟨rfl, fun _ h => absurd h List.not_mem_nil⟩⟩⟩⟩⟩⟩) ?_
                                    exact jn186_96 (v103) trivial (by omega)
                                refine m_ic_ne 161 165 dX13_mass_158 rfl rfl (fun c99 => ?_) (fun c99 => ?_)
                                · skip
                                  refine m_iconst 166 dX13_mass_165 rfl (by decide) ?_
                                  refine m_sub [(0, (2, 2468)), (1, (1, a1)), (3, (0, a2)), (6, (0, x61)), (7, (0, x79)), (8, (0, x84))] (List.forall_mem_cons.mpr ⟨rfl, List.forall_mem_cons.mpr ⟨rfl, List.forall_mem_cons.mpr ⟨rfl, List.forall_mem_cons.mpr ⟨rfl, List.forall_mem_cons.mpr ⟨rfl, List.forall_mem_cons.mpr ⟨rfl, fun _ h => absurd h List.not_mem_nil⟩⟩⟩⟩⟩⟩) ?_
                                  exact jn166_100 (0) trivial (by omega)
                                · skip
                                  refine m_iconst 162 dX13_mass_161 rfl (by decide) ?_
                                  refine m_goto 166 dX13_mass_162 rfl ?_
                                  refine m_sub [(0, (2, 2468)), (1, (1, a1)), (3, (0, a2)), (6, (0, x61)), (7, (0, x79)), (8, (0, x84))] (List.forall_mem_cons.mpr ⟨rfl, List.forall_mem_cons.mpr ⟨rfl, List.forall_mem_cons.mpr ⟨rfl, List.forall_mem_cons.mpr ⟨rfl, List.forall_mem_cons.mpr ⟨rfl, List.forall_mem_cons.mpr ⟨rfl, fun _ h => absurd h List.not_mem_nil⟩⟩⟩⟩⟩⟩) ?_
                                  exact jn166_100 (1) trivial (by omega)
                            refine m_lc_gt 138 142 dX13_mass_134 dX13_mass_135 rfl rfl (fun c91 => ?_) (fun c91 => ?_)
                            · skip
                              refine m_iconst 143 dX13_mass_142 rfl (by decide) ?_
                              refine m_sub [(0, (2, 2468)), (1, (1, a1)), (3, (0, a2)), (4, (1, x83)), (6, (0, x61)), (7, (0, x79)), (8, (0, x84))] (List.forall_mem_cons.mpr ⟨rfl, List.forall_mem_cons.mpr ⟨rfl, List.forall_mem_cons.mpr ⟨rfl, List.forall_mem_cons.mpr ⟨rfl, List.forall_mem_cons.mpr ⟨rfl, List.forall_mem_cons.mpr ⟨rfl, List.forall_mem_cons.mpr ⟨rfl, fun _ h => absurd h List.not_mem_nil⟩⟩⟩⟩⟩⟩⟩) ?_
                              exact jn143_92 (0) trivial (by omega) (by omega)
                            · skip
                              refine m_iconst 139 dX13_mass_138 rfl (by decide) ?_
                              refine m_goto 143 dX13_mass_139 rfl ?_
                              refine m_sub [(0, (2, 2468)), (1, (1, a1)), (3, (0, a2)), (4, (1, x83)), (6, (0, x61)), (7, (0, x79)), (8, (0, x84))] (List.forall_mem_cons.mpr ⟨rfl, List.forall_mem_cons.mpr ⟨rfl, List.forall_mem_cons.mpr ⟨rfl, List.forall_mem_cons.mpr ⟨rfl, List.forall_mem_cons.mpr ⟨rfl, List.forall_mem_cons.mpr ⟨rfl, List.forall_mem_cons.mpr ⟨rfl, fun _ h => absurd h List.not_mem_nil⟩⟩⟩⟩⟩⟩⟩) ?_
                              exact jn143_92 (1) trivial (by omega) (by omega)
                      refine m_sub [(0, (2, 2468)), (1, (1, a1)), (3, (0, a2)), (4, (1, (x60 + 0))), (6, (0, x61)), (7, (0, x79)), (8, (0, 0))] (List.forall_mem_cons.mpr ⟨rfl, List.forall_mem_cons.mpr ⟨rfl, List.forall_mem_cons.mpr ⟨rfl, List.forall_mem_cons.mpr ⟨rfl, List.forall_mem_cons.mpr ⟨rfl, List.forall_mem_cons.mpr ⟨rfl, List.forall_mem_cons.mpr ⟨rfl, fun _ h => absurd h List.not_mem_nil⟩⟩⟩⟩⟩⟩⟩) ?_
                      exact lp111 _ ((x60 + 0)) (0) trivial (by omega) (by omega) rfl
                    · exfalso; omega
                  refine m_lc_gt 68 72 dX13_mass_64 dX13_mass_65 rfl rfl (fun c78 => ?_) (fun c78 => ?_)
                  · skip
                    refine m_iconst 73 dX13_mass_72 rfl (by decide) ?_
                    refine m_sub [(0, (2, 2468)), (1, (1, a1)), (3, (0, a2)), (4, (1, x60)), (6, (0, x61))] (List.forall_mem_cons.mpr ⟨rfl, List.forall_mem_cons.mpr ⟨rfl, List.forall_mem_cons.mpr ⟨rfl, List.forall_mem_cons.mpr ⟨rfl, List.forall_mem_cons.mpr ⟨rfl, fun _ h => absurd h List.not_mem_nil⟩⟩⟩⟩⟩) ?_
                    exact jn73_79 (0) trivial (by omega) (by omega)
                  · skip
                    refine m_iconst 69 dX13_mass_68 rfl (by decide) ?_
                    refine m_goto 73 dX13_mass_69 rfl ?_
                    refine m_sub [(0, (2, 2468)), (1, (1, a1)), (3, (0, a2)), (4, (1, x60)), (6, (0, x61))] (List.forall_mem_cons.mpr ⟨rfl, List.forall_mem_cons.mpr ⟨rfl, List.forall_mem_cons.mpr ⟨rfl, List.forall_mem_cons.mpr ⟨rfl, List.forall_mem_cons.mpr ⟨rfl, fun _ h => absurd h List.not_mem_nil⟩⟩⟩⟩⟩) ?_
                    exact jn73_79 (1) trivial (by omega) (by omega)
              refine m_sub [(0, (2, 2468)), (1, (1, a1)), (3, (0, a2)), (4, (1, 0)), (6, (0, 0))] (List.forall_mem_cons.mpr ⟨rfl, List.forall_mem_cons.mpr ⟨rfl, List.forall_mem_cons.mpr ⟨rfl, List.forall_mem_cons.mpr ⟨rfl, List.forall_mem_cons.mpr ⟨rfl, fun _ h => absurd h List.not_mem_nil⟩⟩⟩⟩⟩) ?_
              exact lp47 _ (0) (0) trivial (by omega) (by omega) rfl
            · skip
              refine m_ldc2 (n := (-1)) 40 dX13_mass_37 rfl lcX13_210 rfl (by decide) ?_
              exact m_lreturn dX13_mass_40 rfl (mqL ⟨g2, by omega⟩)
  · skip
    refine m_if_ne 16 37 dX13_mass_13 rfl rfl (fun c104 => ?_) (fun c104 => ?_)
    · skip
      refine m_ldc2 (n := (-1)) 40 dX13_mass_37 rfl lcX13_210 rfl (by decide) ?_
      exact m_lreturn dX13_mass_40 rfl (mqL ⟨g2, by omega⟩)
    · exfalso; omega
theorem cy_X13_check : yX13_check.cls ≠ "java/lang/invoke/MethodHandle" ∧ yX13_check.cls ≠ "java/lang/invoke/VarHandle" ∧ (parseMethodDescriptor yX13_check.desc).map (fun d => d.parameters.length) = some 0 := by decide +kernel
theorem dX13_check_0 : decode KX13_check.2.2.1 0 = .ok (.aload_n 0, 1) := by decide +kernel
theorem dX13_check_1 : decode KX13_check.2.2.1 1 = .ok (.iconst 0, 1) := by decide +kernel
theorem dX13_check_2 : decode KX13_check.2.2.1 2 = .ok (.putfield 92, 3) := by decide +kernel
theorem dX13_check_5 : decode KX13_check.2.2.1 5 = .ok (.aload_n 0, 1) := by decide +kernel
theorem dX13_check_6 : decode KX13_check.2.2.1 6 = .ok (.getfield 96, 3) := by decide +kernel
theorem dX13_check_9 : decode KX13_check.2.2.1 9 = .ok (.ifCond .eq 7, 3) := by decide +kernel
theorem dX13_check_12 : decode KX13_check.2.2.1 12 = .ok (.iconst 0, 1) := by decide +kernel
theorem dX13_check_13 : decode KX13_check.2.2.1 13 = .ok (.goto 4, 3) := by decide +kernel
theorem dX13_check_16 : decode KX13_check.2.2.1 16 = .ok (.iconst (-1), 1) := by decide +kernel
theorem dX13_check_17 : decode KX13_check.2.2.1 17 = .ok (.ireturn, 1) := by decide +kernel
abbrev q_X13_check (h : MH) : MO → MH → Prop := mRI fun v h' => GI h' ∧ (-1) ≤ v ∧ v ≤ 0
set_option maxRecDepth 20000 in
theorem c_X13_check {h : MH} (g : GI h) : MCal KX13_check yX13_check 0 0 [(2, 2468)] h (q_X13_check h) := by
  refine MCal.ofMW (Or.inl rfl) ⟨cp_X13, rfl⟩ (Nat.le_of_ble_eq_true rfl) ?_
  change MW _ _ _ _ _ [(0, (2, 2468))] _ _
  refine m_aload_n 1 dX13_check_0 rfl rfl (by decide) ?_
  refine m_iconst 2 dX13_check_1 rfl (by decide) ?_
  refine m_putfield 5 dX13_check_2 rfl (ci := 13) rfl lu_X13 tyX13_ok nmX13 (k := 0) (by decide) (Or.inl rfl) lfX13_92 (tag := 0) rfl (fun _ => rfl) (fun _ => rfl) (by decide) (GI.lt g (by decide)) (gk2468 g) ?_
  refine m_heap (fun h1 eh1 => ?_)
  have g2 : GI h1 := eh1 ▸ GI.set g (by decide) (fun _ => by show 0 ≤ _ ∧ _ ≤ 1; omega)
  have m3 : (h1.2 2468).2.2 0 = 0 := by rw [eh1]; rfl
  clear eh1
  refine m_aload_n 6 dX13_check_5 rfl rfl (by decide) ?_
  refine m_getfield 9 dX13_check_6 rfl (ci := 13) rfl lu_X13 (k := 33) (by decide) lfX13_96 (tag := 0) rfl (by decide) (GI.lt g2 (by decide)) (gk2468 g2) (fun v4 (ev4 : v4 = (h1.2 2468).2.2 33) _ => ?_)
  have bv4 : 0 ≤ v4 ∧ v4 ≤ 1 := by rw [ev4]; exact gf2468_33 g2
  refine m_if_eq 12 16 dX13_check_9 rfl rfl (fun c5 => ?_) (fun c5 => ?_)
  · skip
    refine m_iconst 17 dX13_check_16 rfl (by decide) ?_
    exact m_ireturn dX13_check_17 rfl rfl (mqI ⟨g2, by omega⟩)
  · skip
    refine m_iconst 13 dX13_check_12 rfl (by decide) ?_
    refine m_goto 17 dX13_check_13 rfl ?_
    exact m_ireturn dX13_check_17 rfl rfl (mqI ⟨g2, by omega⟩)
theorem cy_X13_level : yX13_level.cls ≠ "java/lang/invoke/MethodHandle" ∧ yX13_level.cls ≠ "java/lang/invoke/VarHandle" ∧ (parseMethodDescriptor yX13_level.desc).map (fun d => d.parameters.length) = some 2 := by decide +kernel
theorem dX13_level_0 : decode KX13_level.2.2.1 0 = .ok (.aload_n 0, 1) := by decide +kernel
theorem dX13_level_1 : decode KX13_level.2.2.1 1 = .ok (.iconst 0, 1) := by decide +kernel
theorem dX13_level_2 : decode KX13_level.2.2.1 2 = .ok (.putfield 92, 3) := by decide +kernel
theorem dX13_level_5 : decode KX13_level.2.2.1 5 = .ok (.aload_n 0, 1) := by decide +kernel
theorem dX13_level_6 : decode KX13_level.2.2.1 6 = .ok (.getfield 96, 3) := by decide +kernel
theorem dX13_level_9 : decode KX13_level.2.2.1 9 = .ok (.ifCond .eq 24, 3) := by decide +kernel
theorem dX13_level_12 : decode KX13_level.2.2.1 12 = .ok (.iload_n 1, 1) := by decide +kernel
theorem dX13_level_13 : decode KX13_level.2.2.1 13 = .ok (.ifCond .lt 20, 3) := by decide +kernel
theorem dX13_level_16 : decode KX13_level.2.2.1 16 = .ok (.iload_n 1, 1) := by decide +kernel
theorem dX13_level_17 : decode KX13_level.2.2.1 17 = .ok (.aload_n 0, 1) := by decide +kernel
theorem dX13_level_18 : decode KX13_level.2.2.1 18 = .ok (.getfield 115, 3) := by decide +kernel
theorem dX13_level_21 : decode KX13_level.2.2.1 21 = .ok (.if_icmp .ge 12, 3) := by decide +kernel
theorem dX13_level_24 : decode KX13_level.2.2.1 24 = .ok (.iload_n 2, 1) := by decide +kernel
theorem dX13_level_25 : decode KX13_level.2.2.1 25 = .ok (.ifCond .lt 8, 3) := by decide +kernel
theorem dX13_level_28 : decode KX13_level.2.2.1 28 = .ok (.iload_n 2, 1) := by decide +kernel
theorem dX13_level_29 : decode KX13_level.2.2.1 29 = .ok (.iconst 1, 1) := by decide +kernel
theorem dX13_level_30 : decode KX13_level.2.2.1 30 = .ok (.if_icmp .le 7, 3) := by decide +kernel
theorem dX13_level_33 : decode KX13_level.2.2.1 33 = .ok (.ldc2_w 210, 3) := by decide +kernel
theorem dX13_level_36 : decode KX13_level.2.2.1 36 = .ok (.lreturn, 1) := by decide +kernel
theorem dX13_level_37 : decode KX13_level.2.2.1 37 = .ok (.aload_n 0, 1) := by decide +kernel
theorem dX13_level_38 : decode KX13_level.2.2.1 38 = .ok (.iload_n 1, 1) := by decide +kernel
theorem dX13_level_39 : decode KX13_level.2.2.1 39 = .ok (.invokevirtual 156, 3) := by decide +kernel
theorem dX13_level_42 : decode KX13_level.2.2.1 42 = .ok (.lstore_n 3, 1) := by decide +kernel
theorem dX13_level_43 : decode KX13_level.2.2.1 43 = .ok (.iconst 0, 1) := by decide +kernel
theorem dX13_level_44 : decode KX13_level.2.2.1 44 = .ok (.istore 5, 2) := by decide +kernel
theorem dX13_level_46 : decode KX13_level.2.2.1 46 = .ok (.iload 5, 2) := by decide +kernel
theorem dX13_level_48 : decode KX13_level.2.2.1 48 = .ok (.aload_n 0, 1) := by decide +kernel
theorem dX13_level_49 : decode KX13_level.2.2.1 49 = .ok (.getfield 121, 3) := by decide +kernel
theorem dX13_level_52 : decode KX13_level.2.2.1 52 = .ok (.if_icmp .ge 28, 3) := by decide +kernel
theorem dX13_level_55 : decode KX13_level.2.2.1 55 = .ok (.iload_n 2, 1) := by decide +kernel
theorem dX13_level_56 : decode KX13_level.2.2.1 56 = .ok (.ifCond .ne 24, 3) := by decide +kernel
theorem dX13_level_59 : decode KX13_level.2.2.1 59 = .ok (.lload_n 3, 1) := by decide +kernel
theorem dX13_level_60 : decode KX13_level.2.2.1 60 = .ok (.aload_n 0, 1) := by decide +kernel
theorem dX13_level_61 : decode KX13_level.2.2.1 61 = .ok (.getfield 87, 3) := by decide +kernel
theorem dX13_level_64 : decode KX13_level.2.2.1 64 = .ok (.bipush 8, 2) := by decide +kernel
theorem dX13_level_66 : decode KX13_level.2.2.1 66 = .ok (.iload_n 1, 1) := by decide +kernel
theorem dX13_level_67 : decode KX13_level.2.2.1 67 = .ok (.imul, 1) := by decide +kernel
theorem dX13_level_68 : decode KX13_level.2.2.1 68 = .ok (.iload 5, 2) := by decide +kernel
theorem dX13_level_70 : decode KX13_level.2.2.1 70 = .ok (.iadd, 1) := by decide +kernel
theorem dX13_level_71 : decode KX13_level.2.2.1 71 = .ok (.laload, 1) := by decide +kernel
theorem dX13_level_72 : decode KX13_level.2.2.1 72 = .ok (.lsub, 1) := by decide +kernel
theorem dX13_level_73 : decode KX13_level.2.2.1 73 = .ok (.lstore_n 3, 1) := by decide +kernel
theorem dX13_level_74 : decode KX13_level.2.2.1 74 = .ok (.iinc 5 1, 3) := by decide +kernel
theorem dX13_level_77 : decode KX13_level.2.2.1 77 = .ok (.goto (-31), 3) := by decide +kernel
theorem dX13_level_80 : decode KX13_level.2.2.1 80 = .ok (.lload_n 3, 1) := by decide +kernel
theorem dX13_level_81 : decode KX13_level.2.2.1 81 = .ok (.lreturn, 1) := by decide +kernel
abbrev q_X13_level (a1 a2 : Int) (h : MH) : MO → MH → Prop := mRL fun v h' => GI h' ∧ (-9223372036854775808) ≤ v ∧ v ≤ 9223372036854775807
set_option maxRecDepth 20000 in
theorem c_X13_level {a1 a2 : Int} {h : MH} (g : GI h) : MCal KX13_level yX13_level 0 0 [(2, 2468), (0, a1), (0, a2)] h (q_X13_level a1 a2 h) := by
  refine MCal.ofMW (Or.inl rfl) ⟨cp_X13, rfl⟩ (Nat.le_of_ble_eq_true rfl) ?_
  change MW _ _ _ _ _ [(0, (2, 2468)), (1, (0, a1)), (2, (0, a2))] _ _
  refine m_locI (i := 1) rfl (fun ua1 wa1 => ?_)
  refine m_locI (i := 2) rfl (fun ua2 wa2 => ?_)
  refine m_aload_n 1 dX13_level_0 rfl rfl (by decide) ?_
  refine m_iconst 2 dX13_level_1 rfl (by decide) ?_
  refine m_putfield 5 dX13_level_2 rfl (ci := 13) rfl lu_X13 tyX13_ok nmX13 (k := 0) (by decide) (Or.inl rfl) lfX13_92 (tag := 0) rfl (fun _ => rfl) (fun _ => rfl) (by decide) (GI.lt g (by decide)) (gk2468 g) ?_
  refine m_heap (fun h1 eh1 => ?_)
  have g2 : GI h1 := eh1 ▸ GI.set g (by decide) (fun _ => by show 0 ≤ _ ∧ _ ≤ 1; omega)
  have m3 : (h1.2 2468).2.2 0 = 0 := by rw [eh1]; rfl
  clear eh1
  refine m_aload_n 6 dX13_level_5 rfl rfl (by decide) ?_
  refine m_getfield 9 dX13_level_6 rfl (ci := 13) rfl lu_X13 (k := 33) (by decide) lfX13_96 (tag := 0) rfl (by decide) (GI.lt g2 (by decide)) (gk2468 g2) (fun v4 (ev4 : v4 = (h1.2 2468).2.2 33) _ => ?_)
  have bv4 : 0 ≤ v4 ∧ v4 ≤ 1 := by rw [ev4]; exact gf2468_33 g2
  refine m_if_eq 12 33 dX13_level_9 rfl rfl (fun c5 => ?_) (fun c5 => ?_)
  · skip
    refine m_ldc2 (n := (-1)) 36 dX13_level_33 rfl lcX13_210 rfl (by decide) ?_
    exact m_lreturn dX13_level_36 rfl (mqL ⟨g2, by omega⟩)
  · skip
    refine m_iload_n 13 dX13_level_12 rfl rfl ?_
    refine m_if_lt 16 33 dX13_level_13 rfl rfl (fun c6 => ?_) (fun c6 => ?_)
    · skip
      refine m_ldc2 (n := (-1)) 36 dX13_level_33 rfl lcX13_210 rfl (by decide) ?_
      exact m_lreturn dX13_level_36 rfl (mqL ⟨g2, by omega⟩)
    · skip
      refine m_iload_n 17 dX13_level_16 rfl rfl ?_
      refine m_aload_n 18 dX13_level_17 rfl rfl (by decide) ?_
      refine m_getfield 21 dX13_level_18 rfl (ci := 13) rfl lu_X13 (k := 1) (by decide) lfX13_115 (tag := 0) rfl (by decide) (GI.lt g2 (by decide)) (gk2468 g2) (fun v7 (ev7 : v7 = (h1.2 2468).2.2 1) _ => ?_)
      have bv7 : 0 ≤ v7 ∧ v7 ≤ 8 := by rw [ev7]; exact gf2468_1 g2
      refine m_ic_ge 24 33 dX13_level_21 rfl rfl (fun c8 => ?_) (fun c8 => ?_)
      · skip
        refine m_ldc2 (n := (-1)) 36 dX13_level_33 rfl lcX13_210 rfl (by decide) ?_
        exact m_lreturn dX13_level_36 rfl (mqL ⟨g2, by omega⟩)
      · skip
        refine m_iload_n 25 dX13_level_24 rfl rfl ?_
        refine m_if_lt 28 33 dX13_level_25 rfl rfl (fun c9 => ?_) (fun c9 => ?_)
        · skip
          refine m_ldc2 (n := (-1)) 36 dX13_level_33 rfl lcX13_210 rfl (by decide) ?_
          exact m_lreturn dX13_level_36 rfl (mqL ⟨g2, by omega⟩)
        · skip
          refine m_iload_n 29 dX13_level_28 rfl rfl ?_
          refine m_iconst 30 dX13_level_29 rfl (by decide) ?_
          refine m_ic_le 33 37 dX13_level_30 rfl rfl (fun c10 => ?_) (fun c10 => ?_)
          · skip
            refine m_aload_n 38 dX13_level_37 rfl rfl (by decide) ?_
            refine m_iload_n 39 dX13_level_38 rfl rfl ?_
            refine m_invokevirtual (K' := KX13_gives) (As := [(0, a1)]) dX13_level_39 (fun _ => by decide) ⟨lo_X13_gives, li_X13⟩ (ci := 13) (r := 2468) rfl (by decide) (GI.lt g2 (by decide)) (gk2468 g2) ⟨lmX13_156, lv_X13_gives_i, ls_X13_gives⟩ ⟨rfl, cy_X13_gives⟩ ⟨Nat.le_of_ble_eq_true rfl, Nat.le_of_ble_eq_true rfl⟩ (Nat.le_of_ble_eq_true rfl) rfl (Nat.zero_le _) (Nat.zero_le _) (c_X13_gives g2 (by omega)) (mkL fun v11 h12 q13 => ?_)
            obtain ⟨rfl, q13⟩ := q13
            refine m_lstore_n 43 (i := 3) rfl dX13_level_42 rfl (by decide) ?_
            refine m_iconst 44 dX13_level_43 rfl (by decide) ?_
            refine m_istore 46 dX13_level_44 rfl (by decide) ?_
            have lp46 : ∀ (n : Nat) (x14 x15 : Int), True → ((-9223372036854775808) ≤ x14 ∧ x14 ≤ 9223372036854775807) → (0 ≤ x15 ∧ x15 ≤ 8) → (8 - x15).toNat = n → MW KX13_level (q_X13_level a1 a2 h) 0 0 46 [(0, (2, 2468)), (1, (0, a1)), (2, (0, a2)), (3, (1, x14)), (5, (0, x15))] [] h1 := by
              intro n
              induction n using Nat.strongRecOn with
              | _ n ih46 =>
              intro x14 x15 _ b16 b17 hm46
              refine m_iload 48 dX13_level_46 rfl rfl ?_
              refine m_aload_n 49 dX13_level_48 rfl rfl (by decide) ?_
              refine m_getfield 52 dX13_level_49 rfl (ci := 13) rfl lu_X13 (k := 9) (by decide) lfX13_121 (tag := 0) rfl (by decide) (GI.lt g2 (by decide)) (gk2468 g2) (fun v18 (ev18 : v18 = (h1.2 2468).2.2 9) _ => ?_)
              have bv18 : 0 ≤ v18 ∧ v18 ≤ 8 := by rw [ev18]; exact gf2468_9 g2
              refine m_ic_ge 55 80 dX13_level_52 rfl rfl (fun c19 => ?_) (fun c19 => ?_)
              · skip
                refine m_lload_n 81 dX13_level_80 rfl rfl ?_
                exact m_lreturn dX13_level_81 rfl (mqL ⟨g2, by omega⟩)
              · skip
                refine m_iload_n 56 dX13_level_55 rfl rfl ?_
                refine m_if_ne 59 80 dX13_level_56 rfl rfl (fun c20 => ?_) (fun c20 => ?_)
                · skip
                  refine m_lload_n 81 dX13_level_80 rfl rfl ?_
                  exact m_lreturn dX13_level_81 rfl (mqL ⟨g2, by omega⟩)
                · skip
                  refine m_lload_n 60 dX13_level_59 rfl rfl ?_
                  refine m_aload_n 61 dX13_level_60 rfl rfl (by decide) ?_
                  refine m_getfieldC 64 dX13_level_61 rfl (ci := 13) rfl lu_X13 (k := 37) (by decide) lfX13_87 (tag := 2) rfl (by decide) (GI.lt g2 (by decide)) (gk2468 g2) (gf2468_37 g2) ?_
                  refine m_bipush 66 dX13_level_64 rfl (by decide) ?_
                  refine m_iload_n 67 dX13_level_66 rfl rfl ?_
                  refine m_imul 68 dX13_level_67 rfl (by omega) ?_
                  refine m_iload 70 dX13_level_68 rfl rfl ?_
                  refine m_iadd 71 dX13_level_70 rfl (by omega) ?_
                  refine m_lald 72 dX13_level_71 rfl (by decide) (GI.lt g2 (by decide)) (gk2494 g2) (by omega) (m_len (gl2494 g2) (by omega)) (fun v21 ev21 _ => ?_)
                  have bv21 : (-9223372036854775808) ≤ v21 ∧ v21 ≤ 9223372036854775807 := by rw [ev21]; exact ge2494 g2 (by omega)
                  clear ev21
                  refine m_lsubW 73 dX13_level_72 rfl ?_
                  obtain ⟨v22, ev22⟩ : ∃ v22 : Int, v22 = (x14 - v21).bmod 18446744073709551616 := ⟨_, rfl⟩
                  rw [← ev22]
                  have bv22 : (-9223372036854775808) ≤ v22 ∧ v22 ≤ 9223372036854775807 := ev22 ▸ mL_bm _
                  clear ev22
                  refine m_lstore_n 74 (i := 3) rfl dX13_level_73 rfl (by decide) ?_
                  refine m_iinc 77 dX13_level_74 rfl (by decide) rfl (by omega) ?_
                  refine m_goto 46 dX13_level_77 rfl ?_
                  refine m_sub [(0, (2, 2468)), (1, (0, a1)), (2, (0, a2)), (3, (1, v22)), (5, (0, (x15 + 1)))] (List.forall_mem_cons.mpr ⟨rfl, List.forall_mem_cons.mpr ⟨rfl, List.forall_mem_cons.mpr ⟨rfl, List.forall_mem_cons.mpr ⟨rfl, List.forall_mem_cons.mpr ⟨rfl, fun _ h => absurd h List.not_mem_nil⟩⟩⟩⟩⟩) ?_
                  exact ih46 _ (by omega) (v22) ((x15 + 1)) trivial (by omega) (by omega) rfl
            refine m_sub [(0, (2, 2468)), (1, (0, a1)), (2, (0, a2)), (3, (1, v11)), (5, (0, 0))] (List.forall_mem_cons.mpr ⟨rfl, List.forall_mem_cons.mpr ⟨rfl, List.forall_mem_cons.mpr ⟨rfl, List.forall_mem_cons.mpr ⟨rfl, List.forall_mem_cons.mpr ⟨rfl, fun _ h => absurd h List.not_mem_nil⟩⟩⟩⟩⟩) ?_
            exact lp46 _ (v11) (0) trivial (by omega) (by omega) rfl
          · skip
            refine m_ldc2 (n := (-1)) 36 dX13_level_33 rfl lcX13_210 rfl (by decide) ?_
            exact m_lreturn dX13_level_36 rfl (mqL ⟨g2, by omega⟩)
