theorem cp_X13 : plainName RX13 = true := by decide +kernel
theorem cy_X13_thrown : yX13_thrown.cls ≠ "java/lang/invoke/MethodHandle" ∧ yX13_thrown.cls ≠ "java/lang/invoke/VarHandle" ∧ (parseMethodDescriptor yX13_thrown.desc).map (fun d => d.parameters.length) = some 0 := by decide +kernel
theorem dX13_thrown_0 : decode KX13_thrown.2.2.1 0 = .ok (.aload_n 0, 1) := by decide +kernel
theorem dX13_thrown_1 : decode KX13_thrown.2.2.1 1 = .ok (.getfield 92, 3) := by decide +kernel
theorem dX13_thrown_4 : decode KX13_thrown.2.2.1 4 = .ok (.ireturn, 1) := by decide +kernel
abbrev q_X13_thrown (h : MH) : MO → MH → Prop := mRI fun v h' => h = h' ∧ 0 ≤ v ∧ v ≤ 1
set_option maxRecDepth 20000 in
theorem c_X13_thrown {h : MH} (g : GI h) : MCal KX13_thrown yX13_thrown 0 0 [(2, 2468)] h (q_X13_thrown h) := by
  refine MCal.ofMW (Or.inl rfl) ⟨cp_X13, rfl⟩ (Nat.le_of_ble_eq_true rfl) ?_
  change MW _ _ _ _ _ [(0, (2, 2468))] _ _
  refine m_aload_n 1 dX13_thrown_0 rfl rfl (by decide) ?_
  refine m_getfield 4 dX13_thrown_1 rfl (ci := 13) rfl lu_X13 (k := 0) (by decide) lfX13_92 (tag := 0) rfl (by decide) (GI.lt g (by decide)) (gk2468 g) (fun v1 (ev1 : v1 = (h.2 2468).2.2 0) _ => ?_)
  have bv1 : 0 ≤ v1 ∧ v1 ≤ 1 := by rw [ev1]; exact gf2468_0 g
  exact m_ireturn dX13_thrown_4 rfl rfl (mqI ⟨rfl, by omega⟩)
theorem cy_X13_drop : yX13_drop.cls ≠ "java/lang/invoke/MethodHandle" ∧ yX13_drop.cls ≠ "java/lang/invoke/VarHandle" ∧ (parseMethodDescriptor yX13_drop.desc).map (fun d => d.parameters.length) = some 0 := by decide +kernel
theorem dX13_drop_0 : decode KX13_drop.2.2.1 0 = .ok (.aload_n 0, 1) := by decide +kernel
theorem dX13_drop_1 : decode KX13_drop.2.2.1 1 = .ok (.iconst 0, 1) := by decide +kernel
theorem dX13_drop_2 : decode KX13_drop.2.2.1 2 = .ok (.putfield 96, 3) := by decide +kernel
theorem dX13_drop_5 : decode KX13_drop.2.2.1 5 = .ok (.aload_n 0, 1) := by decide +kernel
theorem dX13_drop_6 : decode KX13_drop.2.2.1 6 = .ok (.iconst 0, 1) := by decide +kernel
theorem dX13_drop_7 : decode KX13_drop.2.2.1 7 = .ok (.putfield 100, 3) := by decide +kernel
theorem dX13_drop_10 : decode KX13_drop.2.2.1 10 = .ok (.return_, 1) := by decide +kernel
abbrev q_X13_drop (h : MH) : MO → MH → Prop := mRV fun h' => GI h'
set_option maxRecDepth 20000 in
theorem c_X13_drop {h : MH} (g : GI h) : MCal KX13_drop yX13_drop 0 0 [(2, 2468)] h (q_X13_drop h) := by
  refine MCal.ofMW (Or.inl rfl) ⟨cp_X13, rfl⟩ (Nat.le_of_ble_eq_true rfl) ?_
  change MW _ _ _ _ _ [(0, (2, 2468))] _ _
  refine m_aload_n 1 dX13_drop_0 rfl rfl (by decide) ?_
  refine m_iconst 2 dX13_drop_1 rfl (by decide) ?_
  refine m_putfield 5 dX13_drop_2 rfl (ci := 13) rfl lu_X13 tyX13_ok nmX13 (k := 33) (by decide) (Or.inl rfl) lfX13_96 (tag := 0) rfl (m_nz (by omega)) (m_fz (by omega)) (by decide) (GI.lt g (by decide)) (gk2468 g) ?_
  refine m_heap (fun h1 eh1 => ?_)
  have g2 : GI h1 := eh1 ▸ GI.set g (by decide) (fun _ => by show 0 ≤ _ ∧ _ ≤ 1; omega)
  have m3 : (h1.2 2468).2.2 33 = 0 := by rw [eh1]; rfl
  clear eh1
  refine m_aload_n 6 dX13_drop_5 rfl rfl (by decide) ?_
  refine m_iconst 7 dX13_drop_6 rfl (by decide) ?_
  refine m_putfield 10 dX13_drop_7 rfl (ci := 13) rfl lu_X13 tyX13_ok nmX13 (k := 34) (by decide) (Or.inl rfl) lfX13_100 (tag := 0) rfl (m_nz (by omega)) (m_fz (by omega)) (by decide) (GI.lt g2 (by decide)) (gk2468 g2) ?_
  refine m_heap (fun h4 eh4 => ?_)
  have g5 : GI h4 := eh4 ▸ GI.set g2 (by decide) (fun _ => by show 0 ≤ _ ∧ _ ≤ 1; omega)
  have m6 : (h4.2 2468).2.2 33 = 0 := by rw [eh4]; exact m3
  have m7 : (h4.2 2468).2.2 34 = 0 := by rw [eh4]; rfl
  clear eh4
  exact m_return dX13_drop_10 rfl (mqV g5)
theorem cy_X13_isOut : yX13_isOut.cls ≠ "java/lang/invoke/MethodHandle" ∧ yX13_isOut.cls ≠ "java/lang/invoke/VarHandle" ∧ (parseMethodDescriptor yX13_isOut.desc).map (fun d => d.parameters.length) = some 3 := by decide +kernel
theorem dX13_isOut_0 : decode KX13_isOut.2.2.1 0 = .ok (.lload_n 0, 1) := by decide +kernel
theorem dX13_isOut_1 : decode KX13_isOut.2.2.1 1 = .ok (.lload_n 2, 1) := by decide +kernel
theorem dX13_isOut_2 : decode KX13_isOut.2.2.1 2 = .ok (.lcmp, 1) := by decide +kernel
theorem dX13_isOut_3 : decode KX13_isOut.2.2.1 3 = .ok (.ifCond .lt 10, 3) := by decide +kernel
theorem dX13_isOut_6 : decode KX13_isOut.2.2.1 6 = .ok (.lload_n 0, 1) := by decide +kernel
theorem dX13_isOut_7 : decode KX13_isOut.2.2.1 7 = .ok (.lload 4, 2) := by decide +kernel
theorem dX13_isOut_9 : decode KX13_isOut.2.2.1 9 = .ok (.lcmp, 1) := by decide +kernel
theorem dX13_isOut_10 : decode KX13_isOut.2.2.1 10 = .ok (.ifCond .le 7, 3) := by decide +kernel
theorem dX13_isOut_13 : decode KX13_isOut.2.2.1 13 = .ok (.iconst 1, 1) := by decide +kernel
theorem dX13_isOut_14 : decode KX13_isOut.2.2.1 14 = .ok (.goto 4, 3) := by decide +kernel
theorem dX13_isOut_17 : decode KX13_isOut.2.2.1 17 = .ok (.iconst 0, 1) := by decide +kernel
theorem dX13_isOut_18 : decode KX13_isOut.2.2.1 18 = .ok (.ireturn, 1) := by decide +kernel
abbrev q_X13_isOut (a1 a2 a3 : Int) (h : MH) : MO → MH → Prop := mRI fun v h' => h = h' ∧ ((v = 0 ∧ ((a1 ≥ a2 ∧ a1 ≤ a3))) ∨ (v = 1 ∧ ((a1 < a2) ∨ (a1 ≥ a2 ∧ a1 > a3))))
set_option maxRecDepth 20000 in
theorem c_X13_isOut {a1 a2 a3 : Int} {h : MH} : MCal KX13_isOut yX13_isOut 0 0 [(1, a1), (1, a2), (1, a3)] h (q_X13_isOut a1 a2 a3 h) := by
  refine MCal.ofMW (Or.inl rfl) ⟨cp_X13, rfl⟩ (Nat.le_of_ble_eq_true rfl) ?_
  change MW _ _ _ _ _ [(0, (1, a1)), (2, (1, a2)), (4, (1, a3))] _ _
  refine m_locL (i := 0) rfl (fun ua1 wa1 => ?_)
  refine m_locL (i := 2) rfl (fun ua2 wa2 => ?_)
  refine m_locL (i := 4) rfl (fun ua3 wa3 => ?_)
  refine m_lload_n 1 dX13_isOut_0 rfl rfl ?_
  refine m_lload_n 2 dX13_isOut_1 rfl rfl ?_
  refine m_lc_lt 6 13 dX13_isOut_2 dX13_isOut_3 rfl rfl (fun c1 => ?_) (fun c1 => ?_)
  · skip
    refine m_iconst 14 dX13_isOut_13 rfl (by decide) ?_
    refine m_goto 18 dX13_isOut_14 rfl ?_
    exact m_ireturn dX13_isOut_18 rfl (m_narZ (by omega)) (mqI ⟨rfl, Or.inr (⟨rfl, by omega⟩)⟩)
  · skip
    refine m_lload_n 7 dX13_isOut_6 rfl rfl ?_
    refine m_lload 9 dX13_isOut_7 rfl rfl ?_
    refine m_lc_le 13 17 dX13_isOut_9 dX13_isOut_10 rfl rfl (fun c2 => ?_) (fun c2 => ?_)
    · skip
      refine m_iconst 18 dX13_isOut_17 rfl (by decide) ?_
      exact m_ireturn dX13_isOut_18 rfl (m_narZ (by omega)) (mqI ⟨rfl, Or.inl ⟨rfl, by omega⟩⟩)
    · skip
      refine m_iconst 14 dX13_isOut_13 rfl (by decide) ?_
      refine m_goto 18 dX13_isOut_14 rfl ?_
      exact m_ireturn dX13_isOut_18 rfl (m_narZ (by omega)) (mqI ⟨rfl, Or.inr (⟨rfl, by omega⟩)⟩)
theorem cy_X13_cut : yX13_cut.cls ≠ "java/lang/invoke/MethodHandle" ∧ yX13_cut.cls ≠ "java/lang/invoke/VarHandle" ∧ (parseMethodDescriptor yX13_cut.desc).map (fun d => d.parameters.length) = some 4 := by decide +kernel
theorem dX13_cut_0 : decode KX13_cut.2.2.1 0 = .ok (.aload_n 0, 1) := by decide +kernel
theorem dX13_cut_1 : decode KX13_cut.2.2.1 1 = .ok (.iconst 0, 1) := by decide +kernel
theorem dX13_cut_2 : decode KX13_cut.2.2.1 2 = .ok (.putfield 92, 3) := by decide +kernel
theorem dX13_cut_5 : decode KX13_cut.2.2.1 5 = .ok (.lload_n 1, 1) := by decide +kernel
theorem dX13_cut_6 : decode KX13_cut.2.2.1 6 = .ok (.lconst 1, 1) := by decide +kernel
theorem dX13_cut_7 : decode KX13_cut.2.2.1 7 = .ok (.ldc2_w 103, 3) := by decide +kernel
theorem dX13_cut_10 : decode KX13_cut.2.2.1 10 = .ok (.invokestatic 105, 3) := by decide +kernel
theorem dX13_cut_13 : decode KX13_cut.2.2.1 13 = .ok (.ifCond .ne 49, 3) := by decide +kernel
theorem dX13_cut_16 : decode KX13_cut.2.2.1 16 = .ok (.iload_n 3, 1) := by decide +kernel
theorem dX13_cut_17 : decode KX13_cut.2.2.1 17 = .ok (.i2l, 1) := by decide +kernel
theorem dX13_cut_18 : decode KX13_cut.2.2.1 18 = .ok (.lconst 0, 1) := by decide +kernel
theorem dX13_cut_19 : decode KX13_cut.2.2.1 19 = .ok (.ldc2_w 109, 3) := by decide +kernel
theorem dX13_cut_22 : decode KX13_cut.2.2.1 22 = .ok (.invokestatic 105, 3) := by decide +kernel
theorem dX13_cut_25 : decode KX13_cut.2.2.1 25 = .ok (.ifCond .ne 37, 3) := by decide +kernel
theorem dX13_cut_28 : decode KX13_cut.2.2.1 28 = .ok (.iload 4, 2) := by decide +kernel
theorem dX13_cut_30 : decode KX13_cut.2.2.1 30 = .ok (.i2l, 1) := by decide +kernel
theorem dX13_cut_31 : decode KX13_cut.2.2.1 31 = .ok (.lconst 0, 1) := by decide +kernel
theorem dX13_cut_32 : decode KX13_cut.2.2.1 32 = .ok (.ldc2_w 111, 3) := by decide +kernel
theorem dX13_cut_35 : decode KX13_cut.2.2.1 35 = .ok (.invokestatic 105, 3) := by decide +kernel
theorem dX13_cut_38 : decode KX13_cut.2.2.1 38 = .ok (.ifCond .ne 24, 3) := by decide +kernel
theorem dX13_cut_41 : decode KX13_cut.2.2.1 41 = .ok (.lload 5, 2) := by decide +kernel
theorem dX13_cut_43 : decode KX13_cut.2.2.1 43 = .ok (.lconst 0, 1) := by decide +kernel
theorem dX13_cut_44 : decode KX13_cut.2.2.1 44 = .ok (.ldc2_w 113, 3) := by decide +kernel
theorem dX13_cut_47 : decode KX13_cut.2.2.1 47 = .ok (.invokestatic 105, 3) := by decide +kernel
theorem dX13_cut_50 : decode KX13_cut.2.2.1 50 = .ok (.ifCond .ne 12, 3) := by decide +kernel
theorem dX13_cut_53 : decode KX13_cut.2.2.1 53 = .ok (.aload_n 0, 1) := by decide +kernel
theorem dX13_cut_54 : decode KX13_cut.2.2.1 54 = .ok (.getfield 115, 3) := by decide +kernel
theorem dX13_cut_57 : decode KX13_cut.2.2.1 57 = .ok (.bipush 8, 2) := by decide +kernel
theorem dX13_cut_59 : decode KX13_cut.2.2.1 59 = .ok (.if_icmp .ne 5, 3) := by decide +kernel
theorem dX13_cut_62 : decode KX13_cut.2.2.1 62 = .ok (.iconst (-1), 1) := by decide +kernel
theorem dX13_cut_63 : decode KX13_cut.2.2.1 63 = .ok (.ireturn, 1) := by decide +kernel
theorem dX13_cut_64 : decode KX13_cut.2.2.1 64 = .ok (.aload_n 0, 1) := by decide +kernel
theorem dX13_cut_65 : decode KX13_cut.2.2.1 65 = .ok (.getfield 7, 3) := by decide +kernel
theorem dX13_cut_68 : decode KX13_cut.2.2.1 68 = .ok (.aload_n 0, 1) := by decide +kernel
theorem dX13_cut_69 : decode KX13_cut.2.2.1 69 = .ok (.getfield 115, 3) := by decide +kernel
theorem dX13_cut_72 : decode KX13_cut.2.2.1 72 = .ok (.lload_n 1, 1) := by decide +kernel
theorem dX13_cut_73 : decode KX13_cut.2.2.1 73 = .ok (.l2i, 1) := by decide +kernel
theorem dX13_cut_74 : decode KX13_cut.2.2.1 74 = .ok (.iastore, 1) := by decide +kernel
theorem dX13_cut_75 : decode KX13_cut.2.2.1 75 = .ok (.aload_n 0, 1) := by decide +kernel
theorem dX13_cut_76 : decode KX13_cut.2.2.1 76 = .ok (.getfield 13, 3) := by decide +kernel
theorem dX13_cut_79 : decode KX13_cut.2.2.1 79 = .ok (.aload_n 0, 1) := by decide +kernel
theorem dX13_cut_80 : decode KX13_cut.2.2.1 80 = .ok (.getfield 115, 3) := by decide +kernel
theorem dX13_cut_83 : decode KX13_cut.2.2.1 83 = .ok (.iload_n 3, 1) := by decide +kernel
theorem dX13_cut_84 : decode KX13_cut.2.2.1 84 = .ok (.iastore, 1) := by decide +kernel
theorem dX13_cut_85 : decode KX13_cut.2.2.1 85 = .ok (.aload_n 0, 1) := by decide +kernel
theorem dX13_cut_86 : decode KX13_cut.2.2.1 86 = .ok (.getfield 16, 3) := by decide +kernel
theorem dX13_cut_89 : decode KX13_cut.2.2.1 89 = .ok (.aload_n 0, 1) := by decide +kernel
theorem dX13_cut_90 : decode KX13_cut.2.2.1 90 = .ok (.getfield 115, 3) := by decide +kernel
theorem dX13_cut_93 : decode KX13_cut.2.2.1 93 = .ok (.iload 4, 2) := by decide +kernel
theorem dX13_cut_95 : decode KX13_cut.2.2.1 95 = .ok (.iastore, 1) := by decide +kernel
theorem dX13_cut_96 : decode KX13_cut.2.2.1 96 = .ok (.aload_n 0, 1) := by decide +kernel
theorem dX13_cut_97 : decode KX13_cut.2.2.1 97 = .ok (.getfield 19, 3) := by decide +kernel
theorem dX13_cut_100 : decode KX13_cut.2.2.1 100 = .ok (.aload_n 0, 1) := by decide +kernel
theorem dX13_cut_101 : decode KX13_cut.2.2.1 101 = .ok (.getfield 115, 3) := by decide +kernel
theorem dX13_cut_104 : decode KX13_cut.2.2.1 104 = .ok (.lload 5, 2) := by decide +kernel
theorem dX13_cut_106 : decode KX13_cut.2.2.1 106 = .ok (.l2i, 1) := by decide +kernel
theorem dX13_cut_107 : decode KX13_cut.2.2.1 107 = .ok (.iastore, 1) := by decide +kernel
theorem dX13_cut_108 : decode KX13_cut.2.2.1 108 = .ok (.aload_n 0, 1) := by decide +kernel
theorem dX13_cut_109 : decode KX13_cut.2.2.1 109 = .ok (.dup, 1) := by decide +kernel
theorem dX13_cut_110 : decode KX13_cut.2.2.1 110 = .ok (.getfield 115, 3) := by decide +kernel
theorem dX13_cut_113 : decode KX13_cut.2.2.1 113 = .ok (.iconst 1, 1) := by decide +kernel
theorem dX13_cut_114 : decode KX13_cut.2.2.1 114 = .ok (.iadd, 1) := by decide +kernel
theorem dX13_cut_115 : decode KX13_cut.2.2.1 115 = .ok (.putfield 115, 3) := by decide +kernel
theorem dX13_cut_118 : decode KX13_cut.2.2.1 118 = .ok (.aload_n 0, 1) := by decide +kernel
theorem dX13_cut_119 : decode KX13_cut.2.2.1 119 = .ok (.invokevirtual 118, 3) := by decide +kernel
theorem dX13_cut_122 : decode KX13_cut.2.2.1 122 = .ok (.aload_n 0, 1) := by decide +kernel
theorem dX13_cut_123 : decode KX13_cut.2.2.1 123 = .ok (.getfield 115, 3) := by decide +kernel
theorem dX13_cut_126 : decode KX13_cut.2.2.1 126 = .ok (.iconst 1, 1) := by decide +kernel
theorem dX13_cut_127 : decode KX13_cut.2.2.1 127 = .ok (.isub, 1) := by decide +kernel
theorem dX13_cut_128 : decode KX13_cut.2.2.1 128 = .ok (.ireturn, 1) := by decide +kernel
abbrev q_X13_cut (a1 a2 a3 a4 : Int) (h : MH) : MO → MH → Prop := mRI fun v h' => GI h' ∧ (-1) ≤ v ∧ v ≤ 7
set_option maxRecDepth 20000 in
theorem c_X13_cut {a1 a2 a3 a4 : Int} {h : MH} (g : GI h) : MCal KX13_cut yX13_cut 0 0 [(2, 2468), (1, a1), (0, a2), (0, a3), (1, a4)] h (q_X13_cut a1 a2 a3 a4 h) := by
  refine MCal.ofMW (Or.inl rfl) ⟨cp_X13, rfl⟩ (Nat.le_of_ble_eq_true rfl) ?_
  change MW _ _ _ _ _ [(0, (2, 2468)), (1, (1, a1)), (3, (0, a2)), (4, (0, a3)), (5, (1, a4))] _ _
  refine m_locL (i := 1) rfl (fun ua1 wa1 => ?_)
  refine m_locI (i := 3) rfl (fun ua2 wa2 => ?_)
  refine m_locI (i := 4) rfl (fun ua3 wa3 => ?_)
  refine m_locL (i := 5) rfl (fun ua4 wa4 => ?_)
  refine m_aload_n 1 dX13_cut_0 rfl rfl (by decide) ?_
  refine m_iconst 2 dX13_cut_1 rfl (by decide) ?_
  refine m_putfield 5 dX13_cut_2 rfl (ci := 13) rfl lu_X13 tyX13_ok nmX13 (k := 0) (by decide) (Or.inl rfl) lfX13_92 (tag := 0) rfl (fun _ => rfl) (fun _ => rfl) (by decide) (GI.lt g (by decide)) (gk2468 g) ?_
  refine m_heap (fun h1 eh1 => ?_)
  have g2 : GI h1 := eh1 ▸ GI.set g (by decide) (fun _ => by show 0 ≤ _ ∧ _ ≤ 1; omega)
  have m3 : (h1.2 2468).2.2 0 = 0 := by rw [eh1]; rfl
  clear eh1
  refine m_lload_n 6 dX13_cut_5 rfl rfl ?_
  refine m_lconst 7 dX13_cut_6 rfl ?_
  refine m_ldc2 (n := 1000000) 10 dX13_cut_7 rfl lcX13_103 rfl (by decide) ?_
  refine m_invokestatic (K' := KX13_isOut) (As := [(1, a1), (1, 1), (1, 1000000)]) dX13_cut_10 (fun _ => by decide) ⟨lo_X13_isOut, li_X13⟩ ⟨lmX13_105, lv_X13_isOut_s⟩ ⟨rfl, cy_X13_isOut⟩ ⟨Nat.le_of_ble_eq_true rfl, Nat.le_of_ble_eq_true rfl⟩ (Nat.le_of_ble_eq_true rfl) rfl (Nat.zero_le _) (Nat.zero_le _) (c_X13_isOut) (mkI fun v4 h5 q6 => ?_)
  obtain ⟨rfl, q6⟩ := q6
  rcases q6 with ⟨rfl, q6⟩ | ⟨rfl, q6⟩
  · skip
    refine m_if_ne 16 62 dX13_cut_13 rfl rfl (fun c7 => ?_) (fun c7 => ?_)
    · exfalso; omega
    · skip
      refine m_iload_n 17 dX13_cut_16 rfl rfl ?_
      refine m_i2l 18 dX13_cut_17 rfl ?_
      refine m_lconst 19 dX13_cut_18 rfl ?_
      refine m_ldc2 (n := 3) 22 dX13_cut_19 rfl lcX13_109 rfl (by decide) ?_
      refine m_invokestatic (K' := KX13_isOut) (As := [(1, a2), (1, 0), (1, 3)]) dX13_cut_22 (fun _ => by decide) ⟨lo_X13_isOut, li_X13⟩ ⟨lmX13_105, lv_X13_isOut_s⟩ ⟨rfl, cy_X13_isOut⟩ ⟨Nat.le_of_ble_eq_true rfl, Nat.le_of_ble_eq_true rfl⟩ (Nat.le_of_ble_eq_true rfl) rfl (Nat.zero_le _) (Nat.zero_le _) (c_X13_isOut) (mkI fun v8 h9 q10 => ?_)
      obtain ⟨rfl, q10⟩ := q10
      rcases q10 with ⟨rfl, q10⟩ | ⟨rfl, q10⟩
      · skip
        refine m_if_ne 28 62 dX13_cut_25 rfl rfl (fun c11 => ?_) (fun c11 => ?_)
        · exfalso; omega
        · skip
          refine m_iload 30 dX13_cut_28 rfl rfl ?_
          refine m_i2l 31 dX13_cut_30 rfl ?_
          refine m_lconst 32 dX13_cut_31 rfl ?_
          refine m_ldc2 (n := 11) 35 dX13_cut_32 rfl lcX13_111 rfl (by decide) ?_
          refine m_invokestatic (K' := KX13_isOut) (As := [(1, a3), (1, 0), (1, 11)]) dX13_cut_35 (fun _ => by decide) ⟨lo_X13_isOut, li_X13⟩ ⟨lmX13_105, lv_X13_isOut_s⟩ ⟨rfl, cy_X13_isOut⟩ ⟨Nat.le_of_ble_eq_true rfl, Nat.le_of_ble_eq_true rfl⟩ (Nat.le_of_ble_eq_true rfl) rfl (Nat.zero_le _) (Nat.zero_le _) (c_X13_isOut) (mkI fun v12 h13 q14 => ?_)
          obtain ⟨rfl, q14⟩ := q14
          rcases q14 with ⟨rfl, q14⟩ | ⟨rfl, q14⟩
          · skip
            refine m_if_ne 41 62 dX13_cut_38 rfl rfl (fun c15 => ?_) (fun c15 => ?_)
            · exfalso; omega
            · skip
              refine m_lload 43 dX13_cut_41 rfl rfl ?_
              refine m_lconst 44 dX13_cut_43 rfl ?_
              refine m_ldc2 (n := 100000) 47 dX13_cut_44 rfl lcX13_113 rfl (by decide) ?_
              refine m_invokestatic (K' := KX13_isOut) (As := [(1, a4), (1, 0), (1, 100000)]) dX13_cut_47 (fun _ => by decide) ⟨lo_X13_isOut, li_X13⟩ ⟨lmX13_105, lv_X13_isOut_s⟩ ⟨rfl, cy_X13_isOut⟩ ⟨Nat.le_of_ble_eq_true rfl, Nat.le_of_ble_eq_true rfl⟩ (Nat.le_of_ble_eq_true rfl) rfl (Nat.zero_le _) (Nat.zero_le _) (c_X13_isOut) (mkI fun v16 h17 q18 => ?_)
              obtain ⟨rfl, q18⟩ := q18
              rcases q18 with ⟨rfl, q18⟩ | ⟨rfl, q18⟩
              · skip
                refine m_if_ne 53 62 dX13_cut_50 rfl rfl (fun c19 => ?_) (fun c19 => ?_)
                · exfalso; omega
                · skip
                  refine m_aload_n 54 dX13_cut_53 rfl rfl (by decide) ?_
                  refine m_getfield 57 dX13_cut_54 rfl (ci := 13) rfl lu_X13 (k := 1) (by decide) lfX13_115 (tag := 0) rfl (by decide) (GI.lt g2 (by decide)) (gk2468 g2) (fun v20 (ev20 : v20 = (h1.2 2468).2.2 1) _ => ?_)
                  have bv20 : 0 ≤ v20 ∧ v20 ≤ 8 := by rw [ev20]; exact gf2468_1 g2
                  refine m_bipush 59 dX13_cut_57 rfl (by decide) ?_
                  refine m_ic_ne 62 64 dX13_cut_59 rfl rfl (fun c21 => ?_) (fun c21 => ?_)
                  · skip
                    refine m_aload_n 65 dX13_cut_64 rfl rfl (by decide) ?_
                    refine m_getfieldC 68 dX13_cut_65 rfl (ci := 13) rfl lu_X13 (k := 2) (by decide) lfX13_7 (tag := 2) rfl (by decide) (GI.lt g2 (by decide)) (gk2468 g2) (gf2468_2 g2) ?_
                    refine m_aload_n 69 dX13_cut_68 rfl rfl (by decide) ?_
                    refine m_getfield 72 dX13_cut_69 rfl (ci := 13) rfl lu_X13 (k := 1) (by decide) lfX13_115 (tag := 0) rfl (by decide) (GI.lt g2 (by decide)) (gk2468 g2) (fun v22 (ev22 : v22 = (h1.2 2468).2.2 1) _ => ?_)
                    have bv22 : 0 ≤ v22 ∧ v22 ≤ 8 := by rw [ev22]; exact gf2468_1 g2
                    have qv22 : v20 = v22 := (ev22.trans ev20.symm).symm
                    subst qv22
                    refine m_lload_n 73 dX13_cut_72 rfl rfl ?_
                    refine m_l2i 74 dX13_cut_73 rfl (by omega) ?_
                    refine m_iast 75 dX13_cut_74 rfl (by decide) (by decide) (GI.lt g2 (by decide)) (gk2469 g2) (by omega) (m_len (gl2469 g2) (by omega)) ?_
                    refine m_heap (fun h23 eh23 => ?_)
                    have g24 : GI h23 := eh23 ▸ GI.set g2 (by decide) (fun _ => by show 0 ≤ _ ∧ _ ≤ 1000000; omega)
                    have m25 : (h23.2 2468).2.2 0 = 0 := by rw [eh23]; exact m3
                    have m26 : (h23.2 2468).2.2 1 = v20 := by rw [eh23]; exact ev20.symm
                    clear eh23
                    refine m_aload_n 76 dX13_cut_75 rfl rfl (by decide) ?_
                    refine m_getfieldC 79 dX13_cut_76 rfl (ci := 13) rfl lu_X13 (k := 3) (by decide) lfX13_13 (tag := 2) rfl (by decide) (GI.lt g24 (by decide)) (gk2468 g24) (gf2468_3 g24) ?_
                    refine m_aload_n 80 dX13_cut_79 rfl rfl (by decide) ?_
                    refine m_getfield 83 dX13_cut_80 rfl (ci := 13) rfl lu_X13 (k := 1) (by decide) lfX13_115 (tag := 0) rfl (by decide) (GI.lt g24 (by decide)) (gk2468 g24) (fun v27 (ev27 : v27 = (h23.2 2468).2.2 1) _ => ?_)
                    have bv27 : 0 ≤ v27 ∧ v27 ≤ 8 := by rw [ev27]; exact gf2468_1 g24
                    have qv27 : v20 = v27 := (ev27.trans m26).symm
                    subst qv27
                    refine m_iload_n 84 dX13_cut_83 rfl rfl ?_
                    refine m_iast 85 dX13_cut_84 rfl (by decide) (by decide) (GI.lt g24 (by decide)) (gk2470 g24) (by omega) (m_len (gl2470 g24) (by omega)) ?_
                    refine m_heap (fun h28 eh28 => ?_)
                    have g29 : GI h28 := eh28 ▸ GI.set g24 (by decide) (fun _ => by show 0 ≤ _ ∧ _ ≤ 3; omega)
                    have m30 : (h28.2 2468).2.2 0 = 0 := by rw [eh28]; exact m25
                    have m31 : (h28.2 2468).2.2 1 = v20 := by rw [eh28]; exact m26
                    clear eh28
                    refine m_aload_n 86 dX13_cut_85 rfl rfl (by decide) ?_
                    refine m_getfieldC 89 dX13_cut_86 rfl (ci := 13) rfl lu_X13 (k := 4) (by decide) lfX13_16 (tag := 2) rfl (by decide) (GI.lt g29 (by decide)) (gk2468 g29) (gf2468_4 g29) ?_
                    refine m_aload_n 90 dX13_cut_89 rfl rfl (by decide) ?_
                    refine m_getfield 93 dX13_cut_90 rfl (ci := 13) rfl lu_X13 (k := 1) (by decide) lfX13_115 (tag := 0) rfl (by decide) (GI.lt g29 (by decide)) (gk2468 g29) (fun v32 (ev32 : v32 = (h28.2 2468).2.2 1) _ => ?_)
                    have bv32 : 0 ≤ v32 ∧ v32 ≤ 8 := by rw [ev32]; exact gf2468_1 g29
                    have qv32 : v20 = v32 := (ev32.trans m31).symm
                    subst qv32
                    refine m_iload 95 dX13_cut_93 rfl rfl ?_
                    refine m_iast 96 dX13_cut_95 rfl (by decide) (by decide) (GI.lt g29 (by decide)) (gk2471 g29) (by omega) (m_len (gl2471 g29) (by omega)) ?_
                    refine m_heap (fun h33 eh33 => ?_)
                    have g34 : GI h33 := eh33 ▸ GI.set g29 (by decide) (fun _ => by show 0 ≤ _ ∧ _ ≤ 11; omega)
                    have m35 : (h33.2 2468).2.2 0 = 0 := by rw [eh33]; exact m30
                    have m36 : (h33.2 2468).2.2 1 = v20 := by rw [eh33]; exact m31
                    clear eh33
                    refine m_aload_n 97 dX13_cut_96 rfl rfl (by decide) ?_
                    refine m_getfieldC 100 dX13_cut_97 rfl (ci := 13) rfl lu_X13 (k := 5) (by decide) lfX13_19 (tag := 2) rfl (by decide) (GI.lt g34 (by decide)) (gk2468 g34) (gf2468_5 g34) ?_
                    refine m_aload_n 101 dX13_cut_100 rfl rfl (by decide) ?_
                    refine m_getfield 104 dX13_cut_101 rfl (ci := 13) rfl lu_X13 (k := 1) (by decide) lfX13_115 (tag := 0) rfl (by decide) (GI.lt g34 (by decide)) (gk2468 g34) (fun v37 (ev37 : v37 = (h33.2 2468).2.2 1) _ => ?_)
                    have bv37 : 0 ≤ v37 ∧ v37 ≤ 8 := by rw [ev37]; exact gf2468_1 g34
                    have qv37 : v20 = v37 := (ev37.trans m36).symm
                    subst qv37
                    refine m_lload 106 dX13_cut_104 rfl rfl ?_
                    refine m_l2i 107 dX13_cut_106 rfl (by omega) ?_
                    refine m_iast 108 dX13_cut_107 rfl (by decide) (by decide) (GI.lt g34 (by decide)) (gk2472 g34) (by omega) (m_len (gl2472 g34) (by omega)) ?_
                    refine m_heap (fun h38 eh38 => ?_)
                    have g39 : GI h38 := eh38 ▸ GI.set g34 (by decide) (fun _ => by show 0 ≤ _ ∧ _ ≤ 100000; omega)
                    have m40 : (h38.2 2468).2.2 0 = 0 := by rw [eh38]; exact m35
                    have m41 : (h38.2 2468).2.2 1 = v20 := by rw [eh38]; exact m36
                    clear eh38
                    refine m_aload_n 109 dX13_cut_108 rfl rfl (by decide) ?_
                    refine m_dup 110 dX13_cut_109 rfl rfl ?_
                    refine m_getfield 113 dX13_cut_110 rfl (ci := 13) rfl lu_X13 (k := 1) (by decide) lfX13_115 (tag := 0) rfl (by decide) (GI.lt g39 (by decide)) (gk2468 g39) (fun v42 (ev42 : v42 = (h38.2 2468).2.2 1) _ => ?_)
                    have bv42 : 0 ≤ v42 ∧ v42 ≤ 8 := by rw [ev42]; exact gf2468_1 g39
                    have qv42 : v20 = v42 := (ev42.trans m41).symm
                    subst qv42
                    refine m_iconst 114 dX13_cut_113 rfl (by decide) ?_
                    refine m_iadd 115 dX13_cut_114 rfl (by omega) ?_
                    refine m_putfield 118 dX13_cut_115 rfl (ci := 13) rfl lu_X13 tyX13_ok nmX13 (k := 1) (by decide) (Or.inl rfl) lfX13_115 (tag := 0) rfl (fun _ => rfl) (fun _ => rfl) (by decide) (GI.lt g39 (by decide)) (gk2468 g39) ?_
                    refine m_heap (fun h43 eh43 => ?_)
                    have g44 : GI h43 := eh43 ▸ GI.set g39 (by decide) (fun _ => by show 0 ≤ _ ∧ _ ≤ 8; omega)
                    have m45 : (h43.2 2468).2.2 0 = 0 := by rw [eh43]; exact m40
                    have m46 : (h43.2 2468).2.2 1 = (v20 + 1) := by rw [eh43]; rfl
                    clear eh43
                    refine m_aload_n 119 dX13_cut_118 rfl rfl (by decide) ?_
                    refine m_invokevirtual (K' := KX13_drop) (As := []) dX13_cut_119 (fun _ => by decide) ⟨lo_X13_drop, li_X13⟩ (ci := 13) (r := 2468) rfl (by decide) (GI.lt g44 (by decide)) (gk2468 g44) ⟨lmX13_118, lv_X13_drop_i, ls_X13_drop⟩ ⟨rfl, cy_X13_drop⟩ ⟨Nat.le_of_ble_eq_true rfl, Nat.le_of_ble_eq_true rfl⟩ (Nat.le_of_ble_eq_true rfl) rfl (Nat.zero_le _) (Nat.zero_le _) (c_X13_drop g44) (mkV fun h48 q49 => ?_)
                    have g50 : GI h48 := q49
                    refine m_aload_n 123 dX13_cut_122 rfl rfl (by decide) ?_
                    refine m_getfield 126 dX13_cut_123 rfl (ci := 13) rfl lu_X13 (k := 1) (by decide) lfX13_115 (tag := 0) rfl (by decide) (GI.lt g50 (by decide)) (gk2468 g50) (fun v51 (ev51 : v51 = (h48.2 2468).2.2 1) _ => ?_)
                    have bv51 : 0 ≤ v51 ∧ v51 ≤ 8 := by rw [ev51]; exact gf2468_1 g50
                    refine m_iconst 127 dX13_cut_126 rfl (by decide) ?_
                    refine m_isub 128 dX13_cut_127 rfl (by omega) ?_
                    exact m_ireturn dX13_cut_128 rfl rfl (mqI ⟨g50, by omega⟩)
                  · skip
                    refine m_iconst 63 dX13_cut_62 rfl (by decide) ?_
                    exact m_ireturn dX13_cut_63 rfl rfl (mqI ⟨g2, by omega⟩)
              · skip
                refine m_if_ne 53 62 dX13_cut_50 rfl rfl (fun c52 => ?_) (fun c52 => ?_)
                · skip
                  refine m_iconst 63 dX13_cut_62 rfl (by decide) ?_
                  exact m_ireturn dX13_cut_63 rfl rfl (mqI ⟨g2, by omega⟩)
                · exfalso; omega
          · skip
            refine m_if_ne 41 62 dX13_cut_38 rfl rfl (fun c53 => ?_) (fun c53 => ?_)
            · skip
              refine m_iconst 63 dX13_cut_62 rfl (by decide) ?_
              exact m_ireturn dX13_cut_63 rfl rfl (mqI ⟨g2, by omega⟩)
            · exfalso; omega
      · skip
        refine m_if_ne 28 62 dX13_cut_25 rfl rfl (fun c54 => ?_) (fun c54 => ?_)
        · skip
          refine m_iconst 63 dX13_cut_62 rfl (by decide) ?_
          exact m_ireturn dX13_cut_63 rfl rfl (mqI ⟨g2, by omega⟩)
        · exfalso; omega
  · skip
    refine m_if_ne 16 62 dX13_cut_13 rfl rfl (fun c55 => ?_) (fun c55 => ?_)
    · skip
      refine m_iconst 63 dX13_cut_62 rfl (by decide) ?_
      exact m_ireturn dX13_cut_63 rfl rfl (mqI ⟨g2, by omega⟩)
    · exfalso; omega
theorem cy_X13_fill : yX13_fill.cls ≠ "java/lang/invoke/MethodHandle" ∧ yX13_fill.cls ≠ "java/lang/invoke/VarHandle" ∧ (parseMethodDescriptor yX13_fill.desc).map (fun d => d.parameters.length) = some 3 := by decide +kernel
theorem dX13_fill_0 : decode KX13_fill.2.2.1 0 = .ok (.aload_n 0, 1) := by decide +kernel
theorem dX13_fill_1 : decode KX13_fill.2.2.1 1 = .ok (.iconst 0, 1) := by decide +kernel
theorem dX13_fill_2 : decode KX13_fill.2.2.1 2 = .ok (.putfield 92, 3) := by decide +kernel
theorem dX13_fill_5 : decode KX13_fill.2.2.1 5 = .ok (.lload_n 1, 1) := by decide +kernel
theorem dX13_fill_6 : decode KX13_fill.2.2.1 6 = .ok (.lconst 1, 1) := by decide +kernel
theorem dX13_fill_7 : decode KX13_fill.2.2.1 7 = .ok (.ldc2_w 103, 3) := by decide +kernel
theorem dX13_fill_10 : decode KX13_fill.2.2.1 10 = .ok (.invokestatic 105, 3) := by decide +kernel
theorem dX13_fill_13 : decode KX13_fill.2.2.1 13 = .ok (.ifCond .ne 36, 3) := by decide +kernel
theorem dX13_fill_16 : decode KX13_fill.2.2.1 16 = .ok (.iload_n 3, 1) := by decide +kernel
theorem dX13_fill_17 : decode KX13_fill.2.2.1 17 = .ok (.i2l, 1) := by decide +kernel
theorem dX13_fill_18 : decode KX13_fill.2.2.1 18 = .ok (.lconst 0, 1) := by decide +kernel
theorem dX13_fill_19 : decode KX13_fill.2.2.1 19 = .ok (.ldc2_w 111, 3) := by decide +kernel
theorem dX13_fill_22 : decode KX13_fill.2.2.1 22 = .ok (.invokestatic 105, 3) := by decide +kernel
theorem dX13_fill_25 : decode KX13_fill.2.2.1 25 = .ok (.ifCond .ne 24, 3) := by decide +kernel
theorem dX13_fill_28 : decode KX13_fill.2.2.1 28 = .ok (.lload 4, 2) := by decide +kernel
theorem dX13_fill_30 : decode KX13_fill.2.2.1 30 = .ok (.lconst 0, 1) := by decide +kernel
theorem dX13_fill_31 : decode KX13_fill.2.2.1 31 = .ok (.ldc2_w 113, 3) := by decide +kernel
theorem dX13_fill_34 : decode KX13_fill.2.2.1 34 = .ok (.invokestatic 105, 3) := by decide +kernel
theorem dX13_fill_37 : decode KX13_fill.2.2.1 37 = .ok (.ifCond .ne 12, 3) := by decide +kernel
theorem dX13_fill_40 : decode KX13_fill.2.2.1 40 = .ok (.aload_n 0, 1) := by decide +kernel
theorem dX13_fill_41 : decode KX13_fill.2.2.1 41 = .ok (.getfield 121, 3) := by decide +kernel
theorem dX13_fill_44 : decode KX13_fill.2.2.1 44 = .ok (.bipush 8, 2) := by decide +kernel
theorem dX13_fill_46 : decode KX13_fill.2.2.1 46 = .ok (.if_icmp .ne 5, 3) := by decide +kernel
theorem dX13_fill_49 : decode KX13_fill.2.2.1 49 = .ok (.iconst (-1), 1) := by decide +kernel
theorem dX13_fill_50 : decode KX13_fill.2.2.1 50 = .ok (.ireturn, 1) := by decide +kernel
theorem dX13_fill_51 : decode KX13_fill.2.2.1 51 = .ok (.aload_n 0, 1) := by decide +kernel
theorem dX13_fill_52 : decode KX13_fill.2.2.1 52 = .ok (.getfield 28, 3) := by decide +kernel
theorem dX13_fill_55 : decode KX13_fill.2.2.1 55 = .ok (.aload_n 0, 1) := by decide +kernel
theorem dX13_fill_56 : decode KX13_fill.2.2.1 56 = .ok (.getfield 121, 3) := by decide +kernel
theorem dX13_fill_59 : decode KX13_fill.2.2.1 59 = .ok (.lload_n 1, 1) := by decide +kernel
theorem dX13_fill_60 : decode KX13_fill.2.2.1 60 = .ok (.l2i, 1) := by decide +kernel
theorem dX13_fill_61 : decode KX13_fill.2.2.1 61 = .ok (.iastore, 1) := by decide +kernel
theorem dX13_fill_62 : decode KX13_fill.2.2.1 62 = .ok (.aload_n 0, 1) := by decide +kernel
theorem dX13_fill_63 : decode KX13_fill.2.2.1 63 = .ok (.getfield 31, 3) := by decide +kernel
theorem dX13_fill_66 : decode KX13_fill.2.2.1 66 = .ok (.aload_n 0, 1) := by decide +kernel
theorem dX13_fill_67 : decode KX13_fill.2.2.1 67 = .ok (.getfield 121, 3) := by decide +kernel
theorem dX13_fill_70 : decode KX13_fill.2.2.1 70 = .ok (.iload_n 3, 1) := by decide +kernel
theorem dX13_fill_71 : decode KX13_fill.2.2.1 71 = .ok (.iastore, 1) := by decide +kernel
theorem dX13_fill_72 : decode KX13_fill.2.2.1 72 = .ok (.aload_n 0, 1) := by decide +kernel
theorem dX13_fill_73 : decode KX13_fill.2.2.1 73 = .ok (.getfield 34, 3) := by decide +kernel
theorem dX13_fill_76 : decode KX13_fill.2.2.1 76 = .ok (.aload_n 0, 1) := by decide +kernel
theorem dX13_fill_77 : decode KX13_fill.2.2.1 77 = .ok (.getfield 121, 3) := by decide +kernel
theorem dX13_fill_80 : decode KX13_fill.2.2.1 80 = .ok (.lload 4, 2) := by decide +kernel
theorem dX13_fill_82 : decode KX13_fill.2.2.1 82 = .ok (.l2i, 1) := by decide +kernel
theorem dX13_fill_83 : decode KX13_fill.2.2.1 83 = .ok (.iastore, 1) := by decide +kernel
theorem dX13_fill_84 : decode KX13_fill.2.2.1 84 = .ok (.aload_n 0, 1) := by decide +kernel
theorem dX13_fill_85 : decode KX13_fill.2.2.1 85 = .ok (.dup, 1) := by decide +kernel
theorem dX13_fill_86 : decode KX13_fill.2.2.1 86 = .ok (.getfield 121, 3) := by decide +kernel
theorem dX13_fill_89 : decode KX13_fill.2.2.1 89 = .ok (.iconst 1, 1) := by decide +kernel
theorem dX13_fill_90 : decode KX13_fill.2.2.1 90 = .ok (.iadd, 1) := by decide +kernel
theorem dX13_fill_91 : decode KX13_fill.2.2.1 91 = .ok (.putfield 121, 3) := by decide +kernel
theorem dX13_fill_94 : decode KX13_fill.2.2.1 94 = .ok (.aload_n 0, 1) := by decide +kernel
theorem dX13_fill_95 : decode KX13_fill.2.2.1 95 = .ok (.invokevirtual 118, 3) := by decide +kernel
theorem dX13_fill_98 : decode KX13_fill.2.2.1 98 = .ok (.aload_n 0, 1) := by decide +kernel
theorem dX13_fill_99 : decode KX13_fill.2.2.1 99 = .ok (.getfield 121, 3) := by decide +kernel
theorem dX13_fill_102 : decode KX13_fill.2.2.1 102 = .ok (.iconst 1, 1) := by decide +kernel
theorem dX13_fill_103 : decode KX13_fill.2.2.1 103 = .ok (.isub, 1) := by decide +kernel
theorem dX13_fill_104 : decode KX13_fill.2.2.1 104 = .ok (.ireturn, 1) := by decide +kernel
abbrev q_X13_fill (a1 a2 a3 : Int) (h : MH) : MO → MH → Prop := mRI fun v h' => GI h' ∧ (-1) ≤ v ∧ v ≤ 7
set_option maxRecDepth 20000 in
theorem c_X13_fill {a1 a2 a3 : Int} {h : MH} (g : GI h) : MCal KX13_fill yX13_fill 0 0 [(2, 2468), (1, a1), (0, a2), (1, a3)] h (q_X13_fill a1 a2 a3 h) := by
  refine MCal.ofMW (Or.inl rfl) ⟨cp_X13, rfl⟩ (Nat.le_of_ble_eq_true rfl) ?_
  change MW _ _ _ _ _ [(0, (2, 2468)), (1, (1, a1)), (3, (0, a2)), (4, (1, a3))] _ _
  refine m_locL (i := 1) rfl (fun ua1 wa1 => ?_)
  refine m_locI (i := 3) rfl (fun ua2 wa2 => ?_)
  refine m_locL (i := 4) rfl (fun ua3 wa3 => ?_)
  refine m_aload_n 1 dX13_fill_0 rfl rfl (by decide) ?_
  refine m_iconst 2 dX13_fill_1 rfl (by decide) ?_
  refine m_putfield 5 dX13_fill_2 rfl (ci := 13) rfl lu_X13 tyX13_ok nmX13 (k := 0) (by decide) (Or.inl rfl) lfX13_92 (tag := 0) rfl (fun _ => rfl) (fun _ => rfl) (by decide) (GI.lt g (by decide)) (gk2468 g) ?_
  refine m_heap (fun h1 eh1 => ?_)
  have g2 : GI h1 := eh1 ▸ GI.set g (by decide) (fun _ => by show 0 ≤ _ ∧ _ ≤ 1; omega)
  have m3 : (h1.2 2468).2.2 0 = 0 := by rw [eh1]; rfl
  clear eh1
  refine m_lload_n 6 dX13_fill_5 rfl rfl ?_
  refine m_lconst 7 dX13_fill_6 rfl ?_
  refine m_ldc2 (n := 1000000) 10 dX13_fill_7 rfl lcX13_103 rfl (by decide) ?_
  refine m_invokestatic (K' := KX13_isOut) (As := [(1, a1), (1, 1), (1, 1000000)]) dX13_fill_10 (fun _ => by decide) ⟨lo_X13_isOut, li_X13⟩ ⟨lmX13_105, lv_X13_isOut_s⟩ ⟨rfl, cy_X13_isOut⟩ ⟨Nat.le_of_ble_eq_true rfl, Nat.le_of_ble_eq_true rfl⟩ (Nat.le_of_ble_eq_true rfl) rfl (Nat.zero_le _) (Nat.zero_le _) (c_X13_isOut) (mkI fun v4 h5 q6 => ?_)
  obtain ⟨rfl, q6⟩ := q6
  rcases q6 with ⟨rfl, q6⟩ | ⟨rfl, q6⟩
  · skip
    refine m_if_ne 16 49 dX13_fill_13 rfl rfl (fun c7 => ?_) (fun c7 => ?_)
    · exfalso; omega
    · skip
      refine m_iload_n 17 dX13_fill_16 rfl rfl ?_
      refine m_i2l 18 dX13_fill_17 rfl ?_
      refine m_lconst 19 dX13_fill_18 rfl ?_
      refine m_ldc2 (n := 11) 22 dX13_fill_19 rfl lcX13_111 rfl (by decide) ?_
      refine m_invokestatic (K' := KX13_isOut) (As := [(1, a2), (1, 0), (1, 11)]) dX13_fill_22 (fun _ => by decide) ⟨lo_X13_isOut, li_X13⟩ ⟨lmX13_105, lv_X13_isOut_s⟩ ⟨rfl, cy_X13_isOut⟩ ⟨Nat.le_of_ble_eq_true rfl, Nat.le_of_ble_eq_true rfl⟩ (Nat.le_of_ble_eq_true rfl) rfl (Nat.zero_le _) (Nat.zero_le _) (c_X13_isOut) (mkI fun v8 h9 q10 => ?_)
      obtain ⟨rfl, q10⟩ := q10
      rcases q10 with ⟨rfl, q10⟩ | ⟨rfl, q10⟩
      · skip
        refine m_if_ne 28 49 dX13_fill_25 rfl rfl (fun c11 => ?_) (fun c11 => ?_)
        · exfalso; omega
        · skip
          refine m_lload 30 dX13_fill_28 rfl rfl ?_
          refine m_lconst 31 dX13_fill_30 rfl ?_
          refine m_ldc2 (n := 100000) 34 dX13_fill_31 rfl lcX13_113 rfl (by decide) ?_
          refine m_invokestatic (K' := KX13_isOut) (As := [(1, a3), (1, 0), (1, 100000)]) dX13_fill_34 (fun _ => by decide) ⟨lo_X13_isOut, li_X13⟩ ⟨lmX13_105, lv_X13_isOut_s⟩ ⟨rfl, cy_X13_isOut⟩ ⟨Nat.le_of_ble_eq_true rfl, Nat.le_of_ble_eq_true rfl⟩ (Nat.le_of_ble_eq_true rfl) rfl (Nat.zero_le _) (Nat.zero_le _) (c_X13_isOut) (mkI fun v12 h13 q14 => ?_)
          obtain ⟨rfl, q14⟩ := q14
          rcases q14 with ⟨rfl, q14⟩ | ⟨rfl, q14⟩
          · skip
            refine m_if_ne 40 49 dX13_fill_37 rfl rfl (fun c15 => ?_) (fun c15 => ?_)
            · exfalso; omega
            · skip
              refine m_aload_n 41 dX13_fill_40 rfl rfl (by decide) ?_
              refine m_getfield 44 dX13_fill_41 rfl (ci := 13) rfl lu_X13 (k := 9) (by decide) lfX13_121 (tag := 0) rfl (by decide) (GI.lt g2 (by decide)) (gk2468 g2) (fun v16 (ev16 : v16 = (h1.2 2468).2.2 9) _ => ?_)
              have bv16 : 0 ≤ v16 ∧ v16 ≤ 8 := by rw [ev16]; exact gf2468_9 g2
              refine m_bipush 46 dX13_fill_44 rfl (by decide) ?_
              refine m_ic_ne 49 51 dX13_fill_46 rfl rfl (fun c17 => ?_) (fun c17 => ?_)
              · skip
                refine m_aload_n 52 dX13_fill_51 rfl rfl (by decide) ?_
                refine m_getfieldC 55 dX13_fill_52 rfl (ci := 13) rfl lu_X13 (k := 10) (by decide) lfX13_28 (tag := 2) rfl (by decide) (GI.lt g2 (by decide)) (gk2468 g2) (gf2468_10 g2) ?_
                refine m_aload_n 56 dX13_fill_55 rfl rfl (by decide) ?_
                refine m_getfield 59 dX13_fill_56 rfl (ci := 13) rfl lu_X13 (k := 9) (by decide) lfX13_121 (tag := 0) rfl (by decide) (GI.lt g2 (by decide)) (gk2468 g2) (fun v18 (ev18 : v18 = (h1.2 2468).2.2 9) _ => ?_)
                have bv18 : 0 ≤ v18 ∧ v18 ≤ 8 := by rw [ev18]; exact gf2468_9 g2
                have qv18 : v16 = v18 := (ev18.trans ev16.symm).symm
                subst qv18
                refine m_lload_n 60 dX13_fill_59 rfl rfl ?_
                refine m_l2i 61 dX13_fill_60 rfl (by omega) ?_
                refine m_iast 62 dX13_fill_61 rfl (by decide) (by decide) (GI.lt g2 (by decide)) (gk2475 g2) (by omega) (m_len (gl2475 g2) (by omega)) ?_
                refine m_heap (fun h19 eh19 => ?_)
                have g20 : GI h19 := eh19 ▸ GI.set g2 (by decide) (fun _ => by show 0 ≤ _ ∧ _ ≤ 1000000; omega)
                have m21 : (h19.2 2468).2.2 0 = 0 := by rw [eh19]; exact m3
                have m22 : (h19.2 2468).2.2 9 = v16 := by rw [eh19]; exact ev16.symm
                clear eh19
                refine m_aload_n 63 dX13_fill_62 rfl rfl (by decide) ?_
                refine m_getfieldC 66 dX13_fill_63 rfl (ci := 13) rfl lu_X13 (k := 11) (by decide) lfX13_31 (tag := 2) rfl (by decide) (GI.lt g20 (by decide)) (gk2468 g20) (gf2468_11 g20) ?_
                refine m_aload_n 67 dX13_fill_66 rfl rfl (by decide) ?_
                refine m_getfield 70 dX13_fill_67 rfl (ci := 13) rfl lu_X13 (k := 9) (by decide) lfX13_121 (tag := 0) rfl (by decide) (GI.lt g20 (by decide)) (gk2468 g20) (fun v23 (ev23 : v23 = (h19.2 2468).2.2 9) _ => ?_)
                have bv23 : 0 ≤ v23 ∧ v23 ≤ 8 := by rw [ev23]; exact gf2468_9 g20
                have qv23 : v16 = v23 := (ev23.trans m22).symm
                subst qv23
                refine m_iload_n 71 dX13_fill_70 rfl rfl ?_
                refine m_iast 72 dX13_fill_71 rfl (by decide) (by decide) (GI.lt g20 (by decide)) (gk2476 g20) (by omega) (m_len (gl2476 g20) (by omega)) ?_
                refine m_heap (fun h24 eh24 => ?_)
                have g25 : GI h24 := eh24 ▸ GI.set g20 (by decide) (fun _ => by show 0 ≤ _ ∧ _ ≤ 11; omega)
                have m26 : (h24.2 2468).2.2 0 = 0 := by rw [eh24]; exact m21
                have m27 : (h24.2 2468).2.2 9 = v16 := by rw [eh24]; exact m22
                clear eh24
                refine m_aload_n 73 dX13_fill_72 rfl rfl (by decide) ?_
                refine m_getfieldC 76 dX13_fill_73 rfl (ci := 13) rfl lu_X13 (k := 12) (by decide) lfX13_34 (tag := 2) rfl (by decide) (GI.lt g25 (by decide)) (gk2468 g25) (gf2468_12 g25) ?_
                refine m_aload_n 77 dX13_fill_76 rfl rfl (by decide) ?_
                refine m_getfield 80 dX13_fill_77 rfl (ci := 13) rfl lu_X13 (k := 9) (by decide) lfX13_121 (tag := 0) rfl (by decide) (GI.lt g25 (by decide)) (gk2468 g25) (fun v28 (ev28 : v28 = (h24.2 2468).2.2 9) _ => ?_)
                have bv28 : 0 ≤ v28 ∧ v28 ≤ 8 := by rw [ev28]; exact gf2468_9 g25
                have qv28 : v16 = v28 := (ev28.trans m27).symm
                subst qv28
                refine m_lload 82 dX13_fill_80 rfl rfl ?_
                refine m_l2i 83 dX13_fill_82 rfl (by omega) ?_
                refine m_iast 84 dX13_fill_83 rfl (by decide) (by decide) (GI.lt g25 (by decide)) (gk2477 g25) (by omega) (m_len (gl2477 g25) (by omega)) ?_
                refine m_heap (fun h29 eh29 => ?_)
                have g30 : GI h29 := eh29 ▸ GI.set g25 (by decide) (fun _ => by show 0 ≤ _ ∧ _ ≤ 100000; omega)
                have m31 : (h29.2 2468).2.2 0 = 0 := by rw [eh29]; exact m26
                have m32 : (h29.2 2468).2.2 9 = v16 := by rw [eh29]; exact m27
                clear eh29
                refine m_aload_n 85 dX13_fill_84 rfl rfl (by decide) ?_
                refine m_dup 86 dX13_fill_85 rfl rfl ?_
                refine m_getfield 89 dX13_fill_86 rfl (ci := 13) rfl lu_X13 (k := 9) (by decide) lfX13_121 (tag := 0) rfl (by decide) (GI.lt g30 (by decide)) (gk2468 g30) (fun v33 (ev33 : v33 = (h29.2 2468).2.2 9) _ => ?_)
                have bv33 : 0 ≤ v33 ∧ v33 ≤ 8 := by rw [ev33]; exact gf2468_9 g30
                have qv33 : v16 = v33 := (ev33.trans m32).symm
                subst qv33
                refine m_iconst 90 dX13_fill_89 rfl (by decide) ?_
                refine m_iadd 91 dX13_fill_90 rfl (by omega) ?_
                refine m_putfield 94 dX13_fill_91 rfl (ci := 13) rfl lu_X13 tyX13_ok nmX13 (k := 9) (by decide) (Or.inl rfl) lfX13_121 (tag := 0) rfl (fun _ => rfl) (fun _ => rfl) (by decide) (GI.lt g30 (by decide)) (gk2468 g30) ?_
                refine m_heap (fun h34 eh34 => ?_)
                have g35 : GI h34 := eh34 ▸ GI.set g30 (by decide) (fun _ => by show 0 ≤ _ ∧ _ ≤ 8; omega)
                have m36 : (h34.2 2468).2.2 0 = 0 := by rw [eh34]; exact m31
                have m37 : (h34.2 2468).2.2 9 = (v16 + 1) := by rw [eh34]; rfl
                clear eh34
                refine m_aload_n 95 dX13_fill_94 rfl rfl (by decide) ?_
                refine m_invokevirtual (K' := KX13_drop) (As := []) dX13_fill_95 (fun _ => by decide) ⟨lo_X13_drop, li_X13⟩ (ci := 13) (r := 2468) rfl (by decide) (GI.lt g35 (by decide)) (gk2468 g35) ⟨lmX13_118, lv_X13_drop_i, ls_X13_drop⟩ ⟨rfl, cy_X13_drop⟩ ⟨Nat.le_of_ble_eq_true rfl, Nat.le_of_ble_eq_true rfl⟩ (Nat.le_of_ble_eq_true rfl) rfl (Nat.zero_le _) (Nat.zero_le _) (c_X13_drop g35) (mkV fun h39 q40 => ?_)
                have g41 : GI h39 := q40
                refine m_aload_n 99 dX13_fill_98 rfl rfl (by decide) ?_
                refine m_getfield 102 dX13_fill_99 rfl (ci := 13) rfl lu_X13 (k := 9) (by decide) lfX13_121 (tag := 0) rfl (by decide) (GI.lt g41 (by decide)) (gk2468 g41) (fun v42 (ev42 : v42 = (h39.2 2468).2.2 9) _ => ?_)
                have bv42 : 0 ≤ v42 ∧ v42 ≤ 8 := by rw [ev42]; exact gf2468_9 g41
                refine m_iconst 103 dX13_fill_102 rfl (by decide) ?_
                refine m_isub 104 dX13_fill_103 rfl (by omega) ?_
                exact m_ireturn dX13_fill_104 rfl rfl (mqI ⟨g41, by omega⟩)
              · skip
                refine m_iconst 50 dX13_fill_49 rfl (by decide) ?_
                exact m_ireturn dX13_fill_50 rfl rfl (mqI ⟨g2, by omega⟩)
          · skip
            refine m_if_ne 40 49 dX13_fill_37 rfl rfl (fun c43 => ?_) (fun c43 => ?_)
            · skip
              refine m_iconst 50 dX13_fill_49 rfl (by decide) ?_
              exact m_ireturn dX13_fill_50 rfl rfl (mqI ⟨g2, by omega⟩)
            · exfalso; omega
      · skip
        refine m_if_ne 28 49 dX13_fill_25 rfl rfl (fun c44 => ?_) (fun c44 => ?_)
        · skip
          refine m_iconst 50 dX13_fill_49 rfl (by decide) ?_
          exact m_ireturn dX13_fill_50 rfl rfl (mqI ⟨g2, by omega⟩)
        · exfalso; omega
  · skip
    refine m_if_ne 16 49 dX13_fill_13 rfl rfl (fun c45 => ?_) (fun c45 => ?_)
    · skip
      refine m_iconst 50 dX13_fill_49 rfl (by decide) ?_
      exact m_ireturn dX13_fill_50 rfl rfl (mqI ⟨g2, by omega⟩)
    · exfalso; omega
theorem cy_X13_swell : yX13_swell.cls ≠ "java/lang/invoke/MethodHandle" ∧ yX13_swell.cls ≠ "java/lang/invoke/VarHandle" ∧ (parseMethodDescriptor yX13_swell.desc).map (fun d => d.parameters.length) = some 3 := by decide +kernel
theorem dX13_swell_0 : decode KX13_swell.2.2.1 0 = .ok (.aload_n 0, 1) := by decide +kernel
theorem dX13_swell_1 : decode KX13_swell.2.2.1 1 = .ok (.iconst 0, 1) := by decide +kernel
theorem dX13_swell_2 : decode KX13_swell.2.2.1 2 = .ok (.putfield 92, 3) := by decide +kernel
theorem dX13_swell_5 : decode KX13_swell.2.2.1 5 = .ok (.iload_n 1, 1) := by decide +kernel
theorem dX13_swell_6 : decode KX13_swell.2.2.1 6 = .ok (.i2l, 1) := by decide +kernel
theorem dX13_swell_7 : decode KX13_swell.2.2.1 7 = .ok (.lconst 0, 1) := by decide +kernel
theorem dX13_swell_8 : decode KX13_swell.2.2.1 8 = .ok (.ldc2_w 109, 3) := by decide +kernel
theorem dX13_swell_11 : decode KX13_swell.2.2.1 11 = .ok (.invokestatic 105, 3) := by decide +kernel
theorem dX13_swell_14 : decode KX13_swell.2.2.1 14 = .ok (.ifCond .ne 26, 3) := by decide +kernel
theorem dX13_swell_17 : decode KX13_swell.2.2.1 17 = .ok (.lload_n 2, 1) := by decide +kernel
theorem dX13_swell_18 : decode KX13_swell.2.2.1 18 = .ok (.lconst 1, 1) := by decide +kernel
theorem dX13_swell_19 : decode KX13_swell.2.2.1 19 = .ok (.ldc2_w 124, 3) := by decide +kernel
theorem dX13_swell_22 : decode KX13_swell.2.2.1 22 = .ok (.invokestatic 105, 3) := by decide +kernel
theorem dX13_swell_25 : decode KX13_swell.2.2.1 25 = .ok (.ifCond .ne 15, 3) := by decide +kernel
theorem dX13_swell_28 : decode KX13_swell.2.2.1 28 = .ok (.lload 4, 2) := by decide +kernel
theorem dX13_swell_30 : decode KX13_swell.2.2.1 30 = .ok (.lconst 1, 1) := by decide +kernel
theorem dX13_swell_31 : decode KX13_swell.2.2.1 31 = .ok (.ldc2_w 124, 3) := by decide +kernel
theorem dX13_swell_34 : decode KX13_swell.2.2.1 34 = .ok (.invokestatic 105, 3) := by decide +kernel
theorem dX13_swell_37 : decode KX13_swell.2.2.1 37 = .ok (.ifCond .eq 5, 3) := by decide +kernel
theorem dX13_swell_40 : decode KX13_swell.2.2.1 40 = .ok (.iconst 0, 1) := by decide +kernel
theorem dX13_swell_41 : decode KX13_swell.2.2.1 41 = .ok (.ireturn, 1) := by decide +kernel
theorem dX13_swell_42 : decode KX13_swell.2.2.1 42 = .ok (.aload_n 0, 1) := by decide +kernel
theorem dX13_swell_43 : decode KX13_swell.2.2.1 43 = .ok (.getfield 50, 3) := by decide +kernel
theorem dX13_swell_46 : decode KX13_swell.2.2.1 46 = .ok (.iload_n 1, 1) := by decide +kernel
theorem dX13_swell_47 : decode KX13_swell.2.2.1 47 = .ok (.lload_n 2, 1) := by decide +kernel
theorem dX13_swell_48 : decode KX13_swell.2.2.1 48 = .ok (.lastore, 1) := by decide +kernel
theorem dX13_swell_49 : decode KX13_swell.2.2.1 49 = .ok (.aload_n 0, 1) := by decide +kernel
theorem dX13_swell_50 : decode KX13_swell.2.2.1 50 = .ok (.getfield 54, 3) := by decide +kernel
theorem dX13_swell_53 : decode KX13_swell.2.2.1 53 = .ok (.iload_n 1, 1) := by decide +kernel
theorem dX13_swell_54 : decode KX13_swell.2.2.1 54 = .ok (.lload 4, 2) := by decide +kernel
theorem dX13_swell_56 : decode KX13_swell.2.2.1 56 = .ok (.lastore, 1) := by decide +kernel
theorem dX13_swell_57 : decode KX13_swell.2.2.1 57 = .ok (.aload_n 0, 1) := by decide +kernel
theorem dX13_swell_58 : decode KX13_swell.2.2.1 58 = .ok (.invokevirtual 118, 3) := by decide +kernel
theorem dX13_swell_61 : decode KX13_swell.2.2.1 61 = .ok (.iconst 1, 1) := by decide +kernel
theorem dX13_swell_62 : decode KX13_swell.2.2.1 62 = .ok (.ireturn, 1) := by decide +kernel
abbrev q_X13_swell (a1 a2 a3 : Int) (h : MH) : MO → MH → Prop := mRI fun v h' => GI h' ∧ 0 ≤ v ∧ v ≤ 1
set_option maxRecDepth 20000 in
theorem c_X13_swell {a1 a2 a3 : Int} {h : MH} (g : GI h) : MCal KX13_swell yX13_swell 0 0 [(2, 2468), (0, a1), (1, a2), (1, a3)] h (q_X13_swell a1 a2 a3 h) := by
  refine MCal.ofMW (Or.inl rfl) ⟨cp_X13, rfl⟩ (Nat.le_of_ble_eq_true rfl) ?_
  change MW _ _ _ _ _ [(0, (2, 2468)), (1, (0, a1)), (2, (1, a2)), (4, (1, a3))] _ _
  refine m_locI (i := 1) rfl (fun ua1 wa1 => ?_)
  refine m_locL (i := 2) rfl (fun ua2 wa2 => ?_)
  refine m_locL (i := 4) rfl (fun ua3 wa3 => ?_)
  refine m_aload_n 1 dX13_swell_0 rfl rfl (by decide) ?_
  refine m_iconst 2 dX13_swell_1 rfl (by decide) ?_
  refine m_putfield 5 dX13_swell_2 rfl (ci := 13) rfl lu_X13 tyX13_ok nmX13 (k := 0) (by decide) (Or.inl rfl) lfX13_92 (tag := 0) rfl (fun _ => rfl) (fun _ => rfl) (by decide) (GI.lt g (by decide)) (gk2468 g) ?_
  refine m_heap (fun h1 eh1 => ?_)
  have g2 : GI h1 := eh1 ▸ GI.set g (by decide) (fun _ => by show 0 ≤ _ ∧ _ ≤ 1; omega)
  have m3 : (h1.2 2468).2.2 0 = 0 := by rw [eh1]; rfl
  clear eh1
  refine m_iload_n 6 dX13_swell_5 rfl rfl ?_
  refine m_i2l 7 dX13_swell_6 rfl ?_
  refine m_lconst 8 dX13_swell_7 rfl ?_
  refine m_ldc2 (n := 3) 11 dX13_swell_8 rfl lcX13_109 rfl (by decide) ?_
  refine m_invokestatic (K' := KX13_isOut) (As := [(1, a1), (1, 0), (1, 3)]) dX13_swell_11 (fun _ => by decide) ⟨lo_X13_isOut, li_X13⟩ ⟨lmX13_105, lv_X13_isOut_s⟩ ⟨rfl, cy_X13_isOut⟩ ⟨Nat.le_of_ble_eq_true rfl, Nat.le_of_ble_eq_true rfl⟩ (Nat.le_of_ble_eq_true rfl) rfl (Nat.zero_le _) (Nat.zero_le _) (c_X13_isOut) (mkI fun v4 h5 q6 => ?_)
  obtain ⟨rfl, q6⟩ := q6
  rcases q6 with ⟨rfl, q6⟩ | ⟨rfl, q6⟩
  · skip
    refine m_if_ne 17 40 dX13_swell_14 rfl rfl (fun c7 => ?_) (fun c7 => ?_)
    · exfalso; omega
    · skip
      refine m_lload_n 18 dX13_swell_17 rfl rfl ?_
      refine m_lconst 19 dX13_swell_18 rfl ?_
      refine m_ldc2 (n := 1000) 22 dX13_swell_19 rfl lcX13_124 rfl (by decide) ?_
      refine m_invokestatic (K' := KX13_isOut) (As := [(1, a2), (1, 1), (1, 1000)]) dX13_swell_22 (fun _ => by decide) ⟨lo_X13_isOut, li_X13⟩ ⟨lmX13_105, lv_X13_isOut_s⟩ ⟨rfl, cy_X13_isOut⟩ ⟨Nat.le_of_ble_eq_true rfl, Nat.le_of_ble_eq_true rfl⟩ (Nat.le_of_ble_eq_true rfl) rfl (Nat.zero_le _) (Nat.zero_le _) (c_X13_isOut) (mkI fun v8 h9 q10 => ?_)
      obtain ⟨rfl, q10⟩ := q10
      rcases q10 with ⟨rfl, q10⟩ | ⟨rfl, q10⟩
      · skip
        refine m_if_ne 28 40 dX13_swell_25 rfl rfl (fun c11 => ?_) (fun c11 => ?_)
        · exfalso; omega
        · skip
          refine m_lload 30 dX13_swell_28 rfl rfl ?_
          refine m_lconst 31 dX13_swell_30 rfl ?_
          refine m_ldc2 (n := 1000) 34 dX13_swell_31 rfl lcX13_124 rfl (by decide) ?_
          refine m_invokestatic (K' := KX13_isOut) (As := [(1, a3), (1, 1), (1, 1000)]) dX13_swell_34 (fun _ => by decide) ⟨lo_X13_isOut, li_X13⟩ ⟨lmX13_105, lv_X13_isOut_s⟩ ⟨rfl, cy_X13_isOut⟩ ⟨Nat.le_of_ble_eq_true rfl, Nat.le_of_ble_eq_true rfl⟩ (Nat.le_of_ble_eq_true rfl) rfl (Nat.zero_le _) (Nat.zero_le _) (c_X13_isOut) (mkI fun v12 h13 q14 => ?_)
          obtain ⟨rfl, q14⟩ := q14
          rcases q14 with ⟨rfl, q14⟩ | ⟨rfl, q14⟩
          · skip
            refine m_if_eq 40 42 dX13_swell_37 rfl rfl (fun c15 => ?_) (fun c15 => ?_)
            · skip
              refine m_aload_n 43 dX13_swell_42 rfl rfl (by decide) ?_
              refine m_getfieldC 46 dX13_swell_43 rfl (ci := 13) rfl lu_X13 (k := 18) (by decide) lfX13_50 (tag := 2) rfl (by decide) (GI.lt g2 (by decide)) (gk2468 g2) (gf2468_18 g2) ?_
              refine m_iload_n 47 dX13_swell_46 rfl rfl ?_
              refine m_lload_n 48 dX13_swell_47 rfl rfl ?_
              refine m_last 49 dX13_swell_48 rfl (by decide) (by decide) (GI.lt g2 (by decide)) (gk2482 g2) (by omega) (m_len (gl2482 g2) (by omega)) ?_
              refine m_heap (fun h16 eh16 => ?_)
              have g17 : GI h16 := eh16 ▸ GI.set g2 (by decide) (fun _ => by show 1 ≤ _ ∧ _ ≤ 1000; omega)
              have m18 : (h16.2 2468).2.2 0 = 0 := by rw [eh16]; exact m3
              clear eh16
              refine m_aload_n 50 dX13_swell_49 rfl rfl (by decide) ?_
              refine m_getfieldC 53 dX13_swell_50 rfl (ci := 13) rfl lu_X13 (k := 19) (by decide) lfX13_54 (tag := 2) rfl (by decide) (GI.lt g17 (by decide)) (gk2468 g17) (gf2468_19 g17) ?_
              refine m_iload_n 54 dX13_swell_53 rfl rfl ?_
              refine m_lload 56 dX13_swell_54 rfl rfl ?_
              refine m_last 57 dX13_swell_56 rfl (by decide) (by decide) (GI.lt g17 (by decide)) (gk2483 g17) (by omega) (m_len (gl2483 g17) (by omega)) ?_
              refine m_heap (fun h19 eh19 => ?_)
              have g20 : GI h19 := eh19 ▸ GI.set g17 (by decide) (fun _ => by show 1 ≤ _ ∧ _ ≤ 1000; omega)
              have m21 : (h19.2 2468).2.2 0 = 0 := by rw [eh19]; exact m18
              clear eh19
              refine m_aload_n 58 dX13_swell_57 rfl rfl (by decide) ?_
              refine m_invokevirtual (K' := KX13_drop) (As := []) dX13_swell_58 (fun _ => by decide) ⟨lo_X13_drop, li_X13⟩ (ci := 13) (r := 2468) rfl (by decide) (GI.lt g20 (by decide)) (gk2468 g20) ⟨lmX13_118, lv_X13_drop_i, ls_X13_drop⟩ ⟨rfl, cy_X13_drop⟩ ⟨Nat.le_of_ble_eq_true rfl, Nat.le_of_ble_eq_true rfl⟩ (Nat.le_of_ble_eq_true rfl) rfl (Nat.zero_le _) (Nat.zero_le _) (c_X13_drop g20) (mkV fun h23 q24 => ?_)
              have g25 : GI h23 := q24
              refine m_iconst 62 dX13_swell_61 rfl (by decide) ?_
              exact m_ireturn dX13_swell_62 rfl (m_narZ (by omega)) (mqI ⟨g25, by omega⟩)
            · exfalso; omega
          · skip
            refine m_if_eq 40 42 dX13_swell_37 rfl rfl (fun c26 => ?_) (fun c26 => ?_)
            · exfalso; omega
            · skip
              refine m_iconst 41 dX13_swell_40 rfl (by decide) ?_
              exact m_ireturn dX13_swell_41 rfl (m_narZ (by omega)) (mqI ⟨g2, by omega⟩)
      · skip
        refine m_if_ne 28 40 dX13_swell_25 rfl rfl (fun c27 => ?_) (fun c27 => ?_)
        · skip
          refine m_iconst 41 dX13_swell_40 rfl (by decide) ?_
          exact m_ireturn dX13_swell_41 rfl (m_narZ (by omega)) (mqI ⟨g2, by omega⟩)
        · exfalso; omega
  · skip
    refine m_if_ne 17 40 dX13_swell_14 rfl rfl (fun c28 => ?_) (fun c28 => ?_)
    · skip
      refine m_iconst 41 dX13_swell_40 rfl (by decide) ?_
      exact m_ireturn dX13_swell_41 rfl (m_narZ (by omega)) (mqI ⟨g2, by omega⟩)
    · exfalso; omega
theorem cy_X13_noFill : yX13_noFill.cls ≠ "java/lang/invoke/MethodHandle" ∧ yX13_noFill.cls ≠ "java/lang/invoke/VarHandle" ∧ (parseMethodDescriptor yX13_noFill.desc).map (fun d => d.parameters.length) = some 1 := by decide +kernel
theorem dX13_noFill_0 : decode KX13_noFill.2.2.1 0 = .ok (.iload_n 1, 1) := by decide +kernel
theorem dX13_noFill_1 : decode KX13_noFill.2.2.1 1 = .ok (.ifCond .lt 11, 3) := by decide +kernel
theorem dX13_noFill_4 : decode KX13_noFill.2.2.1 4 = .ok (.iload_n 1, 1) := by decide +kernel
theorem dX13_noFill_5 : decode KX13_noFill.2.2.1 5 = .ok (.aload_n 0, 1) := by decide +kernel
theorem dX13_noFill_6 : decode KX13_noFill.2.2.1 6 = .ok (.getfield 121, 3) := by decide +kernel
theorem dX13_noFill_9 : decode KX13_noFill.2.2.1 9 = .ok (.if_icmp .lt 7, 3) := by decide +kernel
theorem dX13_noFill_12 : decode KX13_noFill.2.2.1 12 = .ok (.iconst 1, 1) := by decide +kernel
theorem dX13_noFill_13 : decode KX13_noFill.2.2.1 13 = .ok (.goto 4, 3) := by decide +kernel
theorem dX13_noFill_16 : decode KX13_noFill.2.2.1 16 = .ok (.iconst 0, 1) := by decide +kernel
theorem dX13_noFill_17 : decode KX13_noFill.2.2.1 17 = .ok (.ireturn, 1) := by decide +kernel
abbrev q_X13_noFill (a1 : Int) (h : MH) : MO → MH → Prop := mRI fun v h' => h = h' ∧ ((v = 0 ∧ ((a1 ≥ 0 ∧ a1 < (h.2 2468).2.2 9))) ∨ (v = 1 ∧ ((a1 < 0) ∨ (a1 ≥ 0 ∧ a1 ≥ (h.2 2468).2.2 9))))
set_option maxRecDepth 20000 in
theorem c_X13_noFill {a1 : Int} {h : MH} (g : GI h) : MCal KX13_noFill yX13_noFill 0 0 [(2, 2468), (0, a1)] h (q_X13_noFill a1 h) := by
  refine MCal.ofMW (Or.inl rfl) ⟨cp_X13, rfl⟩ (Nat.le_of_ble_eq_true rfl) ?_
  change MW _ _ _ _ _ [(0, (2, 2468)), (1, (0, a1))] _ _
  refine m_locI (i := 1) rfl (fun ua1 wa1 => ?_)
  refine m_iload_n 1 dX13_noFill_0 rfl rfl ?_
  refine m_if_lt 4 12 dX13_noFill_1 rfl rfl (fun c1 => ?_) (fun c1 => ?_)
  · skip
    refine m_iconst 13 dX13_noFill_12 rfl (by decide) ?_
    refine m_goto 17 dX13_noFill_13 rfl ?_
    exact m_ireturn dX13_noFill_17 rfl (m_narZ (by omega)) (mqI ⟨rfl, Or.inr (⟨rfl, by omega⟩)⟩)
  · skip
    refine m_iload_n 5 dX13_noFill_4 rfl rfl ?_
    refine m_aload_n 6 dX13_noFill_5 rfl rfl (by decide) ?_
    refine m_getfield 9 dX13_noFill_6 rfl (ci := 13) rfl lu_X13 (k := 9) (by decide) lfX13_121 (tag := 0) rfl (by decide) (GI.lt g (by decide)) (gk2468 g) (fun v2 (ev2 : v2 = (h.2 2468).2.2 9) _ => ?_)
    have bv2 : 0 ≤ v2 ∧ v2 ≤ 8 := by rw [ev2]; exact gf2468_9 g
    refine m_ic_lt 12 16 dX13_noFill_9 rfl rfl (fun c3 => ?_) (fun c3 => ?_)
    · skip
      refine m_iconst 17 dX13_noFill_16 rfl (by decide) ?_
      exact m_ireturn dX13_noFill_17 rfl (m_narZ (by omega)) (mqI ⟨rfl, Or.inl ⟨rfl, by omega⟩⟩)
    · skip
      refine m_iconst 13 dX13_noFill_12 rfl (by decide) ?_
      refine m_goto 17 dX13_noFill_13 rfl ?_
      exact m_ireturn dX13_noFill_17 rfl (m_narZ (by omega)) (mqI ⟨rfl, Or.inr (⟨rfl, by omega⟩)⟩)
theorem cy_X13_fits : yX13_fits.cls ≠ "java/lang/invoke/MethodHandle" ∧ yX13_fits.cls ≠ "java/lang/invoke/VarHandle" ∧ (parseMethodDescriptor yX13_fits.desc).map (fun d => d.parameters.length) = some 3 := by decide +kernel
theorem dX13_fits_0 : decode KX13_fits.2.2.1 0 = .ok (.aload_n 0, 1) := by decide +kernel
theorem dX13_fits_1 : decode KX13_fits.2.2.1 1 = .ok (.iconst 0, 1) := by decide +kernel
theorem dX13_fits_2 : decode KX13_fits.2.2.1 2 = .ok (.putfield 92, 3) := by decide +kernel
theorem dX13_fits_5 : decode KX13_fits.2.2.1 5 = .ok (.iload_n 1, 1) := by decide +kernel
theorem dX13_fits_6 : decode KX13_fits.2.2.1 6 = .ok (.i2l, 1) := by decide +kernel
theorem dX13_fits_7 : decode KX13_fits.2.2.1 7 = .ok (.lconst 0, 1) := by decide +kernel
theorem dX13_fits_8 : decode KX13_fits.2.2.1 8 = .ok (.ldc2_w 109, 3) := by decide +kernel
theorem dX13_fits_11 : decode KX13_fits.2.2.1 11 = .ok (.invokestatic 105, 3) := by decide +kernel
theorem dX13_fits_14 : decode KX13_fits.2.2.1 14 = .ok (.ifCond .ne 11, 3) := by decide +kernel
theorem dX13_fits_17 : decode KX13_fits.2.2.1 17 = .ok (.aload_n 0, 1) := by decide +kernel
theorem dX13_fits_18 : decode KX13_fits.2.2.1 18 = .ok (.iload_n 2, 1) := by decide +kernel
theorem dX13_fits_19 : decode KX13_fits.2.2.1 19 = .ok (.invokevirtual 126, 3) := by decide +kernel
theorem dX13_fits_22 : decode KX13_fits.2.2.1 22 = .ok (.ifCond .eq 5, 3) := by decide +kernel
theorem dX13_fits_25 : decode KX13_fits.2.2.1 25 = .ok (.iconst 0, 1) := by decide +kernel
theorem dX13_fits_26 : decode KX13_fits.2.2.1 26 = .ok (.ireturn, 1) := by decide +kernel
theorem dX13_fits_27 : decode KX13_fits.2.2.1 27 = .ok (.aload_n 0, 1) := by decide +kernel
theorem dX13_fits_28 : decode KX13_fits.2.2.1 28 = .ok (.getfield 57, 3) := by decide +kernel
theorem dX13_fits_31 : decode KX13_fits.2.2.1 31 = .ok (.bipush 8, 2) := by decide +kernel
theorem dX13_fits_33 : decode KX13_fits.2.2.1 33 = .ok (.iload_n 1, 1) := by decide +kernel
theorem dX13_fits_34 : decode KX13_fits.2.2.1 34 = .ok (.imul, 1) := by decide +kernel
theorem dX13_fits_35 : decode KX13_fits.2.2.1 35 = .ok (.iload_n 2, 1) := by decide +kernel
theorem dX13_fits_36 : decode KX13_fits.2.2.1 36 = .ok (.iadd, 1) := by decide +kernel
theorem dX13_fits_37 : decode KX13_fits.2.2.1 37 = .ok (.iload_n 3, 1) := by decide +kernel
theorem dX13_fits_38 : decode KX13_fits.2.2.1 38 = .ok (.ifCond .ne 7, 3) := by decide +kernel
theorem dX13_fits_41 : decode KX13_fits.2.2.1 41 = .ok (.iconst 1, 1) := by decide +kernel
theorem dX13_fits_42 : decode KX13_fits.2.2.1 42 = .ok (.goto 4, 3) := by decide +kernel
theorem dX13_fits_45 : decode KX13_fits.2.2.1 45 = .ok (.iconst 0, 1) := by decide +kernel
theorem dX13_fits_46 : decode KX13_fits.2.2.1 46 = .ok (.bastore, 1) := by decide +kernel
theorem dX13_fits_47 : decode KX13_fits.2.2.1 47 = .ok (.aload_n 0, 1) := by decide +kernel
theorem dX13_fits_48 : decode KX13_fits.2.2.1 48 = .ok (.invokevirtual 118, 3) := by decide +kernel
theorem dX13_fits_51 : decode KX13_fits.2.2.1 51 = .ok (.iconst 1, 1) := by decide +kernel
theorem dX13_fits_52 : decode KX13_fits.2.2.1 52 = .ok (.ireturn, 1) := by decide +kernel
abbrev q_X13_fits (a1 a2 a3 : Int) (h : MH) : MO → MH → Prop := mRI fun v h' => GI h' ∧ 0 ≤ v ∧ v ≤ 1
set_option maxRecDepth 20000 in
theorem c_X13_fits {a1 a2 a3 : Int} {h : MH} (g : GI h) : MCal KX13_fits yX13_fits 0 0 [(2, 2468), (0, a1), (0, a2), (0, a3)] h (q_X13_fits a1 a2 a3 h) := by
  refine MCal.ofMW (Or.inl rfl) ⟨cp_X13, rfl⟩ (Nat.le_of_ble_eq_true rfl) ?_
  change MW _ _ _ _ _ [(0, (2, 2468)), (1, (0, a1)), (2, (0, a2)), (3, (0, a3))] _ _
  refine m_locI (i := 1) rfl (fun ua1 wa1 => ?_)
  refine m_locI (i := 2) rfl (fun ua2 wa2 => ?_)
  refine m_locI (i := 3) rfl (fun ua3 wa3 => ?_)
  refine m_aload_n 1 dX13_fits_0 rfl rfl (by decide) ?_
  refine m_iconst 2 dX13_fits_1 rfl (by decide) ?_
  refine m_putfield 5 dX13_fits_2 rfl (ci := 13) rfl lu_X13 tyX13_ok nmX13 (k := 0) (by decide) (Or.inl rfl) lfX13_92 (tag := 0) rfl (fun _ => rfl) (fun _ => rfl) (by decide) (GI.lt g (by decide)) (gk2468 g) ?_
  refine m_heap (fun h1 eh1 => ?_)
  have g2 : GI h1 := eh1 ▸ GI.set g (by decide) (fun _ => by show 0 ≤ _ ∧ _ ≤ 1; omega)
  have m3 : (h1.2 2468).2.2 0 = 0 := by rw [eh1]; rfl
  clear eh1
  refine m_iload_n 6 dX13_fits_5 rfl rfl ?_
  refine m_i2l 7 dX13_fits_6 rfl ?_
  refine m_lconst 8 dX13_fits_7 rfl ?_
  refine m_ldc2 (n := 3) 11 dX13_fits_8 rfl lcX13_109 rfl (by decide) ?_
  refine m_invokestatic (K' := KX13_isOut) (As := [(1, a1), (1, 0), (1, 3)]) dX13_fits_11 (fun _ => by decide) ⟨lo_X13_isOut, li_X13⟩ ⟨lmX13_105, lv_X13_isOut_s⟩ ⟨rfl, cy_X13_isOut⟩ ⟨Nat.le_of_ble_eq_true rfl, Nat.le_of_ble_eq_true rfl⟩ (Nat.le_of_ble_eq_true rfl) rfl (Nat.zero_le _) (Nat.zero_le _) (c_X13_isOut) (mkI fun v4 h5 q6 => ?_)
  obtain ⟨rfl, q6⟩ := q6
  rcases q6 with ⟨rfl, q6⟩ | ⟨rfl, q6⟩
  · skip
    refine m_if_ne 17 25 dX13_fits_14 rfl rfl (fun c7 => ?_) (fun c7 => ?_)
    · exfalso; omega
    · skip
      refine m_aload_n 18 dX13_fits_17 rfl rfl (by decide) ?_
      refine m_iload_n 19 dX13_fits_18 rfl rfl ?_
      refine m_invokevirtual (K' := KX13_noFill) (As := [(0, a2)]) dX13_fits_19 (fun _ => by decide) ⟨lo_X13_noFill, li_X13⟩ (ci := 13) (r := 2468) rfl (by decide) (GI.lt g2 (by decide)) (gk2468 g2) ⟨lmX13_126, lv_X13_noFill_i, ls_X13_noFill⟩ ⟨rfl, cy_X13_noFill⟩ ⟨Nat.le_of_ble_eq_true rfl, Nat.le_of_ble_eq_true rfl⟩ (Nat.le_of_ble_eq_true rfl) rfl (Nat.zero_le _) (Nat.zero_le _) (c_X13_noFill g2) (mkI fun v8 h9 q10 => ?_)
      obtain ⟨rfl, q10⟩ := q10
      have f11 := gf2468_9 g2
      rcases q10 with ⟨rfl, q10⟩ | ⟨rfl, q10⟩
      · skip
        refine m_if_eq 25 27 dX13_fits_22 rfl rfl (fun c12 => ?_) (fun c12 => ?_)
        · skip
          refine m_aload_n 28 dX13_fits_27 rfl rfl (by decide) ?_
          refine m_getfieldC 31 dX13_fits_28 rfl (ci := 13) rfl lu_X13 (k := 20) (by decide) lfX13_57 (tag := 2) rfl (by decide) (GI.lt g2 (by decide)) (gk2468 g2) (gf2468_20 g2) ?_
          refine m_bipush 33 dX13_fits_31 rfl (by decide) ?_
          refine m_iload_n 34 dX13_fits_33 rfl rfl ?_
          refine m_imul 35 dX13_fits_34 rfl (by omega) ?_
          refine m_iload_n 36 dX13_fits_35 rfl rfl ?_
          refine m_iadd 37 dX13_fits_36 rfl (by omega) ?_
          refine m_iload_n 38 dX13_fits_37 rfl rfl ?_
          refine m_if_ne 41 45 dX13_fits_38 rfl rfl (fun c13 => ?_) (fun c13 => ?_)
          · skip
            refine m_iconst 46 dX13_fits_45 rfl (by decide) ?_
            refine m_zast 47 dX13_fits_46 rfl (by decide) (by decide) (GI.lt g2 (by decide)) (gk2484 g2) (by omega) (m_len (gl2484 g2) (by omega)) (by omega) ?_
            refine m_heap (fun h14 eh14 => ?_)
            have g15 : GI h14 := eh14 ▸ GI.set g2 (by decide) (fun _ => by show 0 ≤ _ ∧ _ ≤ 1; omega)
            have m16 : (h14.2 2468).2.2 0 = 0 := by rw [eh14]; exact m3
            clear eh14
            refine m_aload_n 48 dX13_fits_47 rfl rfl (by decide) ?_
            refine m_invokevirtual (K' := KX13_drop) (As := []) dX13_fits_48 (fun _ => by decide) ⟨lo_X13_drop, li_X13⟩ (ci := 13) (r := 2468) rfl (by decide) (GI.lt g15 (by decide)) (gk2468 g15) ⟨lmX13_118, lv_X13_drop_i, ls_X13_drop⟩ ⟨rfl, cy_X13_drop⟩ ⟨Nat.le_of_ble_eq_true rfl, Nat.le_of_ble_eq_true rfl⟩ (Nat.le_of_ble_eq_true rfl) rfl (Nat.zero_le _) (Nat.zero_le _) (c_X13_drop g15) (mkV fun h18 q19 => ?_)
            have g20 : GI h18 := q19
            refine m_iconst 52 dX13_fits_51 rfl (by decide) ?_
            exact m_ireturn dX13_fits_52 rfl (m_narZ (by omega)) (mqI ⟨g20, by omega⟩)
          · skip
            refine m_iconst 42 dX13_fits_41 rfl (by decide) ?_
            refine m_goto 46 dX13_fits_42 rfl ?_
            refine m_zast 47 dX13_fits_46 rfl (by decide) (by decide) (GI.lt g2 (by decide)) (gk2484 g2) (by omega) (m_len (gl2484 g2) (by omega)) (by omega) ?_
            refine m_heap (fun h21 eh21 => ?_)
            have g22 : GI h21 := eh21 ▸ GI.set g2 (by decide) (fun _ => by show 0 ≤ _ ∧ _ ≤ 1; omega)
            have m23 : (h21.2 2468).2.2 0 = 0 := by rw [eh21]; exact m3
            clear eh21
            refine m_aload_n 48 dX13_fits_47 rfl rfl (by decide) ?_
            refine m_invokevirtual (K' := KX13_drop) (As := []) dX13_fits_48 (fun _ => by decide) ⟨lo_X13_drop, li_X13⟩ (ci := 13) (r := 2468) rfl (by decide) (GI.lt g22 (by decide)) (gk2468 g22) ⟨lmX13_118, lv_X13_drop_i, ls_X13_drop⟩ ⟨rfl, cy_X13_drop⟩ ⟨Nat.le_of_ble_eq_true rfl, Nat.le_of_ble_eq_true rfl⟩ (Nat.le_of_ble_eq_true rfl) rfl (Nat.zero_le _) (Nat.zero_le _) (c_X13_drop g22) (mkV fun h25 q26 => ?_)
            have g27 : GI h25 := q26
            refine m_iconst 52 dX13_fits_51 rfl (by decide) ?_
            exact m_ireturn dX13_fits_52 rfl (m_narZ (by omega)) (mqI ⟨g27, by omega⟩)
        · exfalso; omega
      · skip
        refine m_if_eq 25 27 dX13_fits_22 rfl rfl (fun c28 => ?_) (fun c28 => ?_)
        · exfalso; omega
        · skip
          refine m_iconst 26 dX13_fits_25 rfl (by decide) ?_
          exact m_ireturn dX13_fits_26 rfl (m_narZ (by omega)) (mqI ⟨g2, by omega⟩)
  · skip
    refine m_if_ne 17 25 dX13_fits_14 rfl rfl (fun c29 => ?_) (fun c29 => ?_)
    · skip
      refine m_iconst 26 dX13_fits_25 rfl (by decide) ?_
      exact m_ireturn dX13_fits_26 rfl (m_narZ (by omega)) (mqI ⟨g2, by omega⟩)
    · exfalso; omega
theorem cy_X13_way : yX13_way.cls ≠ "java/lang/invoke/MethodHandle" ∧ yX13_way.cls ≠ "java/lang/invoke/VarHandle" ∧ (parseMethodDescriptor yX13_way.desc).map (fun d => d.parameters.length) = some 3 := by decide +kernel
theorem dX13_way_0 : decode KX13_way.2.2.1 0 = .ok (.aload_n 0, 1) := by decide +kernel
theorem dX13_way_1 : decode KX13_way.2.2.1 1 = .ok (.iconst 0, 1) := by decide +kernel
theorem dX13_way_2 : decode KX13_way.2.2.1 2 = .ok (.putfield 92, 3) := by decide +kernel
theorem dX13_way_5 : decode KX13_way.2.2.1 5 = .ok (.lload_n 1, 1) := by decide +kernel
theorem dX13_way_6 : decode KX13_way.2.2.1 6 = .ok (.lconst 0, 1) := by decide +kernel
theorem dX13_way_7 : decode KX13_way.2.2.1 7 = .ok (.ldc2_w 113, 3) := by decide +kernel
theorem dX13_way_10 : decode KX13_way.2.2.1 10 = .ok (.invokestatic 105, 3) := by decide +kernel
theorem dX13_way_13 : decode KX13_way.2.2.1 13 = .ok (.ifCond .ne 35, 3) := by decide +kernel
theorem dX13_way_16 : decode KX13_way.2.2.1 16 = .ok (.lload_n 3, 1) := by decide +kernel
theorem dX13_way_17 : decode KX13_way.2.2.1 17 = .ok (.lconst 0, 1) := by decide +kernel
theorem dX13_way_18 : decode KX13_way.2.2.1 18 = .ok (.ldc2_w 113, 3) := by decide +kernel
theorem dX13_way_21 : decode KX13_way.2.2.1 21 = .ok (.invokestatic 105, 3) := by decide +kernel
theorem dX13_way_24 : decode KX13_way.2.2.1 24 = .ok (.ifCond .ne 24, 3) := by decide +kernel
theorem dX13_way_27 : decode KX13_way.2.2.1 27 = .ok (.lload 5, 2) := by decide +kernel
theorem dX13_way_29 : decode KX13_way.2.2.1 29 = .ok (.lconst 0, 1) := by decide +kernel
theorem dX13_way_30 : decode KX13_way.2.2.1 30 = .ok (.ldc2_w 113, 3) := by decide +kernel
theorem dX13_way_33 : decode KX13_way.2.2.1 33 = .ok (.invokestatic 105, 3) := by decide +kernel
theorem dX13_way_36 : decode KX13_way.2.2.1 36 = .ok (.ifCond .ne 12, 3) := by decide +kernel
theorem dX13_way_39 : decode KX13_way.2.2.1 39 = .ok (.aload_n 0, 1) := by decide +kernel
theorem dX13_way_40 : decode KX13_way.2.2.1 40 = .ok (.getfield 130, 3) := by decide +kernel
theorem dX13_way_43 : decode KX13_way.2.2.1 43 = .ok (.bipush 6, 2) := by decide +kernel
theorem dX13_way_45 : decode KX13_way.2.2.1 45 = .ok (.if_icmp .ne 5, 3) := by decide +kernel
theorem dX13_way_48 : decode KX13_way.2.2.1 48 = .ok (.iconst (-1), 1) := by decide +kernel
theorem dX13_way_49 : decode KX13_way.2.2.1 49 = .ok (.ireturn, 1) := by decide +kernel
theorem dX13_way_50 : decode KX13_way.2.2.1 50 = .ok (.aload_n 0, 1) := by decide +kernel
theorem dX13_way_51 : decode KX13_way.2.2.1 51 = .ok (.getfield 37, 3) := by decide +kernel
theorem dX13_way_54 : decode KX13_way.2.2.1 54 = .ok (.aload_n 0, 1) := by decide +kernel
theorem dX13_way_55 : decode KX13_way.2.2.1 55 = .ok (.getfield 130, 3) := by decide +kernel
theorem dX13_way_58 : decode KX13_way.2.2.1 58 = .ok (.lload_n 1, 1) := by decide +kernel
theorem dX13_way_59 : decode KX13_way.2.2.1 59 = .ok (.l2i, 1) := by decide +kernel
theorem dX13_way_60 : decode KX13_way.2.2.1 60 = .ok (.iastore, 1) := by decide +kernel
theorem dX13_way_61 : decode KX13_way.2.2.1 61 = .ok (.aload_n 0, 1) := by decide +kernel
theorem dX13_way_62 : decode KX13_way.2.2.1 62 = .ok (.getfield 40, 3) := by decide +kernel
theorem dX13_way_65 : decode KX13_way.2.2.1 65 = .ok (.aload_n 0, 1) := by decide +kernel
theorem dX13_way_66 : decode KX13_way.2.2.1 66 = .ok (.getfield 130, 3) := by decide +kernel
theorem dX13_way_69 : decode KX13_way.2.2.1 69 = .ok (.lload_n 3, 1) := by decide +kernel
theorem dX13_way_70 : decode KX13_way.2.2.1 70 = .ok (.l2i, 1) := by decide +kernel
theorem dX13_way_71 : decode KX13_way.2.2.1 71 = .ok (.iastore, 1) := by decide +kernel
theorem dX13_way_72 : decode KX13_way.2.2.1 72 = .ok (.aload_n 0, 1) := by decide +kernel
theorem dX13_way_73 : decode KX13_way.2.2.1 73 = .ok (.getfield 43, 3) := by decide +kernel
theorem dX13_way_76 : decode KX13_way.2.2.1 76 = .ok (.aload_n 0, 1) := by decide +kernel
theorem dX13_way_77 : decode KX13_way.2.2.1 77 = .ok (.getfield 130, 3) := by decide +kernel
theorem dX13_way_80 : decode KX13_way.2.2.1 80 = .ok (.lload 5, 2) := by decide +kernel
theorem dX13_way_82 : decode KX13_way.2.2.1 82 = .ok (.l2i, 1) := by decide +kernel
theorem dX13_way_83 : decode KX13_way.2.2.1 83 = .ok (.iastore, 1) := by decide +kernel
theorem dX13_way_84 : decode KX13_way.2.2.1 84 = .ok (.aload_n 0, 1) := by decide +kernel
theorem dX13_way_85 : decode KX13_way.2.2.1 85 = .ok (.dup, 1) := by decide +kernel
theorem dX13_way_86 : decode KX13_way.2.2.1 86 = .ok (.getfield 130, 3) := by decide +kernel
theorem dX13_way_89 : decode KX13_way.2.2.1 89 = .ok (.iconst 1, 1) := by decide +kernel
theorem dX13_way_90 : decode KX13_way.2.2.1 90 = .ok (.iadd, 1) := by decide +kernel
theorem dX13_way_91 : decode KX13_way.2.2.1 91 = .ok (.putfield 130, 3) := by decide +kernel
theorem dX13_way_94 : decode KX13_way.2.2.1 94 = .ok (.aload_n 0, 1) := by decide +kernel
theorem dX13_way_95 : decode KX13_way.2.2.1 95 = .ok (.invokevirtual 118, 3) := by decide +kernel
theorem dX13_way_98 : decode KX13_way.2.2.1 98 = .ok (.aload_n 0, 1) := by decide +kernel
theorem dX13_way_99 : decode KX13_way.2.2.1 99 = .ok (.getfield 130, 3) := by decide +kernel
theorem dX13_way_102 : decode KX13_way.2.2.1 102 = .ok (.iconst 1, 1) := by decide +kernel
theorem dX13_way_103 : decode KX13_way.2.2.1 103 = .ok (.isub, 1) := by decide +kernel
theorem dX13_way_104 : decode KX13_way.2.2.1 104 = .ok (.ireturn, 1) := by decide +kernel
abbrev q_X13_way (a1 a2 a3 : Int) (h : MH) : MO → MH → Prop := mRI fun v h' => GI h' ∧ (-1) ≤ v ∧ v ≤ 5
set_option maxRecDepth 20000 in
theorem c_X13_way {a1 a2 a3 : Int} {h : MH} (g : GI h) : MCal KX13_way yX13_way 0 0 [(2, 2468), (1, a1), (1, a2), (1, a3)] h (q_X13_way a1 a2 a3 h) := by
  refine MCal.ofMW (Or.inl rfl) ⟨cp_X13, rfl⟩ (Nat.le_of_ble_eq_true rfl) ?_
  change MW _ _ _ _ _ [(0, (2, 2468)), (1, (1, a1)), (3, (1, a2)), (5, (1, a3))] _ _
  refine m_locL (i := 1) rfl (fun ua1 wa1 => ?_)
  refine m_locL (i := 3) rfl (fun ua2 wa2 => ?_)
  refine m_locL (i := 5) rfl (fun ua3 wa3 => ?_)
  refine m_aload_n 1 dX13_way_0 rfl rfl (by decide) ?_
  refine m_iconst 2 dX13_way_1 rfl (by decide) ?_
  refine m_putfield 5 dX13_way_2 rfl (ci := 13) rfl lu_X13 tyX13_ok nmX13 (k := 0) (by decide) (Or.inl rfl) lfX13_92 (tag := 0) rfl (fun _ => rfl) (fun _ => rfl) (by decide) (GI.lt g (by decide)) (gk2468 g) ?_
  refine m_heap (fun h1 eh1 => ?_)
  have g2 : GI h1 := eh1 ▸ GI.set g (by decide) (fun _ => by show 0 ≤ _ ∧ _ ≤ 1; omega)
  have m3 : (h1.2 2468).2.2 0 = 0 := by rw [eh1]; rfl
  clear eh1
  refine m_lload_n 6 dX13_way_5 rfl rfl ?_
  refine m_lconst 7 dX13_way_6 rfl ?_
  refine m_ldc2 (n := 100000) 10 dX13_way_7 rfl lcX13_113 rfl (by decide) ?_
  refine m_invokestatic (K' := KX13_isOut) (As := [(1, a1), (1, 0), (1, 100000)]) dX13_way_10 (fun _ => by decide) ⟨lo_X13_isOut, li_X13⟩ ⟨lmX13_105, lv_X13_isOut_s⟩ ⟨rfl, cy_X13_isOut⟩ ⟨Nat.le_of_ble_eq_true rfl, Nat.le_of_ble_eq_true rfl⟩ (Nat.le_of_ble_eq_true rfl) rfl (Nat.zero_le _) (Nat.zero_le _) (c_X13_isOut) (mkI fun v4 h5 q6 => ?_)
  obtain ⟨rfl, q6⟩ := q6
  rcases q6 with ⟨rfl, q6⟩ | ⟨rfl, q6⟩
  · skip
    refine m_if_ne 16 48 dX13_way_13 rfl rfl (fun c7 => ?_) (fun c7 => ?_)
    · exfalso; omega
    · skip
      refine m_lload_n 17 dX13_way_16 rfl rfl ?_
      refine m_lconst 18 dX13_way_17 rfl ?_
      refine m_ldc2 (n := 100000) 21 dX13_way_18 rfl lcX13_113 rfl (by decide) ?_
      refine m_invokestatic (K' := KX13_isOut) (As := [(1, a2), (1, 0), (1, 100000)]) dX13_way_21 (fun _ => by decide) ⟨lo_X13_isOut, li_X13⟩ ⟨lmX13_105, lv_X13_isOut_s⟩ ⟨rfl, cy_X13_isOut⟩ ⟨Nat.le_of_ble_eq_true rfl, Nat.le_of_ble_eq_true rfl⟩ (Nat.le_of_ble_eq_true rfl) rfl (Nat.zero_le _) (Nat.zero_le _) (c_X13_isOut) (mkI fun v8 h9 q10 => ?_)
      obtain ⟨rfl, q10⟩ := q10
      rcases q10 with ⟨rfl, q10⟩ | ⟨rfl, q10⟩
      · skip
        refine m_if_ne 27 48 dX13_way_24 rfl rfl (fun c11 => ?_) (fun c11 => ?_)
        · exfalso; omega
        · skip
          refine m_lload 29 dX13_way_27 rfl rfl ?_
          refine m_lconst 30 dX13_way_29 rfl ?_
          refine m_ldc2 (n := 100000) 33 dX13_way_30 rfl lcX13_113 rfl (by decide) ?_
          refine m_invokestatic (K' := KX13_isOut) (As := [(1, a3), (1, 0), (1, 100000)]) dX13_way_33 (fun _ => by decide) ⟨lo_X13_isOut, li_X13⟩ ⟨lmX13_105, lv_X13_isOut_s⟩ ⟨rfl, cy_X13_isOut⟩ ⟨Nat.le_of_ble_eq_true rfl, Nat.le_of_ble_eq_true rfl⟩ (Nat.le_of_ble_eq_true rfl) rfl (Nat.zero_le _) (Nat.zero_le _) (c_X13_isOut) (mkI fun v12 h13 q14 => ?_)
          obtain ⟨rfl, q14⟩ := q14
          rcases q14 with ⟨rfl, q14⟩ | ⟨rfl, q14⟩
          · skip
            refine m_if_ne 39 48 dX13_way_36 rfl rfl (fun c15 => ?_) (fun c15 => ?_)
            · exfalso; omega
            · skip
              refine m_aload_n 40 dX13_way_39 rfl rfl (by decide) ?_
              refine m_getfield 43 dX13_way_40 rfl (ci := 13) rfl lu_X13 (k := 13) (by decide) lfX13_130 (tag := 0) rfl (by decide) (GI.lt g2 (by decide)) (gk2468 g2) (fun v16 (ev16 : v16 = (h1.2 2468).2.2 13) _ => ?_)
              have bv16 : 0 ≤ v16 ∧ v16 ≤ 6 := by rw [ev16]; exact gf2468_13 g2
              refine m_bipush 45 dX13_way_43 rfl (by decide) ?_
              refine m_ic_ne 48 50 dX13_way_45 rfl rfl (fun c17 => ?_) (fun c17 => ?_)
              · skip
                refine m_aload_n 51 dX13_way_50 rfl rfl (by decide) ?_
                refine m_getfieldC 54 dX13_way_51 rfl (ci := 13) rfl lu_X13 (k := 14) (by decide) lfX13_37 (tag := 2) rfl (by decide) (GI.lt g2 (by decide)) (gk2468 g2) (gf2468_14 g2) ?_
                refine m_aload_n 55 dX13_way_54 rfl rfl (by decide) ?_
                refine m_getfield 58 dX13_way_55 rfl (ci := 13) rfl lu_X13 (k := 13) (by decide) lfX13_130 (tag := 0) rfl (by decide) (GI.lt g2 (by decide)) (gk2468 g2) (fun v18 (ev18 : v18 = (h1.2 2468).2.2 13) _ => ?_)
                have bv18 : 0 ≤ v18 ∧ v18 ≤ 6 := by rw [ev18]; exact gf2468_13 g2
                have qv18 : v16 = v18 := (ev18.trans ev16.symm).symm
                subst qv18
                refine m_lload_n 59 dX13_way_58 rfl rfl ?_
                refine m_l2i 60 dX13_way_59 rfl (by omega) ?_
                refine m_iast 61 dX13_way_60 rfl (by decide) (by decide) (GI.lt g2 (by decide)) (gk2478 g2) (by omega) (m_len (gl2478 g2) (by omega)) ?_
                refine m_heap (fun h19 eh19 => ?_)
                have g20 : GI h19 := eh19 ▸ GI.set g2 (by decide) (fun _ => by show 0 ≤ _ ∧ _ ≤ 100000; omega)
                have m21 : (h19.2 2468).2.2 0 = 0 := by rw [eh19]; exact m3
                have m22 : (h19.2 2468).2.2 13 = v16 := by rw [eh19]; exact ev16.symm
                clear eh19
                refine m_aload_n 62 dX13_way_61 rfl rfl (by decide) ?_
                refine m_getfieldC 65 dX13_way_62 rfl (ci := 13) rfl lu_X13 (k := 15) (by decide) lfX13_40 (tag := 2) rfl (by decide) (GI.lt g20 (by decide)) (gk2468 g20) (gf2468_15 g20) ?_
                refine m_aload_n 66 dX13_way_65 rfl rfl (by decide) ?_
                refine m_getfield 69 dX13_way_66 rfl (ci := 13) rfl lu_X13 (k := 13) (by decide) lfX13_130 (tag := 0) rfl (by decide) (GI.lt g20 (by decide)) (gk2468 g20) (fun v23 (ev23 : v23 = (h19.2 2468).2.2 13) _ => ?_)
                have bv23 : 0 ≤ v23 ∧ v23 ≤ 6 := by rw [ev23]; exact gf2468_13 g20
                have qv23 : v16 = v23 := (ev23.trans m22).symm
                subst qv23
                refine m_lload_n 70 dX13_way_69 rfl rfl ?_
                refine m_l2i 71 dX13_way_70 rfl (by omega) ?_
                refine m_iast 72 dX13_way_71 rfl (by decide) (by decide) (GI.lt g20 (by decide)) (gk2479 g20) (by omega) (m_len (gl2479 g20) (by omega)) ?_
                refine m_heap (fun h24 eh24 => ?_)
                have g25 : GI h24 := eh24 ▸ GI.set g20 (by decide) (fun _ => by show 0 ≤ _ ∧ _ ≤ 100000; omega)
                have m26 : (h24.2 2468).2.2 0 = 0 := by rw [eh24]; exact m21
                have m27 : (h24.2 2468).2.2 13 = v16 := by rw [eh24]; exact m22
                clear eh24
                refine m_aload_n 73 dX13_way_72 rfl rfl (by decide) ?_
                refine m_getfieldC 76 dX13_way_73 rfl (ci := 13) rfl lu_X13 (k := 16) (by decide) lfX13_43 (tag := 2) rfl (by decide) (GI.lt g25 (by decide)) (gk2468 g25) (gf2468_16 g25) ?_
                refine m_aload_n 77 dX13_way_76 rfl rfl (by decide) ?_
                refine m_getfield 80 dX13_way_77 rfl (ci := 13) rfl lu_X13 (k := 13) (by decide) lfX13_130 (tag := 0) rfl (by decide) (GI.lt g25 (by decide)) (gk2468 g25) (fun v28 (ev28 : v28 = (h24.2 2468).2.2 13) _ => ?_)
                have bv28 : 0 ≤ v28 ∧ v28 ≤ 6 := by rw [ev28]; exact gf2468_13 g25
                have qv28 : v16 = v28 := (ev28.trans m27).symm
                subst qv28
                refine m_lload 82 dX13_way_80 rfl rfl ?_
                refine m_l2i 83 dX13_way_82 rfl (by omega) ?_
                refine m_iast 84 dX13_way_83 rfl (by decide) (by decide) (GI.lt g25 (by decide)) (gk2480 g25) (by omega) (m_len (gl2480 g25) (by omega)) ?_
                refine m_heap (fun h29 eh29 => ?_)
                have g30 : GI h29 := eh29 ▸ GI.set g25 (by decide) (fun _ => by show 0 ≤ _ ∧ _ ≤ 100000; omega)
                have m31 : (h29.2 2468).2.2 0 = 0 := by rw [eh29]; exact m26
                have m32 : (h29.2 2468).2.2 13 = v16 := by rw [eh29]; exact m27
                clear eh29
                refine m_aload_n 85 dX13_way_84 rfl rfl (by decide) ?_
                refine m_dup 86 dX13_way_85 rfl rfl ?_
                refine m_getfield 89 dX13_way_86 rfl (ci := 13) rfl lu_X13 (k := 13) (by decide) lfX13_130 (tag := 0) rfl (by decide) (GI.lt g30 (by decide)) (gk2468 g30) (fun v33 (ev33 : v33 = (h29.2 2468).2.2 13) _ => ?_)
                have bv33 : 0 ≤ v33 ∧ v33 ≤ 6 := by rw [ev33]; exact gf2468_13 g30
                have qv33 : v16 = v33 := (ev33.trans m32).symm
                subst qv33
                refine m_iconst 90 dX13_way_89 rfl (by decide) ?_
                refine m_iadd 91 dX13_way_90 rfl (by omega) ?_
                refine m_putfield 94 dX13_way_91 rfl (ci := 13) rfl lu_X13 tyX13_ok nmX13 (k := 13) (by decide) (Or.inl rfl) lfX13_130 (tag := 0) rfl (fun _ => rfl) (fun _ => rfl) (by decide) (GI.lt g30 (by decide)) (gk2468 g30) ?_
                refine m_heap (fun h34 eh34 => ?_)
                have g35 : GI h34 := eh34 ▸ GI.set g30 (by decide) (fun _ => by show 0 ≤ _ ∧ _ ≤ 6; omega)
                have m36 : (h34.2 2468).2.2 0 = 0 := by rw [eh34]; exact m31
                have m37 : (h34.2 2468).2.2 13 = (v16 + 1) := by rw [eh34]; rfl
                clear eh34
                refine m_aload_n 95 dX13_way_94 rfl rfl (by decide) ?_
                refine m_invokevirtual (K' := KX13_drop) (As := []) dX13_way_95 (fun _ => by decide) ⟨lo_X13_drop, li_X13⟩ (ci := 13) (r := 2468) rfl (by decide) (GI.lt g35 (by decide)) (gk2468 g35) ⟨lmX13_118, lv_X13_drop_i, ls_X13_drop⟩ ⟨rfl, cy_X13_drop⟩ ⟨Nat.le_of_ble_eq_true rfl, Nat.le_of_ble_eq_true rfl⟩ (Nat.le_of_ble_eq_true rfl) rfl (Nat.zero_le _) (Nat.zero_le _) (c_X13_drop g35) (mkV fun h39 q40 => ?_)
                have g41 : GI h39 := q40
                refine m_aload_n 99 dX13_way_98 rfl rfl (by decide) ?_
                refine m_getfield 102 dX13_way_99 rfl (ci := 13) rfl lu_X13 (k := 13) (by decide) lfX13_130 (tag := 0) rfl (by decide) (GI.lt g41 (by decide)) (gk2468 g41) (fun v42 (ev42 : v42 = (h39.2 2468).2.2 13) _ => ?_)
                have bv42 : 0 ≤ v42 ∧ v42 ≤ 6 := by rw [ev42]; exact gf2468_13 g41
                refine m_iconst 103 dX13_way_102 rfl (by decide) ?_
                refine m_isub 104 dX13_way_103 rfl (by omega) ?_
                exact m_ireturn dX13_way_104 rfl rfl (mqI ⟨g41, by omega⟩)
              · skip
                refine m_iconst 49 dX13_way_48 rfl (by decide) ?_
                exact m_ireturn dX13_way_49 rfl rfl (mqI ⟨g2, by omega⟩)
          · skip
            refine m_if_ne 39 48 dX13_way_36 rfl rfl (fun c43 => ?_) (fun c43 => ?_)
            · skip
              refine m_iconst 49 dX13_way_48 rfl (by decide) ?_
              exact m_ireturn dX13_way_49 rfl rfl (mqI ⟨g2, by omega⟩)
            · exfalso; omega
      · skip
        refine m_if_ne 27 48 dX13_way_24 rfl rfl (fun c44 => ?_) (fun c44 => ?_)
        · skip
          refine m_iconst 49 dX13_way_48 rfl (by decide) ?_
          exact m_ireturn dX13_way_49 rfl rfl (mqI ⟨g2, by omega⟩)
        · exfalso; omega
  · skip
    refine m_if_ne 16 48 dX13_way_13 rfl rfl (fun c45 => ?_) (fun c45 => ?_)
    · skip
      refine m_iconst 49 dX13_way_48 rfl (by decide) ?_
      exact m_ireturn dX13_way_49 rfl rfl (mqI ⟨g2, by omega⟩)
    · exfalso; omega
theorem cy_X13_noWay : yX13_noWay.cls ≠ "java/lang/invoke/MethodHandle" ∧ yX13_noWay.cls ≠ "java/lang/invoke/VarHandle" ∧ (parseMethodDescriptor yX13_noWay.desc).map (fun d => d.parameters.length) = some 1 := by decide +kernel
theorem dX13_noWay_0 : decode KX13_noWay.2.2.1 0 = .ok (.iload_n 1, 1) := by decide +kernel
theorem dX13_noWay_1 : decode KX13_noWay.2.2.1 1 = .ok (.ifCond .lt 11, 3) := by decide +kernel
theorem dX13_noWay_4 : decode KX13_noWay.2.2.1 4 = .ok (.iload_n 1, 1) := by decide +kernel
theorem dX13_noWay_5 : decode KX13_noWay.2.2.1 5 = .ok (.aload_n 0, 1) := by decide +kernel
theorem dX13_noWay_6 : decode KX13_noWay.2.2.1 6 = .ok (.getfield 130, 3) := by decide +kernel
theorem dX13_noWay_9 : decode KX13_noWay.2.2.1 9 = .ok (.if_icmp .lt 7, 3) := by decide +kernel
theorem dX13_noWay_12 : decode KX13_noWay.2.2.1 12 = .ok (.iconst 1, 1) := by decide +kernel
theorem dX13_noWay_13 : decode KX13_noWay.2.2.1 13 = .ok (.goto 4, 3) := by decide +kernel
theorem dX13_noWay_16 : decode KX13_noWay.2.2.1 16 = .ok (.iconst 0, 1) := by decide +kernel
theorem dX13_noWay_17 : decode KX13_noWay.2.2.1 17 = .ok (.ireturn, 1) := by decide +kernel
abbrev q_X13_noWay (a1 : Int) (h : MH) : MO → MH → Prop := mRI fun v h' => h = h' ∧ ((v = 0 ∧ ((a1 ≥ 0 ∧ a1 < (h.2 2468).2.2 13))) ∨ (v = 1 ∧ ((a1 < 0) ∨ (a1 ≥ 0 ∧ a1 ≥ (h.2 2468).2.2 13))))
set_option maxRecDepth 20000 in
theorem c_X13_noWay {a1 : Int} {h : MH} (g : GI h) : MCal KX13_noWay yX13_noWay 0 0 [(2, 2468), (0, a1)] h (q_X13_noWay a1 h) := by
  refine MCal.ofMW (Or.inl rfl) ⟨cp_X13, rfl⟩ (Nat.le_of_ble_eq_true rfl) ?_
  change MW _ _ _ _ _ [(0, (2, 2468)), (1, (0, a1))] _ _
  refine m_locI (i := 1) rfl (fun ua1 wa1 => ?_)
  refine m_iload_n 1 dX13_noWay_0 rfl rfl ?_
  refine m_if_lt 4 12 dX13_noWay_1 rfl rfl (fun c1 => ?_) (fun c1 => ?_)
  · skip
    refine m_iconst 13 dX13_noWay_12 rfl (by decide) ?_
    refine m_goto 17 dX13_noWay_13 rfl ?_
    exact m_ireturn dX13_noWay_17 rfl (m_narZ (by omega)) (mqI ⟨rfl, Or.inr (⟨rfl, by omega⟩)⟩)
  · skip
    refine m_iload_n 5 dX13_noWay_4 rfl rfl ?_
    refine m_aload_n 6 dX13_noWay_5 rfl rfl (by decide) ?_
    refine m_getfield 9 dX13_noWay_6 rfl (ci := 13) rfl lu_X13 (k := 13) (by decide) lfX13_130 (tag := 0) rfl (by decide) (GI.lt g (by decide)) (gk2468 g) (fun v2 (ev2 : v2 = (h.2 2468).2.2 13) _ => ?_)
    have bv2 : 0 ≤ v2 ∧ v2 ≤ 6 := by rw [ev2]; exact gf2468_13 g
    refine m_ic_lt 12 16 dX13_noWay_9 rfl rfl (fun c3 => ?_) (fun c3 => ?_)
    · skip
      refine m_iconst 17 dX13_noWay_16 rfl (by decide) ?_
      exact m_ireturn dX13_noWay_17 rfl (m_narZ (by omega)) (mqI ⟨rfl, Or.inl ⟨rfl, by omega⟩⟩)
    · skip
      refine m_iconst 13 dX13_noWay_12 rfl (by decide) ?_
      refine m_goto 17 dX13_noWay_13 rfl ?_
      exact m_ireturn dX13_noWay_17 rfl (m_narZ (by omega)) (mqI ⟨rfl, Or.inr (⟨rfl, by omega⟩)⟩)
theorem cy_X13_bar : yX13_bar.cls ≠ "java/lang/invoke/MethodHandle" ∧ yX13_bar.cls ≠ "java/lang/invoke/VarHandle" ∧ (parseMethodDescriptor yX13_bar.desc).map (fun d => d.parameters.length) = some 3 := by decide +kernel
theorem dX13_bar_0 : decode KX13_bar.2.2.1 0 = .ok (.aload_n 0, 1) := by decide +kernel
theorem dX13_bar_1 : decode KX13_bar.2.2.1 1 = .ok (.iconst 0, 1) := by decide +kernel
theorem dX13_bar_2 : decode KX13_bar.2.2.1 2 = .ok (.putfield 92, 3) := by decide +kernel
theorem dX13_bar_5 : decode KX13_bar.2.2.1 5 = .ok (.aload_n 0, 1) := by decide +kernel
theorem dX13_bar_6 : decode KX13_bar.2.2.1 6 = .ok (.iload_n 1, 1) := by decide +kernel
theorem dX13_bar_7 : decode KX13_bar.2.2.1 7 = .ok (.invokevirtual 133, 3) := by decide +kernel
theorem dX13_bar_10 : decode KX13_bar.2.2.1 10 = .ok (.ifCond .ne 32, 3) := by decide +kernel
theorem dX13_bar_13 : decode KX13_bar.2.2.1 13 = .ok (.iload_n 2, 1) := by decide +kernel
theorem dX13_bar_14 : decode KX13_bar.2.2.1 14 = .ok (.i2l, 1) := by decide +kernel
theorem dX13_bar_15 : decode KX13_bar.2.2.1 15 = .ok (.lconst 0, 1) := by decide +kernel
theorem dX13_bar_16 : decode KX13_bar.2.2.1 16 = .ok (.ldc2_w 111, 3) := by decide +kernel
theorem dX13_bar_19 : decode KX13_bar.2.2.1 19 = .ok (.invokestatic 105, 3) := by decide +kernel
theorem dX13_bar_22 : decode KX13_bar.2.2.1 22 = .ok (.ifCond .ne 20, 3) := by decide +kernel
theorem dX13_bar_25 : decode KX13_bar.2.2.1 25 = .ok (.iload_n 3, 1) := by decide +kernel
theorem dX13_bar_26 : decode KX13_bar.2.2.1 26 = .ok (.i2l, 1) := by decide +kernel
theorem dX13_bar_27 : decode KX13_bar.2.2.1 27 = .ok (.lconst 0, 1) := by decide +kernel
theorem dX13_bar_28 : decode KX13_bar.2.2.1 28 = .ok (.ldc2_w 111, 3) := by decide +kernel
theorem dX13_bar_31 : decode KX13_bar.2.2.1 31 = .ok (.invokestatic 105, 3) := by decide +kernel
theorem dX13_bar_34 : decode KX13_bar.2.2.1 34 = .ok (.ifCond .ne 8, 3) := by decide +kernel
theorem dX13_bar_37 : decode KX13_bar.2.2.1 37 = .ok (.iload_n 2, 1) := by decide +kernel
theorem dX13_bar_38 : decode KX13_bar.2.2.1 38 = .ok (.iload_n 3, 1) := by decide +kernel
theorem dX13_bar_39 : decode KX13_bar.2.2.1 39 = .ok (.if_icmp .le 5, 3) := by decide +kernel
theorem dX13_bar_42 : decode KX13_bar.2.2.1 42 = .ok (.iconst 0, 1) := by decide +kernel
theorem dX13_bar_43 : decode KX13_bar.2.2.1 43 = .ok (.ireturn, 1) := by decide +kernel
theorem dX13_bar_44 : decode KX13_bar.2.2.1 44 = .ok (.iload_n 2, 1) := by decide +kernel
theorem dX13_bar_45 : decode KX13_bar.2.2.1 45 = .ok (.istore 4, 2) := by decide +kernel
theorem dX13_bar_47 : decode KX13_bar.2.2.1 47 = .ok (.iload 4, 2) := by decide +kernel
theorem dX13_bar_49 : decode KX13_bar.2.2.1 49 = .ok (.iload_n 3, 1) := by decide +kernel
theorem dX13_bar_50 : decode KX13_bar.2.2.1 50 = .ok (.if_icmp .gt 22, 3) := by decide +kernel
theorem dX13_bar_53 : decode KX13_bar.2.2.1 53 = .ok (.aload_n 0, 1) := by decide +kernel
theorem dX13_bar_54 : decode KX13_bar.2.2.1 54 = .ok (.getfield 46, 3) := by decide +kernel
theorem dX13_bar_57 : decode KX13_bar.2.2.1 57 = .ok (.bipush 12, 2) := by decide +kernel
theorem dX13_bar_59 : decode KX13_bar.2.2.1 59 = .ok (.iload_n 1, 1) := by decide +kernel
theorem dX13_bar_60 : decode KX13_bar.2.2.1 60 = .ok (.imul, 1) := by decide +kernel
theorem dX13_bar_61 : decode KX13_bar.2.2.1 61 = .ok (.iload 4, 2) := by decide +kernel
theorem dX13_bar_63 : decode KX13_bar.2.2.1 63 = .ok (.iadd, 1) := by decide +kernel
theorem dX13_bar_64 : decode KX13_bar.2.2.1 64 = .ok (.iconst 1, 1) := by decide +kernel
theorem dX13_bar_65 : decode KX13_bar.2.2.1 65 = .ok (.bastore, 1) := by decide +kernel
theorem dX13_bar_66 : decode KX13_bar.2.2.1 66 = .ok (.iinc 4 1, 3) := by decide +kernel
theorem dX13_bar_69 : decode KX13_bar.2.2.1 69 = .ok (.goto (-22), 3) := by decide +kernel
theorem dX13_bar_72 : decode KX13_bar.2.2.1 72 = .ok (.aload_n 0, 1) := by decide +kernel
theorem dX13_bar_73 : decode KX13_bar.2.2.1 73 = .ok (.invokevirtual 118, 3) := by decide +kernel
theorem dX13_bar_76 : decode KX13_bar.2.2.1 76 = .ok (.iconst 1, 1) := by decide +kernel
theorem dX13_bar_77 : decode KX13_bar.2.2.1 77 = .ok (.ireturn, 1) := by decide +kernel
abbrev q_X13_bar (a1 a2 a3 : Int) (h : MH) : MO → MH → Prop := mRI fun v h' => GI h' ∧ 0 ≤ v ∧ v ≤ 1
set_option maxRecDepth 20000 in
theorem c_X13_bar {a1 a2 a3 : Int} {h : MH} (g : GI h) : MCal KX13_bar yX13_bar 0 0 [(2, 2468), (0, a1), (0, a2), (0, a3)] h (q_X13_bar a1 a2 a3 h) := by
  refine MCal.ofMW (Or.inl rfl) ⟨cp_X13, rfl⟩ (Nat.le_of_ble_eq_true rfl) ?_
  change MW _ _ _ _ _ [(0, (2, 2468)), (1, (0, a1)), (2, (0, a2)), (3, (0, a3))] _ _
  refine m_locI (i := 1) rfl (fun ua1 wa1 => ?_)
  refine m_locI (i := 2) rfl (fun ua2 wa2 => ?_)
  refine m_locI (i := 3) rfl (fun ua3 wa3 => ?_)
  refine m_aload_n 1 dX13_bar_0 rfl rfl (by decide) ?_
  refine m_iconst 2 dX13_bar_1 rfl (by decide) ?_
  refine m_putfield 5 dX13_bar_2 rfl (ci := 13) rfl lu_X13 tyX13_ok nmX13 (k := 0) (by decide) (Or.inl rfl) lfX13_92 (tag := 0) rfl (fun _ => rfl) (fun _ => rfl) (by decide) (GI.lt g (by decide)) (gk2468 g) ?_
  refine m_heap (fun h1 eh1 => ?_)
  have g2 : GI h1 := eh1 ▸ GI.set g (by decide) (fun _ => by show 0 ≤ _ ∧ _ ≤ 1; omega)
  have m3 : (h1.2 2468).2.2 0 = 0 := by rw [eh1]; rfl
  clear eh1
  refine m_aload_n 6 dX13_bar_5 rfl rfl (by decide) ?_
  refine m_iload_n 7 dX13_bar_6 rfl rfl ?_
  refine m_invokevirtual (K' := KX13_noWay) (As := [(0, a1)]) dX13_bar_7 (fun _ => by decide) ⟨lo_X13_noWay, li_X13⟩ (ci := 13) (r := 2468) rfl (by decide) (GI.lt g2 (by decide)) (gk2468 g2) ⟨lmX13_133, lv_X13_noWay_i, ls_X13_noWay⟩ ⟨rfl, cy_X13_noWay⟩ ⟨Nat.le_of_ble_eq_true rfl, Nat.le_of_ble_eq_true rfl⟩ (Nat.le_of_ble_eq_true rfl) rfl (Nat.zero_le _) (Nat.zero_le _) (c_X13_noWay g2) (mkI fun v4 h5 q6 => ?_)
  obtain ⟨rfl, q6⟩ := q6
  have f7 := gf2468_13 g2
  rcases q6 with ⟨rfl, q6⟩ | ⟨rfl, q6⟩
  · skip
    refine m_if_ne 13 42 dX13_bar_10 rfl rfl (fun c8 => ?_) (fun c8 => ?_)
    · exfalso; omega
    · skip
      refine m_iload_n 14 dX13_bar_13 rfl rfl ?_
      refine m_i2l 15 dX13_bar_14 rfl ?_
      refine m_lconst 16 dX13_bar_15 rfl ?_
      refine m_ldc2 (n := 11) 19 dX13_bar_16 rfl lcX13_111 rfl (by decide) ?_
      refine m_invokestatic (K' := KX13_isOut) (As := [(1, a2), (1, 0), (1, 11)]) dX13_bar_19 (fun _ => by decide) ⟨lo_X13_isOut, li_X13⟩ ⟨lmX13_105, lv_X13_isOut_s⟩ ⟨rfl, cy_X13_isOut⟩ ⟨Nat.le_of_ble_eq_true rfl, Nat.le_of_ble_eq_true rfl⟩ (Nat.le_of_ble_eq_true rfl) rfl (Nat.zero_le _) (Nat.zero_le _) (c_X13_isOut) (mkI fun v9 h10 q11 => ?_)
      obtain ⟨rfl, q11⟩ := q11
      rcases q11 with ⟨rfl, q11⟩ | ⟨rfl, q11⟩
      · skip
        refine m_if_ne 25 42 dX13_bar_22 rfl rfl (fun c12 => ?_) (fun c12 => ?_)
        · exfalso; omega
        · skip
          refine m_iload_n 26 dX13_bar_25 rfl rfl ?_
          refine m_i2l 27 dX13_bar_26 rfl ?_
          refine m_lconst 28 dX13_bar_27 rfl ?_
          refine m_ldc2 (n := 11) 31 dX13_bar_28 rfl lcX13_111 rfl (by decide) ?_
          refine m_invokestatic (K' := KX13_isOut) (As := [(1, a3), (1, 0), (1, 11)]) dX13_bar_31 (fun _ => by decide) ⟨lo_X13_isOut, li_X13⟩ ⟨lmX13_105, lv_X13_isOut_s⟩ ⟨rfl, cy_X13_isOut⟩ ⟨Nat.le_of_ble_eq_true rfl, Nat.le_of_ble_eq_true rfl⟩ (Nat.le_of_ble_eq_true rfl) rfl (Nat.zero_le _) (Nat.zero_le _) (c_X13_isOut) (mkI fun v13 h14 q15 => ?_)
          obtain ⟨rfl, q15⟩ := q15
          rcases q15 with ⟨rfl, q15⟩ | ⟨rfl, q15⟩
          · skip
            refine m_if_ne 37 42 dX13_bar_34 rfl rfl (fun c16 => ?_) (fun c16 => ?_)
            · exfalso; omega
            · skip
              refine m_iload_n 38 dX13_bar_37 rfl rfl ?_
              refine m_iload_n 39 dX13_bar_38 rfl rfl ?_
              refine m_ic_le 42 44 dX13_bar_39 rfl rfl (fun c17 => ?_) (fun c17 => ?_)
              · skip
                refine m_iload_n 45 dX13_bar_44 rfl rfl ?_
                refine m_istore 47 dX13_bar_45 rfl (by decide) ?_
                have lp47 : ∀ (n : Nat) (x18 : Int) (h19 : MH), GI h19 → (0 ≤ x18 ∧ x18 ≤ 12) → (12 - x18).toNat = n → MW KX13_bar (q_X13_bar a1 a2 a3 h) 0 0 47 [(0, (2, 2468)), (1, (0, a1)), (3, (0, a3)), (4, (0, x18))] [] h19 := by
                  intro n
                  induction n using Nat.strongRecOn with
                  | _ n ih47 =>
                  intro x18 h19 g20 b21 hm47
                  refine m_iload 49 dX13_bar_47 rfl rfl ?_
                  refine m_iload_n 50 dX13_bar_49 rfl rfl ?_
                  refine m_ic_gt 53 72 dX13_bar_50 rfl rfl (fun c22 => ?_) (fun c22 => ?_)
                  · skip
                    refine m_aload_n 73 dX13_bar_72 rfl rfl (by decide) ?_
                    refine m_invokevirtual (K' := KX13_drop) (As := []) dX13_bar_73 (fun _ => by decide) ⟨lo_X13_drop, li_X13⟩ (ci := 13) (r := 2468) rfl (by decide) (GI.lt g20 (by decide)) (gk2468 g20) ⟨lmX13_118, lv_X13_drop_i, ls_X13_drop⟩ ⟨rfl, cy_X13_drop⟩ ⟨Nat.le_of_ble_eq_true rfl, Nat.le_of_ble_eq_true rfl⟩ (Nat.le_of_ble_eq_true rfl) rfl (Nat.zero_le _) (Nat.zero_le _) (c_X13_drop g20) (mkV fun h24 q25 => ?_)
                    have g26 : GI h24 := q25
                    refine m_iconst 77 dX13_bar_76 rfl (by decide) ?_
                    exact m_ireturn dX13_bar_77 rfl (m_narZ (by omega)) (mqI ⟨g26, by omega⟩)
                  · skip
                    refine m_aload_n 54 dX13_bar_53 rfl rfl (by decide) ?_
                    refine m_getfieldC 57 dX13_bar_54 rfl (ci := 13) rfl lu_X13 (k := 17) (by decide) lfX13_46 (tag := 2) rfl (by decide) (GI.lt g20 (by decide)) (gk2468 g20) (gf2468_17 g20) ?_
                    refine m_bipush 59 dX13_bar_57 rfl (by decide) ?_
                    refine m_iload_n 60 dX13_bar_59 rfl rfl ?_
                    refine m_imul 61 dX13_bar_60 rfl (by omega) ?_
                    refine m_iload 63 dX13_bar_61 rfl rfl ?_
                    refine m_iadd 64 dX13_bar_63 rfl (by omega) ?_
                    refine m_iconst 65 dX13_bar_64 rfl (by decide) ?_
                    refine m_zast 66 dX13_bar_65 rfl (by decide) (by decide) (GI.lt g20 (by decide)) (gk2481 g20) (by omega) (m_len (gl2481 g20) (by omega)) (by omega) ?_
                    refine m_heap (fun h27 eh27 => ?_)
                    have g28 : GI h27 := eh27 ▸ GI.set g20 (by decide) (fun _ => by show 0 ≤ _ ∧ _ ≤ 1; omega)
                    clear eh27
                    refine m_iinc 69 dX13_bar_66 rfl (by decide) rfl (by omega) ?_
                    refine m_goto 47 dX13_bar_69 rfl ?_
                    refine m_sub [(0, (2, 2468)), (1, (0, a1)), (3, (0, a3)), (4, (0, (x18 + 1)))] (List.forall_mem_cons.mpr ⟨rfl, List.forall_mem_cons.mpr ⟨rfl, List.forall_mem_cons.mpr ⟨rfl, List.forall_mem_cons.mpr ⟨rfl, fun _ h => absurd h List.not_mem_nil⟩⟩⟩⟩) ?_
                    exact ih47 _ (by omega) ((x18 + 1)) h27 g28 (by omega) rfl
                refine m_sub [(0, (2, 2468)), (1, (0, a1)), (3, (0, a3)), (4, (0, a2))] (List.forall_mem_cons.mpr ⟨rfl, List.forall_mem_cons.mpr ⟨rfl, List.forall_mem_cons.mpr ⟨rfl, List.forall_mem_cons.mpr ⟨rfl, fun _ h => absurd h List.not_mem_nil⟩⟩⟩⟩) ?_
                exact lp47 _ (a2) h1 g2 (by omega) rfl
              · skip
                refine m_iconst 43 dX13_bar_42 rfl (by decide) ?_
                exact m_ireturn dX13_bar_43 rfl (m_narZ (by omega)) (mqI ⟨g2, by omega⟩)
          · skip
            refine m_if_ne 37 42 dX13_bar_34 rfl rfl (fun c29 => ?_) (fun c29 => ?_)
            · skip
              refine m_iconst 43 dX13_bar_42 rfl (by decide) ?_
              exact m_ireturn dX13_bar_43 rfl (m_narZ (by omega)) (mqI ⟨g2, by omega⟩)
            · exfalso; omega
      · skip
        refine m_if_ne 25 42 dX13_bar_22 rfl rfl (fun c30 => ?_) (fun c30 => ?_)
        · skip
          refine m_iconst 43 dX13_bar_42 rfl (by decide) ?_
          exact m_ireturn dX13_bar_43 rfl (m_narZ (by omega)) (mqI ⟨g2, by omega⟩)
        · exfalso; omega
  · skip
    refine m_if_ne 13 42 dX13_bar_10 rfl rfl (fun c31 => ?_) (fun c31 => ?_)
    · skip
      refine m_iconst 43 dX13_bar_42 rfl (by decide) ?_
      exact m_ireturn dX13_bar_43 rfl (m_narZ (by omega)) (mqI ⟨g2, by omega⟩)
    · exfalso; omega
theorem cy_X13_borrow : yX13_borrow.cls ≠ "java/lang/invoke/MethodHandle" ∧ yX13_borrow.cls ≠ "java/lang/invoke/VarHandle" ∧ (parseMethodDescriptor yX13_borrow.desc).map (fun d => d.parameters.length) = some 2 := by decide +kernel
theorem dX13_borrow_0 : decode KX13_borrow.2.2.1 0 = .ok (.aload_n 0, 1) := by decide +kernel
theorem dX13_borrow_1 : decode KX13_borrow.2.2.1 1 = .ok (.iconst 0, 1) := by decide +kernel
theorem dX13_borrow_2 : decode KX13_borrow.2.2.1 2 = .ok (.putfield 92, 3) := by decide +kernel
theorem dX13_borrow_5 : decode KX13_borrow.2.2.1 5 = .ok (.lload_n 1, 1) := by decide +kernel
theorem dX13_borrow_6 : decode KX13_borrow.2.2.1 6 = .ok (.lconst 0, 1) := by decide +kernel
theorem dX13_borrow_7 : decode KX13_borrow.2.2.1 7 = .ok (.ldc2_w 113, 3) := by decide +kernel
theorem dX13_borrow_10 : decode KX13_borrow.2.2.1 10 = .ok (.invokestatic 105, 3) := by decide +kernel
theorem dX13_borrow_13 : decode KX13_borrow.2.2.1 13 = .ok (.ifCond .ne 22, 3) := by decide +kernel
theorem dX13_borrow_16 : decode KX13_borrow.2.2.1 16 = .ok (.lload_n 3, 1) := by decide +kernel
theorem dX13_borrow_17 : decode KX13_borrow.2.2.1 17 = .ok (.lconst 0, 1) := by decide +kernel
theorem dX13_borrow_18 : decode KX13_borrow.2.2.1 18 = .ok (.ldc2_w 113, 3) := by decide +kernel
theorem dX13_borrow_21 : decode KX13_borrow.2.2.1 21 = .ok (.invokestatic 105, 3) := by decide +kernel
theorem dX13_borrow_24 : decode KX13_borrow.2.2.1 24 = .ok (.ifCond .ne 11, 3) := by decide +kernel
theorem dX13_borrow_27 : decode KX13_borrow.2.2.1 27 = .ok (.aload_n 0, 1) := by decide +kernel
theorem dX13_borrow_28 : decode KX13_borrow.2.2.1 28 = .ok (.getfield 136, 3) := by decide +kernel
theorem dX13_borrow_31 : decode KX13_borrow.2.2.1 31 = .ok (.iconst 4, 1) := by decide +kernel
theorem dX13_borrow_32 : decode KX13_borrow.2.2.1 32 = .ok (.if_icmp .ne 5, 3) := by decide +kernel
theorem dX13_borrow_35 : decode KX13_borrow.2.2.1 35 = .ok (.iconst (-1), 1) := by decide +kernel
theorem dX13_borrow_36 : decode KX13_borrow.2.2.1 36 = .ok (.ireturn, 1) := by decide +kernel
theorem dX13_borrow_37 : decode KX13_borrow.2.2.1 37 = .ok (.aload_n 0, 1) := by decide +kernel
theorem dX13_borrow_38 : decode KX13_borrow.2.2.1 38 = .ok (.getfield 22, 3) := by decide +kernel
theorem dX13_borrow_41 : decode KX13_borrow.2.2.1 41 = .ok (.aload_n 0, 1) := by decide +kernel
theorem dX13_borrow_42 : decode KX13_borrow.2.2.1 42 = .ok (.getfield 136, 3) := by decide +kernel
theorem dX13_borrow_45 : decode KX13_borrow.2.2.1 45 = .ok (.lload_n 1, 1) := by decide +kernel
theorem dX13_borrow_46 : decode KX13_borrow.2.2.1 46 = .ok (.l2i, 1) := by decide +kernel
theorem dX13_borrow_47 : decode KX13_borrow.2.2.1 47 = .ok (.iastore, 1) := by decide +kernel
theorem dX13_borrow_48 : decode KX13_borrow.2.2.1 48 = .ok (.aload_n 0, 1) := by decide +kernel
theorem dX13_borrow_49 : decode KX13_borrow.2.2.1 49 = .ok (.getfield 25, 3) := by decide +kernel
theorem dX13_borrow_52 : decode KX13_borrow.2.2.1 52 = .ok (.aload_n 0, 1) := by decide +kernel
theorem dX13_borrow_53 : decode KX13_borrow.2.2.1 53 = .ok (.getfield 136, 3) := by decide +kernel
theorem dX13_borrow_56 : decode KX13_borrow.2.2.1 56 = .ok (.lload_n 3, 1) := by decide +kernel
theorem dX13_borrow_57 : decode KX13_borrow.2.2.1 57 = .ok (.l2i, 1) := by decide +kernel
theorem dX13_borrow_58 : decode KX13_borrow.2.2.1 58 = .ok (.iastore, 1) := by decide +kernel
theorem dX13_borrow_59 : decode KX13_borrow.2.2.1 59 = .ok (.aload_n 0, 1) := by decide +kernel
theorem dX13_borrow_60 : decode KX13_borrow.2.2.1 60 = .ok (.dup, 1) := by decide +kernel
theorem dX13_borrow_61 : decode KX13_borrow.2.2.1 61 = .ok (.getfield 136, 3) := by decide +kernel
theorem dX13_borrow_64 : decode KX13_borrow.2.2.1 64 = .ok (.iconst 1, 1) := by decide +kernel
theorem dX13_borrow_65 : decode KX13_borrow.2.2.1 65 = .ok (.iadd, 1) := by decide +kernel
theorem dX13_borrow_66 : decode KX13_borrow.2.2.1 66 = .ok (.putfield 136, 3) := by decide +kernel
theorem dX13_borrow_69 : decode KX13_borrow.2.2.1 69 = .ok (.aload_n 0, 1) := by decide +kernel
theorem dX13_borrow_70 : decode KX13_borrow.2.2.1 70 = .ok (.invokevirtual 118, 3) := by decide +kernel
theorem dX13_borrow_73 : decode KX13_borrow.2.2.1 73 = .ok (.aload_n 0, 1) := by decide +kernel
theorem dX13_borrow_74 : decode KX13_borrow.2.2.1 74 = .ok (.getfield 136, 3) := by decide +kernel
theorem dX13_borrow_77 : decode KX13_borrow.2.2.1 77 = .ok (.iconst 1, 1) := by decide +kernel
theorem dX13_borrow_78 : decode KX13_borrow.2.2.1 78 = .ok (.isub, 1) := by decide +kernel
theorem dX13_borrow_79 : decode KX13_borrow.2.2.1 79 = .ok (.ireturn, 1) := by decide +kernel
abbrev q_X13_borrow (a1 a2 : Int) (h : MH) : MO → MH → Prop := mRI fun v h' => GI h' ∧ (-1) ≤ v ∧ v ≤ 3
set_option maxRecDepth 20000 in
theorem c_X13_borrow {a1 a2 : Int} {h : MH} (g : GI h) : MCal KX13_borrow yX13_borrow 0 0 [(2, 2468), (1, a1), (1, a2)] h (q_X13_borrow a1 a2 h) := by
  refine MCal.ofMW (Or.inl rfl) ⟨cp_X13, rfl⟩ (Nat.le_of_ble_eq_true rfl) ?_
  change MW _ _ _ _ _ [(0, (2, 2468)), (1, (1, a1)), (3, (1, a2))] _ _
  refine m_locL (i := 1) rfl (fun ua1 wa1 => ?_)
  refine m_locL (i := 3) rfl (fun ua2 wa2 => ?_)
  refine m_aload_n 1 dX13_borrow_0 rfl rfl (by decide) ?_
  refine m_iconst 2 dX13_borrow_1 rfl (by decide) ?_
  refine m_putfield 5 dX13_borrow_2 rfl (ci := 13) rfl lu_X13 tyX13_ok nmX13 (k := 0) (by decide) (Or.inl rfl) lfX13_92 (tag := 0) rfl (fun _ => rfl) (fun _ => rfl) (by decide) (GI.lt g (by decide)) (gk2468 g) ?_
  refine m_heap (fun h1 eh1 => ?_)
  have g2 : GI h1 := eh1 ▸ GI.set g (by decide) (fun _ => by show 0 ≤ _ ∧ _ ≤ 1; omega)
  have m3 : (h1.2 2468).2.2 0 = 0 := by rw [eh1]; rfl
  clear eh1
  refine m_lload_n 6 dX13_borrow_5 rfl rfl ?_
  refine m_lconst 7 dX13_borrow_6 rfl ?_
  refine m_ldc2 (n := 100000) 10 dX13_borrow_7 rfl lcX13_113 rfl (by decide) ?_
  refine m_invokestatic (K' := KX13_isOut) (As := [(1, a1), (1, 0), (1, 100000)]) dX13_borrow_10 (fun _ => by decide) ⟨lo_X13_isOut, li_X13⟩ ⟨lmX13_105, lv_X13_isOut_s⟩ ⟨rfl, cy_X13_isOut⟩ ⟨Nat.le_of_ble_eq_true rfl, Nat.le_of_ble_eq_true rfl⟩ (Nat.le_of_ble_eq_true rfl) rfl (Nat.zero_le _) (Nat.zero_le _) (c_X13_isOut) (mkI fun v4 h5 q6 => ?_)
  obtain ⟨rfl, q6⟩ := q6
  rcases q6 with ⟨rfl, q6⟩ | ⟨rfl, q6⟩
  · skip
    refine m_if_ne 16 35 dX13_borrow_13 rfl rfl (fun c7 => ?_) (fun c7 => ?_)
    · exfalso; omega
    · skip
      refine m_lload_n 17 dX13_borrow_16 rfl rfl ?_
      refine m_lconst 18 dX13_borrow_17 rfl ?_
      refine m_ldc2 (n := 100000) 21 dX13_borrow_18 rfl lcX13_113 rfl (by decide) ?_
      refine m_invokestatic (K' := KX13_isOut) (As := [(1, a2), (1, 0), (1, 100000)]) dX13_borrow_21 (fun _ => by decide) ⟨lo_X13_isOut, li_X13⟩ ⟨lmX13_105, lv_X13_isOut_s⟩ ⟨rfl, cy_X13_isOut⟩ ⟨Nat.le_of_ble_eq_true rfl, Nat.le_of_ble_eq_true rfl⟩ (Nat.le_of_ble_eq_true rfl) rfl (Nat.zero_le _) (Nat.zero_le _) (c_X13_isOut) (mkI fun v8 h9 q10 => ?_)
      obtain ⟨rfl, q10⟩ := q10
      rcases q10 with ⟨rfl, q10⟩ | ⟨rfl, q10⟩
      · skip
        refine m_if_ne 27 35 dX13_borrow_24 rfl rfl (fun c11 => ?_) (fun c11 => ?_)
        · exfalso; omega
        · skip
          refine m_aload_n 28 dX13_borrow_27 rfl rfl (by decide) ?_
          refine m_getfield 31 dX13_borrow_28 rfl (ci := 13) rfl lu_X13 (k := 6) (by decide) lfX13_136 (tag := 0) rfl (by decide) (GI.lt g2 (by decide)) (gk2468 g2) (fun v12 (ev12 : v12 = (h1.2 2468).2.2 6) _ => ?_)
          have bv12 : 0 ≤ v12 ∧ v12 ≤ 4 := by rw [ev12]; exact gf2468_6 g2
          refine m_iconst 32 dX13_borrow_31 rfl (by decide) ?_
          refine m_ic_ne 35 37 dX13_borrow_32 rfl rfl (fun c13 => ?_) (fun c13 => ?_)
          · skip
            refine m_aload_n 38 dX13_borrow_37 rfl rfl (by decide) ?_
            refine m_getfieldC 41 dX13_borrow_38 rfl (ci := 13) rfl lu_X13 (k := 7) (by decide) lfX13_22 (tag := 2) rfl (by decide) (GI.lt g2 (by decide)) (gk2468 g2) (gf2468_7 g2) ?_
            refine m_aload_n 42 dX13_borrow_41 rfl rfl (by decide) ?_
            refine m_getfield 45 dX13_borrow_42 rfl (ci := 13) rfl lu_X13 (k := 6) (by decide) lfX13_136 (tag := 0) rfl (by decide) (GI.lt g2 (by decide)) (gk2468 g2) (fun v14 (ev14 : v14 = (h1.2 2468).2.2 6) _ => ?_)
            have bv14 : 0 ≤ v14 ∧ v14 ≤ 4 := by rw [ev14]; exact gf2468_6 g2
            have qv14 : v12 = v14 := (ev14.trans ev12.symm).symm
            subst qv14
            refine m_lload_n 46 dX13_borrow_45 rfl rfl ?_
            refine m_l2i 47 dX13_borrow_46 rfl (by omega) ?_
            refine m_iast 48 dX13_borrow_47 rfl (by decide) (by decide) (GI.lt g2 (by decide)) (gk2473 g2) (by omega) (m_len (gl2473 g2) (by omega)) ?_
            refine m_heap (fun h15 eh15 => ?_)
            have g16 : GI h15 := eh15 ▸ GI.set g2 (by decide) (fun _ => by show 0 ≤ _ ∧ _ ≤ 100000; omega)
            have m17 : (h15.2 2468).2.2 0 = 0 := by rw [eh15]; exact m3
            have m18 : (h15.2 2468).2.2 6 = v12 := by rw [eh15]; exact ev12.symm
            clear eh15
            refine m_aload_n 49 dX13_borrow_48 rfl rfl (by decide) ?_
            refine m_getfieldC 52 dX13_borrow_49 rfl (ci := 13) rfl lu_X13 (k := 8) (by decide) lfX13_25 (tag := 2) rfl (by decide) (GI.lt g16 (by decide)) (gk2468 g16) (gf2468_8 g16) ?_
            refine m_aload_n 53 dX13_borrow_52 rfl rfl (by decide) ?_
            refine m_getfield 56 dX13_borrow_53 rfl (ci := 13) rfl lu_X13 (k := 6) (by decide) lfX13_136 (tag := 0) rfl (by decide) (GI.lt g16 (by decide)) (gk2468 g16) (fun v19 (ev19 : v19 = (h15.2 2468).2.2 6) _ => ?_)
            have bv19 : 0 ≤ v19 ∧ v19 ≤ 4 := by rw [ev19]; exact gf2468_6 g16
            have qv19 : v12 = v19 := (ev19.trans m18).symm
            subst qv19
            refine m_lload_n 57 dX13_borrow_56 rfl rfl ?_
            refine m_l2i 58 dX13_borrow_57 rfl (by omega) ?_
            refine m_iast 59 dX13_borrow_58 rfl (by decide) (by decide) (GI.lt g16 (by decide)) (gk2474 g16) (by omega) (m_len (gl2474 g16) (by omega)) ?_
            refine m_heap (fun h20 eh20 => ?_)
            have g21 : GI h20 := eh20 ▸ GI.set g16 (by decide) (fun _ => by show 0 ≤ _ ∧ _ ≤ 100000; omega)
            have m22 : (h20.2 2468).2.2 0 = 0 := by rw [eh20]; exact m17
            have m23 : (h20.2 2468).2.2 6 = v12 := by rw [eh20]; exact m18
            clear eh20
            refine m_aload_n 60 dX13_borrow_59 rfl rfl (by decide) ?_
            refine m_dup 61 dX13_borrow_60 rfl rfl ?_
            refine m_getfield 64 dX13_borrow_61 rfl (ci := 13) rfl lu_X13 (k := 6) (by decide) lfX13_136 (tag := 0) rfl (by decide) (GI.lt g21 (by decide)) (gk2468 g21) (fun v24 (ev24 : v24 = (h20.2 2468).2.2 6) _ => ?_)
            have bv24 : 0 ≤ v24 ∧ v24 ≤ 4 := by rw [ev24]; exact gf2468_6 g21
            have qv24 : v12 = v24 := (ev24.trans m23).symm
            subst qv24
            refine m_iconst 65 dX13_borrow_64 rfl (by decide) ?_
            refine m_iadd 66 dX13_borrow_65 rfl (by omega) ?_
            refine m_putfield 69 dX13_borrow_66 rfl (ci := 13) rfl lu_X13 tyX13_ok nmX13 (k := 6) (by decide) (Or.inl rfl) lfX13_136 (tag := 0) rfl (fun _ => rfl) (fun _ => rfl) (by decide) (GI.lt g21 (by decide)) (gk2468 g21) ?_
            refine m_heap (fun h25 eh25 => ?_)
            have g26 : GI h25 := eh25 ▸ GI.set g21 (by decide) (fun _ => by show 0 ≤ _ ∧ _ ≤ 4; omega)
            have m27 : (h25.2 2468).2.2 0 = 0 := by rw [eh25]; exact m22
            have m28 : (h25.2 2468).2.2 6 = (v12 + 1) := by rw [eh25]; rfl
            clear eh25
            refine m_aload_n 70 dX13_borrow_69 rfl rfl (by decide) ?_
            refine m_invokevirtual (K' := KX13_drop) (As := []) dX13_borrow_70 (fun _ => by decide) ⟨lo_X13_drop, li_X13⟩ (ci := 13) (r := 2468) rfl (by decide) (GI.lt g26 (by decide)) (gk2468 g26) ⟨lmX13_118, lv_X13_drop_i, ls_X13_drop⟩ ⟨rfl, cy_X13_drop⟩ ⟨Nat.le_of_ble_eq_true rfl, Nat.le_of_ble_eq_true rfl⟩ (Nat.le_of_ble_eq_true rfl) rfl (Nat.zero_le _) (Nat.zero_le _) (c_X13_drop g26) (mkV fun h30 q31 => ?_)
            have g32 : GI h30 := q31
            refine m_aload_n 74 dX13_borrow_73 rfl rfl (by decide) ?_
            refine m_getfield 77 dX13_borrow_74 rfl (ci := 13) rfl lu_X13 (k := 6) (by decide) lfX13_136 (tag := 0) rfl (by decide) (GI.lt g32 (by decide)) (gk2468 g32) (fun v33 (ev33 : v33 = (h30.2 2468).2.2 6) _ => ?_)
            have bv33 : 0 ≤ v33 ∧ v33 ≤ 4 := by rw [ev33]; exact gf2468_6 g32
            refine m_iconst 78 dX13_borrow_77 rfl (by decide) ?_
            refine m_isub 79 dX13_borrow_78 rfl (by omega) ?_
            exact m_ireturn dX13_borrow_79 rfl rfl (mqI ⟨g32, by omega⟩)
          · skip
            refine m_iconst 36 dX13_borrow_35 rfl (by decide) ?_
            exact m_ireturn dX13_borrow_36 rfl rfl (mqI ⟨g2, by omega⟩)
      · skip
        refine m_if_ne 27 35 dX13_borrow_24 rfl rfl (fun c34 => ?_) (fun c34 => ?_)
        · skip
          refine m_iconst 36 dX13_borrow_35 rfl (by decide) ?_
          exact m_ireturn dX13_borrow_36 rfl rfl (mqI ⟨g2, by omega⟩)
        · exfalso; omega
  · skip
    refine m_if_ne 16 35 dX13_borrow_13 rfl rfl (fun c35 => ?_) (fun c35 => ?_)
    · skip
      refine m_iconst 36 dX13_borrow_35 rfl (by decide) ?_
      exact m_ireturn dX13_borrow_36 rfl rfl (mqI ⟨g2, by omega⟩)
    · exfalso; omega
theorem cy_X13_most : yX13_most.cls ≠ "java/lang/invoke/MethodHandle" ∧ yX13_most.cls ≠ "java/lang/invoke/VarHandle" ∧ (parseMethodDescriptor yX13_most.desc).map (fun d => d.parameters.length) = some 2 := by decide +kernel
theorem dX13_most_0 : decode KX13_most.2.2.1 0 = .ok (.aload_n 0, 1) := by decide +kernel
theorem dX13_most_1 : decode KX13_most.2.2.1 1 = .ok (.iconst 0, 1) := by decide +kernel
theorem dX13_most_2 : decode KX13_most.2.2.1 2 = .ok (.putfield 92, 3) := by decide +kernel
theorem dX13_most_5 : decode KX13_most.2.2.1 5 = .ok (.iload_n 1, 1) := by decide +kernel
theorem dX13_most_6 : decode KX13_most.2.2.1 6 = .ok (.i2l, 1) := by decide +kernel
theorem dX13_most_7 : decode KX13_most.2.2.1 7 = .ok (.lconst 0, 1) := by decide +kernel
theorem dX13_most_8 : decode KX13_most.2.2.1 8 = .ok (.ldc2_w 111, 3) := by decide +kernel
theorem dX13_most_11 : decode KX13_most.2.2.1 11 = .ok (.invokestatic 105, 3) := by decide +kernel
theorem dX13_most_14 : decode KX13_most.2.2.1 14 = .ok (.ifCond .ne 14, 3) := by decide +kernel
theorem dX13_most_17 : decode KX13_most.2.2.1 17 = .ok (.lload_n 2, 1) := by decide +kernel
theorem dX13_most_18 : decode KX13_most.2.2.1 18 = .ok (.lconst 0, 1) := by decide +kernel
theorem dX13_most_19 : decode KX13_most.2.2.1 19 = .ok (.ldc2_w 139, 3) := by decide +kernel
theorem dX13_most_22 : decode KX13_most.2.2.1 22 = .ok (.invokestatic 105, 3) := by decide +kernel
theorem dX13_most_25 : decode KX13_most.2.2.1 25 = .ok (.ifCond .eq 5, 3) := by decide +kernel
theorem dX13_most_28 : decode KX13_most.2.2.1 28 = .ok (.iconst 0, 1) := by decide +kernel
theorem dX13_most_29 : decode KX13_most.2.2.1 29 = .ok (.ireturn, 1) := by decide +kernel
theorem dX13_most_30 : decode KX13_most.2.2.1 30 = .ok (.aload_n 0, 1) := by decide +kernel
theorem dX13_most_31 : decode KX13_most.2.2.1 31 = .ok (.getfield 60, 3) := by decide +kernel
theorem dX13_most_34 : decode KX13_most.2.2.1 34 = .ok (.iload_n 1, 1) := by decide +kernel
theorem dX13_most_35 : decode KX13_most.2.2.1 35 = .ok (.lload_n 2, 1) := by decide +kernel
theorem dX13_most_36 : decode KX13_most.2.2.1 36 = .ok (.lastore, 1) := by decide +kernel
theorem dX13_most_37 : decode KX13_most.2.2.1 37 = .ok (.aload_n 0, 1) := by decide +kernel
theorem dX13_most_38 : decode KX13_most.2.2.1 38 = .ok (.invokevirtual 118, 3) := by decide +kernel
theorem dX13_most_41 : decode KX13_most.2.2.1 41 = .ok (.iconst 1, 1) := by decide +kernel
theorem dX13_most_42 : decode KX13_most.2.2.1 42 = .ok (.ireturn, 1) := by decide +kernel
abbrev q_X13_most (a1 a2 : Int) (h : MH) : MO → MH → Prop := mRI fun v h' => GI h' ∧ 0 ≤ v ∧ v ≤ 1
set_option maxRecDepth 20000 in
theorem c_X13_most {a1 a2 : Int} {h : MH} (g : GI h) : MCal KX13_most yX13_most 0 0 [(2, 2468), (0, a1), (1, a2)] h (q_X13_most a1 a2 h) := by
  refine MCal.ofMW (Or.inl rfl) ⟨cp_X13, rfl⟩ (Nat.le_of_ble_eq_true rfl) ?_
  change MW _ _ _ _ _ [(0, (2, 2468)), (1, (0, a1)), (2, (1, a2))] _ _
  refine m_locI (i := 1) rfl (fun ua1 wa1 => ?_)
  refine m_locL (i := 2) rfl (fun ua2 wa2 => ?_)
  refine m_aload_n 1 dX13_most_0 rfl rfl (by decide) ?_
  refine m_iconst 2 dX13_most_1 rfl (by decide) ?_
  refine m_putfield 5 dX13_most_2 rfl (ci := 13) rfl lu_X13 tyX13_ok nmX13 (k := 0) (by decide) (Or.inl rfl) lfX13_92 (tag := 0) rfl (fun _ => rfl) (fun _ => rfl) (by decide) (GI.lt g (by decide)) (gk2468 g) ?_
  refine m_heap (fun h1 eh1 => ?_)
  have g2 : GI h1 := eh1 ▸ GI.set g (by decide) (fun _ => by show 0 ≤ _ ∧ _ ≤ 1; omega)
  have m3 : (h1.2 2468).2.2 0 = 0 := by rw [eh1]; rfl
  clear eh1
  refine m_iload_n 6 dX13_most_5 rfl rfl ?_
  refine m_i2l 7 dX13_most_6 rfl ?_
  refine m_lconst 8 dX13_most_7 rfl ?_
  refine m_ldc2 (n := 11) 11 dX13_most_8 rfl lcX13_111 rfl (by decide) ?_
  refine m_invokestatic (K' := KX13_isOut) (As := [(1, a1), (1, 0), (1, 11)]) dX13_most_11 (fun _ => by decide) ⟨lo_X13_isOut, li_X13⟩ ⟨lmX13_105, lv_X13_isOut_s⟩ ⟨rfl, cy_X13_isOut⟩ ⟨Nat.le_of_ble_eq_true rfl, Nat.le_of_ble_eq_true rfl⟩ (Nat.le_of_ble_eq_true rfl) rfl (Nat.zero_le _) (Nat.zero_le _) (c_X13_isOut) (mkI fun v4 h5 q6 => ?_)
  obtain ⟨rfl, q6⟩ := q6
  rcases q6 with ⟨rfl, q6⟩ | ⟨rfl, q6⟩
  · skip
    refine m_if_ne 17 28 dX13_most_14 rfl rfl (fun c7 => ?_) (fun c7 => ?_)
    · exfalso; omega
    · skip
      refine m_lload_n 18 dX13_most_17 rfl rfl ?_
      refine m_lconst 19 dX13_most_18 rfl ?_
      refine m_ldc2 (n := 10000000) 22 dX13_most_19 rfl lcX13_139 rfl (by decide) ?_
      refine m_invokestatic (K' := KX13_isOut) (As := [(1, a2), (1, 0), (1, 10000000)]) dX13_most_22 (fun _ => by decide) ⟨lo_X13_isOut, li_X13⟩ ⟨lmX13_105, lv_X13_isOut_s⟩ ⟨rfl, cy_X13_isOut⟩ ⟨Nat.le_of_ble_eq_true rfl, Nat.le_of_ble_eq_true rfl⟩ (Nat.le_of_ble_eq_true rfl) rfl (Nat.zero_le _) (Nat.zero_le _) (c_X13_isOut) (mkI fun v8 h9 q10 => ?_)
      obtain ⟨rfl, q10⟩ := q10
      rcases q10 with ⟨rfl, q10⟩ | ⟨rfl, q10⟩
      · skip
        refine m_if_eq 28 30 dX13_most_25 rfl rfl (fun c11 => ?_) (fun c11 => ?_)
        · skip
          refine m_aload_n 31 dX13_most_30 rfl rfl (by decide) ?_
          refine m_getfieldC 34 dX13_most_31 rfl (ci := 13) rfl lu_X13 (k := 21) (by decide) lfX13_60 (tag := 2) rfl (by decide) (GI.lt g2 (by decide)) (gk2468 g2) (gf2468_21 g2) ?_
          refine m_iload_n 35 dX13_most_34 rfl rfl ?_
          refine m_lload_n 36 dX13_most_35 rfl rfl ?_
          refine m_last 37 dX13_most_36 rfl (by decide) (by decide) (GI.lt g2 (by decide)) (gk2485 g2) (by omega) (m_len (gl2485 g2) (by omega)) ?_
          refine m_heap (fun h12 eh12 => ?_)
          have g13 : GI h12 := eh12 ▸ GI.set g2 (by decide) (fun _ => by show 0 ≤ _ ∧ _ ≤ 1125899906842624; omega)
          have m14 : (h12.2 2468).2.2 0 = 0 := by rw [eh12]; exact m3
          clear eh12
          refine m_aload_n 38 dX13_most_37 rfl rfl (by decide) ?_
          refine m_invokevirtual (K' := KX13_drop) (As := []) dX13_most_38 (fun _ => by decide) ⟨lo_X13_drop, li_X13⟩ (ci := 13) (r := 2468) rfl (by decide) (GI.lt g13 (by decide)) (gk2468 g13) ⟨lmX13_118, lv_X13_drop_i, ls_X13_drop⟩ ⟨rfl, cy_X13_drop⟩ ⟨Nat.le_of_ble_eq_true rfl, Nat.le_of_ble_eq_true rfl⟩ (Nat.le_of_ble_eq_true rfl) rfl (Nat.zero_le _) (Nat.zero_le _) (c_X13_drop g13) (mkV fun h16 q17 => ?_)
          have g18 : GI h16 := q17
          refine m_iconst 42 dX13_most_41 rfl (by decide) ?_
          exact m_ireturn dX13_most_42 rfl (m_narZ (by omega)) (mqI ⟨g18, by omega⟩)
        · exfalso; omega
      · skip
        refine m_if_eq 28 30 dX13_most_25 rfl rfl (fun c19 => ?_) (fun c19 => ?_)
        · exfalso; omega
        · skip
          refine m_iconst 29 dX13_most_28 rfl (by decide) ?_
          exact m_ireturn dX13_most_29 rfl (m_narZ (by omega)) (mqI ⟨g2, by omega⟩)
  · skip
    refine m_if_ne 17 28 dX13_most_14 rfl rfl (fun c20 => ?_) (fun c20 => ?_)
    · skip
      refine m_iconst 29 dX13_most_28 rfl (by decide) ?_
      exact m_ireturn dX13_most_29 rfl (m_narZ (by omega)) (mqI ⟨g2, by omega⟩)
    · exfalso; omega
theorem cy_X13_sources : yX13_sources.cls ≠ "java/lang/invoke/MethodHandle" ∧ yX13_sources.cls ≠ "java/lang/invoke/VarHandle" ∧ (parseMethodDescriptor yX13_sources.desc).map (fun d => d.parameters.length) = some 0 := by decide +kernel
theorem dX13_sources_0 : decode KX13_sources.2.2.1 0 = .ok (.aload_n 0, 1) := by decide +kernel
theorem dX13_sources_1 : decode KX13_sources.2.2.1 1 = .ok (.getfield 115, 3) := by decide +kernel
theorem dX13_sources_4 : decode KX13_sources.2.2.1 4 = .ok (.aload_n 0, 1) := by decide +kernel
theorem dX13_sources_5 : decode KX13_sources.2.2.1 5 = .ok (.getfield 136, 3) := by decide +kernel
theorem dX13_sources_8 : decode KX13_sources.2.2.1 8 = .ok (.iadd, 1) := by decide +kernel
theorem dX13_sources_9 : decode KX13_sources.2.2.1 9 = .ok (.ireturn, 1) := by decide +kernel
abbrev q_X13_sources (h : MH) : MO → MH → Prop := mRI fun v h' => h = h' ∧ 0 ≤ v ∧ v ≤ 12
set_option maxRecDepth 20000 in
theorem c_X13_sources {h : MH} (g : GI h) : MCal KX13_sources yX13_sources 0 0 [(2, 2468)] h (q_X13_sources h) := by
  refine MCal.ofMW (Or.inl rfl) ⟨cp_X13, rfl⟩ (Nat.le_of_ble_eq_true rfl) ?_
  change MW _ _ _ _ _ [(0, (2, 2468))] _ _
  refine m_aload_n 1 dX13_sources_0 rfl rfl (by decide) ?_
  refine m_getfield 4 dX13_sources_1 rfl (ci := 13) rfl lu_X13 (k := 1) (by decide) lfX13_115 (tag := 0) rfl (by decide) (GI.lt g (by decide)) (gk2468 g) (fun v1 (ev1 : v1 = (h.2 2468).2.2 1) _ => ?_)
  have bv1 : 0 ≤ v1 ∧ v1 ≤ 8 := by rw [ev1]; exact gf2468_1 g
  refine m_aload_n 5 dX13_sources_4 rfl rfl (by decide) ?_
  refine m_getfield 8 dX13_sources_5 rfl (ci := 13) rfl lu_X13 (k := 6) (by decide) lfX13_136 (tag := 0) rfl (by decide) (GI.lt g (by decide)) (gk2468 g) (fun v2 (ev2 : v2 = (h.2 2468).2.2 6) _ => ?_)
  have bv2 : 0 ≤ v2 ∧ v2 ≤ 4 := by rw [ev2]; exact gf2468_6 g
  refine m_iadd 9 dX13_sources_8 rfl (by omega) ?_
  exact m_ireturn dX13_sources_9 rfl rfl (mqI ⟨rfl, by omega⟩)
theorem cy_X13_apart : yX13_apart.cls ≠ "java/lang/invoke/MethodHandle" ∧ yX13_apart.cls ≠ "java/lang/invoke/VarHandle" ∧ (parseMethodDescriptor yX13_apart.desc).map (fun d => d.parameters.length) = some 2 := by decide +kernel
theorem dX13_apart_0 : decode KX13_apart.2.2.1 0 = .ok (.lload_n 0, 1) := by decide +kernel
theorem dX13_apart_1 : decode KX13_apart.2.2.1 1 = .ok (.lload_n 2, 1) := by decide +kernel
theorem dX13_apart_2 : decode KX13_apart.2.2.1 2 = .ok (.lcmp, 1) := by decide +kernel
theorem dX13_apart_3 : decode KX13_apart.2.2.1 3 = .ok (.ifCond .ge 9, 3) := by decide +kernel
theorem dX13_apart_6 : decode KX13_apart.2.2.1 6 = .ok (.lload_n 2, 1) := by decide +kernel
theorem dX13_apart_7 : decode KX13_apart.2.2.1 7 = .ok (.lload_n 0, 1) := by decide +kernel
theorem dX13_apart_8 : decode KX13_apart.2.2.1 8 = .ok (.lsub, 1) := by decide +kernel
theorem dX13_apart_9 : decode KX13_apart.2.2.1 9 = .ok (.goto 6, 3) := by decide +kernel
theorem dX13_apart_12 : decode KX13_apart.2.2.1 12 = .ok (.lload_n 0, 1) := by decide +kernel
theorem dX13_apart_13 : decode KX13_apart.2.2.1 13 = .ok (.lload_n 2, 1) := by decide +kernel
theorem dX13_apart_14 : decode KX13_apart.2.2.1 14 = .ok (.lsub, 1) := by decide +kernel
theorem dX13_apart_15 : decode KX13_apart.2.2.1 15 = .ok (.lreturn, 1) := by decide +kernel
abbrev q_X13_apart (a1 a2 : Int) (h : MH) : MO → MH → Prop := mRL fun v h' => h = h' ∧ (-9223372036854775808) ≤ v ∧ v ≤ 9223372036854775807
set_option maxRecDepth 20000 in
theorem c_X13_apart {a1 a2 : Int} {h : MH} : MCal KX13_apart yX13_apart 0 0 [(1, a1), (1, a2)] h (q_X13_apart a1 a2 h) := by
  refine MCal.ofMW (Or.inl rfl) ⟨cp_X13, rfl⟩ (Nat.le_of_ble_eq_true rfl) ?_
  change MW _ _ _ _ _ [(0, (1, a1)), (2, (1, a2))] _ _
  refine m_locL (i := 0) rfl (fun ua1 wa1 => ?_)
  refine m_locL (i := 2) rfl (fun ua2 wa2 => ?_)
  refine m_lload_n 1 dX13_apart_0 rfl rfl ?_
  refine m_lload_n 2 dX13_apart_1 rfl rfl ?_
  refine m_lc_ge 6 12 dX13_apart_2 dX13_apart_3 rfl rfl (fun c1 => ?_) (fun c1 => ?_)
  · skip
    refine m_lload_n 13 dX13_apart_12 rfl rfl ?_
    refine m_lload_n 14 dX13_apart_13 rfl rfl ?_
    refine m_lsubW 15 dX13_apart_14 rfl ?_
    obtain ⟨v2, ev2⟩ : ∃ v2 : Int, v2 = (a1 - a2).bmod 18446744073709551616 := ⟨_, rfl⟩
    rw [← ev2]
    have bv2 : (-9223372036854775808) ≤ v2 ∧ v2 ≤ 9223372036854775807 := ev2 ▸ mL_bm _
    clear ev2
    exact m_lreturn dX13_apart_15 rfl (mqL ⟨rfl, by omega⟩)
  · skip
    refine m_lload_n 7 dX13_apart_6 rfl rfl ?_
    refine m_lload_n 8 dX13_apart_7 rfl rfl ?_
    refine m_lsubW 9 dX13_apart_8 rfl ?_
    obtain ⟨v3, ev3⟩ : ∃ v3 : Int, v3 = (a2 - a1).bmod 18446744073709551616 := ⟨_, rfl⟩
    rw [← ev3]
    have bv3 : (-9223372036854775808) ≤ v3 ∧ v3 ≤ 9223372036854775807 := ev3 ▸ mL_bm _
    clear ev3
    refine m_goto 15 dX13_apart_9 rfl ?_
    exact m_lreturn dX13_apart_15 rfl (mqL ⟨rfl, by omega⟩)
theorem cy_X13_wanted : yX13_wanted.cls ≠ "java/lang/invoke/MethodHandle" ∧ yX13_wanted.cls ≠ "java/lang/invoke/VarHandle" ∧ (parseMethodDescriptor yX13_wanted.desc).map (fun d => d.parameters.length) = some 0 := by decide +kernel
theorem dX13_wanted_0 : decode KX13_wanted.2.2.1 0 = .ok (.lconst 0, 1) := by decide +kernel
theorem dX13_wanted_1 : decode KX13_wanted.2.2.1 1 = .ok (.lstore_n 1, 1) := by decide +kernel
theorem dX13_wanted_2 : decode KX13_wanted.2.2.1 2 = .ok (.iconst 0, 1) := by decide +kernel
theorem dX13_wanted_3 : decode KX13_wanted.2.2.1 3 = .ok (.istore_n 3, 1) := by decide +kernel
theorem dX13_wanted_4 : decode KX13_wanted.2.2.1 4 = .ok (.iload_n 3, 1) := by decide +kernel
theorem dX13_wanted_5 : decode KX13_wanted.2.2.1 5 = .ok (.aload_n 0, 1) := by decide +kernel
theorem dX13_wanted_6 : decode KX13_wanted.2.2.1 6 = .ok (.getfield 121, 3) := by decide +kernel
theorem dX13_wanted_9 : decode KX13_wanted.2.2.1 9 = .ok (.if_icmp .ge 19, 3) := by decide +kernel
theorem dX13_wanted_12 : decode KX13_wanted.2.2.1 12 = .ok (.lload_n 1, 1) := by decide +kernel
theorem dX13_wanted_13 : decode KX13_wanted.2.2.1 13 = .ok (.aload_n 0, 1) := by decide +kernel
theorem dX13_wanted_14 : decode KX13_wanted.2.2.1 14 = .ok (.getfield 28, 3) := by decide +kernel
theorem dX13_wanted_17 : decode KX13_wanted.2.2.1 17 = .ok (.iload_n 3, 1) := by decide +kernel
theorem dX13_wanted_18 : decode KX13_wanted.2.2.1 18 = .ok (.iaload, 1) := by decide +kernel
theorem dX13_wanted_19 : decode KX13_wanted.2.2.1 19 = .ok (.i2l, 1) := by decide +kernel
theorem dX13_wanted_20 : decode KX13_wanted.2.2.1 20 = .ok (.ladd, 1) := by decide +kernel
theorem dX13_wanted_21 : decode KX13_wanted.2.2.1 21 = .ok (.lstore_n 1, 1) := by decide +kernel
theorem dX13_wanted_22 : decode KX13_wanted.2.2.1 22 = .ok (.iinc 3 1, 3) := by decide +kernel
theorem dX13_wanted_25 : decode KX13_wanted.2.2.1 25 = .ok (.goto (-21), 3) := by decide +kernel
theorem dX13_wanted_28 : decode KX13_wanted.2.2.1 28 = .ok (.lload_n 1, 1) := by decide +kernel
theorem dX13_wanted_29 : decode KX13_wanted.2.2.1 29 = .ok (.lreturn, 1) := by decide +kernel
abbrev q_X13_wanted (h : MH) : MO → MH → Prop := mRL fun v h' => h = h' ∧ (-9223372036854775808) ≤ v ∧ v ≤ 9223372036854775807
set_option maxRecDepth 20000 in
theorem c_X13_wanted {h : MH} (g : GI h) : MCal KX13_wanted yX13_wanted 0 0 [(2, 2468)] h (q_X13_wanted h) := by
  refine MCal.ofMW (Or.inl rfl) ⟨cp_X13, rfl⟩ (Nat.le_of_ble_eq_true rfl) ?_
  change MW _ _ _ _ _ [(0, (2, 2468))] _ _
  refine m_lconst 1 dX13_wanted_0 rfl ?_
  refine m_lstore_n 2 (i := 1) rfl dX13_wanted_1 rfl (by decide) ?_
  refine m_iconst 3 dX13_wanted_2 rfl (by decide) ?_
  refine m_istore_n 4 (i := 3) rfl dX13_wanted_3 rfl (by decide) ?_
  have lp4 : ∀ (n : Nat) (x1 x2 : Int), True → ((-9223372036854775808) ≤ x1 ∧ x1 ≤ 9223372036854775807) → (0 ≤ x2 ∧ x2 ≤ 8) → (8 - x2).toNat = n → MW KX13_wanted (q_X13_wanted h) 0 0 4 [(0, (2, 2468)), (1, (1, x1)), (3, (0, x2))] [] h := by
    intro n
    induction n using Nat.strongRecOn with
    | _ n ih4 =>
    intro x1 x2 _ b3 b4 hm4
    refine m_iload_n 5 dX13_wanted_4 rfl rfl ?_
    refine m_aload_n 6 dX13_wanted_5 rfl rfl (by decide) ?_
    refine m_getfield 9 dX13_wanted_6 rfl (ci := 13) rfl lu_X13 (k := 9) (by decide) lfX13_121 (tag := 0) rfl (by decide) (GI.lt g (by decide)) (gk2468 g) (fun v5 (ev5 : v5 = (h.2 2468).2.2 9) _ => ?_)
    have bv5 : 0 ≤ v5 ∧ v5 ≤ 8 := by rw [ev5]; exact gf2468_9 g
    refine m_ic_ge 12 28 dX13_wanted_9 rfl rfl (fun c6 => ?_) (fun c6 => ?_)
    · skip
      refine m_lload_n 29 dX13_wanted_28 rfl rfl ?_
      exact m_lreturn dX13_wanted_29 rfl (mqL ⟨rfl, by omega⟩)
    · skip
      refine m_lload_n 13 dX13_wanted_12 rfl rfl ?_
      refine m_aload_n 14 dX13_wanted_13 rfl rfl (by decide) ?_
      refine m_getfieldC 17 dX13_wanted_14 rfl (ci := 13) rfl lu_X13 (k := 10) (by decide) lfX13_28 (tag := 2) rfl (by decide) (GI.lt g (by decide)) (gk2468 g) (gf2468_10 g) ?_
      refine m_iload_n 18 dX13_wanted_17 rfl rfl ?_
      refine m_iald 19 dX13_wanted_18 rfl (by decide) (GI.lt g (by decide)) (gk2475 g) (by omega) (m_len (gl2475 g) (by omega)) (fun v7 ev7 _ => ?_)
      have bv7 : 0 ≤ v7 ∧ v7 ≤ 1000000 := by rw [ev7]; exact ge2475 g (by omega)
      clear ev7
      refine m_i2l 20 dX13_wanted_19 rfl ?_
      refine m_laddW 21 dX13_wanted_20 rfl ?_
      obtain ⟨v8, ev8⟩ : ∃ v8 : Int, v8 = (x1 + v7).bmod 18446744073709551616 := ⟨_, rfl⟩
      rw [← ev8]
      have bv8 : (-9223372036854775808) ≤ v8 ∧ v8 ≤ 9223372036854775807 := ev8 ▸ mL_bm _
      clear ev8
      refine m_lstore_n 22 (i := 1) rfl dX13_wanted_21 rfl (by decide) ?_
      refine m_iinc 25 dX13_wanted_22 rfl (by decide) rfl (by omega) ?_
      refine m_goto 4 dX13_wanted_25 rfl ?_
      refine m_sub [(0, (2, 2468)), (1, (1, v8)), (3, (0, (x2 + 1)))] (List.forall_mem_cons.mpr ⟨rfl, List.forall_mem_cons.mpr ⟨rfl, List.forall_mem_cons.mpr ⟨rfl, fun _ h => absurd h List.not_mem_nil⟩⟩⟩) ?_
      exact ih4 _ (by omega) (v8) ((x2 + 1)) trivial (by omega) (by omega) rfl
  refine m_sub [(0, (2, 2468)), (1, (1, 0)), (3, (0, 0))] (List.forall_mem_cons.mpr ⟨rfl, List.forall_mem_cons.mpr ⟨rfl, List.forall_mem_cons.mpr ⟨rfl, fun _ h => absurd h List.not_mem_nil⟩⟩⟩) ?_
  exact lp4 _ (0) (0) trivial (by omega) (by omega) rfl
theorem cy_X13_noSource : yX13_noSource.cls ≠ "java/lang/invoke/MethodHandle" ∧ yX13_noSource.cls ≠ "java/lang/invoke/VarHandle" ∧ (parseMethodDescriptor yX13_noSource.desc).map (fun d => d.parameters.length) = some 1 := by decide +kernel
theorem dX13_noSource_0 : decode KX13_noSource.2.2.1 0 = .ok (.iload_n 1, 1) := by decide +kernel
theorem dX13_noSource_1 : decode KX13_noSource.2.2.1 1 = .ok (.ifCond .lt 11, 3) := by decide +kernel
theorem dX13_noSource_4 : decode KX13_noSource.2.2.1 4 = .ok (.iload_n 1, 1) := by decide +kernel
theorem dX13_noSource_5 : decode KX13_noSource.2.2.1 5 = .ok (.aload_n 0, 1) := by decide +kernel
theorem dX13_noSource_6 : decode KX13_noSource.2.2.1 6 = .ok (.invokevirtual 152, 3) := by decide +kernel
theorem dX13_noSource_9 : decode KX13_noSource.2.2.1 9 = .ok (.if_icmp .lt 7, 3) := by decide +kernel
theorem dX13_noSource_12 : decode KX13_noSource.2.2.1 12 = .ok (.iconst 1, 1) := by decide +kernel
theorem dX13_noSource_13 : decode KX13_noSource.2.2.1 13 = .ok (.goto 4, 3) := by decide +kernel
theorem dX13_noSource_16 : decode KX13_noSource.2.2.1 16 = .ok (.iconst 0, 1) := by decide +kernel
theorem dX13_noSource_17 : decode KX13_noSource.2.2.1 17 = .ok (.ireturn, 1) := by decide +kernel
abbrev q_X13_noSource (a1 : Int) (h : MH) : MO → MH → Prop := mRI fun v h' => h = h' ∧ 0 ≤ v ∧ v ≤ 1
set_option maxRecDepth 20000 in
theorem c_X13_noSource {a1 : Int} {h : MH} (g : GI h) : MCal KX13_noSource yX13_noSource 0 0 [(2, 2468), (0, a1)] h (q_X13_noSource a1 h) := by
  refine MCal.ofMW (Or.inl rfl) ⟨cp_X13, rfl⟩ (Nat.le_of_ble_eq_true rfl) ?_
  change MW _ _ _ _ _ [(0, (2, 2468)), (1, (0, a1))] _ _
  refine m_locI (i := 1) rfl (fun ua1 wa1 => ?_)
  refine m_iload_n 1 dX13_noSource_0 rfl rfl ?_
  refine m_if_lt 4 12 dX13_noSource_1 rfl rfl (fun c1 => ?_) (fun c1 => ?_)
  · skip
    refine m_iconst 13 dX13_noSource_12 rfl (by decide) ?_
    refine m_goto 17 dX13_noSource_13 rfl ?_
    exact m_ireturn dX13_noSource_17 rfl (m_narZ (by omega)) (mqI ⟨rfl, by omega⟩)
  · skip
    refine m_iload_n 5 dX13_noSource_4 rfl rfl ?_
    refine m_aload_n 6 dX13_noSource_5 rfl rfl (by decide) ?_
    refine m_invokevirtual (K' := KX13_sources) (As := []) dX13_noSource_6 (fun _ => by decide) ⟨lo_X13_sources, li_X13⟩ (ci := 13) (r := 2468) rfl (by decide) (GI.lt g (by decide)) (gk2468 g) ⟨lmX13_152, lv_X13_sources_i, ls_X13_sources⟩ ⟨rfl, cy_X13_sources⟩ ⟨Nat.le_of_ble_eq_true rfl, Nat.le_of_ble_eq_true rfl⟩ (Nat.le_of_ble_eq_true rfl) rfl (Nat.zero_le _) (Nat.zero_le _) (c_X13_sources g) (mkI fun v2 h3 q4 => ?_)
    obtain ⟨rfl, q4⟩ := q4
    refine m_ic_lt 12 16 dX13_noSource_9 rfl rfl (fun c5 => ?_) (fun c5 => ?_)
    · skip
      refine m_iconst 17 dX13_noSource_16 rfl (by decide) ?_
      exact m_ireturn dX13_noSource_17 rfl (m_narZ (by omega)) (mqI ⟨rfl, by omega⟩)
    · skip
      refine m_iconst 13 dX13_noSource_12 rfl (by decide) ?_
      refine m_goto 17 dX13_noSource_13 rfl ?_
      exact m_ireturn dX13_noSource_17 rfl (m_narZ (by omega)) (mqI ⟨rfl, by omega⟩)
theorem cy_X13_check : yX13_check.cls ≠ "java/lang/invoke/MethodHandle" ∧ yX13_check.cls ≠ "java/lang/invoke/VarHandle" ∧ (parseMethodDescriptor yX13_check.desc).map (fun d => d.parameters.length) = some 0 := by decide +kernel
theorem dX13_check_0 : decode KX13_check.2.2.1 0 = .ok (.aload_n 0, 1) := by decide +kernel
theorem dX13_check_1 : decode KX13_check.2.2.1 1 = .ok (.iconst 0, 1) := by decide +kernel
theorem dX13_check_2 : decode KX13_check.2.2.1 2 = .ok (.putfield 92, 3) := by decide +kernel
theorem dX13_check_5 : decode KX13_check.2.2.1 5 = .ok (.aload_n 0, 1) := by decide +kernel
theorem dX13_check_6 : decode KX13_check.2.2.1 6 = .ok (.getfield 96, 3) := by decide +kernel
theorem dX13_check_9 : decode KX13_check.2.2.1 9 = .ok (.ifCond .eq 7, 3) := by decide +kernel
theorem dX13_check_12 : decode KX13_check.2.2.1 12 = .ok (.iconst 0, 1) := by decide +kernel
theorem dX13_check_13 : decode KX13_check.2.2.1 13 = .ok (.goto 4, 3) := by decide +kernel
theorem dX13_check_16 : decode KX13_check.2.2.1 16 = .ok (.iconst (-1), 1) := by decide +kernel
theorem dX13_check_17 : decode KX13_check.2.2.1 17 = .ok (.ireturn, 1) := by decide +kernel
abbrev q_X13_check (h : MH) : MO → MH → Prop := mRI fun v h' => GI h' ∧ (-1) ≤ v ∧ v ≤ 0
set_option maxRecDepth 20000 in
theorem c_X13_check {h : MH} (g : GI h) : MCal KX13_check yX13_check 0 0 [(2, 2468)] h (q_X13_check h) := by
  refine MCal.ofMW (Or.inl rfl) ⟨cp_X13, rfl⟩ (Nat.le_of_ble_eq_true rfl) ?_
  change MW _ _ _ _ _ [(0, (2, 2468))] _ _
  refine m_aload_n 1 dX13_check_0 rfl rfl (by decide) ?_
  refine m_iconst 2 dX13_check_1 rfl (by decide) ?_
  refine m_putfield 5 dX13_check_2 rfl (ci := 13) rfl lu_X13 tyX13_ok nmX13 (k := 0) (by decide) (Or.inl rfl) lfX13_92 (tag := 0) rfl (fun _ => rfl) (fun _ => rfl) (by decide) (GI.lt g (by decide)) (gk2468 g) ?_
  refine m_heap (fun h1 eh1 => ?_)
  have g2 : GI h1 := eh1 ▸ GI.set g (by decide) (fun _ => by show 0 ≤ _ ∧ _ ≤ 1; omega)
  have m3 : (h1.2 2468).2.2 0 = 0 := by rw [eh1]; rfl
  clear eh1
  refine m_aload_n 6 dX13_check_5 rfl rfl (by decide) ?_
  refine m_getfield 9 dX13_check_6 rfl (ci := 13) rfl lu_X13 (k := 33) (by decide) lfX13_96 (tag := 0) rfl (by decide) (GI.lt g2 (by decide)) (gk2468 g2) (fun v4 (ev4 : v4 = (h1.2 2468).2.2 33) _ => ?_)
  have bv4 : 0 ≤ v4 ∧ v4 ≤ 1 := by rw [ev4]; exact gf2468_33 g2
  refine m_if_eq 12 16 dX13_check_9 rfl rfl (fun c5 => ?_) (fun c5 => ?_)
  · skip
    refine m_iconst 17 dX13_check_16 rfl (by decide) ?_
    exact m_ireturn dX13_check_17 rfl rfl (mqI ⟨g2, by omega⟩)
  · skip
    refine m_iconst 13 dX13_check_12 rfl (by decide) ?_
    refine m_goto 17 dX13_check_13 rfl ?_
    exact m_ireturn dX13_check_17 rfl rfl (mqI ⟨g2, by omega⟩)
