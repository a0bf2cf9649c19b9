/-! the words of each class -/
theorem mTB_of {w : Cond} (h : w ∈ tables_1) (hg : goodWord w = true) : w ∈ mTB := List.mem_filter.mpr ⟨List.mem_append_right _ h, hg⟩
set_option maxRecDepth 1000000 in
theorem mTB_sel : (lw_privs.map fun q => Cond.selects q.1.cls q.1 q.1).all goodWord = true := by decide +kernel
theorem mTB_priv {i : Nat} {y : MethodName} {n : Nat} (h : lw_privs[i]? = some (y, n)) : Cond.selects y.cls y y ∈ mTB := by
  have hm := List.mem_of_getElem? h
  refine List.mem_filter.mpr ⟨List.mem_append_left _ (List.mem_map.mpr ⟨(y, n), hm, rfl⟩), ?_⟩
  exact List.all_eq_true.mp mTB_sel _ (List.mem_map.mpr ⟨(y, n), hm, rfl⟩)
theorem sg1 {w : Cond} (h : w ∈ tables_1_1) : w ∈ tables_1 := List.mem_append_left _ h
theorem sg2 {w : Cond} (h : w ∈ tables_1_2) : w ∈ tables_1 := List.mem_append_right _ (List.mem_append_left _ h)
theorem sg3 {w : Cond} (h : w ∈ tables_1_3) : w ∈ tables_1 := List.mem_append_right _ (List.mem_append_right _ (List.mem_append_left _ h))
theorem sg4 {w : Cond} (h : w ∈ tables_1_4) : w ∈ tables_1 := List.mem_append_right _ (List.mem_append_right _ (List.mem_append_right _ (List.mem_append_left _ h)))
theorem sg5 {w : Cond} (h : w ∈ tables_1_5) : w ∈ tables_1 := List.mem_append_right _ (List.mem_append_right _ (List.mem_append_right _ (List.mem_append_right _ (List.mem_append_left _ h))))
theorem sg6 {w : Cond} (h : w ∈ tables_1_6) : w ∈ tables_1 := List.mem_append_right _ (List.mem_append_right _ (List.mem_append_right _ (List.mem_append_right _ (List.mem_append_right _ (List.mem_append_left _ h)))))
theorem sg7 {w : Cond} (h : w ∈ tables_1_7) : w ∈ tables_1 := List.mem_append_right _ (List.mem_append_right _ (List.mem_append_right _ (List.mem_append_right _ (List.mem_append_right _ (List.mem_append_right _ (List.mem_append_left _ h))))))
theorem sg8 {w : Cond} (h : w ∈ tables_1_8) : w ∈ tables_1 := List.mem_append_right _ (List.mem_append_right _ (List.mem_append_right _ (List.mem_append_right _ (List.mem_append_right _ (List.mem_append_right _ (List.mem_append_right _ (List.mem_append_left _ h)))))))
theorem sg9 {w : Cond} (h : w ∈ tables_1_9) : w ∈ tables_1 := List.mem_append_right _ (List.mem_append_right _ (List.mem_append_right _ (List.mem_append_right _ (List.mem_append_right _ (List.mem_append_right _ (List.mem_append_right _ (List.mem_append_right _ (List.mem_append_left _ h))))))))
theorem sg10 {w : Cond} (h : w ∈ tables_1_10) : w ∈ tables_1 := List.mem_append_right _ (List.mem_append_right _ (List.mem_append_right _ (List.mem_append_right _ (List.mem_append_right _ (List.mem_append_right _ (List.mem_append_right _ (List.mem_append_right _ (List.mem_append_right _ (List.mem_append_left _ h)))))))))
theorem sg11 {w : Cond} (h : w ∈ tables_1_11) : w ∈ tables_1 := List.mem_append_right _ (List.mem_append_right _ (List.mem_append_right _ (List.mem_append_right _ (List.mem_append_right _ (List.mem_append_right _ (List.mem_append_right _ (List.mem_append_right _ (List.mem_append_right _ (List.mem_append_right _ (List.mem_append_left _ h))))))))))
theorem sg12 {w : Cond} (h : w ∈ tables_1_12) : w ∈ tables_1 := List.mem_append_right _ (List.mem_append_right _ (List.mem_append_right _ (List.mem_append_right _ (List.mem_append_right _ (List.mem_append_right _ (List.mem_append_right _ (List.mem_append_right _ (List.mem_append_right _ (List.mem_append_right _ (List.mem_append_right _ (List.mem_append_left _ h)))))))))))
theorem sg13 {w : Cond} (h : w ∈ tables_1_13) : w ∈ tables_1 := List.mem_append_right _ (List.mem_append_right _ (List.mem_append_right _ (List.mem_append_right _ (List.mem_append_right _ (List.mem_append_right _ (List.mem_append_right _ (List.mem_append_right _ (List.mem_append_right _ (List.mem_append_right _ (List.mem_append_right _ (List.mem_append_right _ (List.mem_append_left _ h))))))))))))
theorem sg14 {w : Cond} (h : w ∈ tables_1_14) : w ∈ tables_1 := List.mem_append_right _ (List.mem_append_right _ (List.mem_append_right _ (List.mem_append_right _ (List.mem_append_right _ (List.mem_append_right _ (List.mem_append_right _ (List.mem_append_right _ (List.mem_append_right _ (List.mem_append_right _ (List.mem_append_right _ (List.mem_append_right _ (List.mem_append_right _ (List.mem_append_left _ h)))))))))))))
theorem sg15 {w : Cond} (h : w ∈ tables_1_15) : w ∈ tables_1 := List.mem_append_right _ (List.mem_append_right _ (List.mem_append_right _ (List.mem_append_right _ (List.mem_append_right _ (List.mem_append_right _ (List.mem_append_right _ (List.mem_append_right _ (List.mem_append_right _ (List.mem_append_right _ (List.mem_append_right _ (List.mem_append_right _ (List.mem_append_right _ (List.mem_append_right _ (List.mem_append_left _ h))))))))))))))
theorem sg16 {w : Cond} (h : w ∈ tables_1_16) : w ∈ tables_1 := List.mem_append_right _ (List.mem_append_right _ (List.mem_append_right _ (List.mem_append_right _ (List.mem_append_right _ (List.mem_append_right _ (List.mem_append_right _ (List.mem_append_right _ (List.mem_append_right _ (List.mem_append_right _ (List.mem_append_right _ (List.mem_append_right _ (List.mem_append_right _ (List.mem_append_right _ (List.mem_append_right _ (List.mem_append_left _ h)))))))))))))))
theorem sg17 {w : Cond} (h : w ∈ tables_1_17) : w ∈ tables_1 := List.mem_append_right _ (List.mem_append_right _ (List.mem_append_right _ (List.mem_append_right _ (List.mem_append_right _ (List.mem_append_right _ (List.mem_append_right _ (List.mem_append_right _ (List.mem_append_right _ (List.mem_append_right _ (List.mem_append_right _ (List.mem_append_right _ (List.mem_append_right _ (List.mem_append_right _ (List.mem_append_right _ (List.mem_append_right _ (List.mem_append_left _ h))))))))))))))))
theorem sg18 {w : Cond} (h : w ∈ tables_1_18) : w ∈ tables_1 := List.mem_append_right _ (List.mem_append_right _ (List.mem_append_right _ (List.mem_append_right _ (List.mem_append_right _ (List.mem_append_right _ (List.mem_append_right _ (List.mem_append_right _ (List.mem_append_right _ (List.mem_append_right _ (List.mem_append_right _ (List.mem_append_right _ (List.mem_append_right _ (List.mem_append_right _ (List.mem_append_right _ (List.mem_append_right _ (List.mem_append_right _ (List.mem_append_left _ h)))))))))))))))))
theorem sg19 {w : Cond} (h : w ∈ tables_1_19) : w ∈ tables_1 := List.mem_append_right _ (List.mem_append_right _ (List.mem_append_right _ (List.mem_append_right _ (List.mem_append_right _ (List.mem_append_right _ (List.mem_append_right _ (List.mem_append_right _ (List.mem_append_right _ (List.mem_append_right _ (List.mem_append_right _ (List.mem_append_right _ (List.mem_append_right _ (List.mem_append_right _ (List.mem_append_right _ (List.mem_append_right _ (List.mem_append_right _ (List.mem_append_right _ (List.mem_append_left _ h))))))))))))))))))
theorem sg20 {w : Cond} (h : w ∈ tables_1_20) : w ∈ tables_1 := List.mem_append_right _ (List.mem_append_right _ (List.mem_append_right _ (List.mem_append_right _ (List.mem_append_right _ (List.mem_append_right _ (List.mem_append_right _ (List.mem_append_right _ (List.mem_append_right _ (List.mem_append_right _ (List.mem_append_right _ (List.mem_append_right _ (List.mem_append_right _ (List.mem_append_right _ (List.mem_append_right _ (List.mem_append_right _ (List.mem_append_right _ (List.mem_append_right _ (List.mem_append_right _ (List.mem_append_left _ h)))))))))))))))))))
theorem sg21 {w : Cond} (h : w ∈ tables_1_21) : w ∈ tables_1 := List.mem_append_right _ (List.mem_append_right _ (List.mem_append_right _ (List.mem_append_right _ (List.mem_append_right _ (List.mem_append_right _ (List.mem_append_right _ (List.mem_append_right _ (List.mem_append_right _ (List.mem_append_right _ (List.mem_append_right _ (List.mem_append_right _ (List.mem_append_right _ (List.mem_append_right _ (List.mem_append_right _ (List.mem_append_right _ (List.mem_append_right _ (List.mem_append_right _ (List.mem_append_right _ (List.mem_append_right _ (List.mem_append_left _ h))))))))))))))))))))
theorem sg22 {w : Cond} (h : w ∈ tables_1_22) : w ∈ tables_1 := List.mem_append_right _ (List.mem_append_right _ (List.mem_append_right _ (List.mem_append_right _ (List.mem_append_right _ (List.mem_append_right _ (List.mem_append_right _ (List.mem_append_right _ (List.mem_append_right _ (List.mem_append_right _ (List.mem_append_right _ (List.mem_append_right _ (List.mem_append_right _ (List.mem_append_right _ (List.mem_append_right _ (List.mem_append_right _ (List.mem_append_right _ (List.mem_append_right _ (List.mem_append_right _ (List.mem_append_right _ (List.mem_append_right _ (List.mem_append_left _ h)))))))))))))))))))))
theorem sg23 {w : Cond} (h : w ∈ tables_1_23) : w ∈ tables_1 := List.mem_append_right _ (List.mem_append_right _ (List.mem_append_right _ (List.mem_append_right _ (List.mem_append_right _ (List.mem_append_right _ (List.mem_append_right _ (List.mem_append_right _ (List.mem_append_right _ (List.mem_append_right _ (List.mem_append_right _ (List.mem_append_right _ (List.mem_append_right _ (List.mem_append_right _ (List.mem_append_right _ (List.mem_append_right _ (List.mem_append_right _ (List.mem_append_right _ (List.mem_append_right _ (List.mem_append_right _ (List.mem_append_right _ (List.mem_append_right _ (List.mem_append_left _ h))))))))))))))))))))))
theorem sg24 {w : Cond} (h : w ∈ tables_1_24) : w ∈ tables_1 := List.mem_append_right _ (List.mem_append_right _ (List.mem_append_right _ (List.mem_append_right _ (List.mem_append_right _ (List.mem_append_right _ (List.mem_append_right _ (List.mem_append_right _ (List.mem_append_right _ (List.mem_append_right _ (List.mem_append_right _ (List.mem_append_right _ (List.mem_append_right _ (List.mem_append_right _ (List.mem_append_right _ (List.mem_append_right _ (List.mem_append_right _ (List.mem_append_right _ (List.mem_append_right _ (List.mem_append_right _ (List.mem_append_right _ (List.mem_append_right _ (List.mem_append_right _ (h)))))))))))))))))))))))
theorem li_L : Cond.initialized RL ∈ mTB := mTB_of (sg1 (List.mem_of_getElem? (i := 0) rfl)) rfl
theorem li_X11 : Cond.initialized RX11 ∈ mTB := mTB_of (sg1 (List.mem_of_getElem? (i := 1) rfl)) rfl
theorem li_X10 : Cond.initialized RX10 ∈ mTB := mTB_of (sg1 (List.mem_of_getElem? (i := 2) rfl)) rfl
theorem li_X6 : Cond.initialized RX6 ∈ mTB := mTB_of (sg1 (List.mem_of_getElem? (i := 3) rfl)) rfl
theorem li_X4 : Cond.initialized RX4 ∈ mTB := mTB_of (sg1 (List.mem_of_getElem? (i := 4) rfl)) rfl
theorem li_X0 : Cond.initialized RX0 ∈ mTB := mTB_of (sg1 (List.mem_of_getElem? (i := 5) rfl)) rfl
theorem li_X5 : Cond.initialized RX5 ∈ mTB := mTB_of (sg1 (List.mem_of_getElem? (i := 6) rfl)) rfl
theorem li_X1 : Cond.initialized RX1 ∈ mTB := mTB_of (sg1 (List.mem_of_getElem? (i := 7) rfl)) rfl
theorem li_X9 : Cond.initialized RX9 ∈ mTB := mTB_of (sg1 (List.mem_of_getElem? (i := 8) rfl)) rfl
theorem li_J7 : Cond.initialized RJ7 ∈ mTB := mTB_of (sg1 (List.mem_of_getElem? (i := 9) rfl)) rfl
theorem li_X8 : Cond.initialized RX8 ∈ mTB := mTB_of (sg1 (List.mem_of_getElem? (i := 10) rfl)) rfl
theorem li_X7 : Cond.initialized RX7 ∈ mTB := mTB_of (sg1 (List.mem_of_getElem? (i := 11) rfl)) rfl
theorem li_X2 : Cond.initialized RX2 ∈ mTB := mTB_of (sg1 (List.mem_of_getElem? (i := 12) rfl)) rfl
theorem li_X3 : Cond.initialized RX3 ∈ mTB := mTB_of (sg1 (List.mem_of_getElem? (i := 13) rfl)) rfl
theorem li_X20 : Cond.initialized RX20 ∈ mTB := mTB_of (sg1 (List.mem_of_getElem? (i := 14) rfl)) rfl
theorem li_X12 : Cond.initialized RX12 ∈ mTB := mTB_of (sg1 (List.mem_of_getElem? (i := 15) rfl)) rfl
theorem li_X13 : Cond.initialized RX13 ∈ mTB := mTB_of (sg1 (List.mem_of_getElem? (i := 16) rfl)) rfl
theorem li_X14 : Cond.initialized RX14 ∈ mTB := mTB_of (sg1 (List.mem_of_getElem? (i := 17) rfl)) rfl
theorem li_X19 : Cond.initialized RX19 ∈ mTB := mTB_of (sg1 (List.mem_of_getElem? (i := 18) rfl)) rfl
theorem li_X18 : Cond.initialized RX18 ∈ mTB := mTB_of (sg1 (List.mem_of_getElem? (i := 19) rfl)) rfl
theorem li_X16 : Cond.initialized RX16 ∈ mTB := mTB_of (sg1 (List.mem_of_getElem? (i := 20) rfl)) rfl
theorem li_X17 : Cond.initialized RX17 ∈ mTB := mTB_of (sg1 (List.mem_of_getElem? (i := 21) rfl)) rfl
theorem li_X15 : Cond.initialized RX15 ∈ mTB := mTB_of (sg1 (List.mem_of_getElem? (i := 22) rfl)) rfl
theorem li_Jx00060 : Cond.initialized RJx00060 ∈ mTB := mTB_of (sg1 (List.mem_of_getElem? (i := 27) rfl)) rfl
theorem li_J0 : Cond.initialized RJ0 ∈ mTB := mTB_of (sg1 (List.mem_of_getElem? (i := 28) rfl)) rfl
theorem li_Jxde1cd : Cond.initialized RJxde1cd ∈ mTB := mTB_of (sg1 (List.mem_of_getElem? (i := 29) rfl)) rfl
theorem li_J5 : Cond.initialized RJ5 ∈ mTB := mTB_of (sg1 (List.mem_of_getElem? (i := 31) rfl)) rfl
theorem li_J4 : Cond.initialized RJ4 ∈ mTB := mTB_of (sg1 (List.mem_of_getElem? (i := 32) rfl)) rfl
theorem li_J2 : Cond.initialized RJ2 ∈ mTB := mTB_of (sg1 (List.mem_of_getElem? (i := 33) rfl)) rfl
theorem li_J8 : Cond.initialized RJ8 ∈ mTB := mTB_of (sg1 (List.mem_of_getElem? (i := 34) rfl)) rfl
theorem li_J9 : Cond.initialized RJ9 ∈ mTB := mTB_of (sg1 (List.mem_of_getElem? (i := 35) rfl)) rfl
theorem li_J10 : Cond.initialized RJ10 ∈ mTB := mTB_of (sg1 (List.mem_of_getElem? (i := 36) rfl)) rfl
theorem li_J3 : Cond.initialized RJ3 ∈ mTB := mTB_of (sg1 (List.mem_of_getElem? (i := 37) rfl)) rfl
theorem li_J1 : Cond.initialized RJ1 ∈ mTB := mTB_of (sg1 (List.mem_of_getElem? (i := 38) rfl)) rfl
theorem li_Jxd2413 : Cond.initialized RJxd2413 ∈ mTB := mTB_of (sg1 (List.mem_of_getElem? (i := 39) rfl)) rfl
theorem li_J6 : Cond.initialized RJ6 ∈ mTB := mTB_of (sg1 (List.mem_of_getElem? (i := 40) rfl)) rfl
theorem lkL_8 : Cond.classLink RL 8 RX11 ∈ mTB := mTB_of (sg1 (List.mem_of_getElem? (i := 42) rfl)) rfl
theorem ln_X11 : Cond.instantiable RX11 10 ∈ mTB := mTB_of (sg1 (List.mem_of_getElem? (i := 43) rfl)) rfl
theorem lmL_21 : Cond.methodLink RL 21 yX11_init ∈ mTB := mTB_of (sg1 (List.mem_of_getElem? (i := 44) rfl)) rfl
theorem lv_X11_init_i : Cond.instanceMethod yX11_init ∈ mTB := mTB_of (sg1 (List.mem_of_getElem? (i := 45) rfl)) rfl
theorem lo_X11_init : Cond.code yX11_init cX11_init 2 none ∈ mTB := mTB_of (sg1 (List.mem_of_getElem? (i := 46) rfl)) rfl
theorem lmX11_1 : Cond.methodLink RX11 1 ⟨"java/lang/Object", "<init>", "()V"⟩ ∈ mTB := mTB_of (sg1 (List.mem_of_getElem? (i := 47) rfl)) rfl
theorem lkX11_7 : Cond.classLink RX11 7 RX10 ∈ mTB := mTB_of (sg1 (List.mem_of_getElem? (i := 50) rfl)) rfl
theorem ln_X10 : Cond.instantiable RX10 19 ∈ mTB := mTB_of (sg1 (List.mem_of_getElem? (i := 51) rfl)) rfl
theorem lv_X10_init_i : Cond.instanceMethod yX10_init ∈ mTB := mTB_of (sg1 (List.mem_of_getElem? (i := 53) rfl)) rfl
theorem lo_X10_init : Cond.code yX10_init cX10_init 1 none ∈ mTB := mTB_of (sg1 (List.mem_of_getElem? (i := 54) rfl)) rfl
theorem lmX10_5 : Cond.methodLink RX10 5 ⟨"java/lang/Object", "<init>", "()V"⟩ ∈ mTB := mTB_of (sg1 (List.mem_of_getElem? (i := 55) rfl)) rfl
theorem lkX10_34 : Cond.classLink RX10 34 "[[I" ∈ mTB := mTB_of (sg1 (List.mem_of_getElem? (i := 56) rfl)) rfl
theorem lcX10_58 : Cond.constantLong RX10 58 (-1 : Int64) ∈ mTB := mTB_of (sg1 (List.mem_of_getElem? (i := 58) rfl)) rfl
theorem lkX10_64 : Cond.classLink RX10 64 RX6 ∈ mTB := mTB_of (sg1 (List.mem_of_getElem? (i := 59) rfl)) rfl
theorem ln_X6 : Cond.instantiable RX6 11 ∈ mTB := mTB_of (sg1 (List.mem_of_getElem? (i := 60) rfl)) rfl
theorem lv_X6_init_i : Cond.instanceMethod yX6_init ∈ mTB := mTB_of (sg1 (List.mem_of_getElem? (i := 62) rfl)) rfl
theorem lo_X6_init : Cond.code yX6_init cX6_init 1 none ∈ mTB := mTB_of (sg1 (List.mem_of_getElem? (i := 63) rfl)) rfl
theorem lmX6_3 : Cond.methodLink RX6 3 ⟨"java/lang/Object", "<init>", "()V"⟩ ∈ mTB := mTB_of (sg1 (List.mem_of_getElem? (i := 64) rfl)) rfl
theorem lfX6_11 : Cond.fieldLink RX6 11 (TX6 0).1 (TX6 0).2.1 (TX6 0).2.2.1 ∈ mTB := mTB_of (sg1 (List.mem_of_getElem? (i := 65) rfl)) rfl
theorem lfX10_177 : Cond.fieldLink RX10 177 (TX6 0).1 (TX6 0).2.1 (TX6 0).2.2.1 ∈ mTB := mTB_of (sg1 (List.mem_of_getElem? (i := 66) rfl)) rfl
theorem lfX6_61 : Cond.fieldLink RX6 61 (TX6 1).1 (TX6 1).2.1 (TX6 1).2.2.1 ∈ mTB := mTB_of (sg1 (List.mem_of_getElem? (i := 67) rfl)) rfl
theorem lfX10_184 : Cond.fieldLink RX10 184 (TX6 1).1 (TX6 1).2.1 (TX6 1).2.2.1 ∈ mTB := mTB_of (sg1 (List.mem_of_getElem? (i := 68) rfl)) rfl
theorem lfX6_15 : Cond.fieldLink RX6 15 (TX6 2).1 (TX6 2).2.1 (TX6 2).2.2.1 ∈ mTB := mTB_of (sg1 (List.mem_of_getElem? (i := 69) rfl)) rfl
theorem lfX6_19 : Cond.fieldLink RX6 19 (TX6 3).1 (TX6 3).2.1 (TX6 3).2.2.1 ∈ mTB := mTB_of (sg1 (List.mem_of_getElem? (i := 70) rfl)) rfl
theorem lfX6_22 : Cond.fieldLink RX6 22 (TX6 4).1 (TX6 4).2.1 (TX6 4).2.2.1 ∈ mTB := mTB_of (sg1 (List.mem_of_getElem? (i := 71) rfl)) rfl
theorem lfX6_25 : Cond.fieldLink RX6 25 (TX6 5).1 (TX6 5).2.1 (TX6 5).2.2.1 ∈ mTB := mTB_of (sg1 (List.mem_of_getElem? (i := 72) rfl)) rfl
theorem lfX6_29 : Cond.fieldLink RX6 29 (TX6 6).1 (TX6 6).2.1 (TX6 6).2.2.1 ∈ mTB := mTB_of (sg1 (List.mem_of_getElem? (i := 73) rfl)) rfl
theorem lfX6_56 : Cond.fieldLink RX6 56 (TX6 7).1 (TX6 7).2.1 (TX6 7).2.2.1 ∈ mTB := mTB_of (sg1 (List.mem_of_getElem? (i := 74) rfl)) rfl
theorem lfX6_36 : Cond.fieldLink RX6 36 (TX6 8).1 (TX6 8).2.1 (TX6 8).2.2.1 ∈ mTB := mTB_of (sg1 (List.mem_of_getElem? (i := 75) rfl)) rfl
theorem lfX6_40 : Cond.fieldLink RX6 40 (TX6 9).1 (TX6 9).2.1 (TX6 9).2.2.1 ∈ mTB := mTB_of (sg1 (List.mem_of_getElem? (i := 76) rfl)) rfl
theorem lfX6_32 : Cond.fieldLink RX6 32 (TX6 10).1 (TX6 10).2.1 (TX6 10).2.2.1 ∈ mTB := mTB_of (sg1 (List.mem_of_getElem? (i := 77) rfl)) rfl
theorem la_int : Cond.arrayClass .int ∈ mTB := mTB_of (sg1 (List.mem_of_getElem? (i := 101) rfl)) rfl
theorem la_boolean : Cond.arrayClass .boolean ∈ mTB := mTB_of (sg1 (List.mem_of_getElem? (i := 102) rfl)) rfl
theorem la_long : Cond.arrayClass .long ∈ mTB := mTB_of (sg1 (List.mem_of_getElem? (i := 103) rfl)) rfl
theorem lfX10_11 : Cond.fieldLink RX10 11 (TX10 0).1 (TX10 0).2.1 (TX10 0).2.2.1 ∈ mTB := mTB_of (sg1 (List.mem_of_getElem? (i := 104) rfl)) rfl
theorem lfX10_15 : Cond.fieldLink RX10 15 (TX10 1).1 (TX10 1).2.1 (TX10 1).2.2.1 ∈ mTB := mTB_of (sg1 (List.mem_of_getElem? (i := 105) rfl)) rfl
theorem lfX10_18 : Cond.fieldLink RX10 18 (TX10 2).1 (TX10 2).2.1 (TX10 2).2.2.1 ∈ mTB := mTB_of (sg1 (List.mem_of_getElem? (i := 106) rfl)) rfl
theorem lfX10_22 : Cond.fieldLink RX10 22 (TX10 3).1 (TX10 3).2.1 (TX10 3).2.2.1 ∈ mTB := mTB_of (sg1 (List.mem_of_getElem? (i := 107) rfl)) rfl
theorem lfX6_104 : Cond.fieldLink RX6 104 (TX10 3).1 (TX10 3).2.1 (TX10 3).2.2.1 ∈ mTB := mTB_of (sg1 (List.mem_of_getElem? (i := 108) rfl)) rfl
theorem lfX10_25 : Cond.fieldLink RX10 25 (TX10 4).1 (TX10 4).2.1 (TX10 4).2.2.1 ∈ mTB := mTB_of (sg1 (List.mem_of_getElem? (i := 109) rfl)) rfl
theorem lfX10_28 : Cond.fieldLink RX10 28 (TX10 5).1 (TX10 5).2.1 (TX10 5).2.2.1 ∈ mTB := mTB_of (sg1 (List.mem_of_getElem? (i := 110) rfl)) rfl
theorem lfX10_31 : Cond.fieldLink RX10 31 (TX10 6).1 (TX10 6).2.1 (TX10 6).2.2.1 ∈ mTB := mTB_of (sg1 (List.mem_of_getElem? (i := 111) rfl)) rfl
theorem lfX10_36 : Cond.fieldLink RX10 36 (TX10 7).1 (TX10 7).2.1 (TX10 7).2.2.1 ∈ mTB := mTB_of (sg1 (List.mem_of_getElem? (i := 112) rfl)) rfl
theorem lfX10_39 : Cond.fieldLink RX10 39 (TX10 8).1 (TX10 8).2.1 (TX10 8).2.2.1 ∈ mTB := mTB_of (sg1 (List.mem_of_getElem? (i := 113) rfl)) rfl
theorem lfX10_42 : Cond.fieldLink RX10 42 (TX10 9).1 (TX10 9).2.1 (TX10 9).2.2.1 ∈ mTB := mTB_of (sg1 (List.mem_of_getElem? (i := 114) rfl)) rfl
theorem lfX10_45 : Cond.fieldLink RX10 45 (TX10 10).1 (TX10 10).2.1 (TX10 10).2.2.1 ∈ mTB := mTB_of (sg1 (List.mem_of_getElem? (i := 115) rfl)) rfl
theorem lfX6_73 : Cond.fieldLink RX6 73 (TX10 10).1 (TX10 10).2.1 (TX10 10).2.2.1 ∈ mTB := mTB_of (sg1 (List.mem_of_getElem? (i := 116) rfl)) rfl
theorem lfX10_49 : Cond.fieldLink RX10 49 (TX10 11).1 (TX10 11).2.1 (TX10 11).2.2.1 ∈ mTB := mTB_of (sg1 (List.mem_of_getElem? (i := 117) rfl)) rfl
theorem lfX10_52 : Cond.fieldLink RX10 52 (TX10 12).1 (TX10 12).2.1 (TX10 12).2.2.1 ∈ mTB := mTB_of (sg1 (List.mem_of_getElem? (i := 118) rfl)) rfl
theorem lfX10_55 : Cond.fieldLink RX10 55 (TX10 13).1 (TX10 13).2.1 (TX10 13).2.2.1 ∈ mTB := mTB_of (sg1 (List.mem_of_getElem? (i := 119) rfl)) rfl
theorem lfX10_168 : Cond.fieldLink RX10 168 (TX10 14).1 (TX10 14).2.1 (TX10 14).2.2.1 ∈ mTB := mTB_of (sg1 (List.mem_of_getElem? (i := 120) rfl)) rfl
theorem lfX10_165 : Cond.fieldLink RX10 165 (TX10 15).1 (TX10 15).2.1 (TX10 15).2.2.1 ∈ mTB := mTB_of (sg1 (List.mem_of_getElem? (i := 121) rfl)) rfl
theorem lfX10_101 : Cond.fieldLink RX10 101 (TX10 16).1 (TX10 16).2.1 (TX10 16).2.2.1 ∈ mTB := mTB_of (sg1 (List.mem_of_getElem? (i := 122) rfl)) rfl
theorem lfX10_60 : Cond.fieldLink RX10 60 (TX10 17).1 (TX10 17).2.1 (TX10 17).2.2.1 ∈ mTB := mTB_of (sg1 (List.mem_of_getElem? (i := 123) rfl)) rfl
theorem lfX10_67 : Cond.fieldLink RX10 67 (TX10 18).1 (TX10 18).2.1 (TX10 18).2.2.1 ∈ mTB := mTB_of (sg1 (List.mem_of_getElem? (i := 124) rfl)) rfl
theorem lkX11_16 : Cond.classLink RX11 16 RX4 ∈ mTB := mTB_of (sg1 (List.mem_of_getElem? (i := 164) rfl)) rfl
theorem ln_X4 : Cond.instantiable RX4 20 ∈ mTB := mTB_of (sg1 (List.mem_of_getElem? (i := 165) rfl)) rfl
theorem lv_X4_init_i : Cond.instanceMethod yX4_init ∈ mTB := mTB_of (sg1 (List.mem_of_getElem? (i := 167) rfl)) rfl
theorem lo_X4_init : Cond.code yX4_init cX4_init 1 none ∈ mTB := mTB_of (sg1 (List.mem_of_getElem? (i := 168) rfl)) rfl
theorem lmX4_5 : Cond.methodLink RX4 5 ⟨"java/lang/Object", "<init>", "()V"⟩ ∈ mTB := mTB_of (sg1 (List.mem_of_getElem? (i := 169) rfl)) rfl
theorem lkX4_15 : Cond.classLink RX4 15 "[[I" ∈ mTB := mTB_of (sg1 (List.mem_of_getElem? (i := 170) rfl)) rfl
theorem lkX4_29 : Cond.classLink RX4 29 "[I" ∈ mTB := mTB_of (sg1 (List.mem_of_getElem? (i := 171) rfl)) rfl
theorem lkX4_43 : Cond.classLink RX4 43 "[[J" ∈ mTB := mTB_of (sg1 (List.mem_of_getElem? (i := 172) rfl)) rfl
theorem lfX4_11 : Cond.fieldLink RX4 11 (TX4 0).1 (TX4 0).2.1 (TX4 0).2.2.1 ∈ mTB := mTB_of (sg1 (List.mem_of_getElem? (i := 174) rfl)) rfl
theorem lfX4_17 : Cond.fieldLink RX4 17 (TX4 1).1 (TX4 1).2.1 (TX4 1).2.2.1 ∈ mTB := mTB_of (sg1 (List.mem_of_getElem? (i := 175) rfl)) rfl
theorem lfX4_20 : Cond.fieldLink RX4 20 (TX4 2).1 (TX4 2).2.1 (TX4 2).2.2.1 ∈ mTB := mTB_of (sg1 (List.mem_of_getElem? (i := 176) rfl)) rfl
theorem lfX4_23 : Cond.fieldLink RX4 23 (TX4 3).1 (TX4 3).2.1 (TX4 3).2.2.1 ∈ mTB := mTB_of (sg1 (List.mem_of_getElem? (i := 177) rfl)) rfl
theorem lfX4_26 : Cond.fieldLink RX4 26 (TX4 4).1 (TX4 4).2.1 (TX4 4).2.2.1 ∈ mTB := mTB_of (sg1 (List.mem_of_getElem? (i := 178) rfl)) rfl
theorem lfX4_30 : Cond.fieldLink RX4 30 (TX4 5).1 (TX4 5).2.1 (TX4 5).2.2.1 ∈ mTB := mTB_of (sg1 (List.mem_of_getElem? (i := 179) rfl)) rfl
theorem lfX4_33 : Cond.fieldLink RX4 33 (TX4 6).1 (TX4 6).2.1 (TX4 6).2.2.1 ∈ mTB := mTB_of (sg1 (List.mem_of_getElem? (i := 180) rfl)) rfl
theorem lfX4_36 : Cond.fieldLink RX4 36 (TX4 7).1 (TX4 7).2.1 (TX4 7).2.2.1 ∈ mTB := mTB_of (sg1 (List.mem_of_getElem? (i := 181) rfl)) rfl
theorem lfX4_39 : Cond.fieldLink RX4 39 (TX4 8).1 (TX4 8).2.1 (TX4 8).2.2.1 ∈ mTB := mTB_of (sg1 (List.mem_of_getElem? (i := 182) rfl)) rfl
theorem lfX4_248 : Cond.fieldLink RX4 248 (TX4 9).1 (TX4 9).2.1 (TX4 9).2.2.1 ∈ mTB := mTB_of (sg1 (List.mem_of_getElem? (i := 183) rfl)) rfl
theorem lfX4_45 : Cond.fieldLink RX4 45 (TX4 10).1 (TX4 10).2.1 (TX4 10).2.2.1 ∈ mTB := mTB_of (sg1 (List.mem_of_getElem? (i := 184) rfl)) rfl
theorem lfX4_48 : Cond.fieldLink RX4 48 (TX4 11).1 (TX4 11).2.1 (TX4 11).2.2.1 ∈ mTB := mTB_of (sg1 (List.mem_of_getElem? (i := 185) rfl)) rfl
theorem lfX4_51 : Cond.fieldLink RX4 51 (TX4 12).1 (TX4 12).2.1 (TX4 12).2.2.1 ∈ mTB := mTB_of (sg1 (List.mem_of_getElem? (i := 186) rfl)) rfl
theorem lfX4_54 : Cond.fieldLink RX4 54 (TX4 13).1 (TX4 13).2.1 (TX4 13).2.2.1 ∈ mTB := mTB_of (sg1 (List.mem_of_getElem? (i := 187) rfl)) rfl
theorem lfX4_58 : Cond.fieldLink RX4 58 (TX4 14).1 (TX4 14).2.1 (TX4 14).2.2.1 ∈ mTB := mTB_of (sg1 (List.mem_of_getElem? (i := 188) rfl)) rfl
theorem lfX4_61 : Cond.fieldLink RX4 61 (TX4 15).1 (TX4 15).2.1 (TX4 15).2.2.1 ∈ mTB := mTB_of (sg1 (List.mem_of_getElem? (i := 189) rfl)) rfl
theorem lfX4_64 : Cond.fieldLink RX4 64 (TX4 16).1 (TX4 16).2.1 (TX4 16).2.2.1 ∈ mTB := mTB_of (sg1 (List.mem_of_getElem? (i := 190) rfl)) rfl
theorem lfX4_67 : Cond.fieldLink RX4 67 (TX4 17).1 (TX4 17).2.1 (TX4 17).2.2.1 ∈ mTB := mTB_of (sg1 (List.mem_of_getElem? (i := 191) rfl)) rfl
theorem lfX4_70 : Cond.fieldLink RX4 70 (TX4 18).1 (TX4 18).2.1 (TX4 18).2.2.1 ∈ mTB := mTB_of (sg1 (List.mem_of_getElem? (i := 192) rfl)) rfl
theorem lfX4_73 : Cond.fieldLink RX4 73 (TX4 19).1 (TX4 19).2.1 (TX4 19).2.2.1 ∈ mTB := mTB_of (sg1 (List.mem_of_getElem? (i := 193) rfl)) rfl
theorem lkX11_23 : Cond.classLink RX11 23 RX0 ∈ mTB := mTB_of (sg1 (List.mem_of_getElem? (i := 235) rfl)) rfl
theorem ln_X0 : Cond.instantiable RX0 22 ∈ mTB := mTB_of (sg1 (List.mem_of_getElem? (i := 236) rfl)) rfl
theorem lmX11_25 : Cond.methodLink RX11 25 yX0_init ∈ mTB := mTB_of (sg1 (List.mem_of_getElem? (i := 237) rfl)) rfl
theorem lv_X0_init_i : Cond.instanceMethod yX0_init ∈ mTB := mTB_of (sg1 (List.mem_of_getElem? (i := 238) rfl)) rfl
theorem lo_X0_init : Cond.code yX0_init cX0_init 2 none ∈ mTB := mTB_of (sg1 (List.mem_of_getElem? (i := 239) rfl)) rfl
theorem lmX0_5 : Cond.methodLink RX0 5 ⟨"java/lang/Object", "<init>", "()V"⟩ ∈ mTB := mTB_of (sg2 (List.mem_of_getElem? (i := 0) rfl)) rfl
theorem lkX0_15 : Cond.classLink RX0 15 "[I" ∈ mTB := mTB_of (sg2 (List.mem_of_getElem? (i := 1) rfl)) rfl
theorem lkX0_31 : Cond.classLink RX0 31 "[[I" ∈ mTB := mTB_of (sg2 (List.mem_of_getElem? (i := 2) rfl)) rfl
theorem lkX0_45 : Cond.classLink RX0 45 "[[J" ∈ mTB := mTB_of (sg2 (List.mem_of_getElem? (i := 3) rfl)) rfl
theorem lkX0_50 : Cond.classLink RX0 50 RX1 ∈ mTB := mTB_of (sg2 (List.mem_of_getElem? (i := 4) rfl)) rfl
theorem lkX0_69 : Cond.classLink RX0 69 RX5 ∈ mTB := mTB_of (sg2 (List.mem_of_getElem? (i := 6) rfl)) rfl
theorem ln_X5 : Cond.instantiable RX5 6 ∈ mTB := mTB_of (sg2 (List.mem_of_getElem? (i := 7) rfl)) rfl
theorem lmX0_71 : Cond.methodLink RX0 71 yX5_init ∈ mTB := mTB_of (sg2 (List.mem_of_getElem? (i := 8) rfl)) rfl
theorem lv_X5_init_i : Cond.instanceMethod yX5_init ∈ mTB := mTB_of (sg2 (List.mem_of_getElem? (i := 9) rfl)) rfl
theorem lo_X5_init : Cond.code yX5_init cX5_init 2 none ∈ mTB := mTB_of (sg2 (List.mem_of_getElem? (i := 10) rfl)) rfl
theorem lmX5_3 : Cond.methodLink RX5 3 ⟨"java/lang/Object", "<init>", "()V"⟩ ∈ mTB := mTB_of (sg2 (List.mem_of_getElem? (i := 11) rfl)) rfl
theorem lkX5_9 : Cond.classLink RX5 9 RX1 ∈ mTB := mTB_of (sg2 (List.mem_of_getElem? (i := 12) rfl)) rfl
theorem ln_X1 : Cond.instantiable RX1 3 ∈ mTB := mTB_of (sg2 (List.mem_of_getElem? (i := 13) rfl)) rfl
theorem lmX5_11 : Cond.methodLink RX5 11 yX1_init ∈ mTB := mTB_of (sg2 (List.mem_of_getElem? (i := 14) rfl)) rfl
theorem lv_X1_init_i : Cond.instanceMethod yX1_init ∈ mTB := mTB_of (sg2 (List.mem_of_getElem? (i := 15) rfl)) rfl
theorem lo_X1_init : Cond.code yX1_init cX1_init 2 none ∈ mTB := mTB_of (sg2 (List.mem_of_getElem? (i := 16) rfl)) rfl
theorem lmX1_3 : Cond.methodLink RX1 3 ⟨"java/lang/Object", "<init>", "()V"⟩ ∈ mTB := mTB_of (sg2 (List.mem_of_getElem? (i := 17) rfl)) rfl
theorem lfX1_9 : Cond.fieldLink RX1 9 (TX1 0).1 (TX1 0).2.1 (TX1 0).2.2.1 ∈ mTB := mTB_of (sg2 (List.mem_of_getElem? (i := 18) rfl)) rfl
theorem lfX5_63 : Cond.fieldLink RX5 63 (TX1 0).1 (TX1 0).2.1 (TX1 0).2.2.1 ∈ mTB := mTB_of (sg2 (List.mem_of_getElem? (i := 19) rfl)) rfl
theorem lfX1_17 : Cond.fieldLink RX1 17 (TX1 1).1 (TX1 1).2.1 (TX1 1).2.2.1 ∈ mTB := mTB_of (sg2 (List.mem_of_getElem? (i := 20) rfl)) rfl
theorem lfX5_48 : Cond.fieldLink RX5 48 (TX1 1).1 (TX1 1).2.1 (TX1 1).2.2.1 ∈ mTB := mTB_of (sg2 (List.mem_of_getElem? (i := 21) rfl)) rfl
theorem lfX1_13 : Cond.fieldLink RX1 13 (TX1 2).1 (TX1 2).2.1 (TX1 2).2.2.1 ∈ mTB := mTB_of (sg2 (List.mem_of_getElem? (i := 22) rfl)) rfl
theorem lfX5_43 : Cond.fieldLink RX5 43 (TX1 2).1 (TX1 2).2.1 (TX1 2).2.2.1 ∈ mTB := mTB_of (sg2 (List.mem_of_getElem? (i := 23) rfl)) rfl
theorem lfX0_224 : Cond.fieldLink RX0 224 (TX1 2).1 (TX1 2).2.1 (TX1 2).2.2.1 ∈ mTB := mTB_of (sg2 (List.mem_of_getElem? (i := 24) rfl)) rfl
theorem lfX9_331 : Cond.fieldLink RX9 331 (TX1 2).1 (TX1 2).2.1 (TX1 2).2.2.1 ∈ mTB := mTB_of (sg2 (List.mem_of_getElem? (i := 25) rfl)) rfl
theorem la_char : Cond.arrayClass .char ∈ mTB := mTB_of (sg2 (List.mem_of_getElem? (i := 33) rfl)) rfl
theorem lmX5_35 : Cond.methodLink RX5 35 yX1_set ∈ mTB := mTB_of (sg2 (List.mem_of_getElem? (i := 34) rfl)) rfl
theorem lv_X1_set_i : Cond.instanceMethod yX1_set ∈ mTB := mTB_of (sg2 (List.mem_of_getElem? (i := 35) rfl)) rfl
theorem ls_X1_set : Cond.selects yX1_set.cls yX1_set yX1_set ∈ mTB := mTB_of (sg2 (List.mem_of_getElem? (i := 36) rfl)) rfl
theorem lo_X1_set : Cond.code yX1_set cX1_set 5 none ∈ mTB := mTB_of (sg2 (List.mem_of_getElem? (i := 37) rfl)) rfl
theorem lcX1_20 : Cond.constantLong RX1 20 (1073741824 : Int64) ∈ mTB := mTB_of (sg2 (List.mem_of_getElem? (i := 38) rfl)) rfl
theorem lfX5_14 : Cond.fieldLink RX5 14 (TX5 0).1 (TX5 0).2.1 (TX5 0).2.2.1 ∈ mTB := mTB_of (sg2 (List.mem_of_getElem? (i := 39) rfl)) rfl
theorem lfX9_227 : Cond.fieldLink RX9 227 (TX5 0).1 (TX5 0).2.1 (TX5 0).2.2.1 ∈ mTB := mTB_of (sg2 (List.mem_of_getElem? (i := 40) rfl)) rfl
theorem lfX8_194 : Cond.fieldLink RX8 194 (TX5 0).1 (TX5 0).2.1 (TX5 0).2.2.1 ∈ mTB := mTB_of (sg2 (List.mem_of_getElem? (i := 41) rfl)) rfl
theorem lfX0_298 : Cond.fieldLink RX0 298 (TX5 0).1 (TX5 0).2.1 (TX5 0).2.2.1 ∈ mTB := mTB_of (sg2 (List.mem_of_getElem? (i := 42) rfl)) rfl
theorem lfX5_20 : Cond.fieldLink RX5 20 (TX5 1).1 (TX5 1).2.1 (TX5 1).2.2.1 ∈ mTB := mTB_of (sg2 (List.mem_of_getElem? (i := 43) rfl)) rfl
theorem lfX9_231 : Cond.fieldLink RX9 231 (TX5 1).1 (TX5 1).2.1 (TX5 1).2.2.1 ∈ mTB := mTB_of (sg2 (List.mem_of_getElem? (i := 44) rfl)) rfl
theorem lfX8_201 : Cond.fieldLink RX8 201 (TX5 1).1 (TX5 1).2.1 (TX5 1).2.2.1 ∈ mTB := mTB_of (sg2 (List.mem_of_getElem? (i := 45) rfl)) rfl
theorem lfX0_306 : Cond.fieldLink RX0 306 (TX5 1).1 (TX5 1).2.1 (TX5 1).2.2.1 ∈ mTB := mTB_of (sg2 (List.mem_of_getElem? (i := 46) rfl)) rfl
theorem lfX5_23 : Cond.fieldLink RX5 23 (TX5 2).1 (TX5 2).2.1 (TX5 2).2.2.1 ∈ mTB := mTB_of (sg2 (List.mem_of_getElem? (i := 47) rfl)) rfl
theorem lfX5_26 : Cond.fieldLink RX5 26 (TX5 3).1 (TX5 3).2.1 (TX5 3).2.2.1 ∈ mTB := mTB_of (sg2 (List.mem_of_getElem? (i := 48) rfl)) rfl
theorem lfX5_29 : Cond.fieldLink RX5 29 (TX5 4).1 (TX5 4).2.1 (TX5 4).2.2.1 ∈ mTB := mTB_of (sg2 (List.mem_of_getElem? (i := 49) rfl)) rfl
theorem lfX5_32 : Cond.fieldLink RX5 32 (TX5 5).1 (TX5 5).2.1 (TX5 5).2.2.1 ∈ mTB := mTB_of (sg2 (List.mem_of_getElem? (i := 50) rfl)) rfl
theorem lmX0_78 : Cond.methodLink RX0 78 yX1_init ∈ mTB := mTB_of (sg2 (List.mem_of_getElem? (i := 64) rfl)) rfl
theorem lfX0_11 : Cond.fieldLink RX0 11 (TX0 0).1 (TX0 0).2.1 (TX0 0).2.2.1 ∈ mTB := mTB_of (sg2 (List.mem_of_getElem? (i := 65) rfl)) rfl
theorem lfX0_17 : Cond.fieldLink RX0 17 (TX0 1).1 (TX0 1).2.1 (TX0 1).2.2.1 ∈ mTB := mTB_of (sg2 (List.mem_of_getElem? (i := 66) rfl)) rfl
theorem lfX0_21 : Cond.fieldLink RX0 21 (TX0 2).1 (TX0 2).2.1 (TX0 2).2.2.1 ∈ mTB := mTB_of (sg2 (List.mem_of_getElem? (i := 67) rfl)) rfl
theorem lfX0_25 : Cond.fieldLink RX0 25 (TX0 3).1 (TX0 3).2.1 (TX0 3).2.2.1 ∈ mTB := mTB_of (sg2 (List.mem_of_getElem? (i := 68) rfl)) rfl
theorem lfX0_28 : Cond.fieldLink RX0 28 (TX0 4).1 (TX0 4).2.1 (TX0 4).2.2.1 ∈ mTB := mTB_of (sg2 (List.mem_of_getElem? (i := 69) rfl)) rfl
theorem lfX0_32 : Cond.fieldLink RX0 32 (TX0 5).1 (TX0 5).2.1 (TX0 5).2.2.1 ∈ mTB := mTB_of (sg2 (List.mem_of_getElem? (i := 70) rfl)) rfl
theorem lfX0_161 : Cond.fieldLink RX0 161 (TX0 6).1 (TX0 6).2.1 (TX0 6).2.2.1 ∈ mTB := mTB_of (sg2 (List.mem_of_getElem? (i := 71) rfl)) rfl
theorem lfX0_35 : Cond.fieldLink RX0 35 (TX0 7).1 (TX0 7).2.1 (TX0 7).2.2.1 ∈ mTB := mTB_of (sg2 (List.mem_of_getElem? (i := 72) rfl)) rfl
theorem lfX0_135 : Cond.fieldLink RX0 135 (TX0 8).1 (TX0 8).2.1 (TX0 8).2.2.1 ∈ mTB := mTB_of (sg2 (List.mem_of_getElem? (i := 73) rfl)) rfl
theorem lfX0_164 : Cond.fieldLink RX0 164 (TX0 9).1 (TX0 9).2.1 (TX0 9).2.2.1 ∈ mTB := mTB_of (sg2 (List.mem_of_getElem? (i := 74) rfl)) rfl
theorem lfX0_221 : Cond.fieldLink RX0 221 (TX0 10).1 (TX0 10).2.1 (TX0 10).2.2.1 ∈ mTB := mTB_of (sg2 (List.mem_of_getElem? (i := 75) rfl)) rfl
theorem lfX0_39 : Cond.fieldLink RX0 39 (TX0 11).1 (TX0 11).2.1 (TX0 11).2.2.1 ∈ mTB := mTB_of (sg2 (List.mem_of_getElem? (i := 76) rfl)) rfl
theorem lfX0_182 : Cond.fieldLink RX0 182 (TX0 12).1 (TX0 12).2.1 (TX0 12).2.2.1 ∈ mTB := mTB_of (sg2 (List.mem_of_getElem? (i := 77) rfl)) rfl
theorem lfX0_42 : Cond.fieldLink RX0 42 (TX0 13).1 (TX0 13).2.1 (TX0 13).2.2.1 ∈ mTB := mTB_of (sg2 (List.mem_of_getElem? (i := 78) rfl)) rfl
theorem lfX0_199 : Cond.fieldLink RX0 199 (TX0 14).1 (TX0 14).2.1 (TX0 14).2.2.1 ∈ mTB := mTB_of (sg2 (List.mem_of_getElem? (i := 79) rfl)) rfl
theorem lfX0_47 : Cond.fieldLink RX0 47 (TX0 15).1 (TX0 15).2.1 (TX0 15).2.2.1 ∈ mTB := mTB_of (sg2 (List.mem_of_getElem? (i := 80) rfl)) rfl
theorem lfX0_52 : Cond.fieldLink RX0 52 (TX0 16).1 (TX0 16).2.1 (TX0 16).2.2.1 ∈ mTB := mTB_of (sg2 (List.mem_of_getElem? (i := 81) rfl)) rfl
theorem lfX0_56 : Cond.fieldLink RX0 56 (TX0 17).1 (TX0 17).2.1 (TX0 17).2.2.1 ∈ mTB := mTB_of (sg2 (List.mem_of_getElem? (i := 82) rfl)) rfl
theorem lfX0_59 : Cond.fieldLink RX0 59 (TX0 18).1 (TX0 18).2.1 (TX0 18).2.2.1 ∈ mTB := mTB_of (sg2 (List.mem_of_getElem? (i := 83) rfl)) rfl
theorem lfX0_62 : Cond.fieldLink RX0 62 (TX0 19).1 (TX0 19).2.1 (TX0 19).2.2.1 ∈ mTB := mTB_of (sg2 (List.mem_of_getElem? (i := 84) rfl)) rfl
theorem lfX0_66 : Cond.fieldLink RX0 66 (TX0 20).1 (TX0 20).2.1 (TX0 20).2.2.1 ∈ mTB := mTB_of (sg2 (List.mem_of_getElem? (i := 85) rfl)) rfl
theorem lfX0_74 : Cond.fieldLink RX0 74 (TX0 21).1 (TX0 21).2.1 (TX0 21).2.2.1 ∈ mTB := mTB_of (sg2 (List.mem_of_getElem? (i := 86) rfl)) rfl
theorem lkX11_30 : Cond.classLink RX11 30 RX9 ∈ mTB := mTB_of (sg2 (List.mem_of_getElem? (i := 132) rfl)) rfl
theorem ln_X9 : Cond.instantiable RX9 22 ∈ mTB := mTB_of (sg2 (List.mem_of_getElem? (i := 133) rfl)) rfl
theorem lmX11_32 : Cond.methodLink RX11 32 yX9_init ∈ mTB := mTB_of (sg2 (List.mem_of_getElem? (i := 134) rfl)) rfl
theorem lv_X9_init_i : Cond.instanceMethod yX9_init ∈ mTB := mTB_of (sg2 (List.mem_of_getElem? (i := 135) rfl)) rfl
theorem lo_X9_init : Cond.code yX9_init cX9_init 2 none ∈ mTB := mTB_of (sg2 (List.mem_of_getElem? (i := 136) rfl)) rfl
theorem lmX9_3 : Cond.methodLink RX9 3 ⟨"java/lang/Object", "<init>", "()V"⟩ ∈ mTB := mTB_of (sg2 (List.mem_of_getElem? (i := 137) rfl)) rfl
theorem lkX9_11 : Cond.classLink RX9 11 "[[I" ∈ mTB := mTB_of (sg2 (List.mem_of_getElem? (i := 138) rfl)) rfl
theorem lkX9_48 : Cond.classLink RX9 48 RX1 ∈ mTB := mTB_of (sg2 (List.mem_of_getElem? (i := 139) rfl)) rfl
theorem lkX9_57 : Cond.classLink RX9 57 RX5 ∈ mTB := mTB_of (sg2 (List.mem_of_getElem? (i := 140) rfl)) rfl
theorem lmX9_59 : Cond.methodLink RX9 59 yX5_init ∈ mTB := mTB_of (sg2 (List.mem_of_getElem? (i := 141) rfl)) rfl
theorem lmX9_66 : Cond.methodLink RX9 66 yX1_init ∈ mTB := mTB_of (sg2 (List.mem_of_getElem? (i := 142) rfl)) rfl
theorem lmX9_67 : Cond.methodLink RX9 67 yX9_forgetRun ∈ mTB := mTB_of (sg2 (List.mem_of_getElem? (i := 143) rfl)) rfl
theorem lv_X9_forgetRun_i : Cond.instanceMethod yX9_forgetRun ∈ mTB := mTB_of (sg2 (List.mem_of_getElem? (i := 145) rfl)) rfl
theorem lo_X9_forgetRun : Cond.code yX9_forgetRun cX9_forgetRun 1 none ∈ mTB := mTB_of (sg2 (List.mem_of_getElem? (i := 146) rfl)) rfl
theorem lmX9_155 : Cond.methodLink RX9 155 yJ7_fill_53178 ∈ mTB := mTB_of (sg2 (List.mem_of_getElem? (i := 147) rfl)) rfl
theorem lv_J7_fill_53178_s : Cond.static yJ7_fill_53178 ∈ mTB := mTB_of (sg2 (List.mem_of_getElem? (i := 148) rfl)) rfl
theorem lo_J7_fill_53178 : Cond.code yJ7_fill_53178 cJ7_fill_53178 4 none ∈ mTB := mTB_of (sg2 (List.mem_of_getElem? (i := 149) rfl)) rfl
theorem lfX9_161 : Cond.fieldLink RX9 161 (TX9 0).1 (TX9 0).2.1 (TX9 0).2.2.1 ∈ mTB := mTB_of (sg2 (List.mem_of_getElem? (i := 150) rfl)) rfl
theorem lfX9_13 : Cond.fieldLink RX9 13 (TX9 1).1 (TX9 1).2.1 (TX9 1).2.2.1 ∈ mTB := mTB_of (sg2 (List.mem_of_getElem? (i := 151) rfl)) rfl
theorem lfX9_169 : Cond.fieldLink RX9 169 (TX9 2).1 (TX9 2).2.1 (TX9 2).2.2.1 ∈ mTB := mTB_of (sg2 (List.mem_of_getElem? (i := 152) rfl)) rfl
theorem lfX9_175 : Cond.fieldLink RX9 175 (TX9 3).1 (TX9 3).2.1 (TX9 3).2.2.1 ∈ mTB := mTB_of (sg2 (List.mem_of_getElem? (i := 153) rfl)) rfl
theorem lfX9_117 : Cond.fieldLink RX9 117 (TX9 4).1 (TX9 4).2.1 (TX9 4).2.2.1 ∈ mTB := mTB_of (sg2 (List.mem_of_getElem? (i := 154) rfl)) rfl
theorem lfX9_294 : Cond.fieldLink RX9 294 (TX9 5).1 (TX9 5).2.1 (TX9 5).2.2.1 ∈ mTB := mTB_of (sg2 (List.mem_of_getElem? (i := 155) rfl)) rfl
theorem lfX9_137 : Cond.fieldLink RX9 137 (TX9 6).1 (TX9 6).2.1 (TX9 6).2.2.1 ∈ mTB := mTB_of (sg2 (List.mem_of_getElem? (i := 156) rfl)) rfl
theorem lfX9_16 : Cond.fieldLink RX9 16 (TX9 7).1 (TX9 7).2.1 (TX9 7).2.2.1 ∈ mTB := mTB_of (sg2 (List.mem_of_getElem? (i := 157) rfl)) rfl
theorem lfX9_20 : Cond.fieldLink RX9 20 (TX9 8).1 (TX9 8).2.1 (TX9 8).2.2.1 ∈ mTB := mTB_of (sg2 (List.mem_of_getElem? (i := 158) rfl)) rfl
theorem lfX9_23 : Cond.fieldLink RX9 23 (TX9 9).1 (TX9 9).2.1 (TX9 9).2.2.1 ∈ mTB := mTB_of (sg2 (List.mem_of_getElem? (i := 159) rfl)) rfl
theorem lfX9_26 : Cond.fieldLink RX9 26 (TX9 10).1 (TX9 10).2.1 (TX9 10).2.2.1 ∈ mTB := mTB_of (sg2 (List.mem_of_getElem? (i := 160) rfl)) rfl
theorem lfX9_29 : Cond.fieldLink RX9 29 (TX9 11).1 (TX9 11).2.1 (TX9 11).2.2.1 ∈ mTB := mTB_of (sg2 (List.mem_of_getElem? (i := 161) rfl)) rfl
theorem lfX9_32 : Cond.fieldLink RX9 32 (TX9 12).1 (TX9 12).2.1 (TX9 12).2.2.1 ∈ mTB := mTB_of (sg2 (List.mem_of_getElem? (i := 162) rfl)) rfl
theorem lfX9_36 : Cond.fieldLink RX9 36 (TX9 13).1 (TX9 13).2.1 (TX9 13).2.2.1 ∈ mTB := mTB_of (sg2 (List.mem_of_getElem? (i := 163) rfl)) rfl
theorem lfX9_151 : Cond.fieldLink RX9 151 (TX9 14).1 (TX9 14).2.1 (TX9 14).2.2.1 ∈ mTB := mTB_of (sg2 (List.mem_of_getElem? (i := 164) rfl)) rfl
theorem lfX9_39 : Cond.fieldLink RX9 39 (TX9 15).1 (TX9 15).2.1 (TX9 15).2.2.1 ∈ mTB := mTB_of (sg2 (List.mem_of_getElem? (i := 165) rfl)) rfl
theorem lfX9_42 : Cond.fieldLink RX9 42 (TX9 16).1 (TX9 16).2.1 (TX9 16).2.2.1 ∈ mTB := mTB_of (sg2 (List.mem_of_getElem? (i := 166) rfl)) rfl
theorem lfX9_45 : Cond.fieldLink RX9 45 (TX9 17).1 (TX9 17).2.1 (TX9 17).2.2.1 ∈ mTB := mTB_of (sg2 (List.mem_of_getElem? (i := 167) rfl)) rfl
theorem lfX9_164 : Cond.fieldLink RX9 164 (TX9 18).1 (TX9 18).2.1 (TX9 18).2.2.1 ∈ mTB := mTB_of (sg2 (List.mem_of_getElem? (i := 168) rfl)) rfl
theorem lfX9_50 : Cond.fieldLink RX9 50 (TX9 19).1 (TX9 19).2.1 (TX9 19).2.2.1 ∈ mTB := mTB_of (sg2 (List.mem_of_getElem? (i := 169) rfl)) rfl
theorem lfX9_54 : Cond.fieldLink RX9 54 (TX9 20).1 (TX9 20).2.1 (TX9 20).2.2.1 ∈ mTB := mTB_of (sg2 (List.mem_of_getElem? (i := 170) rfl)) rfl
theorem lfX9_62 : Cond.fieldLink RX9 62 (TX9 21).1 (TX9 21).2.1 (TX9 21).2.2.1 ∈ mTB := mTB_of (sg2 (List.mem_of_getElem? (i := 171) rfl)) rfl
theorem lkX11_37 : Cond.classLink RX11 37 RX8 ∈ mTB := mTB_of (sg2 (List.mem_of_getElem? (i := 217) rfl)) rfl
theorem ln_X8 : Cond.instantiable RX8 22 ∈ mTB := mTB_of (sg2 (List.mem_of_getElem? (i := 218) rfl)) rfl
theorem lv_X8_init_i : Cond.instanceMethod yX8_init ∈ mTB := mTB_of (sg2 (List.mem_of_getElem? (i := 220) rfl)) rfl
theorem lo_X8_init : Cond.code yX8_init cX8_init 1 none ∈ mTB := mTB_of (sg2 (List.mem_of_getElem? (i := 221) rfl)) rfl
theorem lmX8_3 : Cond.methodLink RX8 3 ⟨"java/lang/Object", "<init>", "()V"⟩ ∈ mTB := mTB_of (sg2 (List.mem_of_getElem? (i := 222) rfl)) rfl
theorem lkX8_18 : Cond.classLink RX8 18 "[[I" ∈ mTB := mTB_of (sg2 (List.mem_of_getElem? (i := 223) rfl)) rfl
theorem lkX8_58 : Cond.classLink RX8 58 RX5 ∈ mTB := mTB_of (sg2 (List.mem_of_getElem? (i := 224) rfl)) rfl
theorem lmX8_60 : Cond.methodLink RX8 60 yX5_init ∈ mTB := mTB_of (sg2 (List.mem_of_getElem? (i := 225) rfl)) rfl
theorem lkX8_67 : Cond.classLink RX8 67 RX1 ∈ mTB := mTB_of (sg2 (List.mem_of_getElem? (i := 226) rfl)) rfl
theorem lmX8_69 : Cond.methodLink RX8 69 yX1_init ∈ mTB := mTB_of (sg2 (List.mem_of_getElem? (i := 227) rfl)) rfl
theorem lfX8_11 : Cond.fieldLink RX8 11 (TX8 0).1 (TX8 0).2.1 (TX8 0).2.2.1 ∈ mTB := mTB_of (sg2 (List.mem_of_getElem? (i := 228) rfl)) rfl
theorem lfX8_140 : Cond.fieldLink RX8 140 (TX8 1).1 (TX8 1).2.1 (TX8 1).2.2.1 ∈ mTB := mTB_of (sg2 (List.mem_of_getElem? (i := 229) rfl)) rfl
theorem lfX8_15 : Cond.fieldLink RX8 15 (TX8 2).1 (TX8 2).2.1 (TX8 2).2.2.1 ∈ mTB := mTB_of (sg2 (List.mem_of_getElem? (i := 230) rfl)) rfl
theorem lfX8_85 : Cond.fieldLink RX8 85 (TX8 3).1 (TX8 3).2.1 (TX8 3).2.2.1 ∈ mTB := mTB_of (sg2 (List.mem_of_getElem? (i := 231) rfl)) rfl
theorem lfX8_20 : Cond.fieldLink RX8 20 (TX8 4).1 (TX8 4).2.1 (TX8 4).2.2.1 ∈ mTB := mTB_of (sg2 (List.mem_of_getElem? (i := 232) rfl)) rfl
theorem lfX8_78 : Cond.fieldLink RX8 78 (TX8 5).1 (TX8 5).2.1 (TX8 5).2.2.1 ∈ mTB := mTB_of (sg2 (List.mem_of_getElem? (i := 233) rfl)) rfl
theorem lfX8_23 : Cond.fieldLink RX8 23 (TX8 6).1 (TX8 6).2.1 (TX8 6).2.2.1 ∈ mTB := mTB_of (sg2 (List.mem_of_getElem? (i := 234) rfl)) rfl
theorem lfX8_26 : Cond.fieldLink RX8 26 (TX8 7).1 (TX8 7).2.1 (TX8 7).2.2.1 ∈ mTB := mTB_of (sg2 (List.mem_of_getElem? (i := 235) rfl)) rfl
theorem lfX8_29 : Cond.fieldLink RX8 29 (TX8 8).1 (TX8 8).2.1 (TX8 8).2.2.1 ∈ mTB := mTB_of (sg2 (List.mem_of_getElem? (i := 236) rfl)) rfl
theorem lfX8_32 : Cond.fieldLink RX8 32 (TX8 9).1 (TX8 9).2.1 (TX8 9).2.2.1 ∈ mTB := mTB_of (sg2 (List.mem_of_getElem? (i := 237) rfl)) rfl
theorem lfX8_35 : Cond.fieldLink RX8 35 (TX8 10).1 (TX8 10).2.1 (TX8 10).2.2.1 ∈ mTB := mTB_of (sg2 (List.mem_of_getElem? (i := 238) rfl)) rfl
theorem lfX8_38 : Cond.fieldLink RX8 38 (TX8 11).1 (TX8 11).2.1 (TX8 11).2.2.1 ∈ mTB := mTB_of (sg2 (List.mem_of_getElem? (i := 239) rfl)) rfl
theorem lfX8_41 : Cond.fieldLink RX8 41 (TX8 12).1 (TX8 12).2.1 (TX8 12).2.2.1 ∈ mTB := mTB_of (sg3 (List.mem_of_getElem? (i := 0) rfl)) rfl
theorem lfX8_44 : Cond.fieldLink RX8 44 (TX8 13).1 (TX8 13).2.1 (TX8 13).2.2.1 ∈ mTB := mTB_of (sg3 (List.mem_of_getElem? (i := 1) rfl)) rfl
theorem lfX8_48 : Cond.fieldLink RX8 48 (TX8 14).1 (TX8 14).2.1 (TX8 14).2.2.1 ∈ mTB := mTB_of (sg3 (List.mem_of_getElem? (i := 2) rfl)) rfl
theorem lfX8_133 : Cond.fieldLink RX8 133 (TX8 15).1 (TX8 15).2.1 (TX8 15).2.2.1 ∈ mTB := mTB_of (sg3 (List.mem_of_getElem? (i := 3) rfl)) rfl
theorem lfX8_223 : Cond.fieldLink RX8 223 (TX8 16).1 (TX8 16).2.1 (TX8 16).2.2.1 ∈ mTB := mTB_of (sg3 (List.mem_of_getElem? (i := 4) rfl)) rfl
theorem lfX8_227 : Cond.fieldLink RX8 227 (TX8 17).1 (TX8 17).2.1 (TX8 17).2.2.1 ∈ mTB := mTB_of (sg3 (List.mem_of_getElem? (i := 5) rfl)) rfl
theorem lfX8_51 : Cond.fieldLink RX8 51 (TX8 18).1 (TX8 18).2.1 (TX8 18).2.2.1 ∈ mTB := mTB_of (sg3 (List.mem_of_getElem? (i := 6) rfl)) rfl
theorem lfX8_55 : Cond.fieldLink RX8 55 (TX8 19).1 (TX8 19).2.1 (TX8 19).2.2.1 ∈ mTB := mTB_of (sg3 (List.mem_of_getElem? (i := 7) rfl)) rfl
theorem lfX8_63 : Cond.fieldLink RX8 63 (TX8 20).1 (TX8 20).2.1 (TX8 20).2.2.1 ∈ mTB := mTB_of (sg3 (List.mem_of_getElem? (i := 8) rfl)) rfl
theorem lfX8_70 : Cond.fieldLink RX8 70 (TX8 21).1 (TX8 21).2.1 (TX8 21).2.2.1 ∈ mTB := mTB_of (sg3 (List.mem_of_getElem? (i := 9) rfl)) rfl
theorem lkX11_44 : Cond.classLink RX11 44 RX7 ∈ mTB := mTB_of (sg3 (List.mem_of_getElem? (i := 55) rfl)) rfl
theorem ln_X7 : Cond.instantiable RX7 22 ∈ mTB := mTB_of (sg3 (List.mem_of_getElem? (i := 56) rfl)) rfl
theorem lmX11_46 : Cond.methodLink RX11 46 yX7_init ∈ mTB := mTB_of (sg3 (List.mem_of_getElem? (i := 57) rfl)) rfl
theorem lv_X7_init_i : Cond.instanceMethod yX7_init ∈ mTB := mTB_of (sg3 (List.mem_of_getElem? (i := 58) rfl)) rfl
theorem lo_X7_init : Cond.code yX7_init cX7_init 1 none ∈ mTB := mTB_of (sg3 (List.mem_of_getElem? (i := 59) rfl)) rfl
theorem lmX7_5 : Cond.methodLink RX7 5 ⟨"java/lang/Object", "<init>", "()V"⟩ ∈ mTB := mTB_of (sg3 (List.mem_of_getElem? (i := 60) rfl)) rfl
theorem lkX7_19 : Cond.classLink RX7 19 "[[I" ∈ mTB := mTB_of (sg3 (List.mem_of_getElem? (i := 61) rfl)) rfl
theorem lmX7_68 : Cond.methodLink RX7 68 yX7_clearAll ∈ mTB := mTB_of (sg3 (List.mem_of_getElem? (i := 62) rfl)) rfl
theorem lv_X7_clearAll_i : Cond.instanceMethod yX7_clearAll ∈ mTB := mTB_of (sg3 (List.mem_of_getElem? (i := 64) rfl)) rfl
theorem lo_X7_clearAll : Cond.code yX7_clearAll cX7_clearAll 3 none ∈ mTB := mTB_of (sg3 (List.mem_of_getElem? (i := 65) rfl)) rfl
theorem lmX7_152 : Cond.methodLink RX7 152 yJ7_fill_53178 ∈ mTB := mTB_of (sg3 (List.mem_of_getElem? (i := 66) rfl)) rfl
theorem lmX7_161 : Cond.methodLink RX7 161 yX7_restart ∈ mTB := mTB_of (sg3 (List.mem_of_getElem? (i := 67) rfl)) rfl
theorem lv_X7_restart_i : Cond.instanceMethod yX7_restart ∈ mTB := mTB_of (sg3 (List.mem_of_getElem? (i := 69) rfl)) rfl
theorem lo_X7_restart : Cond.code yX7_restart cX7_restart 1 none ∈ mTB := mTB_of (sg3 (List.mem_of_getElem? (i := 70) rfl)) rfl
theorem lmX7_170 : Cond.methodLink RX7 170 yX7_forgetProof ∈ mTB := mTB_of (sg3 (List.mem_of_getElem? (i := 71) rfl)) rfl
theorem lv_X7_forgetProof_i : Cond.instanceMethod yX7_forgetProof ∈ mTB := mTB_of (sg3 (List.mem_of_getElem? (i := 73) rfl)) rfl
theorem lo_X7_forgetProof : Cond.code yX7_forgetProof cX7_forgetProof 1 none ∈ mTB := mTB_of (sg3 (List.mem_of_getElem? (i := 74) rfl)) rfl
theorem lmX7_173 : Cond.methodLink RX7 173 yX7_setFirst ∈ mTB := mTB_of (sg3 (List.mem_of_getElem? (i := 75) rfl)) rfl
theorem lv_X7_setFirst_i : Cond.instanceMethod yX7_setFirst ∈ mTB := mTB_of (sg3 (List.mem_of_getElem? (i := 77) rfl)) rfl
theorem lo_X7_setFirst : Cond.code yX7_setFirst cX7_setFirst 3 none ∈ mTB := mTB_of (sg3 (List.mem_of_getElem? (i := 78) rfl)) rfl
theorem lfX7_11 : Cond.fieldLink RX7 11 (TX7 0).1 (TX7 0).2.1 (TX7 0).2.2.1 ∈ mTB := mTB_of (sg3 (List.mem_of_getElem? (i := 79) rfl)) rfl
theorem lfX7_15 : Cond.fieldLink RX7 15 (TX7 1).1 (TX7 1).2.1 (TX7 1).2.2.1 ∈ mTB := mTB_of (sg3 (List.mem_of_getElem? (i := 80) rfl)) rfl
theorem lfX7_21 : Cond.fieldLink RX7 21 (TX7 2).1 (TX7 2).2.1 (TX7 2).2.2.1 ∈ mTB := mTB_of (sg3 (List.mem_of_getElem? (i := 81) rfl)) rfl
theorem lfX7_24 : Cond.fieldLink RX7 24 (TX7 3).1 (TX7 3).2.1 (TX7 3).2.2.1 ∈ mTB := mTB_of (sg3 (List.mem_of_getElem? (i := 82) rfl)) rfl
theorem lfX7_27 : Cond.fieldLink RX7 27 (TX7 4).1 (TX7 4).2.1 (TX7 4).2.2.1 ∈ mTB := mTB_of (sg3 (List.mem_of_getElem? (i := 83) rfl)) rfl
theorem lfX7_91 : Cond.fieldLink RX7 91 (TX7 5).1 (TX7 5).2.1 (TX7 5).2.2.1 ∈ mTB := mTB_of (sg3 (List.mem_of_getElem? (i := 84) rfl)) rfl
theorem lfX7_30 : Cond.fieldLink RX7 30 (TX7 6).1 (TX7 6).2.1 (TX7 6).2.2.1 ∈ mTB := mTB_of (sg3 (List.mem_of_getElem? (i := 85) rfl)) rfl
theorem lfX7_33 : Cond.fieldLink RX7 33 (TX7 7).1 (TX7 7).2.1 (TX7 7).2.2.1 ∈ mTB := mTB_of (sg3 (List.mem_of_getElem? (i := 86) rfl)) rfl
theorem lfX7_36 : Cond.fieldLink RX7 36 (TX7 8).1 (TX7 8).2.1 (TX7 8).2.2.1 ∈ mTB := mTB_of (sg3 (List.mem_of_getElem? (i := 87) rfl)) rfl
theorem lfX7_158 : Cond.fieldLink RX7 158 (TX7 9).1 (TX7 9).2.1 (TX7 9).2.2.1 ∈ mTB := mTB_of (sg3 (List.mem_of_getElem? (i := 88) rfl)) rfl
theorem lfX7_40 : Cond.fieldLink RX7 40 (TX7 10).1 (TX7 10).2.1 (TX7 10).2.2.1 ∈ mTB := mTB_of (sg3 (List.mem_of_getElem? (i := 89) rfl)) rfl
theorem lfX7_164 : Cond.fieldLink RX7 164 (TX7 11).1 (TX7 11).2.1 (TX7 11).2.2.1 ∈ mTB := mTB_of (sg3 (List.mem_of_getElem? (i := 90) rfl)) rfl
theorem lfX7_43 : Cond.fieldLink RX7 43 (TX7 12).1 (TX7 12).2.1 (TX7 12).2.2.1 ∈ mTB := mTB_of (sg3 (List.mem_of_getElem? (i := 91) rfl)) rfl
theorem lfX7_46 : Cond.fieldLink RX7 46 (TX7 13).1 (TX7 13).2.1 (TX7 13).2.2.1 ∈ mTB := mTB_of (sg3 (List.mem_of_getElem? (i := 92) rfl)) rfl
theorem lfX7_167 : Cond.fieldLink RX7 167 (TX7 14).1 (TX7 14).2.1 (TX7 14).2.2.1 ∈ mTB := mTB_of (sg3 (List.mem_of_getElem? (i := 93) rfl)) rfl
theorem lfX7_49 : Cond.fieldLink RX7 49 (TX7 15).1 (TX7 15).2.1 (TX7 15).2.2.1 ∈ mTB := mTB_of (sg3 (List.mem_of_getElem? (i := 94) rfl)) rfl
theorem lfX7_118 : Cond.fieldLink RX7 118 (TX7 16).1 (TX7 16).2.1 (TX7 16).2.2.1 ∈ mTB := mTB_of (sg3 (List.mem_of_getElem? (i := 95) rfl)) rfl
theorem lfX7_52 : Cond.fieldLink RX7 52 (TX7 17).1 (TX7 17).2.1 (TX7 17).2.2.1 ∈ mTB := mTB_of (sg3 (List.mem_of_getElem? (i := 96) rfl)) rfl
theorem lfX7_56 : Cond.fieldLink RX7 56 (TX7 18).1 (TX7 18).2.1 (TX7 18).2.2.1 ∈ mTB := mTB_of (sg3 (List.mem_of_getElem? (i := 97) rfl)) rfl
theorem lfX7_59 : Cond.fieldLink RX7 59 (TX7 19).1 (TX7 19).2.1 (TX7 19).2.2.1 ∈ mTB := mTB_of (sg3 (List.mem_of_getElem? (i := 98) rfl)) rfl
theorem lfX7_62 : Cond.fieldLink RX7 62 (TX7 20).1 (TX7 20).2.1 (TX7 20).2.2.1 ∈ mTB := mTB_of (sg3 (List.mem_of_getElem? (i := 99) rfl)) rfl
theorem lfX7_65 : Cond.fieldLink RX7 65 (TX7 21).1 (TX7 21).2.1 (TX7 21).2.2.1 ∈ mTB := mTB_of (sg3 (List.mem_of_getElem? (i := 100) rfl)) rfl
theorem lkX11_51 : Cond.classLink RX11 51 RX2 ∈ mTB := mTB_of (sg3 (List.mem_of_getElem? (i := 146) rfl)) rfl
theorem ln_X2 : Cond.instantiable RX2 22 ∈ mTB := mTB_of (sg3 (List.mem_of_getElem? (i := 147) rfl)) rfl
theorem lv_X2_init_i : Cond.instanceMethod yX2_init ∈ mTB := mTB_of (sg3 (List.mem_of_getElem? (i := 149) rfl)) rfl
theorem lo_X2_init : Cond.code yX2_init cX2_init 1 none ∈ mTB := mTB_of (sg3 (List.mem_of_getElem? (i := 150) rfl)) rfl
theorem lmX2_5 : Cond.methodLink RX2 5 ⟨"java/lang/Object", "<init>", "()V"⟩ ∈ mTB := mTB_of (sg3 (List.mem_of_getElem? (i := 151) rfl)) rfl
theorem lkX2_11 : Cond.classLink RX2 11 "[[I" ∈ mTB := mTB_of (sg3 (List.mem_of_getElem? (i := 152) rfl)) rfl
theorem lkX2_41 : Cond.classLink RX2 41 "[[J" ∈ mTB := mTB_of (sg3 (List.mem_of_getElem? (i := 153) rfl)) rfl
theorem lfX2_13 : Cond.fieldLink RX2 13 (TX2 0).1 (TX2 0).2.1 (TX2 0).2.2.1 ∈ mTB := mTB_of (sg3 (List.mem_of_getElem? (i := 154) rfl)) rfl
theorem lfX2_16 : Cond.fieldLink RX2 16 (TX2 1).1 (TX2 1).2.1 (TX2 1).2.2.1 ∈ mTB := mTB_of (sg3 (List.mem_of_getElem? (i := 155) rfl)) rfl
theorem lfX2_164 : Cond.fieldLink RX2 164 (TX2 2).1 (TX2 2).2.1 (TX2 2).2.2.1 ∈ mTB := mTB_of (sg3 (List.mem_of_getElem? (i := 156) rfl)) rfl
theorem lfX2_19 : Cond.fieldLink RX2 19 (TX2 3).1 (TX2 3).2.1 (TX2 3).2.2.1 ∈ mTB := mTB_of (sg3 (List.mem_of_getElem? (i := 157) rfl)) rfl
theorem lfX2_22 : Cond.fieldLink RX2 22 (TX2 4).1 (TX2 4).2.1 (TX2 4).2.2.1 ∈ mTB := mTB_of (sg3 (List.mem_of_getElem? (i := 158) rfl)) rfl
theorem lfX2_25 : Cond.fieldLink RX2 25 (TX2 5).1 (TX2 5).2.1 (TX2 5).2.2.1 ∈ mTB := mTB_of (sg3 (List.mem_of_getElem? (i := 159) rfl)) rfl
theorem lfX2_180 : Cond.fieldLink RX2 180 (TX2 6).1 (TX2 6).2.1 (TX2 6).2.2.1 ∈ mTB := mTB_of (sg3 (List.mem_of_getElem? (i := 160) rfl)) rfl
theorem lfX2_28 : Cond.fieldLink RX2 28 (TX2 7).1 (TX2 7).2.1 (TX2 7).2.2.1 ∈ mTB := mTB_of (sg3 (List.mem_of_getElem? (i := 161) rfl)) rfl
theorem lfX2_177 : Cond.fieldLink RX2 177 (TX2 8).1 (TX2 8).2.1 (TX2 8).2.2.1 ∈ mTB := mTB_of (sg3 (List.mem_of_getElem? (i := 162) rfl)) rfl
theorem lfX2_31 : Cond.fieldLink RX2 31 (TX2 9).1 (TX2 9).2.1 (TX2 9).2.2.1 ∈ mTB := mTB_of (sg3 (List.mem_of_getElem? (i := 163) rfl)) rfl
theorem lfX2_225 : Cond.fieldLink RX2 225 (TX2 10).1 (TX2 10).2.1 (TX2 10).2.2.1 ∈ mTB := mTB_of (sg3 (List.mem_of_getElem? (i := 164) rfl)) rfl
theorem lfX2_34 : Cond.fieldLink RX2 34 (TX2 11).1 (TX2 11).2.1 (TX2 11).2.2.1 ∈ mTB := mTB_of (sg3 (List.mem_of_getElem? (i := 165) rfl)) rfl
theorem lfX2_218 : Cond.fieldLink RX2 218 (TX2 12).1 (TX2 12).2.1 (TX2 12).2.2.1 ∈ mTB := mTB_of (sg3 (List.mem_of_getElem? (i := 166) rfl)) rfl
theorem lfX2_37 : Cond.fieldLink RX2 37 (TX2 13).1 (TX2 13).2.1 (TX2 13).2.2.1 ∈ mTB := mTB_of (sg3 (List.mem_of_getElem? (i := 167) rfl)) rfl
theorem lfX2_43 : Cond.fieldLink RX2 43 (TX2 14).1 (TX2 14).2.1 (TX2 14).2.2.1 ∈ mTB := mTB_of (sg3 (List.mem_of_getElem? (i := 168) rfl)) rfl
theorem lfX2_160 : Cond.fieldLink RX2 160 (TX2 15).1 (TX2 15).2.1 (TX2 15).2.2.1 ∈ mTB := mTB_of (sg3 (List.mem_of_getElem? (i := 169) rfl)) rfl
theorem lfX2_46 : Cond.fieldLink RX2 46 (TX2 16).1 (TX2 16).2.1 (TX2 16).2.2.1 ∈ mTB := mTB_of (sg3 (List.mem_of_getElem? (i := 170) rfl)) rfl
theorem lfX2_49 : Cond.fieldLink RX2 49 (TX2 17).1 (TX2 17).2.1 (TX2 17).2.2.1 ∈ mTB := mTB_of (sg3 (List.mem_of_getElem? (i := 171) rfl)) rfl
theorem lfX2_52 : Cond.fieldLink RX2 52 (TX2 18).1 (TX2 18).2.1 (TX2 18).2.2.1 ∈ mTB := mTB_of (sg3 (List.mem_of_getElem? (i := 172) rfl)) rfl
theorem lfX2_55 : Cond.fieldLink RX2 55 (TX2 19).1 (TX2 19).2.1 (TX2 19).2.2.1 ∈ mTB := mTB_of (sg3 (List.mem_of_getElem? (i := 173) rfl)) rfl
theorem lfX2_58 : Cond.fieldLink RX2 58 (TX2 20).1 (TX2 20).2.1 (TX2 20).2.2.1 ∈ mTB := mTB_of (sg3 (List.mem_of_getElem? (i := 174) rfl)) rfl
theorem lfX2_61 : Cond.fieldLink RX2 61 (TX2 21).1 (TX2 21).2.1 (TX2 21).2.2.1 ∈ mTB := mTB_of (sg3 (List.mem_of_getElem? (i := 175) rfl)) rfl
theorem lkX11_58 : Cond.classLink RX11 58 RX3 ∈ mTB := mTB_of (sg3 (List.mem_of_getElem? (i := 221) rfl)) rfl
theorem ln_X3 : Cond.instantiable RX3 23 ∈ mTB := mTB_of (sg3 (List.mem_of_getElem? (i := 222) rfl)) rfl
theorem lmX11_60 : Cond.methodLink RX11 60 yX3_init ∈ mTB := mTB_of (sg3 (List.mem_of_getElem? (i := 223) rfl)) rfl
theorem lv_X3_init_i : Cond.instanceMethod yX3_init ∈ mTB := mTB_of (sg3 (List.mem_of_getElem? (i := 224) rfl)) rfl
theorem lo_X3_init : Cond.code yX3_init cX3_init 2 none ∈ mTB := mTB_of (sg3 (List.mem_of_getElem? (i := 225) rfl)) rfl
theorem lmX3_5 : Cond.methodLink RX3 5 ⟨"java/lang/Object", "<init>", "()V"⟩ ∈ mTB := mTB_of (sg3 (List.mem_of_getElem? (i := 226) rfl)) rfl
theorem lkX3_15 : Cond.classLink RX3 15 "[[I" ∈ mTB := mTB_of (sg3 (List.mem_of_getElem? (i := 227) rfl)) rfl
theorem lfX3_11 : Cond.fieldLink RX3 11 (TX3 0).1 (TX3 0).2.1 (TX3 0).2.2.1 ∈ mTB := mTB_of (sg3 (List.mem_of_getElem? (i := 228) rfl)) rfl
theorem lfX3_148 : Cond.fieldLink RX3 148 (TX3 1).1 (TX3 1).2.1 (TX3 1).2.2.1 ∈ mTB := mTB_of (sg3 (List.mem_of_getElem? (i := 229) rfl)) rfl
theorem lfX3_17 : Cond.fieldLink RX3 17 (TX3 2).1 (TX3 2).2.1 (TX3 2).2.2.1 ∈ mTB := mTB_of (sg3 (List.mem_of_getElem? (i := 230) rfl)) rfl
theorem lfX3_151 : Cond.fieldLink RX3 151 (TX3 3).1 (TX3 3).2.1 (TX3 3).2.2.1 ∈ mTB := mTB_of (sg3 (List.mem_of_getElem? (i := 231) rfl)) rfl
theorem lfX3_20 : Cond.fieldLink RX3 20 (TX3 4).1 (TX3 4).2.1 (TX3 4).2.2.1 ∈ mTB := mTB_of (sg3 (List.mem_of_getElem? (i := 232) rfl)) rfl
theorem lfX3_142 : Cond.fieldLink RX3 142 (TX3 5).1 (TX3 5).2.1 (TX3 5).2.2.1 ∈ mTB := mTB_of (sg3 (List.mem_of_getElem? (i := 233) rfl)) rfl
theorem lfX3_23 : Cond.fieldLink RX3 23 (TX3 6).1 (TX3 6).2.1 (TX3 6).2.2.1 ∈ mTB := mTB_of (sg3 (List.mem_of_getElem? (i := 234) rfl)) rfl
theorem lfX3_145 : Cond.fieldLink RX3 145 (TX3 7).1 (TX3 7).2.1 (TX3 7).2.2.1 ∈ mTB := mTB_of (sg3 (List.mem_of_getElem? (i := 235) rfl)) rfl
theorem lfX3_26 : Cond.fieldLink RX3 26 (TX3 8).1 (TX3 8).2.1 (TX3 8).2.2.1 ∈ mTB := mTB_of (sg3 (List.mem_of_getElem? (i := 236) rfl)) rfl
theorem lfX3_29 : Cond.fieldLink RX3 29 (TX3 9).1 (TX3 9).2.1 (TX3 9).2.2.1 ∈ mTB := mTB_of (sg3 (List.mem_of_getElem? (i := 237) rfl)) rfl
theorem lfX3_240 : Cond.fieldLink RX3 240 (TX3 10).1 (TX3 10).2.1 (TX3 10).2.2.1 ∈ mTB := mTB_of (sg3 (List.mem_of_getElem? (i := 238) rfl)) rfl
theorem lfX3_33 : Cond.fieldLink RX3 33 (TX3 11).1 (TX3 11).2.1 (TX3 11).2.2.1 ∈ mTB := mTB_of (sg3 (List.mem_of_getElem? (i := 239) rfl)) rfl
theorem lfX3_263 : Cond.fieldLink RX3 263 (TX3 12).1 (TX3 12).2.1 (TX3 12).2.2.1 ∈ mTB := mTB_of (sg4 (List.mem_of_getElem? (i := 0) rfl)) rfl
theorem lfX3_36 : Cond.fieldLink RX3 36 (TX3 13).1 (TX3 13).2.1 (TX3 13).2.2.1 ∈ mTB := mTB_of (sg4 (List.mem_of_getElem? (i := 1) rfl)) rfl
theorem lfX3_39 : Cond.fieldLink RX3 39 (TX3 14).1 (TX3 14).2.1 (TX3 14).2.2.1 ∈ mTB := mTB_of (sg4 (List.mem_of_getElem? (i := 2) rfl)) rfl
theorem lfX3_43 : Cond.fieldLink RX3 43 (TX3 15).1 (TX3 15).2.1 (TX3 15).2.2.1 ∈ mTB := mTB_of (sg4 (List.mem_of_getElem? (i := 3) rfl)) rfl
theorem lfX3_278 : Cond.fieldLink RX3 278 (TX3 16).1 (TX3 16).2.1 (TX3 16).2.2.1 ∈ mTB := mTB_of (sg4 (List.mem_of_getElem? (i := 4) rfl)) rfl
theorem lfX3_46 : Cond.fieldLink RX3 46 (TX3 17).1 (TX3 17).2.1 (TX3 17).2.2.1 ∈ mTB := mTB_of (sg4 (List.mem_of_getElem? (i := 5) rfl)) rfl
theorem lfX3_50 : Cond.fieldLink RX3 50 (TX3 18).1 (TX3 18).2.1 (TX3 18).2.2.1 ∈ mTB := mTB_of (sg4 (List.mem_of_getElem? (i := 6) rfl)) rfl
theorem lfX3_94 : Cond.fieldLink RX3 94 (TX3 19).1 (TX3 19).2.1 (TX3 19).2.2.1 ∈ mTB := mTB_of (sg4 (List.mem_of_getElem? (i := 7) rfl)) rfl
theorem lfX3_209 : Cond.fieldLink RX3 209 (TX3 20).1 (TX3 20).2.1 (TX3 20).2.2.1 ∈ mTB := mTB_of (sg4 (List.mem_of_getElem? (i := 8) rfl)) rfl
theorem lfX3_53 : Cond.fieldLink RX3 53 (TX3 21).1 (TX3 21).2.1 (TX3 21).2.2.1 ∈ mTB := mTB_of (sg4 (List.mem_of_getElem? (i := 9) rfl)) rfl
theorem lfX3_56 : Cond.fieldLink RX3 56 (TX3 22).1 (TX3 22).2.1 (TX3 22).2.2.1 ∈ mTB := mTB_of (sg4 (List.mem_of_getElem? (i := 10) rfl)) rfl
theorem lfX11_10 : Cond.fieldLink RX11 10 (TX11 0).1 (TX11 0).2.1 (TX11 0).2.2.1 ∈ mTB := mTB_of (sg4 (List.mem_of_getElem? (i := 58) rfl)) rfl
theorem lfX11_19 : Cond.fieldLink RX11 19 (TX11 1).1 (TX11 1).2.1 (TX11 1).2.2.1 ∈ mTB := mTB_of (sg4 (List.mem_of_getElem? (i := 59) rfl)) rfl
theorem lfX11_26 : Cond.fieldLink RX11 26 (TX11 2).1 (TX11 2).2.1 (TX11 2).2.2.1 ∈ mTB := mTB_of (sg4 (List.mem_of_getElem? (i := 60) rfl)) rfl
theorem lfX11_33 : Cond.fieldLink RX11 33 (TX11 3).1 (TX11 3).2.1 (TX11 3).2.2.1 ∈ mTB := mTB_of (sg4 (List.mem_of_getElem? (i := 61) rfl)) rfl
theorem lfX11_40 : Cond.fieldLink RX11 40 (TX11 4).1 (TX11 4).2.1 (TX11 4).2.2.1 ∈ mTB := mTB_of (sg4 (List.mem_of_getElem? (i := 62) rfl)) rfl
theorem lfX11_47 : Cond.fieldLink RX11 47 (TX11 5).1 (TX11 5).2.1 (TX11 5).2.2.1 ∈ mTB := mTB_of (sg4 (List.mem_of_getElem? (i := 63) rfl)) rfl
theorem lfX11_54 : Cond.fieldLink RX11 54 (TX11 6).1 (TX11 6).2.1 (TX11 6).2.2.1 ∈ mTB := mTB_of (sg4 (List.mem_of_getElem? (i := 64) rfl)) rfl
theorem lfX11_61 : Cond.fieldLink RX11 61 (TX11 7).1 (TX11 7).2.1 (TX11 7).2.2.1 ∈ mTB := mTB_of (sg4 (List.mem_of_getElem? (i := 65) rfl)) rfl
theorem lfX11_65 : Cond.fieldLink RX11 65 (TX11 8).1 (TX11 8).2.1 (TX11 8).2.2.1 ∈ mTB := mTB_of (sg4 (List.mem_of_getElem? (i := 66) rfl)) rfl
theorem lfX11_102 : Cond.fieldLink RX11 102 (TX11 9).1 (TX11 9).2.1 (TX11 9).2.2.1 ∈ mTB := mTB_of (sg4 (List.mem_of_getElem? (i := 67) rfl)) rfl
theorem lmL_33 : Cond.methodLink RL 33 yX11_logJoin ∈ mTB := mTB_of (sg4 (List.mem_of_getElem? (i := 89) rfl)) rfl
theorem lv_X11_logJoin_i : Cond.instanceMethod yX11_logJoin ∈ mTB := mTB_of (sg4 (List.mem_of_getElem? (i := 90) rfl)) rfl
theorem ls_X11_logJoin : Cond.selects yX11_logJoin.cls yX11_logJoin yX11_logJoin ∈ mTB := mTB_of (sg4 (List.mem_of_getElem? (i := 91) rfl)) rfl
theorem lo_X11_logJoin : Cond.code yX11_logJoin cX11_logJoin 4 (some .double) ∈ mTB := mTB_of (sg4 (List.mem_of_getElem? (i := 92) rfl)) rfl
theorem lmX11_86 : Cond.methodLink RX11 86 yX8_bornBetween ∈ mTB := mTB_of (sg4 (List.mem_of_getElem? (i := 93) rfl)) rfl
theorem lv_X8_bornBetween_i : Cond.instanceMethod yX8_bornBetween ∈ mTB := mTB_of (sg4 (List.mem_of_getElem? (i := 94) rfl)) rfl
theorem ls_X8_bornBetween : Cond.selects yX8_bornBetween.cls yX8_bornBetween yX8_bornBetween ∈ mTB := mTB_of (sg4 (List.mem_of_getElem? (i := 95) rfl)) rfl
theorem lo_X8_bornBetween : Cond.code yX8_bornBetween cX8_bornBetween 10 (some .double) ∈ mTB := mTB_of (sg4 (List.mem_of_getElem? (i := 96) rfl)) rfl
theorem lcX8_217 : Cond.constantDouble RX8 217 (13830554455654793216 : UInt64) ∈ mTB := mTB_of (sg4 (List.mem_of_getElem? (i := 97) rfl)) rfl
theorem lmL_38 : Cond.methodLink RL 38 yX11_crack ∈ mTB := mTB_of (sg4 (List.mem_of_getElem? (i := 98) rfl)) rfl
theorem lv_X11_crack_i : Cond.instanceMethod yX11_crack ∈ mTB := mTB_of (sg4 (List.mem_of_getElem? (i := 99) rfl)) rfl
theorem ls_X11_crack : Cond.selects yX11_crack.cls yX11_crack yX11_crack ∈ mTB := mTB_of (sg4 (List.mem_of_getElem? (i := 100) rfl)) rfl
theorem lo_X11_crack : Cond.code yX11_crack cX11_crack 6 (some .int) ∈ mTB := mTB_of (sg4 (List.mem_of_getElem? (i := 101) rfl)) rfl
theorem lmX11_90 : Cond.methodLink RX11 90 yX8_yearsToGrow ∈ mTB := mTB_of (sg4 (List.mem_of_getElem? (i := 102) rfl)) rfl
theorem lv_X8_yearsToGrow_i : Cond.instanceMethod yX8_yearsToGrow ∈ mTB := mTB_of (sg4 (List.mem_of_getElem? (i := 103) rfl)) rfl
theorem ls_X8_yearsToGrow : Cond.selects yX8_yearsToGrow.cls yX8_yearsToGrow yX8_yearsToGrow ∈ mTB := mTB_of (sg4 (List.mem_of_getElem? (i := 104) rfl)) rfl
theorem lo_X8_yearsToGrow : Cond.code yX8_yearsToGrow cX8_yearsToGrow 12 (some .int) ∈ mTB := mTB_of (sg4 (List.mem_of_getElem? (i := 105) rfl)) rfl
theorem lcX8_219 : Cond.constantDouble RX8 219 (4696837146684686336 : UInt64) ∈ mTB := mTB_of (sg4 (List.mem_of_getElem? (i := 106) rfl)) rfl
theorem lmX8_230 : Cond.methodLink RX8 230 yX8_rate ∈ mTB := mTB_of (sg4 (List.mem_of_getElem? (i := 107) rfl)) rfl
theorem lv_X8_rate_i : Cond.instanceMethod yX8_rate ∈ mTB := mTB_of (sg4 (List.mem_of_getElem? (i := 109) rfl)) rfl
theorem lo_X8_rate : Cond.code yX8_rate cX8_rate 6 (some .double) ∈ mTB := mTB_of (sg4 (List.mem_of_getElem? (i := 110) rfl)) rfl
theorem lmX8_159 : Cond.methodLink RX8 159 yX8_turnRange ∈ mTB := mTB_of (sg4 (List.mem_of_getElem? (i := 111) rfl)) rfl
theorem lv_X8_turnRange_i : Cond.instanceMethod yX8_turnRange ∈ mTB := mTB_of (sg4 (List.mem_of_getElem? (i := 113) rfl)) rfl
theorem lo_X8_turnRange : Cond.code yX8_turnRange cX8_turnRange 2 (some .int) ∈ mTB := mTB_of (sg4 (List.mem_of_getElem? (i := 114) rfl)) rfl
theorem lmX8_155 : Cond.methodLink RX8 155 yX8_apart ∈ mTB := mTB_of (sg4 (List.mem_of_getElem? (i := 115) rfl)) rfl
theorem lv_X8_apart_s : Cond.static yX8_apart ∈ mTB := mTB_of (sg4 (List.mem_of_getElem? (i := 116) rfl)) rfl
theorem lo_X8_apart : Cond.code yX8_apart cX8_apart 2 (some .int) ∈ mTB := mTB_of (sg4 (List.mem_of_getElem? (i := 117) rfl)) rfl
theorem lmX8_181 : Cond.methodLink RX8 181 yX8_halfRange ∈ mTB := mTB_of (sg4 (List.mem_of_getElem? (i := 118) rfl)) rfl
theorem lv_X8_halfRange_i : Cond.instanceMethod yX8_halfRange ∈ mTB := mTB_of (sg4 (List.mem_of_getElem? (i := 120) rfl)) rfl
theorem lo_X8_halfRange : Cond.code yX8_halfRange cX8_halfRange 2 (some .int) ∈ mTB := mTB_of (sg4 (List.mem_of_getElem? (i := 121) rfl)) rfl
theorem lcX8_221 : Cond.constantDouble RX8 221 (4602678819172646912 : UInt64) ∈ mTB := mTB_of (sg4 (List.mem_of_getElem? (i := 122) rfl)) rfl
theorem lmL_43 : Cond.methodLink RL 43 yX11_crackAt ∈ mTB := mTB_of (sg4 (List.mem_of_getElem? (i := 123) rfl)) rfl
theorem lv_X11_crackAt_i : Cond.instanceMethod yX11_crackAt ∈ mTB := mTB_of (sg4 (List.mem_of_getElem? (i := 124) rfl)) rfl
theorem ls_X11_crackAt : Cond.selects yX11_crackAt.cls yX11_crackAt yX11_crackAt ∈ mTB := mTB_of (sg4 (List.mem_of_getElem? (i := 125) rfl)) rfl
theorem lo_X11_crackAt : Cond.code yX11_crackAt cX11_crackAt 2 (some .double) ∈ mTB := mTB_of (sg4 (List.mem_of_getElem? (i := 126) rfl)) rfl
theorem lmX11_94 : Cond.methodLink RX11 94 yX8_sizeBehind ∈ mTB := mTB_of (sg4 (List.mem_of_getElem? (i := 127) rfl)) rfl
theorem lv_X8_sizeBehind_i : Cond.instanceMethod yX8_sizeBehind ∈ mTB := mTB_of (sg4 (List.mem_of_getElem? (i := 128) rfl)) rfl
theorem ls_X8_sizeBehind : Cond.selects yX8_sizeBehind.cls yX8_sizeBehind yX8_sizeBehind ∈ mTB := mTB_of (sg4 (List.mem_of_getElem? (i := 129) rfl)) rfl
theorem lo_X8_sizeBehind : Cond.code yX8_sizeBehind cX8_sizeBehind 7 (some .double) ∈ mTB := mTB_of (sg4 (List.mem_of_getElem? (i := 130) rfl)) rfl
theorem lmL_48 : Cond.methodLink RL 48 yX11_earth ∈ mTB := mTB_of (sg4 (List.mem_of_getElem? (i := 131) rfl)) rfl
theorem lv_X11_earth_i : Cond.instanceMethod yX11_earth ∈ mTB := mTB_of (sg4 (List.mem_of_getElem? (i := 132) rfl)) rfl
theorem ls_X11_earth : Cond.selects yX11_earth.cls yX11_earth yX11_earth ∈ mTB := mTB_of (sg4 (List.mem_of_getElem? (i := 133) rfl)) rfl
theorem lo_X11_earth : Cond.code yX11_earth cX11_earth 11 (some .int) ∈ mTB := mTB_of (sg4 (List.mem_of_getElem? (i := 134) rfl)) rfl
theorem lmX11_98 : Cond.methodLink RX11 98 yX10_atHand ∈ mTB := mTB_of (sg4 (List.mem_of_getElem? (i := 135) rfl)) rfl
theorem lv_X10_atHand_i : Cond.instanceMethod yX10_atHand ∈ mTB := mTB_of (sg4 (List.mem_of_getElem? (i := 136) rfl)) rfl
theorem ls_X10_atHand : Cond.selects yX10_atHand.cls yX10_atHand yX10_atHand ∈ mTB := mTB_of (sg4 (List.mem_of_getElem? (i := 137) rfl)) rfl
theorem lo_X10_atHand : Cond.code yX10_atHand cX10_atHand 1 (some .boolean) ∈ mTB := mTB_of (sg4 (List.mem_of_getElem? (i := 138) rfl)) rfl
theorem lmX11_106 : Cond.methodLink RX11 106 yX10_places ∈ mTB := mTB_of (sg4 (List.mem_of_getElem? (i := 139) rfl)) rfl
theorem lv_X10_places_i : Cond.instanceMethod yX10_places ∈ mTB := mTB_of (sg4 (List.mem_of_getElem? (i := 140) rfl)) rfl
theorem ls_X10_places : Cond.selects yX10_places.cls yX10_places yX10_places ∈ mTB := mTB_of (sg4 (List.mem_of_getElem? (i := 141) rfl)) rfl
theorem lo_X10_places : Cond.code yX10_places cX10_places 1 (some .int) ∈ mTB := mTB_of (sg4 (List.mem_of_getElem? (i := 142) rfl)) rfl
theorem lmX10_191 : Cond.methodLink RX10 191 yX10_atHand ∈ mTB := mTB_of (sg4 (List.mem_of_getElem? (i := 143) rfl)) rfl
theorem lmX10_194 : Cond.methodLink RX10 194 yX10_hand ∈ mTB := mTB_of (sg4 (List.mem_of_getElem? (i := 144) rfl)) rfl
theorem lv_X10_hand_i : Cond.instanceMethod yX10_hand ∈ mTB := mTB_of (sg4 (List.mem_of_getElem? (i := 146) rfl)) rfl
theorem lo_X10_hand : Cond.code yX10_hand cX10_hand 1 (some (.array .int)) ∈ mTB := mTB_of (sg4 (List.mem_of_getElem? (i := 147) rfl)) rfl
theorem lmX11_110 : Cond.methodLink RX11 110 yX10_metre ∈ mTB := mTB_of (sg4 (List.mem_of_getElem? (i := 148) rfl)) rfl
theorem lv_X10_metre_i : Cond.instanceMethod yX10_metre ∈ mTB := mTB_of (sg4 (List.mem_of_getElem? (i := 149) rfl)) rfl
theorem ls_X10_metre : Cond.selects yX10_metre.cls yX10_metre yX10_metre ∈ mTB := mTB_of (sg4 (List.mem_of_getElem? (i := 150) rfl)) rfl
theorem lo_X10_metre : Cond.code yX10_metre cX10_metre 5 (some .int) ∈ mTB := mTB_of (sg4 (List.mem_of_getElem? (i := 151) rfl)) rfl
theorem lfX10_198 : Cond.fieldLink RX10 198 "RoadHouse$Way" "LENGTH" "[I" ∈ mTB := mTB_of (sg4 (List.mem_of_getElem? (i := 152) rfl)) rfl
theorem lmX10_201 : Cond.methodLink RX10 201 yX10_headingOf ∈ mTB := mTB_of (sg4 (List.mem_of_getElem? (i := 154) rfl)) rfl
theorem lv_X10_headingOf_s : Cond.static yX10_headingOf ∈ mTB := mTB_of (sg4 (List.mem_of_getElem? (i := 155) rfl)) rfl
theorem lo_X10_headingOf : Cond.code yX10_headingOf cX10_headingOf 5 (some .int) ∈ mTB := mTB_of (sg4 (List.mem_of_getElem? (i := 156) rfl)) rfl
theorem lfX10_147 : Cond.fieldLink RX10 147 "RoadHouse$Way" "DX" "[I" ∈ mTB := mTB_of (sg4 (List.mem_of_getElem? (i := 157) rfl)) rfl
theorem lfX10_150 : Cond.fieldLink RX10 150 "RoadHouse$Way" "DY" "[I" ∈ mTB := mTB_of (sg4 (List.mem_of_getElem? (i := 159) rfl)) rfl
theorem lmX11_114 : Cond.methodLink RX11 114 yX10_levelAt ∈ mTB := mTB_of (sg4 (List.mem_of_getElem? (i := 161) rfl)) rfl
theorem lv_X10_levelAt_i : Cond.instanceMethod yX10_levelAt ∈ mTB := mTB_of (sg4 (List.mem_of_getElem? (i := 162) rfl)) rfl
theorem ls_X10_levelAt : Cond.selects yX10_levelAt.cls yX10_levelAt yX10_levelAt ∈ mTB := mTB_of (sg4 (List.mem_of_getElem? (i := 163) rfl)) rfl
theorem lo_X10_levelAt : Cond.code yX10_levelAt cX10_levelAt 2 (some .int) ∈ mTB := mTB_of (sg4 (List.mem_of_getElem? (i := 164) rfl)) rfl
theorem lmX10_204 : Cond.methodLink RX10 204 yX10_places ∈ mTB := mTB_of (sg4 (List.mem_of_getElem? (i := 165) rfl)) rfl
theorem lmX11_117 : Cond.methodLink RX11 117 yX10_bridgedAt ∈ mTB := mTB_of (sg4 (List.mem_of_getElem? (i := 166) rfl)) rfl
theorem lv_X10_bridgedAt_i : Cond.instanceMethod yX10_bridgedAt ∈ mTB := mTB_of (sg4 (List.mem_of_getElem? (i := 167) rfl)) rfl
theorem ls_X10_bridgedAt : Cond.selects yX10_bridgedAt.cls yX10_bridgedAt yX10_bridgedAt ∈ mTB := mTB_of (sg4 (List.mem_of_getElem? (i := 168) rfl)) rfl
theorem lo_X10_bridgedAt : Cond.code yX10_bridgedAt cX10_bridgedAt 2 (some .boolean) ∈ mTB := mTB_of (sg4 (List.mem_of_getElem? (i := 169) rfl)) rfl
theorem lmX10_153 : Cond.methodLink RX10 153 yX10_bridged ∈ mTB := mTB_of (sg4 (List.mem_of_getElem? (i := 170) rfl)) rfl
theorem lv_X10_bridged_i : Cond.instanceMethod yX10_bridged ∈ mTB := mTB_of (sg4 (List.mem_of_getElem? (i := 171) rfl)) rfl
theorem ls_X10_bridged : Cond.selects yX10_bridged.cls yX10_bridged yX10_bridged ∈ mTB := mTB_of (sg4 (List.mem_of_getElem? (i := 172) rfl)) rfl
theorem lo_X10_bridged : Cond.code yX10_bridged cX10_bridged 2 (some .boolean) ∈ mTB := mTB_of (sg4 (List.mem_of_getElem? (i := 173) rfl)) rfl
theorem lmX11_121 : Cond.methodLink RX11 121 yJ9_floorDiv_f86c9 ∈ mTB := mTB_of (sg4 (List.mem_of_getElem? (i := 174) rfl)) rfl
theorem lv_J9_floorDiv_f86c9_s : Cond.static yJ9_floorDiv_f86c9 ∈ mTB := mTB_of (sg4 (List.mem_of_getElem? (i := 175) rfl)) rfl
theorem lo_J9_floorDiv_f86c9 : Cond.code yJ9_floorDiv_f86c9 cJ9_floorDiv_f86c9 6 (some .long) ∈ mTB := mTB_of (sg4 (List.mem_of_getElem? (i := 176) rfl)) rfl
theorem lmX11_127 : Cond.methodLink RX11 127 yX4_addCut ∈ mTB := mTB_of (sg4 (List.mem_of_getElem? (i := 177) rfl)) rfl
theorem lv_X4_addCut_i : Cond.instanceMethod yX4_addCut ∈ mTB := mTB_of (sg4 (List.mem_of_getElem? (i := 178) rfl)) rfl
theorem ls_X4_addCut : Cond.selects yX4_addCut.cls yX4_addCut yX4_addCut ∈ mTB := mTB_of (sg4 (List.mem_of_getElem? (i := 179) rfl)) rfl
theorem lo_X4_addCut : Cond.code yX4_addCut cX4_addCut 6 (some .int) ∈ mTB := mTB_of (sg4 (List.mem_of_getElem? (i := 180) rfl)) rfl
theorem lcX4_142 : Cond.constant RX4 142 (1000000 : Int32) ∈ mTB := mTB_of (sg4 (List.mem_of_getElem? (i := 181) rfl)) rfl
theorem lmX4_143 : Cond.methodLink RX4 143 yX4_isWeek ∈ mTB := mTB_of (sg4 (List.mem_of_getElem? (i := 182) rfl)) rfl
theorem lv_X4_isWeek_s : Cond.static yX4_isWeek ∈ mTB := mTB_of (sg4 (List.mem_of_getElem? (i := 183) rfl)) rfl
theorem lo_X4_isWeek : Cond.code yX4_isWeek cX4_isWeek 1 (some .boolean) ∈ mTB := mTB_of (sg4 (List.mem_of_getElem? (i := 184) rfl)) rfl
theorem lmX4_147 : Cond.methodLink RX4 147 yX4_isMetre ∈ mTB := mTB_of (sg4 (List.mem_of_getElem? (i := 185) rfl)) rfl
theorem lv_X4_isMetre_s : Cond.static yX4_isMetre ∈ mTB := mTB_of (sg4 (List.mem_of_getElem? (i := 186) rfl)) rfl
theorem lo_X4_isMetre : Cond.code yX4_isMetre cX4_isMetre 1 (some .boolean) ∈ mTB := mTB_of (sg4 (List.mem_of_getElem? (i := 187) rfl)) rfl
theorem lcX4_141 : Cond.constant RX4 141 (100000 : Int32) ∈ mTB := mTB_of (sg4 (List.mem_of_getElem? (i := 188) rfl)) rfl
theorem lmX4_150 : Cond.methodLink RX4 150 yX4_cuts ∈ mTB := mTB_of (sg4 (List.mem_of_getElem? (i := 189) rfl)) rfl
theorem lv_X4_cuts_i : Cond.instanceMethod yX4_cuts ∈ mTB := mTB_of (sg4 (List.mem_of_getElem? (i := 191) rfl)) rfl
theorem lo_X4_cuts : Cond.code yX4_cuts cX4_cuts 1 (some .int) ∈ mTB := mTB_of (sg4 (List.mem_of_getElem? (i := 192) rfl)) rfl
theorem lmX11_131 : Cond.methodLink RX11 131 yJ9_min_7cf53 ∈ mTB := mTB_of (sg4 (List.mem_of_getElem? (i := 193) rfl)) rfl
theorem lv_J9_min_7cf53_s : Cond.static yJ9_min_7cf53 ∈ mTB := mTB_of (sg4 (List.mem_of_getElem? (i := 194) rfl)) rfl
theorem lo_J9_min_7cf53 : Cond.code yJ9_min_7cf53 cJ9_min_7cf53 2 (some .int) ∈ mTB := mTB_of (sg4 (List.mem_of_getElem? (i := 195) rfl)) rfl
theorem lmX11_135 : Cond.methodLink RX11 135 yX4_addFill ∈ mTB := mTB_of (sg4 (List.mem_of_getElem? (i := 196) rfl)) rfl
theorem lv_X4_addFill_i : Cond.instanceMethod yX4_addFill ∈ mTB := mTB_of (sg4 (List.mem_of_getElem? (i := 197) rfl)) rfl
theorem ls_X4_addFill : Cond.selects yX4_addFill.cls yX4_addFill yX4_addFill ∈ mTB := mTB_of (sg4 (List.mem_of_getElem? (i := 198) rfl)) rfl
theorem lo_X4_addFill : Cond.code yX4_addFill cX4_addFill 5 (some .int) ∈ mTB := mTB_of (sg4 (List.mem_of_getElem? (i := 199) rfl)) rfl
theorem lmX4_154 : Cond.methodLink RX4 154 yX4_fillCount ∈ mTB := mTB_of (sg4 (List.mem_of_getElem? (i := 200) rfl)) rfl
theorem lv_X4_fillCount_i : Cond.instanceMethod yX4_fillCount ∈ mTB := mTB_of (sg4 (List.mem_of_getElem? (i := 201) rfl)) rfl
theorem ls_X4_fillCount : Cond.selects yX4_fillCount.cls yX4_fillCount yX4_fillCount ∈ mTB := mTB_of (sg4 (List.mem_of_getElem? (i := 202) rfl)) rfl
theorem lo_X4_fillCount : Cond.code yX4_fillCount cX4_fillCount 1 (some .int) ∈ mTB := mTB_of (sg4 (List.mem_of_getElem? (i := 203) rfl)) rfl
theorem lmL_53 : Cond.methodLink RL 53 yX11_bridge ∈ mTB := mTB_of (sg4 (List.mem_of_getElem? (i := 204) rfl)) rfl
theorem lv_X11_bridge_i : Cond.instanceMethod yX11_bridge ∈ mTB := mTB_of (sg4 (List.mem_of_getElem? (i := 205) rfl)) rfl
theorem ls_X11_bridge : Cond.selects yX11_bridge.cls yX11_bridge yX11_bridge ∈ mTB := mTB_of (sg4 (List.mem_of_getElem? (i := 206) rfl)) rfl
theorem lo_X11_bridge : Cond.code yX11_bridge cX11_bridge 7 (some .int) ∈ mTB := mTB_of (sg4 (List.mem_of_getElem? (i := 207) rfl)) rfl
theorem lmX11_139 : Cond.methodLink RX11 139 yX10_bridgedRow ∈ mTB := mTB_of (sg4 (List.mem_of_getElem? (i := 208) rfl)) rfl
theorem lv_X10_bridgedRow_i : Cond.instanceMethod yX10_bridgedRow ∈ mTB := mTB_of (sg4 (List.mem_of_getElem? (i := 209) rfl)) rfl
theorem ls_X10_bridgedRow : Cond.selects yX10_bridgedRow.cls yX10_bridgedRow yX10_bridgedRow ∈ mTB := mTB_of (sg4 (List.mem_of_getElem? (i := 210) rfl)) rfl
theorem lo_X10_bridgedRow : Cond.code yX10_bridgedRow cX10_bridgedRow 4 (some .int) ∈ mTB := mTB_of (sg4 (List.mem_of_getElem? (i := 211) rfl)) rfl
theorem lmX10_208 : Cond.methodLink RX10 208 yX10_bridgedAt ∈ mTB := mTB_of (sg4 (List.mem_of_getElem? (i := 212) rfl)) rfl
theorem lmX11_142 : Cond.methodLink RX11 142 yX0_forgetText ∈ mTB := mTB_of (sg4 (List.mem_of_getElem? (i := 213) rfl)) rfl
theorem lv_X0_forgetText_i : Cond.instanceMethod yX0_forgetText ∈ mTB := mTB_of (sg4 (List.mem_of_getElem? (i := 214) rfl)) rfl
theorem ls_X0_forgetText : Cond.selects yX0_forgetText.cls yX0_forgetText yX0_forgetText ∈ mTB := mTB_of (sg4 (List.mem_of_getElem? (i := 215) rfl)) rfl
theorem lo_X0_forgetText : Cond.code yX0_forgetText cX0_forgetText 1 none ∈ mTB := mTB_of (sg4 (List.mem_of_getElem? (i := 216) rfl)) rfl
theorem lmX11_145 : Cond.methodLink RX11 145 yX0_collect ∈ mTB := mTB_of (sg4 (List.mem_of_getElem? (i := 217) rfl)) rfl
theorem lv_X0_collect_i : Cond.instanceMethod yX0_collect ∈ mTB := mTB_of (sg4 (List.mem_of_getElem? (i := 218) rfl)) rfl
theorem ls_X0_collect : Cond.selects yX0_collect.cls yX0_collect yX0_collect ∈ mTB := mTB_of (sg4 (List.mem_of_getElem? (i := 219) rfl)) rfl
theorem lo_X0_collect : Cond.code yX0_collect cX0_collect 2 (some .boolean) ∈ mTB := mTB_of (sg4 (List.mem_of_getElem? (i := 220) rfl)) rfl
theorem lmX11_148 : Cond.methodLink RX11 148 yX11_collectNumber ∈ mTB := mTB_of (sg4 (List.mem_of_getElem? (i := 221) rfl)) rfl
theorem lv_X11_collectNumber_i : Cond.instanceMethod yX11_collectNumber ∈ mTB := mTB_of (sg4 (List.mem_of_getElem? (i := 223) rfl)) rfl
theorem lo_X11_collectNumber : Cond.code yX11_collectNumber cX11_collectNumber 2 none ∈ mTB := mTB_of (sg4 (List.mem_of_getElem? (i := 224) rfl)) rfl
theorem lmX11_152 : Cond.methodLink RX11 152 yX0_read ∈ mTB := mTB_of (sg4 (List.mem_of_getElem? (i := 225) rfl)) rfl
theorem lv_X0_read_i : Cond.instanceMethod yX0_read ∈ mTB := mTB_of (sg4 (List.mem_of_getElem? (i := 226) rfl)) rfl
theorem ls_X0_read : Cond.selects yX0_read.cls yX0_read yX0_read ∈ mTB := mTB_of (sg4 (List.mem_of_getElem? (i := 227) rfl)) rfl
theorem lo_X0_read : Cond.code yX0_read cX0_read 2 (some .long) ∈ mTB := mTB_of (sg4 (List.mem_of_getElem? (i := 228) rfl)) rfl
theorem lmX0_142 : Cond.methodLink RX0 142 yX0_wrongSign ∈ mTB := mTB_of (sg4 (List.mem_of_getElem? (i := 229) rfl)) rfl
theorem lv_X0_wrongSign_i : Cond.instanceMethod yX0_wrongSign ∈ mTB := mTB_of (sg4 (List.mem_of_getElem? (i := 231) rfl)) rfl
theorem lo_X0_wrongSign : Cond.code yX0_wrongSign cX0_wrongSign 3 (some .int) ∈ mTB := mTB_of (sg4 (List.mem_of_getElem? (i := 232) rfl)) rfl
theorem lmX0_138 : Cond.methodLink RX0 138 yX0_signAt ∈ mTB := mTB_of (sg4 (List.mem_of_getElem? (i := 233) rfl)) rfl
theorem lv_X0_signAt_i : Cond.instanceMethod yX0_signAt ∈ mTB := mTB_of (sg4 (List.mem_of_getElem? (i := 235) rfl)) rfl
theorem lo_X0_signAt : Cond.code yX0_signAt cX0_signAt 2 (some .char) ∈ mTB := mTB_of (sg4 (List.mem_of_getElem? (i := 236) rfl)) rfl
theorem lmX0_149 : Cond.methodLink RX0 149 yX0_isNode ∈ mTB := mTB_of (sg4 (List.mem_of_getElem? (i := 237) rfl)) rfl
theorem lv_X0_isNode_s : Cond.static yX0_isNode ∈ mTB := mTB_of (sg4 (List.mem_of_getElem? (i := 238) rfl)) rfl
theorem lo_X0_isNode : Cond.code yX0_isNode cX0_isNode 1 (some .boolean) ∈ mTB := mTB_of (sg4 (List.mem_of_getElem? (i := 239) rfl)) rfl
theorem lmX0_153 : Cond.methodLink RX0 153 yX0_numberAt ∈ mTB := mTB_of (sg5 (List.mem_of_getElem? (i := 0) rfl)) rfl
theorem lv_X0_numberAt_i : Cond.instanceMethod yX0_numberAt ∈ mTB := mTB_of (sg5 (List.mem_of_getElem? (i := 2) rfl)) rfl
theorem lo_X0_numberAt : Cond.code yX0_numberAt cX0_numberAt 5 (some .int) ∈ mTB := mTB_of (sg5 (List.mem_of_getElem? (i := 3) rfl)) rfl
theorem lmX0_146 : Cond.methodLink RX0 146 yX0_take ∈ mTB := mTB_of (sg5 (List.mem_of_getElem? (i := 4) rfl)) rfl
theorem lv_X0_take_i : Cond.instanceMethod yX0_take ∈ mTB := mTB_of (sg5 (List.mem_of_getElem? (i := 6) rfl)) rfl
theorem lo_X0_take : Cond.code yX0_take cX0_take 2 none ∈ mTB := mTB_of (sg5 (List.mem_of_getElem? (i := 7) rfl)) rfl
theorem lmX0_157 : Cond.methodLink RX0 157 yX0_takeNode ∈ mTB := mTB_of (sg5 (List.mem_of_getElem? (i := 8) rfl)) rfl
theorem lv_X0_takeNode_i : Cond.instanceMethod yX0_takeNode ∈ mTB := mTB_of (sg5 (List.mem_of_getElem? (i := 10) rfl)) rfl
theorem lo_X0_takeNode : Cond.code yX0_takeNode cX0_takeNode 3 none ∈ mTB := mTB_of (sg5 (List.mem_of_getElem? (i := 11) rfl)) rfl
theorem lmL_57 : Cond.methodLink RL 57 yX11_rowOf ∈ mTB := mTB_of (sg5 (List.mem_of_getElem? (i := 12) rfl)) rfl
theorem lv_X11_rowOf_i : Cond.instanceMethod yX11_rowOf ∈ mTB := mTB_of (sg5 (List.mem_of_getElem? (i := 13) rfl)) rfl
theorem ls_X11_rowOf : Cond.selects yX11_rowOf.cls yX11_rowOf yX11_rowOf ∈ mTB := mTB_of (sg5 (List.mem_of_getElem? (i := 14) rfl)) rfl
theorem lo_X11_rowOf : Cond.code yX11_rowOf cX11_rowOf 7 (some .int) ∈ mTB := mTB_of (sg5 (List.mem_of_getElem? (i := 15) rfl)) rfl
theorem lmX11_156 : Cond.methodLink RX11 156 yX0_beamCount ∈ mTB := mTB_of (sg5 (List.mem_of_getElem? (i := 16) rfl)) rfl
theorem lv_X0_beamCount_i : Cond.instanceMethod yX0_beamCount ∈ mTB := mTB_of (sg5 (List.mem_of_getElem? (i := 17) rfl)) rfl
theorem ls_X0_beamCount : Cond.selects yX0_beamCount.cls yX0_beamCount yX0_beamCount ∈ mTB := mTB_of (sg5 (List.mem_of_getElem? (i := 18) rfl)) rfl
theorem lo_X0_beamCount : Cond.code yX0_beamCount cX0_beamCount 1 (some .int) ∈ mTB := mTB_of (sg5 (List.mem_of_getElem? (i := 19) rfl)) rfl
theorem lmX11_159 : Cond.methodLink RX11 159 yX0_thousandths ∈ mTB := mTB_of (sg5 (List.mem_of_getElem? (i := 20) rfl)) rfl
theorem lv_X0_thousandths_i : Cond.instanceMethod yX0_thousandths ∈ mTB := mTB_of (sg5 (List.mem_of_getElem? (i := 21) rfl)) rfl
theorem ls_X0_thousandths : Cond.selects yX0_thousandths.cls yX0_thousandths yX0_thousandths ∈ mTB := mTB_of (sg5 (List.mem_of_getElem? (i := 22) rfl)) rfl
theorem lo_X0_thousandths : Cond.code yX0_thousandths cX0_thousandths 8 (some .long) ∈ mTB := mTB_of (sg5 (List.mem_of_getElem? (i := 23) rfl)) rfl
theorem lmX0_171 : Cond.methodLink RX0 171 yX0_prepare ∈ mTB := mTB_of (sg5 (List.mem_of_getElem? (i := 24) rfl)) rfl
theorem lv_X0_prepare_i : Cond.instanceMethod yX0_prepare ∈ mTB := mTB_of (sg5 (List.mem_of_getElem? (i := 26) rfl)) rfl
theorem lo_X0_prepare : Cond.code yX0_prepare cX0_prepare 3 none ∈ mTB := mTB_of (sg5 (List.mem_of_getElem? (i := 27) rfl)) rfl
theorem lmX0_179 : Cond.methodLink RX0 179 yX0_gatherForces ∈ mTB := mTB_of (sg5 (List.mem_of_getElem? (i := 28) rfl)) rfl
theorem lv_X0_gatherForces_i : Cond.instanceMethod yX0_gatherForces ∈ mTB := mTB_of (sg5 (List.mem_of_getElem? (i := 30) rfl)) rfl
theorem lo_X0_gatherForces : Cond.code yX0_gatherForces cX0_gatherForces 6 none ∈ mTB := mTB_of (sg5 (List.mem_of_getElem? (i := 31) rfl)) rfl
theorem lv_X11_common_s : Cond.static yX11_common ∈ mTB := mTB_of (sg5 (List.mem_of_getElem? (i := 33) rfl)) rfl
theorem lo_X11_common : Cond.code yX11_common cX11_common 11 (some .long) ∈ mTB := mTB_of (sg5 (List.mem_of_getElem? (i := 34) rfl)) rfl
theorem lmX0_207 : Cond.methodLink RX0 207 yJ7_fill_d0a16 ∈ mTB := mTB_of (sg5 (List.mem_of_getElem? (i := 35) rfl)) rfl
theorem lv_J7_fill_d0a16_s : Cond.static yJ7_fill_d0a16 ∈ mTB := mTB_of (sg5 (List.mem_of_getElem? (i := 36) rfl)) rfl
theorem lo_J7_fill_d0a16 : Cond.code yJ7_fill_d0a16 cJ7_fill_d0a16 5 none ∈ mTB := mTB_of (sg5 (List.mem_of_getElem? (i := 37) rfl)) rfl
theorem lmX0_213 : Cond.methodLink RX0 213 yX0_endForce ∈ mTB := mTB_of (sg5 (List.mem_of_getElem? (i := 38) rfl)) rfl
theorem lv_X0_endForce_i : Cond.instanceMethod yX0_endForce ∈ mTB := mTB_of (sg5 (List.mem_of_getElem? (i := 40) rfl)) rfl
theorem lo_X0_endForce : Cond.code yX0_endForce cX0_endForce 5 (some .int) ∈ mTB := mTB_of (sg5 (List.mem_of_getElem? (i := 41) rfl)) rfl
theorem lmX0_217 : Cond.methodLink RX0 217 yX0_shearShare ∈ mTB := mTB_of (sg5 (List.mem_of_getElem? (i := 42) rfl)) rfl
theorem lv_X0_shearShare_i : Cond.instanceMethod yX0_shearShare ∈ mTB := mTB_of (sg5 (List.mem_of_getElem? (i := 44) rfl)) rfl
theorem lo_X0_shearShare : Cond.code yX0_shearShare cX0_shearShare 6 (some .int) ∈ mTB := mTB_of (sg5 (List.mem_of_getElem? (i := 45) rfl)) rfl
theorem lmX0_185 : Cond.methodLink RX0 185 yX0_hasStiffEnd ∈ mTB := mTB_of (sg5 (List.mem_of_getElem? (i := 46) rfl)) rfl
theorem lv_X0_hasStiffEnd_i : Cond.instanceMethod yX0_hasStiffEnd ∈ mTB := mTB_of (sg5 (List.mem_of_getElem? (i := 48) rfl)) rfl
theorem lo_X0_hasStiffEnd : Cond.code yX0_hasStiffEnd cX0_hasStiffEnd 2 (some .boolean) ∈ mTB := mTB_of (sg5 (List.mem_of_getElem? (i := 49) rfl)) rfl
theorem lmX0_188 : Cond.methodLink RX0 188 yX0_cell ∈ mTB := mTB_of (sg5 (List.mem_of_getElem? (i := 50) rfl)) rfl
theorem lv_X0_cell_i : Cond.instanceMethod yX0_cell ∈ mTB := mTB_of (sg5 (List.mem_of_getElem? (i := 52) rfl)) rfl
theorem lo_X0_cell : Cond.code yX0_cell cX0_cell 3 (some (.object "RoadHouse$Big")) ∈ mTB := mTB_of (sg5 (List.mem_of_getElem? (i := 53) rfl)) rfl
theorem lmX0_192 : Cond.methodLink RX0 192 yX1_set ∈ mTB := mTB_of (sg5 (List.mem_of_getElem? (i := 54) rfl)) rfl
theorem lmX0_196 : Cond.methodLink RX0 196 yX0_invert ∈ mTB := mTB_of (sg5 (List.mem_of_getElem? (i := 55) rfl)) rfl
theorem lv_X0_invert_i : Cond.instanceMethod yX0_invert ∈ mTB := mTB_of (sg5 (List.mem_of_getElem? (i := 57) rfl)) rfl
theorem lo_X0_invert : Cond.code yX0_invert cX0_invert 4 none ∈ mTB := mTB_of (sg5 (List.mem_of_getElem? (i := 58) rfl)) rfl
theorem lmX0_227 : Cond.methodLink RX0 227 yX0_eliminate ∈ mTB := mTB_of (sg5 (List.mem_of_getElem? (i := 59) rfl)) rfl
theorem lv_X0_eliminate_i : Cond.instanceMethod yX0_eliminate ∈ mTB := mTB_of (sg5 (List.mem_of_getElem? (i := 61) rfl)) rfl
theorem lo_X0_eliminate : Cond.code yX0_eliminate cX0_eliminate 6 none ∈ mTB := mTB_of (sg5 (List.mem_of_getElem? (i := 62) rfl)) rfl
theorem lmX0_231 : Cond.methodLink RX0 231 yX1_copy ∈ mTB := mTB_of (sg5 (List.mem_of_getElem? (i := 63) rfl)) rfl
theorem lv_X1_copy_i : Cond.instanceMethod yX1_copy ∈ mTB := mTB_of (sg5 (List.mem_of_getElem? (i := 64) rfl)) rfl
theorem ls_X1_copy : Cond.selects yX1_copy.cls yX1_copy yX1_copy ∈ mTB := mTB_of (sg5 (List.mem_of_getElem? (i := 65) rfl)) rfl
theorem lo_X1_copy : Cond.code yX1_copy cX1_copy 2 none ∈ mTB := mTB_of (sg5 (List.mem_of_getElem? (i := 66) rfl)) rfl
theorem lmX1_22 : Cond.methodLink RX1 22 yJ9_min_7cf53 ∈ mTB := mTB_of (sg5 (List.mem_of_getElem? (i := 67) rfl)) rfl
theorem lmX1_28 : Cond.methodLink RX1 28 ⟨"java/lang/System", "arraycopy", "(Ljava/lang/Object;ILjava/lang/Object;II)V"⟩ ∈ mTB := mTB_of (sg5 (List.mem_of_getElem? (i := 68) rfl)) rfl
theorem lmX0_235 : Cond.methodLink RX0 235 yX1_product_ ∈ mTB := mTB_of (sg5 (List.mem_of_getElem? (i := 71) rfl)) rfl
theorem lv_X1_product__i : Cond.instanceMethod yX1_product_ ∈ mTB := mTB_of (sg5 (List.mem_of_getElem? (i := 72) rfl)) rfl
theorem ls_X1_product_ : Cond.selects yX1_product_.cls yX1_product_ yX1_product_ ∈ mTB := mTB_of (sg5 (List.mem_of_getElem? (i := 73) rfl)) rfl
theorem lo_X1_product_ : Cond.code yX1_product_ cX1_product_ 5 none ∈ mTB := mTB_of (sg5 (List.mem_of_getElem? (i := 74) rfl)) rfl
theorem lmX1_44 : Cond.methodLink RX1 44 yJ7_fill_fda19 ∈ mTB := mTB_of (sg5 (List.mem_of_getElem? (i := 75) rfl)) rfl
theorem lv_J7_fill_fda19_s : Cond.static yJ7_fill_fda19 ∈ mTB := mTB_of (sg5 (List.mem_of_getElem? (i := 76) rfl)) rfl
theorem lo_J7_fill_fda19 : Cond.code yJ7_fill_fda19 cJ7_fill_fda19 5 none ∈ mTB := mTB_of (sg5 (List.mem_of_getElem? (i := 77) rfl)) rfl
theorem lmJ7_13 : Cond.methodLink RJ7 13 yJ7_rangeCheck_23922 ∈ mTB := mTB_of (sg5 (List.mem_of_getElem? (i := 78) rfl)) rfl
theorem lv_J7_rangeCheck_23922_s : Cond.static yJ7_rangeCheck_23922 ∈ mTB := mTB_of (sg5 (List.mem_of_getElem? (i := 79) rfl)) rfl
theorem lo_J7_rangeCheck_23922 : Cond.code yJ7_rangeCheck_23922 cJ7_rangeCheck_23922 3 none ∈ mTB := mTB_of (sg5 (List.mem_of_getElem? (i := 80) rfl)) rfl
theorem lkJ7_43 : Cond.classLink RJ7 43 "java/lang/IllegalArgumentException" ∈ mTB := mTB_of (sg5 (List.mem_of_getElem? (i := 81) rfl)) rfl
theorem lkJ7_45 : Cond.classLink RJ7 45 RJ4 ∈ mTB := mTB_of (sg5 (List.mem_of_getElem? (i := 123) rfl)) rfl
theorem ln_J4 : Cond.instantiable RJ4 4 ∈ mTB := mTB_of (sg5 (List.mem_of_getElem? (i := 124) rfl)) rfl
theorem lmJ7_47 : Cond.methodLink RJ7 47 yJ4_init_da8c8 ∈ mTB := mTB_of (sg5 (List.mem_of_getElem? (i := 125) rfl)) rfl
theorem ln_Jxde1cd : Cond.instantiable RJxde1cd 6 ∈ mTB := mTB_of (sg5 (List.mem_of_getElem? (i := 141) rfl)) rfl
theorem la_byte : Cond.arrayClass .byte ∈ mTB := mTB_of (sg5 (List.mem_of_getElem? (i := 172) rfl)) rfl
theorem lmJ7_50 : Cond.methodLink RJ7 50 yJ4_append_15ec4 ∈ mTB := mTB_of (sg5 (List.mem_of_getElem? (i := 188) rfl)) rfl
theorem lv_J9_max_7cf53_s : Cond.static yJ9_max_7cf53 ∈ mTB := mTB_of (sg5 (List.mem_of_getElem? (i := 211) rfl)) rfl
theorem lo_J9_max_7cf53 : Cond.code yJ9_max_7cf53 cJ9_max_7cf53 2 (some .int) ∈ mTB := mTB_of (sg5 (List.mem_of_getElem? (i := 212) rfl)) rfl
theorem lv_J7_copyOf_9075b_s : Cond.static yJ7_copyOf_9075b ∈ mTB := mTB_of (sg5 (List.mem_of_getElem? (i := 219) rfl)) rfl
theorem lo_J7_copyOf_9075b : Cond.code yJ7_copyOf_9075b cJ7_copyOf_9075b 3 (some (.array .byte)) ∈ mTB := mTB_of (sg5 (List.mem_of_getElem? (i := 220) rfl)) rfl
theorem lmJ7_310 : Cond.methodLink RJ7 310 ⟨"[B", "clone", "()Ljava/lang/Object;"⟩ ∈ mTB := mTB_of (sg5 (List.mem_of_getElem? (i := 221) rfl)) rfl
theorem lkJ7_311 : Cond.classLink RJ7 311 "[B" ∈ mTB := mTB_of (sg5 (List.mem_of_getElem? (i := 227) rfl)) rfl
theorem lmJ7_304 : Cond.methodLink RJ7 304 yJ9_min_7cf53 ∈ mTB := mTB_of (sg5 (List.mem_of_getElem? (i := 228) rfl)) rfl
theorem lmJ7_150 : Cond.methodLink RJ7 150 ⟨"java/lang/System", "arraycopy", "(Ljava/lang/Object;ILjava/lang/Object;II)V"⟩ ∈ mTB := mTB_of (sg5 (List.mem_of_getElem? (i := 229) rfl)) rfl
theorem lmJ7_54 : Cond.methodLink RJ7 54 yJ4_append_bf812 ∈ mTB := mTB_of (sg6 (List.mem_of_getElem? (i := 64) rfl)) rfl
theorem lv_J6_stringSize_0f7a4_s : Cond.static yJ6_stringSize_0f7a4 ∈ mTB := mTB_of (sg6 (List.mem_of_getElem? (i := 72) rfl)) rfl
theorem lo_J6_stringSize_0f7a4 : Cond.code yJ6_stringSize_0f7a4 cJ6_stringSize_0f7a4 4 (some .int) ∈ mTB := mTB_of (sg6 (List.mem_of_getElem? (i := 73) rfl)) rfl
theorem lv_J6_getChars_ba4f3_s : Cond.static yJ6_getChars_ba4f3 ∈ mTB := mTB_of (sg6 (List.mem_of_getElem? (i := 75) rfl)) rfl
theorem lo_J6_getChars_ba4f3 : Cond.code yJ6_getChars_ba4f3 cJ6_getChars_ba4f3 7 (some .int) ∈ mTB := mTB_of (sg6 (List.mem_of_getElem? (i := 76) rfl)) rfl
theorem lfJ6_83 : Cond.fieldLink RJ6 83 "java/lang/Integer" "DigitOnes" "[B" ∈ mTB := mTB_of (sg6 (List.mem_of_getElem? (i := 77) rfl)) rfl
theorem lfJ6_87 : Cond.fieldLink RJ6 87 "java/lang/Integer" "DigitTens" "[B" ∈ mTB := mTB_of (sg6 (List.mem_of_getElem? (i := 79) rfl)) rfl
theorem lmJ7_61 : Cond.methodLink RJ7 61 yJ4_toString_0e30d ∈ mTB := mTB_of (sg6 (List.mem_of_getElem? (i := 91) rfl)) rfl
theorem ln_J0 : Cond.instantiable RJ0 4 ∈ mTB := mTB_of (sg6 (List.mem_of_getElem? (i := 96) rfl)) rfl
theorem lv_J7_copyOfRange_39247_s : Cond.static yJ7_copyOfRange_39247 ∈ mTB := mTB_of (sg6 (List.mem_of_getElem? (i := 119) rfl)) rfl
theorem lo_J7_copyOfRange_39247 : Cond.code yJ7_copyOfRange_39247 cJ7_copyOfRange_39247 3 (some (.array .byte)) ∈ mTB := mTB_of (sg6 (List.mem_of_getElem? (i := 120) rfl)) rfl
theorem lmJ7_339 : Cond.methodLink RJ7 339 yJ7_copyOfRangeByte_39247 ∈ mTB := mTB_of (sg6 (List.mem_of_getElem? (i := 121) rfl)) rfl
theorem lv_J7_copyOfRangeByte_39247_s : Cond.static yJ7_copyOfRangeByte_39247 ∈ mTB := mTB_of (sg6 (List.mem_of_getElem? (i := 122) rfl)) rfl
theorem lo_J7_copyOfRangeByte_39247 : Cond.code yJ7_copyOfRangeByte_39247 cJ7_copyOfRangeByte_39247 5 (some (.array .byte)) ∈ mTB := mTB_of (sg6 (List.mem_of_getElem? (i := 123) rfl)) rfl
theorem lmJ7_343 : Cond.methodLink RJ7 343 yJ7_checkLength_df160 ∈ mTB := mTB_of (sg6 (List.mem_of_getElem? (i := 124) rfl)) rfl
theorem lv_J7_checkLength_df160_s : Cond.static yJ7_checkLength_df160 ∈ mTB := mTB_of (sg6 (List.mem_of_getElem? (i := 125) rfl)) rfl
theorem lo_J7_checkLength_df160 : Cond.code yJ7_checkLength_df160 cJ7_checkLength_df160 2 none ∈ mTB := mTB_of (sg6 (List.mem_of_getElem? (i := 126) rfl)) rfl
theorem lmJ7_65 : Cond.methodLink RJ7 65 ⟨"java/lang/IllegalArgumentException", "<init>", "(Ljava/lang/String;)V"⟩ ∈ mTB := mTB_of (sg6 (List.mem_of_getElem? (i := 128) rfl)) rfl
theorem lkJ7_68 : Cond.classLink RJ7 68 RJx00060 ∈ mTB := mTB_of (sg6 (List.mem_of_getElem? (i := 166) rfl)) rfl
theorem ln_Jx00060 : Cond.instantiable RJx00060 6 ∈ mTB := mTB_of (sg6 (List.mem_of_getElem? (i := 167) rfl)) rfl
theorem lmJ7_70 : Cond.methodLink RJ7 70 yJx00060_init_d00df ∈ mTB := mTB_of (sg6 (List.mem_of_getElem? (i := 177) rfl)) rfl
theorem lmX1_50 : Cond.methodLink RX1 50 yX1_addRow ∈ mTB := mTB_of (sg6 (List.mem_of_getElem? (i := 192) rfl)) rfl
theorem lv_X1_addRow_i : Cond.instanceMethod yX1_addRow ∈ mTB := mTB_of (sg6 (List.mem_of_getElem? (i := 194) rfl)) rfl
theorem lo_X1_addRow : Cond.code yX1_addRow cX1_addRow 11 none ∈ mTB := mTB_of (sg6 (List.mem_of_getElem? (i := 195) rfl)) rfl
theorem lcX1_38 : Cond.constantLong RX1 38 (1073741823 : Int64) ∈ mTB := mTB_of (sg6 (List.mem_of_getElem? (i := 196) rfl)) rfl
theorem lmX1_40 : Cond.methodLink RX1 40 yX1_trim ∈ mTB := mTB_of (sg6 (List.mem_of_getElem? (i := 197) rfl)) rfl
theorem lv_X1_trim_i : Cond.instanceMethod yX1_trim ∈ mTB := mTB_of (sg6 (List.mem_of_getElem? (i := 199) rfl)) rfl
theorem lo_X1_trim : Cond.code yX1_trim cX1_trim 2 none ∈ mTB := mTB_of (sg6 (List.mem_of_getElem? (i := 200) rfl)) rfl
theorem lmX0_239 : Cond.methodLink RX0 239 yX1_add ∈ mTB := mTB_of (sg6 (List.mem_of_getElem? (i := 201) rfl)) rfl
theorem lv_X1_add_i : Cond.instanceMethod yX1_add ∈ mTB := mTB_of (sg6 (List.mem_of_getElem? (i := 202) rfl)) rfl
theorem ls_X1_add : Cond.selects yX1_add.cls yX1_add yX1_add ∈ mTB := mTB_of (sg6 (List.mem_of_getElem? (i := 203) rfl)) rfl
theorem lo_X1_add : Cond.code yX1_add cX1_add 14 none ∈ mTB := mTB_of (sg6 (List.mem_of_getElem? (i := 204) rfl)) rfl
theorem lmX1_34 : Cond.methodLink RX1 34 yX1_compareSize ∈ mTB := mTB_of (sg6 (List.mem_of_getElem? (i := 205) rfl)) rfl
theorem lv_X1_compareSize_i : Cond.instanceMethod yX1_compareSize ∈ mTB := mTB_of (sg6 (List.mem_of_getElem? (i := 206) rfl)) rfl
theorem ls_X1_compareSize : Cond.selects yX1_compareSize.cls yX1_compareSize yX1_compareSize ∈ mTB := mTB_of (sg6 (List.mem_of_getElem? (i := 207) rfl)) rfl
theorem lo_X1_compareSize : Cond.code yX1_compareSize cX1_compareSize 3 (some .int) ∈ mTB := mTB_of (sg6 (List.mem_of_getElem? (i := 208) rfl)) rfl
theorem lmX0_243 : Cond.methodLink RX0 243 yX1_divide ∈ mTB := mTB_of (sg6 (List.mem_of_getElem? (i := 209) rfl)) rfl
theorem lv_X1_divide_i : Cond.instanceMethod yX1_divide ∈ mTB := mTB_of (sg6 (List.mem_of_getElem? (i := 210) rfl)) rfl
theorem ls_X1_divide : Cond.selects yX1_divide.cls yX1_divide yX1_divide ∈ mTB := mTB_of (sg6 (List.mem_of_getElem? (i := 211) rfl)) rfl
theorem lo_X1_divide : Cond.code yX1_divide cX1_divide 11 none ∈ mTB := mTB_of (sg6 (List.mem_of_getElem? (i := 212) rfl)) rfl
theorem lmX1_54 : Cond.methodLink RX1 54 yX1_set ∈ mTB := mTB_of (sg6 (List.mem_of_getElem? (i := 213) rfl)) rfl
theorem lmX1_58 : Cond.methodLink RX1 58 yJ6_numberOfLeadingZeros_0f7a4 ∈ mTB := mTB_of (sg6 (List.mem_of_getElem? (i := 214) rfl)) rfl
theorem lv_J6_numberOfLeadingZeros_0f7a4_s : Cond.static yJ6_numberOfLeadingZeros_0f7a4 ∈ mTB := mTB_of (sg6 (List.mem_of_getElem? (i := 215) rfl)) rfl
theorem lo_J6_numberOfLeadingZeros_0f7a4 : Cond.code yJ6_numberOfLeadingZeros_0f7a4 cJ6_numberOfLeadingZeros_0f7a4 2 (some .int) ∈ mTB := mTB_of (sg6 (List.mem_of_getElem? (i := 216) rfl)) rfl
theorem lcJ6_264 : Cond.constant RJ6 264 (65536 : Int32) ∈ mTB := mTB_of (sg6 (List.mem_of_getElem? (i := 217) rfl)) rfl
theorem lmX1_64 : Cond.methodLink RX1 64 yX1_shifted ∈ mTB := mTB_of (sg6 (List.mem_of_getElem? (i := 218) rfl)) rfl
theorem lv_X1_shifted_i : Cond.instanceMethod yX1_shifted ∈ mTB := mTB_of (sg6 (List.mem_of_getElem? (i := 220) rfl)) rfl
theorem lo_X1_shifted : Cond.code yX1_shifted cX1_shifted 9 (some .int) ∈ mTB := mTB_of (sg6 (List.mem_of_getElem? (i := 221) rfl)) rfl
theorem lmX1_68 : Cond.methodLink RX1 68 yX1_quotientLimb ∈ mTB := mTB_of (sg6 (List.mem_of_getElem? (i := 222) rfl)) rfl
theorem lv_X1_quotientLimb_i : Cond.instanceMethod yX1_quotientLimb ∈ mTB := mTB_of (sg6 (List.mem_of_getElem? (i := 224) rfl)) rfl
theorem lo_X1_quotientLimb : Cond.code yX1_quotientLimb cX1_quotientLimb 23 (some .int) ∈ mTB := mTB_of (sg6 (List.mem_of_getElem? (i := 225) rfl)) rfl
theorem lmX0_292 : Cond.methodLink RX0 292 yX0_isTold ∈ mTB := mTB_of (sg6 (List.mem_of_getElem? (i := 226) rfl)) rfl
theorem lv_X0_isTold_i : Cond.instanceMethod yX0_isTold ∈ mTB := mTB_of (sg6 (List.mem_of_getElem? (i := 228) rfl)) rfl
theorem lo_X0_isTold : Cond.code yX0_isTold cX0_isTold 2 (some .boolean) ∈ mTB := mTB_of (sg6 (List.mem_of_getElem? (i := 229) rfl)) rfl
theorem lmX0_247 : Cond.methodLink RX0 247 yX0_heldInHeight ∈ mTB := mTB_of (sg6 (List.mem_of_getElem? (i := 230) rfl)) rfl
theorem lv_X0_heldInHeight_i : Cond.instanceMethod yX0_heldInHeight ∈ mTB := mTB_of (sg6 (List.mem_of_getElem? (i := 232) rfl)) rfl
theorem lo_X0_heldInHeight : Cond.code yX0_heldInHeight cX0_heldInHeight 2 (some .boolean) ∈ mTB := mTB_of (sg6 (List.mem_of_getElem? (i := 233) rfl)) rfl
theorem lcX0_133 : Cond.constantLong RX0 133 (-9000000000000000000 : Int64) ∈ mTB := mTB_of (sg6 (List.mem_of_getElem? (i := 234) rfl)) rfl
theorem lmX0_318 : Cond.methodLink RX0 318 yJ9_min_7cf53 ∈ mTB := mTB_of (sg6 (List.mem_of_getElem? (i := 235) rfl)) rfl
theorem lmX0_302 : Cond.methodLink RX0 302 yX0_value ∈ mTB := mTB_of (sg6 (List.mem_of_getElem? (i := 236) rfl)) rfl
theorem lv_X0_value_i : Cond.instanceMethod yX0_value ∈ mTB := mTB_of (sg6 (List.mem_of_getElem? (i := 238) rfl)) rfl
theorem lo_X0_value : Cond.code yX0_value cX0_value 7 none ∈ mTB := mTB_of (sg6 (List.mem_of_getElem? (i := 239) rfl)) rfl
theorem lmX0_280 : Cond.methodLink RX0 280 yX0_setLoad ∈ mTB := mTB_of (sg7 (List.mem_of_getElem? (i := 0) rfl)) rfl
theorem lv_X0_setLoad_i : Cond.instanceMethod yX0_setLoad ∈ mTB := mTB_of (sg7 (List.mem_of_getElem? (i := 2) rfl)) rfl
theorem lo_X0_setLoad : Cond.code yX0_setLoad cX0_setLoad 4 none ∈ mTB := mTB_of (sg7 (List.mem_of_getElem? (i := 3) rfl)) rfl
theorem lmX0_250 : Cond.methodLink RX0 250 yX0_inside ∈ mTB := mTB_of (sg7 (List.mem_of_getElem? (i := 4) rfl)) rfl
theorem lv_X0_inside_s : Cond.static yX0_inside ∈ mTB := mTB_of (sg7 (List.mem_of_getElem? (i := 5) rfl)) rfl
theorem lo_X0_inside : Cond.code yX0_inside cX0_inside 1 (some .boolean) ∈ mTB := mTB_of (sg7 (List.mem_of_getElem? (i := 6) rfl)) rfl
theorem lcX0_253 : Cond.constantLong RX0 253 (128 : Int64) ∈ mTB := mTB_of (sg7 (List.mem_of_getElem? (i := 7) rfl)) rfl
theorem lmX0_255 : Cond.methodLink RX0 255 yX0_fixedForce ∈ mTB := mTB_of (sg7 (List.mem_of_getElem? (i := 8) rfl)) rfl
theorem lv_X0_fixedForce_i : Cond.instanceMethod yX0_fixedForce ∈ mTB := mTB_of (sg7 (List.mem_of_getElem? (i := 10) rfl)) rfl
theorem lo_X0_fixedForce : Cond.code yX0_fixedForce cX0_fixedForce 9 (some .int) ∈ mTB := mTB_of (sg7 (List.mem_of_getElem? (i := 11) rfl)) rfl
theorem lmX0_283 : Cond.methodLink RX0 283 yX0_setCounts ∈ mTB := mTB_of (sg7 (List.mem_of_getElem? (i := 12) rfl)) rfl
theorem lv_X0_setCounts_i : Cond.instanceMethod yX0_setCounts ∈ mTB := mTB_of (sg7 (List.mem_of_getElem? (i := 14) rfl)) rfl
theorem lo_X0_setCounts : Cond.code yX0_setCounts cX0_setCounts 15 none ∈ mTB := mTB_of (sg7 (List.mem_of_getElem? (i := 15) rfl)) rfl
theorem lcX0_258 : Cond.constantLong RX0 258 (-128 : Int64) ∈ mTB := mTB_of (sg7 (List.mem_of_getElem? (i := 16) rfl)) rfl
theorem lmX0_260 : Cond.methodLink RX0 260 yJ9_max_7cf53 ∈ mTB := mTB_of (sg7 (List.mem_of_getElem? (i := 17) rfl)) rfl
theorem lmX0_265 : Cond.methodLink RX0 265 yX0_addShear ∈ mTB := mTB_of (sg7 (List.mem_of_getElem? (i := 18) rfl)) rfl
theorem lv_X0_addShear_i : Cond.instanceMethod yX0_addShear ∈ mTB := mTB_of (sg7 (List.mem_of_getElem? (i := 20) rfl)) rfl
theorem lo_X0_addShear : Cond.code yX0_addShear cX0_addShear 7 none ∈ mTB := mTB_of (sg7 (List.mem_of_getElem? (i := 21) rfl)) rfl
theorem lcX0_269 : Cond.constantLong RX0 269 (4 : Int64) ∈ mTB := mTB_of (sg7 (List.mem_of_getElem? (i := 22) rfl)) rfl
theorem lmX0_271 : Cond.methodLink RX0 271 yX0_addMoment ∈ mTB := mTB_of (sg7 (List.mem_of_getElem? (i := 23) rfl)) rfl
theorem lv_X0_addMoment_i : Cond.instanceMethod yX0_addMoment ∈ mTB := mTB_of (sg7 (List.mem_of_getElem? (i := 25) rfl)) rfl
theorem lo_X0_addMoment : Cond.code yX0_addMoment cX0_addMoment 7 none ∈ mTB := mTB_of (sg7 (List.mem_of_getElem? (i := 26) rfl)) rfl
theorem lcX0_274 : Cond.constantLong RX0 274 (512 : Int64) ∈ mTB := mTB_of (sg7 (List.mem_of_getElem? (i := 27) rfl)) rfl
theorem lcX0_276 : Cond.constantLong RX0 276 (384 : Int64) ∈ mTB := mTB_of (sg7 (List.mem_of_getElem? (i := 28) rfl)) rfl
theorem lcX0_278 : Cond.constantLong RX0 278 (1536 : Int64) ∈ mTB := mTB_of (sg7 (List.mem_of_getElem? (i := 29) rfl)) rfl
theorem lmX0_287 : Cond.methodLink RX0 287 yX1_product ∈ mTB := mTB_of (sg7 (List.mem_of_getElem? (i := 30) rfl)) rfl
theorem lv_X1_product_i : Cond.instanceMethod yX1_product ∈ mTB := mTB_of (sg7 (List.mem_of_getElem? (i := 31) rfl)) rfl
theorem ls_X1_product : Cond.selects yX1_product.cls yX1_product yX1_product ∈ mTB := mTB_of (sg7 (List.mem_of_getElem? (i := 32) rfl)) rfl
theorem lo_X1_product : Cond.code yX1_product cX1_product 8 none ∈ mTB := mTB_of (sg7 (List.mem_of_getElem? (i := 33) rfl)) rfl
theorem lmX0_309 : Cond.methodLink RX0 309 yX0_lowerPart ∈ mTB := mTB_of (sg7 (List.mem_of_getElem? (i := 34) rfl)) rfl
theorem lv_X0_lowerPart_i : Cond.instanceMethod yX0_lowerPart ∈ mTB := mTB_of (sg7 (List.mem_of_getElem? (i := 36) rfl)) rfl
theorem lo_X0_lowerPart : Cond.code yX0_lowerPart cX0_lowerPart 2 none ∈ mTB := mTB_of (sg7 (List.mem_of_getElem? (i := 37) rfl)) rfl
theorem lmX0_312 : Cond.methodLink RX0 312 yX5_reduce ∈ mTB := mTB_of (sg7 (List.mem_of_getElem? (i := 38) rfl)) rfl
theorem lv_X5_reduce_i : Cond.instanceMethod yX5_reduce ∈ mTB := mTB_of (sg7 (List.mem_of_getElem? (i := 39) rfl)) rfl
theorem ls_X5_reduce : Cond.selects yX5_reduce.cls yX5_reduce yX5_reduce ∈ mTB := mTB_of (sg7 (List.mem_of_getElem? (i := 40) rfl)) rfl
theorem lo_X5_reduce : Cond.code yX5_reduce cX5_reduce 2 none ∈ mTB := mTB_of (sg7 (List.mem_of_getElem? (i := 41) rfl)) rfl
theorem lmX5_69 : Cond.methodLink RX5 69 yX5_greatestCommon ∈ mTB := mTB_of (sg7 (List.mem_of_getElem? (i := 42) rfl)) rfl
theorem lv_X5_greatestCommon_i : Cond.instanceMethod yX5_greatestCommon ∈ mTB := mTB_of (sg7 (List.mem_of_getElem? (i := 43) rfl)) rfl
theorem ls_X5_greatestCommon : Cond.selects yX5_greatestCommon.cls yX5_greatestCommon yX5_greatestCommon ∈ mTB := mTB_of (sg7 (List.mem_of_getElem? (i := 44) rfl)) rfl
theorem lo_X5_greatestCommon : Cond.code yX5_greatestCommon cX5_greatestCommon 7 (some (.object "RoadHouse$Big")) ∈ mTB := mTB_of (sg7 (List.mem_of_getElem? (i := 45) rfl)) rfl
theorem lmX5_39 : Cond.methodLink RX5 39 yX1_copy ∈ mTB := mTB_of (sg7 (List.mem_of_getElem? (i := 46) rfl)) rfl
theorem lcX5_47 : Cond.constant RX5 47 (100000 : Int32) ∈ mTB := mTB_of (sg7 (List.mem_of_getElem? (i := 47) rfl)) rfl
theorem lmX5_51 : Cond.methodLink RX5 51 yX5_twoLimbs ∈ mTB := mTB_of (sg7 (List.mem_of_getElem? (i := 48) rfl)) rfl
theorem lv_X5_twoLimbs_s : Cond.static yX5_twoLimbs ∈ mTB := mTB_of (sg7 (List.mem_of_getElem? (i := 49) rfl)) rfl
theorem lo_X5_twoLimbs : Cond.code yX5_twoLimbs cX5_twoLimbs 1 (some .long) ∈ mTB := mTB_of (sg7 (List.mem_of_getElem? (i := 50) rfl)) rfl
theorem lcX5_67 : Cond.constantLong RX5 67 (1073741824 : Int64) ∈ mTB := mTB_of (sg7 (List.mem_of_getElem? (i := 51) rfl)) rfl
theorem lmX5_59 : Cond.methodLink RX5 59 yX1_divide ∈ mTB := mTB_of (sg7 (List.mem_of_getElem? (i := 53) rfl)) rfl
theorem lmX5_73 : Cond.methodLink RX5 73 yX5_shrink ∈ mTB := mTB_of (sg7 (List.mem_of_getElem? (i := 54) rfl)) rfl
theorem lv_X5_shrink_i : Cond.instanceMethod yX5_shrink ∈ mTB := mTB_of (sg7 (List.mem_of_getElem? (i := 55) rfl)) rfl
theorem ls_X5_shrink : Cond.selects yX5_shrink.cls yX5_shrink yX5_shrink ∈ mTB := mTB_of (sg7 (List.mem_of_getElem? (i := 56) rfl)) rfl
theorem lo_X5_shrink : Cond.code yX5_shrink cX5_shrink 3 none ∈ mTB := mTB_of (sg7 (List.mem_of_getElem? (i := 57) rfl)) rfl
theorem lmX0_315 : Cond.methodLink RX0 315 yX5_part ∈ mTB := mTB_of (sg7 (List.mem_of_getElem? (i := 58) rfl)) rfl
theorem lv_X5_part_i : Cond.instanceMethod yX5_part ∈ mTB := mTB_of (sg7 (List.mem_of_getElem? (i := 59) rfl)) rfl
theorem ls_X5_part : Cond.selects yX5_part.cls yX5_part yX5_part ∈ mTB := mTB_of (sg7 (List.mem_of_getElem? (i := 60) rfl)) rfl
theorem lo_X5_part : Cond.code yX5_part cX5_part 4 (some .long) ∈ mTB := mTB_of (sg7 (List.mem_of_getElem? (i := 61) rfl)) rfl
theorem lcX5_87 : Cond.constantLong RX5 87 (-1 : Int64) ∈ mTB := mTB_of (sg7 (List.mem_of_getElem? (i := 62) rfl)) rfl
theorem lcX5_89 : Cond.constant RX5 89 (1000000000 : Int32) ∈ mTB := mTB_of (sg7 (List.mem_of_getElem? (i := 63) rfl)) rfl
theorem lmX5_90 : Cond.methodLink RX5 90 yX1_divideSmall ∈ mTB := mTB_of (sg7 (List.mem_of_getElem? (i := 64) rfl)) rfl
theorem lv_X1_divideSmall_i : Cond.instanceMethod yX1_divideSmall ∈ mTB := mTB_of (sg7 (List.mem_of_getElem? (i := 65) rfl)) rfl
theorem ls_X1_divideSmall : Cond.selects yX1_divideSmall.cls yX1_divideSmall yX1_divideSmall ∈ mTB := mTB_of (sg7 (List.mem_of_getElem? (i := 66) rfl)) rfl
theorem lo_X1_divideSmall : Cond.code yX1_divideSmall cX1_divideSmall 7 (some .int) ∈ mTB := mTB_of (sg7 (List.mem_of_getElem? (i := 67) rfl)) rfl
theorem lcX5_94 : Cond.constantLong RX5 94 (1000000000 : Int64) ∈ mTB := mTB_of (sg7 (List.mem_of_getElem? (i := 68) rfl)) rfl
theorem lcX0_321 : Cond.constantLong RX0 321 (1000000000000000 : Int64) ∈ mTB := mTB_of (sg7 (List.mem_of_getElem? (i := 69) rfl)) rfl
theorem lcX0_323 : Cond.constantLong RX0 323 (1000 : Int64) ∈ mTB := mTB_of (sg7 (List.mem_of_getElem? (i := 70) rfl)) rfl
theorem lcX11_163 : Cond.constantLong RX11 163 (-1000000 : Int64) ∈ mTB := mTB_of (sg7 (List.mem_of_getElem? (i := 71) rfl)) rfl
theorem lcX11_165 : Cond.constantLong RX11 165 (1000000 : Int64) ∈ mTB := mTB_of (sg7 (List.mem_of_getElem? (i := 72) rfl)) rfl
theorem lmX11_167 : Cond.methodLink RX11 167 yX9_clearRow ∈ mTB := mTB_of (sg7 (List.mem_of_getElem? (i := 73) rfl)) rfl
theorem lv_X9_clearRow_i : Cond.instanceMethod yX9_clearRow ∈ mTB := mTB_of (sg7 (List.mem_of_getElem? (i := 74) rfl)) rfl
theorem ls_X9_clearRow : Cond.selects yX9_clearRow.cls yX9_clearRow yX9_clearRow ∈ mTB := mTB_of (sg7 (List.mem_of_getElem? (i := 75) rfl)) rfl
theorem lo_X9_clearRow : Cond.code yX9_clearRow cX9_clearRow 1 none ∈ mTB := mTB_of (sg7 (List.mem_of_getElem? (i := 76) rfl)) rfl
theorem lmX11_170 : Cond.methodLink RX11 170 yX9_addCorner ∈ mTB := mTB_of (sg7 (List.mem_of_getElem? (i := 77) rfl)) rfl
theorem lv_X9_addCorner_i : Cond.instanceMethod yX9_addCorner ∈ mTB := mTB_of (sg7 (List.mem_of_getElem? (i := 78) rfl)) rfl
theorem ls_X9_addCorner : Cond.selects yX9_addCorner.cls yX9_addCorner yX9_addCorner ∈ mTB := mTB_of (sg7 (List.mem_of_getElem? (i := 79) rfl)) rfl
theorem lo_X9_addCorner : Cond.code yX9_addCorner cX9_addCorner 4 (some .boolean) ∈ mTB := mTB_of (sg7 (List.mem_of_getElem? (i := 80) rfl)) rfl
theorem lcX9_167 : Cond.constant RX9 167 (-1000000 : Int32) ∈ mTB := mTB_of (sg7 (List.mem_of_getElem? (i := 81) rfl)) rfl
theorem lcX9_168 : Cond.constant RX9 168 (1000000 : Int32) ∈ mTB := mTB_of (sg7 (List.mem_of_getElem? (i := 82) rfl)) rfl
theorem lmX11_174 : Cond.methodLink RX11 174 yX0_lengthAt ∈ mTB := mTB_of (sg7 (List.mem_of_getElem? (i := 83) rfl)) rfl
theorem lv_X0_lengthAt_i : Cond.instanceMethod yX0_lengthAt ∈ mTB := mTB_of (sg7 (List.mem_of_getElem? (i := 84) rfl)) rfl
theorem ls_X0_lengthAt : Cond.selects yX0_lengthAt.cls yX0_lengthAt yX0_lengthAt ∈ mTB := mTB_of (sg7 (List.mem_of_getElem? (i := 85) rfl)) rfl
theorem lo_X0_lengthAt : Cond.code yX0_lengthAt cX0_lengthAt 2 (some .int) ∈ mTB := mTB_of (sg7 (List.mem_of_getElem? (i := 86) rfl)) rfl
theorem lmL_62 : Cond.methodLink RL 62 yX11_pass ∈ mTB := mTB_of (sg7 (List.mem_of_getElem? (i := 87) rfl)) rfl
theorem lv_X11_pass_i : Cond.instanceMethod yX11_pass ∈ mTB := mTB_of (sg7 (List.mem_of_getElem? (i := 88) rfl)) rfl
theorem ls_X11_pass : Cond.selects yX11_pass.cls yX11_pass yX11_pass ∈ mTB := mTB_of (sg7 (List.mem_of_getElem? (i := 89) rfl)) rfl
theorem lo_X11_pass : Cond.code yX11_pass cX11_pass 7 (some .int) ∈ mTB := mTB_of (sg7 (List.mem_of_getElem? (i := 90) rfl)) rfl
theorem lmX11_177 : Cond.methodLink RX11 177 yX9_forwardPlaces ∈ mTB := mTB_of (sg7 (List.mem_of_getElem? (i := 91) rfl)) rfl
theorem lv_X9_forwardPlaces_i : Cond.instanceMethod yX9_forwardPlaces ∈ mTB := mTB_of (sg7 (List.mem_of_getElem? (i := 92) rfl)) rfl
theorem ls_X9_forwardPlaces : Cond.selects yX9_forwardPlaces.cls yX9_forwardPlaces yX9_forwardPlaces ∈ mTB := mTB_of (sg7 (List.mem_of_getElem? (i := 93) rfl)) rfl
theorem lo_X9_forwardPlaces : Cond.code yX9_forwardPlaces cX9_forwardPlaces 2 (some .int) ∈ mTB := mTB_of (sg7 (List.mem_of_getElem? (i := 94) rfl)) rfl
theorem lmX9_172 : Cond.methodLink RX9 172 yX9_isTrain ∈ mTB := mTB_of (sg7 (List.mem_of_getElem? (i := 95) rfl)) rfl
theorem lv_X9_isTrain_i : Cond.instanceMethod yX9_isTrain ∈ mTB := mTB_of (sg7 (List.mem_of_getElem? (i := 97) rfl)) rfl
theorem lo_X9_isTrain : Cond.code yX9_isTrain cX9_isTrain 2 (some .boolean) ∈ mTB := mTB_of (sg7 (List.mem_of_getElem? (i := 98) rfl)) rfl
theorem lmX9_259 : Cond.methodLink RX9 259 yX9_listPlaces ∈ mTB := mTB_of (sg7 (List.mem_of_getElem? (i := 99) rfl)) rfl
theorem lv_X9_listPlaces_i : Cond.instanceMethod yX9_listPlaces ∈ mTB := mTB_of (sg7 (List.mem_of_getElem? (i := 101) rfl)) rfl
theorem lo_X9_listPlaces : Cond.code yX9_listPlaces cX9_listPlaces 6 (some .int) ∈ mTB := mTB_of (sg7 (List.mem_of_getElem? (i := 102) rfl)) rfl
theorem lmX9_242 : Cond.methodLink RX9 242 yX9_listOnce ∈ mTB := mTB_of (sg7 (List.mem_of_getElem? (i := 103) rfl)) rfl
theorem lv_X9_listOnce_i : Cond.instanceMethod yX9_listOnce ∈ mTB := mTB_of (sg7 (List.mem_of_getElem? (i := 105) rfl)) rfl
theorem lo_X9_listOnce : Cond.code yX9_listOnce cX9_listOnce 5 (some .int) ∈ mTB := mTB_of (sg7 (List.mem_of_getElem? (i := 106) rfl)) rfl
theorem lmX11_180 : Cond.methodLink RX11 180 yX9_wholeEffect ∈ mTB := mTB_of (sg7 (List.mem_of_getElem? (i := 107) rfl)) rfl
theorem lv_X9_wholeEffect_i : Cond.instanceMethod yX9_wholeEffect ∈ mTB := mTB_of (sg7 (List.mem_of_getElem? (i := 108) rfl)) rfl
theorem ls_X9_wholeEffect : Cond.selects yX9_wholeEffect.cls yX9_wholeEffect yX9_wholeEffect ∈ mTB := mTB_of (sg7 (List.mem_of_getElem? (i := 109) rfl)) rfl
theorem lo_X9_wholeEffect : Cond.code yX9_wholeEffect cX9_wholeEffect 3 (some .long) ∈ mTB := mTB_of (sg7 (List.mem_of_getElem? (i := 110) rfl)) rfl
theorem lmX9_327 : Cond.methodLink RX9 327 yX9_tellEffect ∈ mTB := mTB_of (sg7 (List.mem_of_getElem? (i := 111) rfl)) rfl
theorem lv_X9_tellEffect_i : Cond.instanceMethod yX9_tellEffect ∈ mTB := mTB_of (sg7 (List.mem_of_getElem? (i := 113) rfl)) rfl
theorem lo_X9_tellEffect : Cond.code yX9_tellEffect cX9_tellEffect 3 (some .boolean) ∈ mTB := mTB_of (sg7 (List.mem_of_getElem? (i := 114) rfl)) rfl
theorem lmX9_214 : Cond.methodLink RX9 214 yX9_prepare ∈ mTB := mTB_of (sg7 (List.mem_of_getElem? (i := 115) rfl)) rfl
theorem lv_X9_prepare_i : Cond.instanceMethod yX9_prepare ∈ mTB := mTB_of (sg7 (List.mem_of_getElem? (i := 117) rfl)) rfl
theorem lo_X9_prepare : Cond.code yX9_prepare cX9_prepare 4 none ∈ mTB := mTB_of (sg7 (List.mem_of_getElem? (i := 118) rfl)) rfl
theorem lmX9_178 : Cond.methodLink RX9 178 yX9_divisor ∈ mTB := mTB_of (sg7 (List.mem_of_getElem? (i := 119) rfl)) rfl
theorem lv_X9_divisor_i : Cond.instanceMethod yX9_divisor ∈ mTB := mTB_of (sg7 (List.mem_of_getElem? (i := 121) rfl)) rfl
theorem lo_X9_divisor : Cond.code yX9_divisor cX9_divisor 1 (some (.object "RoadHouse$Big")) ∈ mTB := mTB_of (sg7 (List.mem_of_getElem? (i := 122) rfl)) rfl
theorem lmX9_182 : Cond.methodLink RX9 182 yX1_set ∈ mTB := mTB_of (sg7 (List.mem_of_getElem? (i := 123) rfl)) rfl
theorem lmX9_186 : Cond.methodLink RX9 186 yJ9_min_7cf53 ∈ mTB := mTB_of (sg7 (List.mem_of_getElem? (i := 124) rfl)) rfl
theorem lmX9_192 : Cond.methodLink RX9 192 yJ9_max_7cf53 ∈ mTB := mTB_of (sg7 (List.mem_of_getElem? (i := 125) rfl)) rfl
theorem lmX9_195 : Cond.methodLink RX9 195 yX1_copy ∈ mTB := mTB_of (sg7 (List.mem_of_getElem? (i := 126) rfl)) rfl
theorem lmX9_199 : Cond.methodLink RX9 199 yX9_pieceDivisor ∈ mTB := mTB_of (sg7 (List.mem_of_getElem? (i := 127) rfl)) rfl
theorem lv_X9_pieceDivisor_i : Cond.instanceMethod yX9_pieceDivisor ∈ mTB := mTB_of (sg7 (List.mem_of_getElem? (i := 129) rfl)) rfl
theorem lo_X9_pieceDivisor : Cond.code yX9_pieceDivisor cX9_pieceDivisor 3 (some .int) ∈ mTB := mTB_of (sg7 (List.mem_of_getElem? (i := 130) rfl)) rfl
theorem lmX9_203 : Cond.methodLink RX9 203 yX1_divideSmall ∈ mTB := mTB_of (sg7 (List.mem_of_getElem? (i := 131) rfl)) rfl
theorem lmX9_210 : Cond.methodLink RX9 210 yX1_product ∈ mTB := mTB_of (sg7 (List.mem_of_getElem? (i := 133) rfl)) rfl
theorem lmX9_324 : Cond.methodLink RX9 324 yX9_forwardPlaces ∈ mTB := mTB_of (sg7 (List.mem_of_getElem? (i := 134) rfl)) rfl
theorem lmX9_263 : Cond.methodLink RX9 263 yX9_effect ∈ mTB := mTB_of (sg7 (List.mem_of_getElem? (i := 135) rfl)) rfl
theorem lv_X9_effect_i : Cond.instanceMethod yX9_effect ∈ mTB := mTB_of (sg7 (List.mem_of_getElem? (i := 137) rfl)) rfl
theorem lo_X9_effect : Cond.code yX9_effect cX9_effect 4 none ∈ mTB := mTB_of (sg7 (List.mem_of_getElem? (i := 138) rfl)) rfl
theorem lmX9_245 : Cond.methodLink RX9 245 yX9_effectNumber ∈ mTB := mTB_of (sg7 (List.mem_of_getElem? (i := 139) rfl)) rfl
theorem lv_X9_effectNumber_i : Cond.instanceMethod yX9_effectNumber ∈ mTB := mTB_of (sg7 (List.mem_of_getElem? (i := 141) rfl)) rfl
theorem lo_X9_effectNumber : Cond.code yX9_effectNumber cX9_effectNumber 1 (some (.object "RoadHouse$Big")) ∈ mTB := mTB_of (sg7 (List.mem_of_getElem? (i := 142) rfl)) rfl
theorem lmX9_248 : Cond.methodLink RX9 248 yX9_addEffect ∈ mTB := mTB_of (sg7 (List.mem_of_getElem? (i := 143) rfl)) rfl
theorem lv_X9_addEffect_i : Cond.instanceMethod yX9_addEffect ∈ mTB := mTB_of (sg7 (List.mem_of_getElem? (i := 145) rfl)) rfl
theorem lo_X9_addEffect : Cond.code yX9_addEffect cX9_addEffect 10 none ∈ mTB := mTB_of (sg7 (List.mem_of_getElem? (i := 146) rfl)) rfl
theorem lmX9_239 : Cond.methodLink RX9 239 yX1_add ∈ mTB := mTB_of (sg7 (List.mem_of_getElem? (i := 147) rfl)) rfl
theorem lmX9_224 : Cond.methodLink RX9 224 yX5_reduce ∈ mTB := mTB_of (sg7 (List.mem_of_getElem? (i := 148) rfl)) rfl
theorem lmX9_282 : Cond.methodLink RX9 282 yX5_part ∈ mTB := mTB_of (sg7 (List.mem_of_getElem? (i := 149) rfl)) rfl
theorem lcX9_147 : Cond.constantLong RX9 147 (-9000000000000000000 : Int64) ∈ mTB := mTB_of (sg7 (List.mem_of_getElem? (i := 150) rfl)) rfl
theorem lmX11_183 : Cond.methodLink RX11 183 yX8_feed ∈ mTB := mTB_of (sg7 (List.mem_of_getElem? (i := 151) rfl)) rfl
theorem lv_X8_feed_i : Cond.instanceMethod yX8_feed ∈ mTB := mTB_of (sg7 (List.mem_of_getElem? (i := 152) rfl)) rfl
theorem ls_X8_feed : Cond.selects yX8_feed.cls yX8_feed yX8_feed ∈ mTB := mTB_of (sg7 (List.mem_of_getElem? (i := 153) rfl)) rfl
theorem lo_X8_feed : Cond.code yX8_feed cX8_feed 2 (some .boolean) ∈ mTB := mTB_of (sg7 (List.mem_of_getElem? (i := 154) rfl)) rfl
theorem lcX8_138 : Cond.constant RX8 138 (-1000000 : Int32) ∈ mTB := mTB_of (sg7 (List.mem_of_getElem? (i := 155) rfl)) rfl
theorem lcX8_139 : Cond.constant RX8 139 (1000000 : Int32) ∈ mTB := mTB_of (sg7 (List.mem_of_getElem? (i := 156) rfl)) rfl
theorem lmX8_143 : Cond.methodLink RX8 143 yX8_addPoint ∈ mTB := mTB_of (sg7 (List.mem_of_getElem? (i := 157) rfl)) rfl
theorem lv_X8_addPoint_s : Cond.static yX8_addPoint ∈ mTB := mTB_of (sg7 (List.mem_of_getElem? (i := 158) rfl)) rfl
theorem lo_X8_addPoint : Cond.code yX8_addPoint cX8_addPoint 3 (some .int) ∈ mTB := mTB_of (sg7 (List.mem_of_getElem? (i := 159) rfl)) rfl
theorem lmX8_147 : Cond.methodLink RX8 147 yX8_closesTurn ∈ mTB := mTB_of (sg7 (List.mem_of_getElem? (i := 160) rfl)) rfl
theorem lv_X8_closesTurn_s : Cond.static yX8_closesTurn ∈ mTB := mTB_of (sg7 (List.mem_of_getElem? (i := 161) rfl)) rfl
theorem lo_X8_closesTurn : Cond.code yX8_closesTurn cX8_closesTurn 3 (some .boolean) ∈ mTB := mTB_of (sg7 (List.mem_of_getElem? (i := 162) rfl)) rfl
theorem lmX8_151 : Cond.methodLink RX8 151 yX8_dropTurn ∈ mTB := mTB_of (sg7 (List.mem_of_getElem? (i := 163) rfl)) rfl
theorem lv_X8_dropTurn_s : Cond.static yX8_dropTurn ∈ mTB := mTB_of (sg7 (List.mem_of_getElem? (i := 164) rfl)) rfl
theorem lo_X8_dropTurn : Cond.code yX8_dropTurn cX8_dropTurn 2 (some .int) ∈ mTB := mTB_of (sg7 (List.mem_of_getElem? (i := 165) rfl)) rfl
theorem lmL_66 : Cond.methodLink RL 66 yX11_drive ∈ mTB := mTB_of (sg7 (List.mem_of_getElem? (i := 166) rfl)) rfl
theorem lv_X11_drive_i : Cond.instanceMethod yX11_drive ∈ mTB := mTB_of (sg7 (List.mem_of_getElem? (i := 167) rfl)) rfl
theorem ls_X11_drive : Cond.selects yX11_drive.cls yX11_drive yX11_drive ∈ mTB := mTB_of (sg7 (List.mem_of_getElem? (i := 168) rfl)) rfl
theorem lo_X11_drive : Cond.code yX11_drive cX11_drive 4 (some .int) ∈ mTB := mTB_of (sg7 (List.mem_of_getElem? (i := 169) rfl)) rfl
theorem lmX11_186 : Cond.methodLink RX11 186 yX7_hasPlan ∈ mTB := mTB_of (sg7 (List.mem_of_getElem? (i := 170) rfl)) rfl
theorem lv_X7_hasPlan_i : Cond.instanceMethod yX7_hasPlan ∈ mTB := mTB_of (sg7 (List.mem_of_getElem? (i := 171) rfl)) rfl
theorem ls_X7_hasPlan : Cond.selects yX7_hasPlan.cls yX7_hasPlan yX7_hasPlan ∈ mTB := mTB_of (sg7 (List.mem_of_getElem? (i := 172) rfl)) rfl
theorem lo_X7_hasPlan : Cond.code yX7_hasPlan cX7_hasPlan 1 (some .boolean) ∈ mTB := mTB_of (sg7 (List.mem_of_getElem? (i := 173) rfl)) rfl
theorem lmX11_189 : Cond.methodLink RX11 189 yX2_stepsLeft ∈ mTB := mTB_of (sg7 (List.mem_of_getElem? (i := 174) rfl)) rfl
theorem lv_X2_stepsLeft_i : Cond.instanceMethod yX2_stepsLeft ∈ mTB := mTB_of (sg7 (List.mem_of_getElem? (i := 175) rfl)) rfl
theorem ls_X2_stepsLeft : Cond.selects yX2_stepsLeft.cls yX2_stepsLeft yX2_stepsLeft ∈ mTB := mTB_of (sg7 (List.mem_of_getElem? (i := 176) rfl)) rfl
theorem lo_X2_stepsLeft : Cond.code yX2_stepsLeft cX2_stepsLeft 1 (some .boolean) ∈ mTB := mTB_of (sg7 (List.mem_of_getElem? (i := 177) rfl)) rfl
theorem lcX2_157 : Cond.constantLong RX2 157 (200 : Int64) ∈ mTB := mTB_of (sg7 (List.mem_of_getElem? (i := 178) rfl)) rfl
theorem lmX11_192 : Cond.methodLink RX11 192 yX7_nextSecond ∈ mTB := mTB_of (sg7 (List.mem_of_getElem? (i := 179) rfl)) rfl
theorem lv_X7_nextSecond_i : Cond.instanceMethod yX7_nextSecond ∈ mTB := mTB_of (sg7 (List.mem_of_getElem? (i := 180) rfl)) rfl
theorem ls_X7_nextSecond : Cond.selects yX7_nextSecond.cls yX7_nextSecond yX7_nextSecond ∈ mTB := mTB_of (sg7 (List.mem_of_getElem? (i := 181) rfl)) rfl
theorem lo_X7_nextSecond : Cond.code yX7_nextSecond cX7_nextSecond 1 (some .int) ∈ mTB := mTB_of (sg7 (List.mem_of_getElem? (i := 182) rfl)) rfl
theorem lmX7_198 : Cond.methodLink RX7 198 yX7_eventOf ∈ mTB := mTB_of (sg7 (List.mem_of_getElem? (i := 183) rfl)) rfl
theorem lv_X7_eventOf_i : Cond.instanceMethod yX7_eventOf ∈ mTB := mTB_of (sg7 (List.mem_of_getElem? (i := 185) rfl)) rfl
theorem lo_X7_eventOf : Cond.code yX7_eventOf cX7_eventOf 3 (some .int) ∈ mTB := mTB_of (sg7 (List.mem_of_getElem? (i := 186) rfl)) rfl
theorem lmX7_208 : Cond.methodLink RX7 208 yX7_goOn ∈ mTB := mTB_of (sg7 (List.mem_of_getElem? (i := 187) rfl)) rfl
theorem lv_X7_goOn_i : Cond.instanceMethod yX7_goOn ∈ mTB := mTB_of (sg7 (List.mem_of_getElem? (i := 189) rfl)) rfl
theorem lo_X7_goOn : Cond.code yX7_goOn cX7_goOn 6 (some .int) ∈ mTB := mTB_of (sg7 (List.mem_of_getElem? (i := 190) rfl)) rfl
theorem lmX7_201 : Cond.methodLink RX7 201 yX7_shownBy ∈ mTB := mTB_of (sg7 (List.mem_of_getElem? (i := 191) rfl)) rfl
theorem lv_X7_shownBy_i : Cond.instanceMethod yX7_shownBy ∈ mTB := mTB_of (sg7 (List.mem_of_getElem? (i := 193) rfl)) rfl
theorem lo_X7_shownBy : Cond.code yX7_shownBy cX7_shownBy 3 (some .int) ∈ mTB := mTB_of (sg7 (List.mem_of_getElem? (i := 194) rfl)) rfl
theorem lmX7_204 : Cond.methodLink RX7 204 yX7_bitsOf ∈ mTB := mTB_of (sg7 (List.mem_of_getElem? (i := 195) rfl)) rfl
theorem lv_X7_bitsOf_i : Cond.instanceMethod yX7_bitsOf ∈ mTB := mTB_of (sg7 (List.mem_of_getElem? (i := 197) rfl)) rfl
theorem lo_X7_bitsOf : Cond.code yX7_bitsOf cX7_bitsOf 3 (some .int) ∈ mTB := mTB_of (sg7 (List.mem_of_getElem? (i := 198) rfl)) rfl
theorem lmX7_212 : Cond.methodLink RX7 212 yJ9_min_7cf53 ∈ mTB := mTB_of (sg7 (List.mem_of_getElem? (i := 199) rfl)) rfl
theorem lmX7_217 : Cond.methodLink RX7 217 yX7_beginPhase ∈ mTB := mTB_of (sg7 (List.mem_of_getElem? (i := 200) rfl)) rfl
theorem lv_X7_beginPhase_i : Cond.instanceMethod yX7_beginPhase ∈ mTB := mTB_of (sg7 (List.mem_of_getElem? (i := 202) rfl)) rfl
theorem lo_X7_beginPhase : Cond.code yX7_beginPhase cX7_beginPhase 5 (some .int) ∈ mTB := mTB_of (sg7 (List.mem_of_getElem? (i := 203) rfl)) rfl
theorem lmX7_231 : Cond.methodLink RX7 231 yX7_has ∈ mTB := mTB_of (sg7 (List.mem_of_getElem? (i := 204) rfl)) rfl
theorem lv_X7_has_s : Cond.static yX7_has ∈ mTB := mTB_of (sg7 (List.mem_of_getElem? (i := 205) rfl)) rfl
theorem lo_X7_has : Cond.code yX7_has cX7_has 2 (some .boolean) ∈ mTB := mTB_of (sg7 (List.mem_of_getElem? (i := 206) rfl)) rfl
theorem lmX7_220 : Cond.methodLink RX7 220 yX7_endsNow ∈ mTB := mTB_of (sg7 (List.mem_of_getElem? (i := 207) rfl)) rfl
theorem lv_X7_endsNow_i : Cond.instanceMethod yX7_endsNow ∈ mTB := mTB_of (sg7 (List.mem_of_getElem? (i := 209) rfl)) rfl
theorem lo_X7_endsNow : Cond.code yX7_endsNow cX7_endsNow 10 (some .boolean) ∈ mTB := mTB_of (sg7 (List.mem_of_getElem? (i := 210) rfl)) rfl
theorem lmX7_224 : Cond.methodLink RX7 224 yX7_endPhase ∈ mTB := mTB_of (sg7 (List.mem_of_getElem? (i := 211) rfl)) rfl
theorem lv_X7_endPhase_i : Cond.instanceMethod yX7_endPhase ∈ mTB := mTB_of (sg7 (List.mem_of_getElem? (i := 213) rfl)) rfl
theorem lo_X7_endPhase : Cond.code yX7_endPhase cX7_endPhase 8 (some .boolean) ∈ mTB := mTB_of (sg7 (List.mem_of_getElem? (i := 214) rfl)) rfl
theorem lmX7_234 : Cond.methodLink RX7 234 yJ9_max_7cf53 ∈ mTB := mTB_of (sg7 (List.mem_of_getElem? (i := 215) rfl)) rfl
theorem lmX7_227 : Cond.methodLink RX7 227 yX7_faultOf ∈ mTB := mTB_of (sg7 (List.mem_of_getElem? (i := 216) rfl)) rfl
theorem lv_X7_faultOf_i : Cond.instanceMethod yX7_faultOf ∈ mTB := mTB_of (sg7 (List.mem_of_getElem? (i := 218) rfl)) rfl
theorem lo_X7_faultOf : Cond.code yX7_faultOf cX7_faultOf 9 (some .int) ∈ mTB := mTB_of (sg7 (List.mem_of_getElem? (i := 219) rfl)) rfl
theorem lmX11_195 : Cond.methodLink RX11 195 yX11_tellCells ∈ mTB := mTB_of (sg7 (List.mem_of_getElem? (i := 220) rfl)) rfl
theorem lv_X11_tellCells_i : Cond.instanceMethod yX11_tellCells ∈ mTB := mTB_of (sg7 (List.mem_of_getElem? (i := 222) rfl)) rfl
theorem lo_X11_tellCells : Cond.code yX11_tellCells cX11_tellCells 3 none ∈ mTB := mTB_of (sg7 (List.mem_of_getElem? (i := 223) rfl)) rfl
theorem lmX11_201 : Cond.methodLink RX11 201 yX7_groups ∈ mTB := mTB_of (sg7 (List.mem_of_getElem? (i := 224) rfl)) rfl
theorem lv_X7_groups_i : Cond.instanceMethod yX7_groups ∈ mTB := mTB_of (sg7 (List.mem_of_getElem? (i := 225) rfl)) rfl
theorem ls_X7_groups : Cond.selects yX7_groups.cls yX7_groups yX7_groups ∈ mTB := mTB_of (sg7 (List.mem_of_getElem? (i := 226) rfl)) rfl
theorem lo_X7_groups : Cond.code yX7_groups cX7_groups 1 (some .int) ∈ mTB := mTB_of (sg7 (List.mem_of_getElem? (i := 227) rfl)) rfl
theorem lmX11_204 : Cond.methodLink RX11 204 yX7_isShown ∈ mTB := mTB_of (sg7 (List.mem_of_getElem? (i := 228) rfl)) rfl
theorem lv_X7_isShown_i : Cond.instanceMethod yX7_isShown ∈ mTB := mTB_of (sg7 (List.mem_of_getElem? (i := 229) rfl)) rfl
theorem ls_X7_isShown : Cond.selects yX7_isShown.cls yX7_isShown yX7_isShown ∈ mTB := mTB_of (sg7 (List.mem_of_getElem? (i := 230) rfl)) rfl
theorem lo_X7_isShown : Cond.code yX7_isShown cX7_isShown 2 (some .boolean) ∈ mTB := mTB_of (sg7 (List.mem_of_getElem? (i := 231) rfl)) rfl
theorem lmX7_98 : Cond.methodLink RX7 98 yX7_hasPlan ∈ mTB := mTB_of (sg7 (List.mem_of_getElem? (i := 232) rfl)) rfl
theorem lmX11_207 : Cond.methodLink RX11 207 yX2_stepsDone ∈ mTB := mTB_of (sg7 (List.mem_of_getElem? (i := 233) rfl)) rfl
theorem lv_X2_stepsDone_i : Cond.instanceMethod yX2_stepsDone ∈ mTB := mTB_of (sg7 (List.mem_of_getElem? (i := 234) rfl)) rfl
theorem ls_X2_stepsDone : Cond.selects yX2_stepsDone.cls yX2_stepsDone yX2_stepsDone ∈ mTB := mTB_of (sg7 (List.mem_of_getElem? (i := 235) rfl)) rfl
theorem lo_X2_stepsDone : Cond.code yX2_stepsDone cX2_stepsDone 1 (some .int) ∈ mTB := mTB_of (sg7 (List.mem_of_getElem? (i := 236) rfl)) rfl
theorem lmX11_210 : Cond.methodLink RX11 210 yX2_setSignal ∈ mTB := mTB_of (sg7 (List.mem_of_getElem? (i := 237) rfl)) rfl
theorem lv_X2_setSignal_i : Cond.instanceMethod yX2_setSignal ∈ mTB := mTB_of (sg7 (List.mem_of_getElem? (i := 238) rfl)) rfl
theorem ls_X2_setSignal : Cond.selects yX2_setSignal.cls yX2_setSignal yX2_setSignal ∈ mTB := mTB_of (sg7 (List.mem_of_getElem? (i := 239) rfl)) rfl
theorem lo_X2_setSignal : Cond.code yX2_setSignal cX2_setSignal 4 (some .boolean) ∈ mTB := mTB_of (sg8 (List.mem_of_getElem? (i := 0) rfl)) rfl
theorem lmX2_114 : Cond.methodLink RX2 114 yX2_set ∈ mTB := mTB_of (sg8 (List.mem_of_getElem? (i := 1) rfl)) rfl
theorem lv_X2_set_i : Cond.instanceMethod yX2_set ∈ mTB := mTB_of (sg8 (List.mem_of_getElem? (i := 3) rfl)) rfl
theorem lo_X2_set : Cond.code yX2_set cX2_set 7 (some .boolean) ∈ mTB := mTB_of (sg8 (List.mem_of_getElem? (i := 4) rfl)) rfl
theorem lmX2_93 : Cond.methodLink RX2 93 yX2_isCell ∈ mTB := mTB_of (sg8 (List.mem_of_getElem? (i := 5) rfl)) rfl
theorem lv_X2_isCell_s : Cond.static yX2_isCell ∈ mTB := mTB_of (sg8 (List.mem_of_getElem? (i := 6) rfl)) rfl
theorem lo_X2_isCell : Cond.code yX2_isCell cX2_isCell 1 (some .boolean) ∈ mTB := mTB_of (sg8 (List.mem_of_getElem? (i := 7) rfl)) rfl
theorem lmX2_174 : Cond.methodLink RX2 174 yX2_isToCome ∈ mTB := mTB_of (sg8 (List.mem_of_getElem? (i := 8) rfl)) rfl
theorem lv_X2_isToCome_i : Cond.instanceMethod yX2_isToCome ∈ mTB := mTB_of (sg8 (List.mem_of_getElem? (i := 10) rfl)) rfl
theorem lo_X2_isToCome : Cond.code yX2_isToCome cX2_isToCome 2 (some .boolean) ∈ mTB := mTB_of (sg8 (List.mem_of_getElem? (i := 11) rfl)) rfl
theorem lmX11_198 : Cond.methodLink RX11 198 yX2_step ∈ mTB := mTB_of (sg8 (List.mem_of_getElem? (i := 12) rfl)) rfl
theorem lv_X2_step_i : Cond.instanceMethod yX2_step ∈ mTB := mTB_of (sg8 (List.mem_of_getElem? (i := 13) rfl)) rfl
theorem ls_X2_step : Cond.selects yX2_step.cls yX2_step yX2_step ∈ mTB := mTB_of (sg8 (List.mem_of_getElem? (i := 14) rfl)) rfl
theorem lo_X2_step : Cond.code yX2_step cX2_step 6 none ∈ mTB := mTB_of (sg8 (List.mem_of_getElem? (i := 15) rfl)) rfl
theorem lmX2_183 : Cond.methodLink RX2 183 yX2_stepsLeft ∈ mTB := mTB_of (sg8 (List.mem_of_getElem? (i := 16) rfl)) rfl
theorem lmX2_189 : Cond.methodLink RX2 189 yX2_findSettings ∈ mTB := mTB_of (sg8 (List.mem_of_getElem? (i := 17) rfl)) rfl
theorem lv_X2_findSettings_i : Cond.instanceMethod yX2_findSettings ∈ mTB := mTB_of (sg8 (List.mem_of_getElem? (i := 19) rfl)) rfl
theorem lo_X2_findSettings : Cond.code yX2_findSettings cX2_findSettings 5 none ∈ mTB := mTB_of (sg8 (List.mem_of_getElem? (i := 20) rfl)) rfl
theorem lmX2_212 : Cond.methodLink RX2 212 yJ7_fill_53178 ∈ mTB := mTB_of (sg8 (List.mem_of_getElem? (i := 21) rfl)) rfl
theorem lmX2_136 : Cond.methodLink RX2 136 yJ9_min_f86c9 ∈ mTB := mTB_of (sg8 (List.mem_of_getElem? (i := 22) rfl)) rfl
theorem lv_J9_min_f86c9_s : Cond.static yJ9_min_f86c9 ∈ mTB := mTB_of (sg8 (List.mem_of_getElem? (i := 23) rfl)) rfl
theorem lo_J9_min_f86c9 : Cond.code yJ9_min_f86c9 cJ9_min_f86c9 4 (some .long) ∈ mTB := mTB_of (sg8 (List.mem_of_getElem? (i := 24) rfl)) rfl
theorem lmX2_192 : Cond.methodLink RX2 192 yX2_sends ∈ mTB := mTB_of (sg8 (List.mem_of_getElem? (i := 25) rfl)) rfl
theorem lv_X2_sends_i : Cond.instanceMethod yX2_sends ∈ mTB := mTB_of (sg8 (List.mem_of_getElem? (i := 27) rfl)) rfl
theorem lo_X2_sends : Cond.code yX2_sends cX2_sends 5 (some .boolean) ∈ mTB := mTB_of (sg8 (List.mem_of_getElem? (i := 28) rfl)) rfl
theorem lmX2_195 : Cond.methodLink RX2 195 yJ9_max_f86c9 ∈ mTB := mTB_of (sg8 (List.mem_of_getElem? (i := 29) rfl)) rfl
theorem lv_J9_max_f86c9_s : Cond.static yJ9_max_f86c9 ∈ mTB := mTB_of (sg8 (List.mem_of_getElem? (i := 30) rfl)) rfl
theorem lo_J9_max_f86c9 : Cond.code yJ9_max_f86c9 cJ9_max_f86c9 4 (some .long) ∈ mTB := mTB_of (sg8 (List.mem_of_getElem? (i := 31) rfl)) rfl
theorem lcX2_198 : Cond.constantLong RX2 198 (100 : Int64) ∈ mTB := mTB_of (sg8 (List.mem_of_getElem? (i := 32) rfl)) rfl
theorem lmX2_200 : Cond.methodLink RX2 200 yX2_holdCells ∈ mTB := mTB_of (sg8 (List.mem_of_getElem? (i := 33) rfl)) rfl
theorem lv_X2_holdCells_i : Cond.instanceMethod yX2_holdCells ∈ mTB := mTB_of (sg8 (List.mem_of_getElem? (i := 35) rfl)) rfl
theorem lo_X2_holdCells : Cond.code yX2_holdCells cX2_holdCells 4 none ∈ mTB := mTB_of (sg8 (List.mem_of_getElem? (i := 36) rfl)) rfl
theorem lcX2_134 : Cond.constantLong RX2 134 (300 : Int64) ∈ mTB := mTB_of (sg8 (List.mem_of_getElem? (i := 37) rfl)) rfl
theorem lmX2_203 : Cond.methodLink RX2 203 yX2_shareOut ∈ mTB := mTB_of (sg8 (List.mem_of_getElem? (i := 38) rfl)) rfl
theorem lv_X2_shareOut_i : Cond.instanceMethod yX2_shareOut ∈ mTB := mTB_of (sg8 (List.mem_of_getElem? (i := 40) rfl)) rfl
theorem lo_X2_shareOut : Cond.code yX2_shareOut cX2_shareOut 9 none ∈ mTB := mTB_of (sg8 (List.mem_of_getElem? (i := 41) rfl)) rfl
theorem lmX2_221 : Cond.methodLink RX2 221 yX2_cellOf ∈ mTB := mTB_of (sg8 (List.mem_of_getElem? (i := 42) rfl)) rfl
theorem lv_X2_cellOf_i : Cond.instanceMethod yX2_cellOf ∈ mTB := mTB_of (sg8 (List.mem_of_getElem? (i := 44) rfl)) rfl
theorem lo_X2_cellOf : Cond.code yX2_cellOf cX2_cellOf 2 (some .int) ∈ mTB := mTB_of (sg8 (List.mem_of_getElem? (i := 45) rfl)) rfl
theorem lmX2_206 : Cond.methodLink RX2 206 yX2_moveInto ∈ mTB := mTB_of (sg8 (List.mem_of_getElem? (i := 46) rfl)) rfl
theorem lv_X2_moveInto_i : Cond.instanceMethod yX2_moveInto ∈ mTB := mTB_of (sg8 (List.mem_of_getElem? (i := 48) rfl)) rfl
theorem lo_X2_moveInto : Cond.code yX2_moveInto cX2_moveInto 6 none ∈ mTB := mTB_of (sg8 (List.mem_of_getElem? (i := 49) rfl)) rfl
theorem lmX2_209 : Cond.methodLink RX2 209 yX2_finish ∈ mTB := mTB_of (sg8 (List.mem_of_getElem? (i := 50) rfl)) rfl
theorem lv_X2_finish_i : Cond.instanceMethod yX2_finish ∈ mTB := mTB_of (sg8 (List.mem_of_getElem? (i := 52) rfl)) rfl
theorem lo_X2_finish : Cond.code yX2_finish cX2_finish 5 none ∈ mTB := mTB_of (sg8 (List.mem_of_getElem? (i := 53) rfl)) rfl
theorem lmL_70 : Cond.methodLink RL 70 yX11_bill ∈ mTB := mTB_of (sg8 (List.mem_of_getElem? (i := 54) rfl)) rfl
theorem lv_X11_bill_i : Cond.instanceMethod yX11_bill ∈ mTB := mTB_of (sg8 (List.mem_of_getElem? (i := 55) rfl)) rfl
theorem ls_X11_bill : Cond.selects yX11_bill.cls yX11_bill yX11_bill ∈ mTB := mTB_of (sg8 (List.mem_of_getElem? (i := 56) rfl)) rfl
theorem lo_X11_bill : Cond.code yX11_bill cX11_bill 9 (some .int) ∈ mTB := mTB_of (sg8 (List.mem_of_getElem? (i := 57) rfl)) rfl
theorem lmX11_214 : Cond.methodLink RX11 214 yX4_hasPlan ∈ mTB := mTB_of (sg8 (List.mem_of_getElem? (i := 58) rfl)) rfl
theorem lv_X4_hasPlan_i : Cond.instanceMethod yX4_hasPlan ∈ mTB := mTB_of (sg8 (List.mem_of_getElem? (i := 59) rfl)) rfl
theorem ls_X4_hasPlan : Cond.selects yX4_hasPlan.cls yX4_hasPlan yX4_hasPlan ∈ mTB := mTB_of (sg8 (List.mem_of_getElem? (i := 60) rfl)) rfl
theorem lo_X4_hasPlan : Cond.code yX4_hasPlan cX4_hasPlan 1 (some .boolean) ∈ mTB := mTB_of (sg8 (List.mem_of_getElem? (i := 61) rfl)) rfl
theorem lmX11_215 : Cond.methodLink RX11 215 yX3_isItem ∈ mTB := mTB_of (sg8 (List.mem_of_getElem? (i := 62) rfl)) rfl
theorem lv_X3_isItem_i : Cond.instanceMethod yX3_isItem ∈ mTB := mTB_of (sg8 (List.mem_of_getElem? (i := 63) rfl)) rfl
theorem ls_X3_isItem : Cond.selects yX3_isItem.cls yX3_isItem yX3_isItem ∈ mTB := mTB_of (sg8 (List.mem_of_getElem? (i := 64) rfl)) rfl
theorem lo_X3_isItem : Cond.code yX3_isItem cX3_isItem 2 (some .boolean) ∈ mTB := mTB_of (sg8 (List.mem_of_getElem? (i := 65) rfl)) rfl
theorem lmX11_218 : Cond.methodLink RX11 218 yX4_sources ∈ mTB := mTB_of (sg8 (List.mem_of_getElem? (i := 66) rfl)) rfl
theorem lv_X4_sources_i : Cond.instanceMethod yX4_sources ∈ mTB := mTB_of (sg8 (List.mem_of_getElem? (i := 67) rfl)) rfl
theorem ls_X4_sources : Cond.selects yX4_sources.cls yX4_sources yX4_sources ∈ mTB := mTB_of (sg8 (List.mem_of_getElem? (i := 68) rfl)) rfl
theorem lo_X4_sources : Cond.code yX4_sources cX4_sources 1 (some .int) ∈ mTB := mTB_of (sg8 (List.mem_of_getElem? (i := 69) rfl)) rfl
theorem lmX11_221 : Cond.methodLink RX11 221 yX4_fillCount ∈ mTB := mTB_of (sg8 (List.mem_of_getElem? (i := 70) rfl)) rfl
theorem lmX11_224 : Cond.methodLink RX11 224 yX4_planned ∈ mTB := mTB_of (sg8 (List.mem_of_getElem? (i := 71) rfl)) rfl
theorem lv_X4_planned_i : Cond.instanceMethod yX4_planned ∈ mTB := mTB_of (sg8 (List.mem_of_getElem? (i := 72) rfl)) rfl
theorem ls_X4_planned : Cond.selects yX4_planned.cls yX4_planned yX4_planned ∈ mTB := mTB_of (sg8 (List.mem_of_getElem? (i := 73) rfl)) rfl
theorem lo_X4_planned : Cond.code yX4_planned cX4_planned 3 (some .long) ∈ mTB := mTB_of (sg8 (List.mem_of_getElem? (i := 74) rfl)) rfl
theorem lmX4_163 : Cond.methodLink RX4 163 yX4_sources ∈ mTB := mTB_of (sg8 (List.mem_of_getElem? (i := 75) rfl)) rfl
theorem lcX11_227 : Cond.constantLong RX11 227 (10000000 : Int64) ∈ mTB := mTB_of (sg8 (List.mem_of_getElem? (i := 76) rfl)) rfl
theorem lmX11_229 : Cond.methodLink RX11 229 yX4_unitCost ∈ mTB := mTB_of (sg8 (List.mem_of_getElem? (i := 77) rfl)) rfl
theorem lv_X4_unitCost_i : Cond.instanceMethod yX4_unitCost ∈ mTB := mTB_of (sg8 (List.mem_of_getElem? (i := 78) rfl)) rfl
theorem ls_X4_unitCost : Cond.selects yX4_unitCost.cls yX4_unitCost yX4_unitCost ∈ mTB := mTB_of (sg8 (List.mem_of_getElem? (i := 79) rfl)) rfl
theorem lo_X4_unitCost : Cond.code yX4_unitCost cX4_unitCost 11 (some .long) ∈ mTB := mTB_of (sg8 (List.mem_of_getElem? (i := 80) rfl)) rfl
theorem lmX4_168 : Cond.methodLink RX4 168 yX4_metreOf ∈ mTB := mTB_of (sg8 (List.mem_of_getElem? (i := 81) rfl)) rfl
theorem lv_X4_metreOf_i : Cond.instanceMethod yX4_metreOf ∈ mTB := mTB_of (sg8 (List.mem_of_getElem? (i := 83) rfl)) rfl
theorem lo_X4_metreOf : Cond.code yX4_metreOf cX4_metreOf 2 (some .int) ∈ mTB := mTB_of (sg8 (List.mem_of_getElem? (i := 84) rfl)) rfl
theorem lmX4_172 : Cond.methodLink RX4 172 yX4_apart ∈ mTB := mTB_of (sg8 (List.mem_of_getElem? (i := 85) rfl)) rfl
theorem lv_X4_apart_s : Cond.static yX4_apart ∈ mTB := mTB_of (sg8 (List.mem_of_getElem? (i := 86) rfl)) rfl
theorem lo_X4_apart : Cond.code yX4_apart cX4_apart 2 (some .int) ∈ mTB := mTB_of (sg8 (List.mem_of_getElem? (i := 87) rfl)) rfl
theorem lmX4_176 : Cond.methodLink RX4 176 yJ9_min_7cf53 ∈ mTB := mTB_of (sg8 (List.mem_of_getElem? (i := 88) rfl)) rfl
theorem lcX11_233 : Cond.constantLong RX11 233 (9999 : Int64) ∈ mTB := mTB_of (sg8 (List.mem_of_getElem? (i := 89) rfl)) rfl
theorem lmX11_235 : Cond.methodLink RX11 235 yJ9_min_f86c9 ∈ mTB := mTB_of (sg8 (List.mem_of_getElem? (i := 90) rfl)) rfl
theorem lcX11_237 : Cond.constantLong RX11 237 (1000 : Int64) ∈ mTB := mTB_of (sg8 (List.mem_of_getElem? (i := 91) rfl)) rfl
theorem lmX11_239 : Cond.methodLink RX11 239 yX3_addShape ∈ mTB := mTB_of (sg8 (List.mem_of_getElem? (i := 92) rfl)) rfl
theorem lv_X3_addShape_i : Cond.instanceMethod yX3_addShape ∈ mTB := mTB_of (sg8 (List.mem_of_getElem? (i := 93) rfl)) rfl
theorem ls_X3_addShape : Cond.selects yX3_addShape.cls yX3_addShape yX3_addShape ∈ mTB := mTB_of (sg8 (List.mem_of_getElem? (i := 94) rfl)) rfl
theorem lo_X3_addShape : Cond.code yX3_addShape cX3_addShape 6 (some .int) ∈ mTB := mTB_of (sg8 (List.mem_of_getElem? (i := 95) rfl)) rfl
theorem lmX3_234 : Cond.methodLink RX3 234 yX3_isSize ∈ mTB := mTB_of (sg8 (List.mem_of_getElem? (i := 96) rfl)) rfl
theorem lv_X3_isSize_s : Cond.static yX3_isSize ∈ mTB := mTB_of (sg8 (List.mem_of_getElem? (i := 97) rfl)) rfl
theorem lo_X3_isSize : Cond.code yX3_isSize cX3_isSize 1 (some .boolean) ∈ mTB := mTB_of (sg8 (List.mem_of_getElem? (i := 98) rfl)) rfl
theorem lmX11_242 : Cond.methodLink RX11 242 yX4_weekOfFill ∈ mTB := mTB_of (sg8 (List.mem_of_getElem? (i := 99) rfl)) rfl
theorem lv_X4_weekOfFill_i : Cond.instanceMethod yX4_weekOfFill ∈ mTB := mTB_of (sg8 (List.mem_of_getElem? (i := 100) rfl)) rfl
theorem ls_X4_weekOfFill : Cond.selects yX4_weekOfFill.cls yX4_weekOfFill yX4_weekOfFill ∈ mTB := mTB_of (sg8 (List.mem_of_getElem? (i := 101) rfl)) rfl
theorem lo_X4_weekOfFill : Cond.code yX4_weekOfFill cX4_weekOfFill 2 (some .int) ∈ mTB := mTB_of (sg8 (List.mem_of_getElem? (i := 102) rfl)) rfl
theorem lmX11_245 : Cond.methodLink RX11 245 yX3_addPlain ∈ mTB := mTB_of (sg8 (List.mem_of_getElem? (i := 103) rfl)) rfl
theorem lv_X3_addPlain_i : Cond.instanceMethod yX3_addPlain ∈ mTB := mTB_of (sg8 (List.mem_of_getElem? (i := 104) rfl)) rfl
theorem ls_X3_addPlain : Cond.selects yX3_addPlain.cls yX3_addPlain yX3_addPlain ∈ mTB := mTB_of (sg8 (List.mem_of_getElem? (i := 105) rfl)) rfl
theorem lo_X3_addPlain : Cond.code yX3_addPlain cX3_addPlain 5 (some .boolean) ∈ mTB := mTB_of (sg8 (List.mem_of_getElem? (i := 106) rfl)) rfl
theorem lmX3_237 : Cond.methodLink RX3 237 yX3_isShape ∈ mTB := mTB_of (sg8 (List.mem_of_getElem? (i := 107) rfl)) rfl
theorem lv_X3_isShape_i : Cond.instanceMethod yX3_isShape ∈ mTB := mTB_of (sg8 (List.mem_of_getElem? (i := 109) rfl)) rfl
theorem lo_X3_isShape : Cond.code yX3_isShape cX3_isShape 2 (some .boolean) ∈ mTB := mTB_of (sg8 (List.mem_of_getElem? (i := 110) rfl)) rfl
theorem lmX3_227 : Cond.methodLink RX3 227 yX3_isItem ∈ mTB := mTB_of (sg8 (List.mem_of_getElem? (i := 111) rfl)) rfl
theorem lmX3_83 : Cond.methodLink RX3 83 yX3_isMonth ∈ mTB := mTB_of (sg8 (List.mem_of_getElem? (i := 112) rfl)) rfl
theorem lv_X3_isMonth_s : Cond.static yX3_isMonth ∈ mTB := mTB_of (sg8 (List.mem_of_getElem? (i := 113) rfl)) rfl
theorem lo_X3_isMonth : Cond.code yX3_isMonth cX3_isMonth 1 (some .boolean) ∈ mTB := mTB_of (sg8 (List.mem_of_getElem? (i := 114) rfl)) rfl
theorem lmX3_243 : Cond.methodLink RX3 243 yX3_addEntry ∈ mTB := mTB_of (sg8 (List.mem_of_getElem? (i := 115) rfl)) rfl
theorem lv_X3_addEntry_i : Cond.instanceMethod yX3_addEntry ∈ mTB := mTB_of (sg8 (List.mem_of_getElem? (i := 117) rfl)) rfl
theorem lo_X3_addEntry : Cond.code yX3_addEntry cX3_addEntry 6 none ∈ mTB := mTB_of (sg8 (List.mem_of_getElem? (i := 118) rfl)) rfl
theorem lmX3_247 : Cond.methodLink RX3 247 yX3_measure ∈ mTB := mTB_of (sg8 (List.mem_of_getElem? (i := 119) rfl)) rfl
theorem lv_X3_measure_i : Cond.instanceMethod yX3_measure ∈ mTB := mTB_of (sg8 (List.mem_of_getElem? (i := 121) rfl)) rfl
theorem lo_X3_measure : Cond.code yX3_measure cX3_measure 8 (some .long) ∈ mTB := mTB_of (sg8 (List.mem_of_getElem? (i := 122) rfl)) rfl
theorem lmX3_213 : Cond.methodLink RX3 213 yX3_joined ∈ mTB := mTB_of (sg8 (List.mem_of_getElem? (i := 123) rfl)) rfl
theorem lv_X3_joined_i : Cond.instanceMethod yX3_joined ∈ mTB := mTB_of (sg8 (List.mem_of_getElem? (i := 125) rfl)) rfl
theorem lo_X3_joined : Cond.code yX3_joined cX3_joined 6 (some .long) ∈ mTB := mTB_of (sg8 (List.mem_of_getElem? (i := 126) rfl)) rfl
theorem lcX3_217 : Cond.constantLong RX3 217 (2 : Int64) ∈ mTB := mTB_of (sg8 (List.mem_of_getElem? (i := 127) rfl)) rfl
theorem lmX3_219 : Cond.methodLink RX3 219 yJ9_floorDiv_f86c9 ∈ mTB := mTB_of (sg8 (List.mem_of_getElem? (i := 128) rfl)) rfl
theorem lmX3_230 : Cond.methodLink RX3 230 yX3_tellOpen ∈ mTB := mTB_of (sg8 (List.mem_of_getElem? (i := 129) rfl)) rfl
theorem lv_X3_tellOpen_i : Cond.instanceMethod yX3_tellOpen ∈ mTB := mTB_of (sg8 (List.mem_of_getElem? (i := 131) rfl)) rfl
theorem lo_X3_tellOpen : Cond.code yX3_tellOpen cX3_tellOpen 4 none ∈ mTB := mTB_of (sg8 (List.mem_of_getElem? (i := 132) rfl)) rfl
theorem lmL_74 : Cond.methodLink RL 74 yX11_whole ∈ mTB := mTB_of (sg8 (List.mem_of_getElem? (i := 133) rfl)) rfl
theorem lv_X11_whole_i : Cond.instanceMethod yX11_whole ∈ mTB := mTB_of (sg8 (List.mem_of_getElem? (i := 134) rfl)) rfl
theorem ls_X11_whole : Cond.selects yX11_whole.cls yX11_whole yX11_whole ∈ mTB := mTB_of (sg8 (List.mem_of_getElem? (i := 135) rfl)) rfl
theorem lo_X11_whole : Cond.code yX11_whole cX11_whole 3 (some .int) ∈ mTB := mTB_of (sg8 (List.mem_of_getElem? (i := 136) rfl)) rfl
theorem lmX11_248 : Cond.methodLink RX11 248 yX10_keeps ∈ mTB := mTB_of (sg8 (List.mem_of_getElem? (i := 137) rfl)) rfl
theorem lv_X10_keeps_i : Cond.instanceMethod yX10_keeps ∈ mTB := mTB_of (sg8 (List.mem_of_getElem? (i := 138) rfl)) rfl
theorem ls_X10_keeps : Cond.selects yX10_keeps.cls yX10_keeps yX10_keeps ∈ mTB := mTB_of (sg8 (List.mem_of_getElem? (i := 139) rfl)) rfl
theorem lo_X10_keeps : Cond.code yX10_keeps cX10_keeps 8 (some .boolean) ∈ mTB := mTB_of (sg8 (List.mem_of_getElem? (i := 140) rfl)) rfl
theorem lmX10_228 : Cond.methodLink RX10 228 yX10_passable ∈ mTB := mTB_of (sg8 (List.mem_of_getElem? (i := 141) rfl)) rfl
theorem lv_X10_passable_i : Cond.instanceMethod yX10_passable ∈ mTB := mTB_of (sg8 (List.mem_of_getElem? (i := 142) rfl)) rfl
theorem ls_X10_passable : Cond.selects yX10_passable.cls yX10_passable yX10_passable ∈ mTB := mTB_of (sg8 (List.mem_of_getElem? (i := 143) rfl)) rfl
theorem lo_X10_passable : Cond.code yX10_passable cX10_passable 2 (some .boolean) ∈ mTB := mTB_of (sg8 (List.mem_of_getElem? (i := 144) rfl)) rfl
theorem lmX10_231 : Cond.methodLink RX10 231 yX10_slopeKept ∈ mTB := mTB_of (sg8 (List.mem_of_getElem? (i := 145) rfl)) rfl
theorem lv_X10_slopeKept_i : Cond.instanceMethod yX10_slopeKept ∈ mTB := mTB_of (sg8 (List.mem_of_getElem? (i := 146) rfl)) rfl
theorem ls_X10_slopeKept : Cond.selects yX10_slopeKept.cls yX10_slopeKept yX10_slopeKept ∈ mTB := mTB_of (sg8 (List.mem_of_getElem? (i := 147) rfl)) rfl
theorem lo_X10_slopeKept : Cond.code yX10_slopeKept cX10_slopeKept 4 (some .boolean) ∈ mTB := mTB_of (sg8 (List.mem_of_getElem? (i := 148) rfl)) rfl
theorem lmX10_234 : Cond.methodLink RX10 234 yX10_turnKept ∈ mTB := mTB_of (sg8 (List.mem_of_getElem? (i := 149) rfl)) rfl
theorem lv_X10_turnKept_i : Cond.instanceMethod yX10_turnKept ∈ mTB := mTB_of (sg8 (List.mem_of_getElem? (i := 150) rfl)) rfl
theorem ls_X10_turnKept : Cond.selects yX10_turnKept.cls yX10_turnKept yX10_turnKept ∈ mTB := mTB_of (sg8 (List.mem_of_getElem? (i := 151) rfl)) rfl
theorem lo_X10_turnKept : Cond.code yX10_turnKept cX10_turnKept 4 (some .boolean) ∈ mTB := mTB_of (sg8 (List.mem_of_getElem? (i := 152) rfl)) rfl
theorem lmX10_138 : Cond.methodLink RX10 138 yX10_differ ∈ mTB := mTB_of (sg8 (List.mem_of_getElem? (i := 153) rfl)) rfl
theorem lv_X10_differ_s : Cond.static yX10_differ ∈ mTB := mTB_of (sg8 (List.mem_of_getElem? (i := 154) rfl)) rfl
theorem lo_X10_differ : Cond.code yX10_differ cX10_differ 3 (some .int) ∈ mTB := mTB_of (sg8 (List.mem_of_getElem? (i := 155) rfl)) rfl
theorem lmX10_142 : Cond.methodLink RX10 142 yJ9_min_7cf53 ∈ mTB := mTB_of (sg8 (List.mem_of_getElem? (i := 156) rfl)) rfl
theorem lmX11_251 : Cond.methodLink RX11 251 yX4_check ∈ mTB := mTB_of (sg8 (List.mem_of_getElem? (i := 157) rfl)) rfl
theorem lv_X4_check_i : Cond.instanceMethod yX4_check ∈ mTB := mTB_of (sg8 (List.mem_of_getElem? (i := 158) rfl)) rfl
theorem ls_X4_check : Cond.selects yX4_check.cls yX4_check yX4_check ∈ mTB := mTB_of (sg8 (List.mem_of_getElem? (i := 159) rfl)) rfl
theorem lo_X4_check : Cond.code yX4_check cX4_check 6 (some .long) ∈ mTB := mTB_of (sg8 (List.mem_of_getElem? (i := 160) rfl)) rfl
theorem lmX4_254 : Cond.methodLink RX4 254 yX4_hasPlan ∈ mTB := mTB_of (sg8 (List.mem_of_getElem? (i := 161) rfl)) rfl
theorem lcX4_157 : Cond.constantLong RX4 157 (-1 : Int64) ∈ mTB := mTB_of (sg8 (List.mem_of_getElem? (i := 162) rfl)) rfl
theorem lmX4_181 : Cond.methodLink RX4 181 yX4_serves ∈ mTB := mTB_of (sg8 (List.mem_of_getElem? (i := 163) rfl)) rfl
theorem lv_X4_serves_i : Cond.instanceMethod yX4_serves ∈ mTB := mTB_of (sg8 (List.mem_of_getElem? (i := 165) rfl)) rfl
theorem lo_X4_serves : Cond.code yX4_serves cX4_serves 3 (some .boolean) ∈ mTB := mTB_of (sg8 (List.mem_of_getElem? (i := 166) rfl)) rfl
theorem lmX4_225 : Cond.methodLink RX4 225 yX4_gives ∈ mTB := mTB_of (sg8 (List.mem_of_getElem? (i := 167) rfl)) rfl
theorem lv_X4_gives_i : Cond.instanceMethod yX4_gives ∈ mTB := mTB_of (sg8 (List.mem_of_getElem? (i := 169) rfl)) rfl
theorem lo_X4_gives : Cond.code yX4_gives cX4_gives 3 (some .long) ∈ mTB := mTB_of (sg8 (List.mem_of_getElem? (i := 170) rfl)) rfl
theorem lcX4_166 : Cond.constantLong RX4 166 (1000000000000000 : Int64) ∈ mTB := mTB_of (sg8 (List.mem_of_getElem? (i := 171) rfl)) rfl
theorem lmX4_263 : Cond.methodLink RX4 263 yX4_checkWeeks ∈ mTB := mTB_of (sg8 (List.mem_of_getElem? (i := 172) rfl)) rfl
theorem lv_X4_checkWeeks_i : Cond.instanceMethod yX4_checkWeeks ∈ mTB := mTB_of (sg8 (List.mem_of_getElem? (i := 174) rfl)) rfl
theorem lo_X4_checkWeeks : Cond.code yX4_checkWeeks cX4_checkWeeks 6 (some .long) ∈ mTB := mTB_of (sg8 (List.mem_of_getElem? (i := 175) rfl)) rfl
theorem lmX11_254 : Cond.methodLink RX11 254 yX0_sumsAreOne ∈ mTB := mTB_of (sg8 (List.mem_of_getElem? (i := 176) rfl)) rfl
theorem lv_X0_sumsAreOne_i : Cond.instanceMethod yX0_sumsAreOne ∈ mTB := mTB_of (sg8 (List.mem_of_getElem? (i := 177) rfl)) rfl
theorem ls_X0_sumsAreOne : Cond.selects yX0_sumsAreOne.cls yX0_sumsAreOne yX0_sumsAreOne ∈ mTB := mTB_of (sg8 (List.mem_of_getElem? (i := 178) rfl)) rfl
theorem lo_X0_sumsAreOne : Cond.code yX0_sumsAreOne cX0_sumsAreOne 4 (some .boolean) ∈ mTB := mTB_of (sg8 (List.mem_of_getElem? (i := 179) rfl)) rfl
theorem lmX0_346 : Cond.methodLink RX0 346 yX0_asked ∈ mTB := mTB_of (sg8 (List.mem_of_getElem? (i := 180) rfl)) rfl
theorem lv_X0_asked_i : Cond.instanceMethod yX0_asked ∈ mTB := mTB_of (sg8 (List.mem_of_getElem? (i := 182) rfl)) rfl
theorem lo_X0_asked : Cond.code yX0_asked cX0_asked 5 (some (.array .int)) ∈ mTB := mTB_of (sg8 (List.mem_of_getElem? (i := 183) rfl)) rfl
theorem lmX0_350 : Cond.methodLink RX0 350 yX1_compare ∈ mTB := mTB_of (sg8 (List.mem_of_getElem? (i := 184) rfl)) rfl
theorem lv_X1_compare_i : Cond.instanceMethod yX1_compare ∈ mTB := mTB_of (sg8 (List.mem_of_getElem? (i := 185) rfl)) rfl
theorem ls_X1_compare : Cond.selects yX1_compare.cls yX1_compare yX1_compare ∈ mTB := mTB_of (sg8 (List.mem_of_getElem? (i := 186) rfl)) rfl
theorem lo_X1_compare : Cond.code yX1_compare cX1_compare 2 (some .int) ∈ mTB := mTB_of (sg8 (List.mem_of_getElem? (i := 187) rfl)) rfl
theorem lmX11_257 : Cond.methodLink RX11 257 yX9_cornersAreWorst ∈ mTB := mTB_of (sg8 (List.mem_of_getElem? (i := 188) rfl)) rfl
theorem lv_X9_cornersAreWorst_i : Cond.instanceMethod yX9_cornersAreWorst ∈ mTB := mTB_of (sg8 (List.mem_of_getElem? (i := 189) rfl)) rfl
theorem ls_X9_cornersAreWorst : Cond.selects yX9_cornersAreWorst.cls yX9_cornersAreWorst yX9_cornersAreWorst ∈ mTB := mTB_of (sg8 (List.mem_of_getElem? (i := 190) rfl)) rfl
theorem lo_X9_cornersAreWorst : Cond.code yX9_cornersAreWorst cX9_cornersAreWorst 5 (some .boolean) ∈ mTB := mTB_of (sg8 (List.mem_of_getElem? (i := 191) rfl)) rfl
theorem lmX9_252 : Cond.methodLink RX9 252 yX9_worstNumber ∈ mTB := mTB_of (sg8 (List.mem_of_getElem? (i := 192) rfl)) rfl
theorem lv_X9_worstNumber_i : Cond.instanceMethod yX9_worstNumber ∈ mTB := mTB_of (sg8 (List.mem_of_getElem? (i := 194) rfl)) rfl
theorem lo_X9_worstNumber : Cond.code yX9_worstNumber cX9_worstNumber 1 (some (.object "RoadHouse$Big")) ∈ mTB := mTB_of (sg8 (List.mem_of_getElem? (i := 195) rfl)) rfl
theorem lmX9_255 : Cond.methodLink RX9 255 yX1_compare ∈ mTB := mTB_of (sg8 (List.mem_of_getElem? (i := 196) rfl)) rfl
theorem lmX11_260 : Cond.methodLink RX11 260 yX8_sameAnew ∈ mTB := mTB_of (sg8 (List.mem_of_getElem? (i := 197) rfl)) rfl
theorem lv_X8_sameAnew_i : Cond.instanceMethod yX8_sameAnew ∈ mTB := mTB_of (sg8 (List.mem_of_getElem? (i := 198) rfl)) rfl
theorem ls_X8_sameAnew : Cond.selects yX8_sameAnew.cls yX8_sameAnew yX8_sameAnew ∈ mTB := mTB_of (sg8 (List.mem_of_getElem? (i := 199) rfl)) rfl
theorem lo_X8_sameAnew : Cond.code yX8_sameAnew cX8_sameAnew 5 (some .boolean) ∈ mTB := mTB_of (sg8 (List.mem_of_getElem? (i := 200) rfl)) rfl
theorem lmX11_263 : Cond.methodLink RX11 263 yX7_allAnswered ∈ mTB := mTB_of (sg8 (List.mem_of_getElem? (i := 201) rfl)) rfl
theorem lv_X7_allAnswered_i : Cond.instanceMethod yX7_allAnswered ∈ mTB := mTB_of (sg8 (List.mem_of_getElem? (i := 202) rfl)) rfl
theorem ls_X7_allAnswered : Cond.selects yX7_allAnswered.cls yX7_allAnswered yX7_allAnswered ∈ mTB := mTB_of (sg8 (List.mem_of_getElem? (i := 203) rfl)) rfl
theorem lo_X7_allAnswered : Cond.code yX7_allAnswered cX7_allAnswered 1 (some .boolean) ∈ mTB := mTB_of (sg8 (List.mem_of_getElem? (i := 204) rfl)) rfl
theorem lmX7_131 : Cond.methodLink RX7 131 yX7_ring ∈ mTB := mTB_of (sg8 (List.mem_of_getElem? (i := 205) rfl)) rfl
theorem lv_X7_ring_i : Cond.instanceMethod yX7_ring ∈ mTB := mTB_of (sg8 (List.mem_of_getElem? (i := 207) rfl)) rfl
theorem lo_X7_ring : Cond.code yX7_ring cX7_ring 4 (some .long) ∈ mTB := mTB_of (sg8 (List.mem_of_getElem? (i := 208) rfl)) rfl
theorem lcX7_106 : Cond.constantLong RX7 106 (-1 : Int64) ∈ mTB := mTB_of (sg8 (List.mem_of_getElem? (i := 209) rfl)) rfl
theorem lmX7_125 : Cond.methodLink RX7 125 yX7_longest ∈ mTB := mTB_of (sg8 (List.mem_of_getElem? (i := 210) rfl)) rfl
theorem lv_X7_longest_i : Cond.instanceMethod yX7_longest ∈ mTB := mTB_of (sg8 (List.mem_of_getElem? (i := 212) rfl)) rfl
theorem lo_X7_longest : Cond.code yX7_longest cX7_longest 6 (some .int) ∈ mTB := mTB_of (sg8 (List.mem_of_getElem? (i := 213) rfl)) rfl
theorem lmX7_267 : Cond.methodLink RX7 267 yX7_waitsIn ∈ mTB := mTB_of (sg8 (List.mem_of_getElem? (i := 214) rfl)) rfl
theorem lv_X7_waitsIn_i : Cond.instanceMethod yX7_waitsIn ∈ mTB := mTB_of (sg8 (List.mem_of_getElem? (i := 216) rfl)) rfl
theorem lo_X7_waitsIn : Cond.code yX7_waitsIn cX7_waitsIn 3 (some .boolean) ∈ mTB := mTB_of (sg8 (List.mem_of_getElem? (i := 217) rfl)) rfl
theorem lmX7_257 : Cond.methodLink RX7 257 yX7_unpack ∈ mTB := mTB_of (sg8 (List.mem_of_getElem? (i := 218) rfl)) rfl
theorem lv_X7_unpack_s : Cond.static yX7_unpack ∈ mTB := mTB_of (sg8 (List.mem_of_getElem? (i := 219) rfl)) rfl
theorem lo_X7_unpack : Cond.code yX7_unpack cX7_unpack 6 none ∈ mTB := mTB_of (sg8 (List.mem_of_getElem? (i := 220) rfl)) rfl
theorem lmX7_245 : Cond.methodLink RX7 245 yX7_bitsFor ∈ mTB := mTB_of (sg8 (List.mem_of_getElem? (i := 221) rfl)) rfl
theorem lv_X7_bitsFor_s : Cond.static yX7_bitsFor ∈ mTB := mTB_of (sg8 (List.mem_of_getElem? (i := 222) rfl)) rfl
theorem lo_X7_bitsFor : Cond.code yX7_bitsFor cX7_bitsFor 1 (some .int) ∈ mTB := mTB_of (sg8 (List.mem_of_getElem? (i := 223) rfl)) rfl
theorem lmX7_270 : Cond.methodLink RX7 270 yX7_longestBehind ∈ mTB := mTB_of (sg8 (List.mem_of_getElem? (i := 224) rfl)) rfl
theorem lv_X7_longestBehind_i : Cond.instanceMethod yX7_longestBehind ∈ mTB := mTB_of (sg8 (List.mem_of_getElem? (i := 226) rfl)) rfl
theorem lo_X7_longestBehind : Cond.code yX7_longestBehind cX7_longestBehind 5 (some .int) ∈ mTB := mTB_of (sg8 (List.mem_of_getElem? (i := 227) rfl)) rfl
theorem lmX11_266 : Cond.methodLink RX11 266 yX2_allKept ∈ mTB := mTB_of (sg8 (List.mem_of_getElem? (i := 228) rfl)) rfl
theorem lv_X2_allKept_i : Cond.instanceMethod yX2_allKept ∈ mTB := mTB_of (sg8 (List.mem_of_getElem? (i := 229) rfl)) rfl
theorem ls_X2_allKept : Cond.selects yX2_allKept.cls yX2_allKept yX2_allKept ∈ mTB := mTB_of (sg8 (List.mem_of_getElem? (i := 230) rfl)) rfl
theorem lo_X2_allKept : Cond.code yX2_allKept cX2_allKept 5 (some .boolean) ∈ mTB := mTB_of (sg8 (List.mem_of_getElem? (i := 231) rfl)) rfl
theorem lmX11_269 : Cond.methodLink RX11 269 yX3_walksAgree ∈ mTB := mTB_of (sg8 (List.mem_of_getElem? (i := 232) rfl)) rfl
theorem lv_X3_walksAgree_i : Cond.instanceMethod yX3_walksAgree ∈ mTB := mTB_of (sg8 (List.mem_of_getElem? (i := 233) rfl)) rfl
theorem ls_X3_walksAgree : Cond.selects yX3_walksAgree.cls yX3_walksAgree yX3_walksAgree ∈ mTB := mTB_of (sg8 (List.mem_of_getElem? (i := 234) rfl)) rfl
theorem lo_X3_walksAgree : Cond.code yX3_walksAgree cX3_walksAgree 3 (some .boolean) ∈ mTB := mTB_of (sg8 (List.mem_of_getElem? (i := 235) rfl)) rfl
theorem lmX3_260 : Cond.methodLink RX3 260 yX3_quantity ∈ mTB := mTB_of (sg8 (List.mem_of_getElem? (i := 236) rfl)) rfl
theorem lv_X3_quantity_i : Cond.instanceMethod yX3_quantity ∈ mTB := mTB_of (sg8 (List.mem_of_getElem? (i := 238) rfl)) rfl
theorem lo_X3_quantity : Cond.code yX3_quantity cX3_quantity 6 (some .long) ∈ mTB := mTB_of (sg8 (List.mem_of_getElem? (i := 239) rfl)) rfl
theorem lmX3_257 : Cond.methodLink RX3 257 yX3_walked ∈ mTB := mTB_of (sg9 (List.mem_of_getElem? (i := 0) rfl)) rfl
theorem lv_X3_walked_i : Cond.instanceMethod yX3_walked ∈ mTB := mTB_of (sg9 (List.mem_of_getElem? (i := 2) rfl)) rfl
theorem lo_X3_walked : Cond.code yX3_walked cX3_walked 7 (some .long) ∈ mTB := mTB_of (sg9 (List.mem_of_getElem? (i := 3) rfl)) rfl
theorem lmX3_254 : Cond.methodLink RX3 254 yX3_isOf ∈ mTB := mTB_of (sg9 (List.mem_of_getElem? (i := 4) rfl)) rfl
theorem lv_X3_isOf_i : Cond.instanceMethod yX3_isOf ∈ mTB := mTB_of (sg9 (List.mem_of_getElem? (i := 6) rfl)) rfl
theorem lo_X3_isOf : Cond.code yX3_isOf cX3_isOf 4 (some .boolean) ∈ mTB := mTB_of (sg9 (List.mem_of_getElem? (i := 7) rfl)) rfl
theorem lmL_25 : Cond.methodLink RL 25 yL_act ∈ mTB := mTB_of (sg9 (List.mem_of_getElem? (i := 8) rfl)) rfl
theorem lv_L_act_s : Cond.static yL_act ∈ mTB := mTB_of (sg9 (List.mem_of_getElem? (i := 9) rfl)) rfl
theorem lkL_13 : Cond.classLink RL 13 RJx00060 ∈ mTB := mTB_of (sg9 (List.mem_of_getElem? (i := 11) rfl)) rfl
theorem lkL_15 : Cond.classLink RL 15 "java/lang/IllegalArgumentException" ∈ mTB := mTB_of (sg9 (List.mem_of_getElem? (i := 14) rfl)) rfl
theorem lkL_17 : Cond.classLink RL 17 "java/lang/IllegalStateException" ∈ mTB := mTB_of (sg9 (List.mem_of_getElem? (i := 15) rfl)) rfl
theorem lkL_19 : Cond.classLink RL 19 RJxde1cd ∈ mTB := mTB_of (sg9 (List.mem_of_getElem? (i := 16) rfl)) rfl
theorem lmL_7 : Cond.methodLink RL 7 yX11_act ∈ mTB := mTB_of (sg9 (List.mem_of_getElem? (i := 20) rfl)) rfl
theorem lv_X11_act_i : Cond.instanceMethod yX11_act ∈ mTB := mTB_of (sg9 (List.mem_of_getElem? (i := 21) rfl)) rfl
theorem ls_X11_act : Cond.selects yX11_act.cls yX11_act yX11_act ∈ mTB := mTB_of (sg9 (List.mem_of_getElem? (i := 22) rfl)) rfl
theorem lo_X11_act : Cond.code yX11_act cX11_act 8 (some .long) ∈ mTB := mTB_of (sg9 (List.mem_of_getElem? (i := 23) rfl)) rfl
theorem lcX11_69 : Cond.constantLong RX11 69 (-9000000000000000000 : Int64) ∈ mTB := mTB_of (sg9 (List.mem_of_getElem? (i := 24) rfl)) rfl
theorem lmX11_71 : Cond.methodLink RX11 71 yX10_answer ∈ mTB := mTB_of (sg9 (List.mem_of_getElem? (i := 25) rfl)) rfl
theorem lv_X10_answer_i : Cond.instanceMethod yX10_answer ∈ mTB := mTB_of (sg9 (List.mem_of_getElem? (i := 26) rfl)) rfl
theorem ls_X10_answer : Cond.selects yX10_answer.cls yX10_answer yX10_answer ∈ mTB := mTB_of (sg9 (List.mem_of_getElem? (i := 27) rfl)) rfl
theorem lo_X10_answer : Cond.code yX10_answer cX10_answer 7 (some .long) ∈ mTB := mTB_of (sg9 (List.mem_of_getElem? (i := 28) rfl)) rfl
theorem lmX10_71 : Cond.methodLink RX10 71 yX10_setCell ∈ mTB := mTB_of (sg9 (List.mem_of_getElem? (i := 29) rfl)) rfl
theorem lv_X10_setCell_i : Cond.instanceMethod yX10_setCell ∈ mTB := mTB_of (sg9 (List.mem_of_getElem? (i := 31) rfl)) rfl
theorem lo_X10_setCell : Cond.code yX10_setCell cX10_setCell 5 (some .boolean) ∈ mTB := mTB_of (sg9 (List.mem_of_getElem? (i := 32) rfl)) rfl
theorem lmX10_135 : Cond.methodLink RX10 135 yX10_inGrid ∈ mTB := mTB_of (sg9 (List.mem_of_getElem? (i := 33) rfl)) rfl
theorem lv_X10_inGrid_s : Cond.static yX10_inGrid ∈ mTB := mTB_of (sg9 (List.mem_of_getElem? (i := 34) rfl)) rfl
theorem lo_X10_inGrid : Cond.code yX10_inGrid cX10_inGrid 2 (some .boolean) ∈ mTB := mTB_of (sg9 (List.mem_of_getElem? (i := 35) rfl)) rfl
theorem lmX10_75 : Cond.methodLink RX10 75 yX10_setBarred ∈ mTB := mTB_of (sg9 (List.mem_of_getElem? (i := 36) rfl)) rfl
theorem lv_X10_setBarred_i : Cond.instanceMethod yX10_setBarred ∈ mTB := mTB_of (sg9 (List.mem_of_getElem? (i := 38) rfl)) rfl
theorem lo_X10_setBarred : Cond.code yX10_setBarred cX10_setBarred 3 (some .boolean) ∈ mTB := mTB_of (sg9 (List.mem_of_getElem? (i := 39) rfl)) rfl
theorem lmX10_79 : Cond.methodLink RX10 79 yX10_setMoves ∈ mTB := mTB_of (sg9 (List.mem_of_getElem? (i := 40) rfl)) rfl
theorem lv_X10_setMoves_i : Cond.instanceMethod yX10_setMoves ∈ mTB := mTB_of (sg9 (List.mem_of_getElem? (i := 42) rfl)) rfl
theorem lo_X10_setMoves : Cond.code yX10_setMoves cX10_setMoves 4 (some .boolean) ∈ mTB := mTB_of (sg9 (List.mem_of_getElem? (i := 43) rfl)) rfl
theorem lmX10_83 : Cond.methodLink RX10 83 yX10_setValue ∈ mTB := mTB_of (sg9 (List.mem_of_getElem? (i := 44) rfl)) rfl
theorem lv_X10_setValue_i : Cond.instanceMethod yX10_setValue ∈ mTB := mTB_of (sg9 (List.mem_of_getElem? (i := 46) rfl)) rfl
theorem lo_X10_setValue : Cond.code yX10_setValue cX10_setValue 5 (some .boolean) ∈ mTB := mTB_of (sg9 (List.mem_of_getElem? (i := 47) rfl)) rfl
theorem lmX10_86 : Cond.methodLink RX10 86 yX10_setWeight ∈ mTB := mTB_of (sg9 (List.mem_of_getElem? (i := 48) rfl)) rfl
theorem lv_X10_setWeight_i : Cond.instanceMethod yX10_setWeight ∈ mTB := mTB_of (sg9 (List.mem_of_getElem? (i := 50) rfl)) rfl
theorem lo_X10_setWeight : Cond.code yX10_setWeight cX10_setWeight 4 (some .boolean) ∈ mTB := mTB_of (sg9 (List.mem_of_getElem? (i := 51) rfl)) rfl
theorem lmX10_89 : Cond.methodLink RX10 89 yX10_find ∈ mTB := mTB_of (sg9 (List.mem_of_getElem? (i := 52) rfl)) rfl
theorem lv_X10_find_i : Cond.instanceMethod yX10_find ∈ mTB := mTB_of (sg9 (List.mem_of_getElem? (i := 54) rfl)) rfl
theorem lo_X10_find : Cond.code yX10_find cX10_find 8 (some .long) ∈ mTB := mTB_of (sg9 (List.mem_of_getElem? (i := 55) rfl)) rfl
theorem lcX10_162 : Cond.constant RX10 162 (100000 : Int32) ∈ mTB := mTB_of (sg9 (List.mem_of_getElem? (i := 56) rfl)) rfl
theorem lcX10_163 : Cond.constantLong RX10 163 (-3 : Int64) ∈ mTB := mTB_of (sg9 (List.mem_of_getElem? (i := 57) rfl)) rfl
theorem lmX10_171 : Cond.methodLink RX10 171 yX6_shareNone ∈ mTB := mTB_of (sg9 (List.mem_of_getElem? (i := 58) rfl)) rfl
theorem lv_X6_shareNone_i : Cond.instanceMethod yX6_shareNone ∈ mTB := mTB_of (sg9 (List.mem_of_getElem? (i := 59) rfl)) rfl
theorem ls_X6_shareNone : Cond.selects yX6_shareNone.cls yX6_shareNone yX6_shareNone ∈ mTB := mTB_of (sg9 (List.mem_of_getElem? (i := 60) rfl)) rfl
theorem lo_X6_shareNone : Cond.code yX6_shareNone cX6_shareNone 2 none ∈ mTB := mTB_of (sg9 (List.mem_of_getElem? (i := 61) rfl)) rfl
theorem lmX10_174 : Cond.methodLink RX10 174 yX10_searchWay ∈ mTB := mTB_of (sg9 (List.mem_of_getElem? (i := 62) rfl)) rfl
theorem lv_X10_searchWay_i : Cond.instanceMethod yX10_searchWay ∈ mTB := mTB_of (sg9 (List.mem_of_getElem? (i := 64) rfl)) rfl
theorem lo_X10_searchWay : Cond.code yX10_searchWay cX10_searchWay 5 (some .long) ∈ mTB := mTB_of (sg9 (List.mem_of_getElem? (i := 65) rfl)) rfl
theorem lmX10_180 : Cond.methodLink RX10 180 yX6_closeLabels ∈ mTB := mTB_of (sg9 (List.mem_of_getElem? (i := 66) rfl)) rfl
theorem lv_X6_closeLabels_i : Cond.instanceMethod yX6_closeLabels ∈ mTB := mTB_of (sg9 (List.mem_of_getElem? (i := 67) rfl)) rfl
theorem ls_X6_closeLabels : Cond.selects yX6_closeLabels.cls yX6_closeLabels yX6_closeLabels ∈ mTB := mTB_of (sg9 (List.mem_of_getElem? (i := 68) rfl)) rfl
theorem lo_X6_closeLabels : Cond.code yX6_closeLabels cX6_closeLabels 9 (some .int) ∈ mTB := mTB_of (sg9 (List.mem_of_getElem? (i := 69) rfl)) rfl
theorem lmX6_43 : Cond.methodLink RX6 43 yX6_makeRoom ∈ mTB := mTB_of (sg9 (List.mem_of_getElem? (i := 70) rfl)) rfl
theorem lv_X6_makeRoom_i : Cond.instanceMethod yX6_makeRoom ∈ mTB := mTB_of (sg9 (List.mem_of_getElem? (i := 72) rfl)) rfl
theorem lo_X6_makeRoom : Cond.code yX6_makeRoom cX6_makeRoom 3 none ∈ mTB := mTB_of (sg9 (List.mem_of_getElem? (i := 73) rfl)) rfl
theorem lmX6_47 : Cond.methodLink RX6 47 yJ7_fill_fda19 ∈ mTB := mTB_of (sg9 (List.mem_of_getElem? (i := 74) rfl)) rfl
theorem lmX6_53 : Cond.methodLink RX6 53 yX10_price ∈ mTB := mTB_of (sg9 (List.mem_of_getElem? (i := 75) rfl)) rfl
theorem lv_X10_price_i : Cond.instanceMethod yX10_price ∈ mTB := mTB_of (sg9 (List.mem_of_getElem? (i := 76) rfl)) rfl
theorem ls_X10_price : Cond.selects yX10_price.cls yX10_price yX10_price ∈ mTB := mTB_of (sg9 (List.mem_of_getElem? (i := 77) rfl)) rfl
theorem lo_X10_price : Cond.code yX10_price cX10_price 5 (some .long) ∈ mTB := mTB_of (sg9 (List.mem_of_getElem? (i := 78) rfl)) rfl
theorem lcX10_157 : Cond.constantLong RX10 157 (60 : Int64) ∈ mTB := mTB_of (sg9 (List.mem_of_getElem? (i := 79) rfl)) rfl
theorem lmX10_159 : Cond.methodLink RX10 159 yX10_aimValue ∈ mTB := mTB_of (sg9 (List.mem_of_getElem? (i := 80) rfl)) rfl
theorem lv_X10_aimValue_i : Cond.instanceMethod yX10_aimValue ∈ mTB := mTB_of (sg9 (List.mem_of_getElem? (i := 82) rfl)) rfl
theorem lo_X10_aimValue : Cond.code yX10_aimValue cX10_aimValue 6 (some .long) ∈ mTB := mTB_of (sg9 (List.mem_of_getElem? (i := 83) rfl)) rfl
theorem lcX6_59 : Cond.constantLong RX6 59 (-60 : Int64) ∈ mTB := mTB_of (sg9 (List.mem_of_getElem? (i := 84) rfl)) rfl
theorem lmX6_65 : Cond.methodLink RX6 65 yX6_label ∈ mTB := mTB_of (sg9 (List.mem_of_getElem? (i := 85) rfl)) rfl
theorem lv_X6_label_i : Cond.instanceMethod yX6_label ∈ mTB := mTB_of (sg9 (List.mem_of_getElem? (i := 87) rfl)) rfl
theorem lo_X6_label : Cond.code yX6_label cX6_label 5 (some .int) ∈ mTB := mTB_of (sg9 (List.mem_of_getElem? (i := 88) rfl)) rfl
theorem lmX6_69 : Cond.methodLink RX6 69 yX6_offer ∈ mTB := mTB_of (sg9 (List.mem_of_getElem? (i := 89) rfl)) rfl
theorem lv_X6_offer_i : Cond.instanceMethod yX6_offer ∈ mTB := mTB_of (sg9 (List.mem_of_getElem? (i := 91) rfl)) rfl
theorem lo_X6_offer : Cond.code yX6_offer cX6_offer 7 none ∈ mTB := mTB_of (sg9 (List.mem_of_getElem? (i := 92) rfl)) rfl
theorem lmX6_86 : Cond.methodLink RX6 86 yX6_before ∈ mTB := mTB_of (sg9 (List.mem_of_getElem? (i := 93) rfl)) rfl
theorem lv_X6_before_i : Cond.instanceMethod yX6_before ∈ mTB := mTB_of (sg9 (List.mem_of_getElem? (i := 95) rfl)) rfl
theorem lo_X6_before : Cond.code yX6_before cX6_before 3 (some .boolean) ∈ mTB := mTB_of (sg9 (List.mem_of_getElem? (i := 96) rfl)) rfl
theorem lmX6_76 : Cond.methodLink RX6 76 yX6_closeFirst ∈ mTB := mTB_of (sg9 (List.mem_of_getElem? (i := 97) rfl)) rfl
theorem lv_X6_closeFirst_i : Cond.instanceMethod yX6_closeFirst ∈ mTB := mTB_of (sg9 (List.mem_of_getElem? (i := 99) rfl)) rfl
theorem lo_X6_closeFirst : Cond.code yX6_closeFirst cX6_closeFirst 2 (some .int) ∈ mTB := mTB_of (sg9 (List.mem_of_getElem? (i := 100) rfl)) rfl
theorem lmX6_83 : Cond.methodLink RX6 83 yX6_sink ∈ mTB := mTB_of (sg9 (List.mem_of_getElem? (i := 101) rfl)) rfl
theorem lv_X6_sink_i : Cond.instanceMethod yX6_sink ∈ mTB := mTB_of (sg9 (List.mem_of_getElem? (i := 103) rfl)) rfl
theorem lo_X6_sink : Cond.code yX6_sink cX6_sink 4 none ∈ mTB := mTB_of (sg9 (List.mem_of_getElem? (i := 104) rfl)) rfl
theorem lmX6_80 : Cond.methodLink RX6 80 yX6_offerBefore ∈ mTB := mTB_of (sg9 (List.mem_of_getElem? (i := 105) rfl)) rfl
theorem lv_X6_offerBefore_i : Cond.instanceMethod yX6_offerBefore ∈ mTB := mTB_of (sg9 (List.mem_of_getElem? (i := 107) rfl)) rfl
theorem lo_X6_offerBefore : Cond.code yX6_offerBefore cX6_offerBefore 17 none ∈ mTB := mTB_of (sg9 (List.mem_of_getElem? (i := 108) rfl)) rfl
theorem lmX6_90 : Cond.methodLink RX6 90 yX10_cellAt ∈ mTB := mTB_of (sg9 (List.mem_of_getElem? (i := 109) rfl)) rfl
theorem lv_X10_cellAt_s : Cond.static yX10_cellAt ∈ mTB := mTB_of (sg9 (List.mem_of_getElem? (i := 110) rfl)) rfl
theorem lo_X10_cellAt : Cond.code yX10_cellAt cX10_cellAt 5 (some .int) ∈ mTB := mTB_of (sg9 (List.mem_of_getElem? (i := 111) rfl)) rfl
theorem lmX6_94 : Cond.methodLink RX6 94 yX10_passable ∈ mTB := mTB_of (sg9 (List.mem_of_getElem? (i := 112) rfl)) rfl
theorem lmX6_98 : Cond.methodLink RX6 98 yX10_slopeKept ∈ mTB := mTB_of (sg9 (List.mem_of_getElem? (i := 113) rfl)) rfl
theorem lmX6_101 : Cond.methodLink RX6 101 yX10_bridged ∈ mTB := mTB_of (sg9 (List.mem_of_getElem? (i := 114) rfl)) rfl
theorem lmX6_107 : Cond.methodLink RX6 107 yJ9_max_7cf53 ∈ mTB := mTB_of (sg9 (List.mem_of_getElem? (i := 115) rfl)) rfl
theorem lmX6_113 : Cond.methodLink RX6 113 yJ9_min_7cf53 ∈ mTB := mTB_of (sg9 (List.mem_of_getElem? (i := 116) rfl)) rfl
theorem lfX6_116 : Cond.fieldLink RX6 116 "RoadHouse$Way" "LENGTH" "[I" ∈ mTB := mTB_of (sg9 (List.mem_of_getElem? (i := 117) rfl)) rfl
theorem lmX6_119 : Cond.methodLink RX6 119 yX10_turnKept ∈ mTB := mTB_of (sg9 (List.mem_of_getElem? (i := 118) rfl)) rfl
theorem lcX6_123 : Cond.constantLong RX6 123 (1048576 : Int64) ∈ mTB := mTB_of (sg9 (List.mem_of_getElem? (i := 119) rfl)) rfl
theorem lmX10_187 : Cond.methodLink RX10 187 yX6_cellsFrom ∈ mTB := mTB_of (sg9 (List.mem_of_getElem? (i := 120) rfl)) rfl
theorem lv_X6_cellsFrom_i : Cond.instanceMethod yX6_cellsFrom ∈ mTB := mTB_of (sg9 (List.mem_of_getElem? (i := 121) rfl)) rfl
theorem ls_X6_cellsFrom : Cond.selects yX6_cellsFrom.cls yX6_cellsFrom yX6_cellsFrom ∈ mTB := mTB_of (sg9 (List.mem_of_getElem? (i := 122) rfl)) rfl
theorem lo_X6_cellsFrom : Cond.code yX6_cellsFrom cX6_cellsFrom 6 (some (.array .int)) ∈ mTB := mTB_of (sg9 (List.mem_of_getElem? (i := 123) rfl)) rfl
theorem lmX6_125 : Cond.methodLink RX6 125 yX6_nextOf ∈ mTB := mTB_of (sg9 (List.mem_of_getElem? (i := 124) rfl)) rfl
theorem lv_X6_nextOf_i : Cond.instanceMethod yX6_nextOf ∈ mTB := mTB_of (sg9 (List.mem_of_getElem? (i := 126) rfl)) rfl
theorem lo_X6_nextOf : Cond.code yX6_nextOf cX6_nextOf 14 (some .int) ∈ mTB := mTB_of (sg9 (List.mem_of_getElem? (i := 127) rfl)) rfl
theorem lmX10_93 : Cond.methodLink RX10 93 yX10_placeOf ∈ mTB := mTB_of (sg9 (List.mem_of_getElem? (i := 128) rfl)) rfl
theorem lv_X10_placeOf_i : Cond.instanceMethod yX10_placeOf ∈ mTB := mTB_of (sg9 (List.mem_of_getElem? (i := 130) rfl)) rfl
theorem lo_X10_placeOf : Cond.code yX10_placeOf cX10_placeOf 4 (some .long) ∈ mTB := mTB_of (sg9 (List.mem_of_getElem? (i := 131) rfl)) rfl
theorem lcX10_211 : Cond.constantLong RX10 211 (16 : Int64) ∈ mTB := mTB_of (sg9 (List.mem_of_getElem? (i := 132) rfl)) rfl
theorem lmX10_97 : Cond.methodLink RX10 97 yX10_costPart ∈ mTB := mTB_of (sg9 (List.mem_of_getElem? (i := 133) rfl)) rfl
theorem lv_X10_costPart_i : Cond.instanceMethod yX10_costPart ∈ mTB := mTB_of (sg9 (List.mem_of_getElem? (i := 135) rfl)) rfl
theorem lo_X10_costPart : Cond.code yX10_costPart cX10_costPart 4 (some .long) ∈ mTB := mTB_of (sg9 (List.mem_of_getElem? (i := 136) rfl)) rfl
theorem lmX10_216 : Cond.methodLink RX10 216 yX10_costOf ∈ mTB := mTB_of (sg9 (List.mem_of_getElem? (i := 137) rfl)) rfl
theorem lv_X10_costOf_i : Cond.instanceMethod yX10_costOf ∈ mTB := mTB_of (sg9 (List.mem_of_getElem? (i := 139) rfl)) rfl
theorem lo_X10_costOf : Cond.code yX10_costOf cX10_costOf 5 (some .long) ∈ mTB := mTB_of (sg9 (List.mem_of_getElem? (i := 140) rfl)) rfl
theorem lmX10_213 : Cond.methodLink RX10 213 yX10_price ∈ mTB := mTB_of (sg9 (List.mem_of_getElem? (i := 141) rfl)) rfl
theorem lmX10_105 : Cond.methodLink RX10 105 yX10_findUnlike ∈ mTB := mTB_of (sg9 (List.mem_of_getElem? (i := 143) rfl)) rfl
theorem lv_X10_findUnlike_i : Cond.instanceMethod yX10_findUnlike ∈ mTB := mTB_of (sg9 (List.mem_of_getElem? (i := 145) rfl)) rfl
theorem lo_X10_findUnlike : Cond.code yX10_findUnlike cX10_findUnlike 9 (some .long) ∈ mTB := mTB_of (sg9 (List.mem_of_getElem? (i := 146) rfl)) rfl
theorem lmX10_108 : Cond.methodLink RX10 108 yX10_spanOf ∈ mTB := mTB_of (sg9 (List.mem_of_getElem? (i := 147) rfl)) rfl
theorem lv_X10_spanOf_i : Cond.instanceMethod yX10_spanOf ∈ mTB := mTB_of (sg9 (List.mem_of_getElem? (i := 149) rfl)) rfl
theorem lo_X10_spanOf : Cond.code yX10_spanOf cX10_spanOf 26 (some .long) ∈ mTB := mTB_of (sg9 (List.mem_of_getElem? (i := 150) rfl)) rfl
theorem lmX10_224 : Cond.methodLink RX10 224 yX10_aimOf ∈ mTB := mTB_of (sg9 (List.mem_of_getElem? (i := 151) rfl)) rfl
theorem lv_X10_aimOf_i : Cond.instanceMethod yX10_aimOf ∈ mTB := mTB_of (sg9 (List.mem_of_getElem? (i := 153) rfl)) rfl
theorem lo_X10_aimOf : Cond.code yX10_aimOf cX10_aimOf 6 (some .long) ∈ mTB := mTB_of (sg9 (List.mem_of_getElem? (i := 154) rfl)) rfl
theorem lmX10_112 : Cond.methodLink RX10 112 yX10_setBridge ∈ mTB := mTB_of (sg9 (List.mem_of_getElem? (i := 155) rfl)) rfl
theorem lv_X10_setBridge_i : Cond.instanceMethod yX10_setBridge ∈ mTB := mTB_of (sg9 (List.mem_of_getElem? (i := 157) rfl)) rfl
theorem lo_X10_setBridge : Cond.code yX10_setBridge cX10_setBridge 5 (some .boolean) ∈ mTB := mTB_of (sg9 (List.mem_of_getElem? (i := 158) rfl)) rfl
theorem lmX10_115 : Cond.methodLink RX10 115 yX10_mark ∈ mTB := mTB_of (sg9 (List.mem_of_getElem? (i := 159) rfl)) rfl
theorem lv_X10_mark_i : Cond.instanceMethod yX10_mark ∈ mTB := mTB_of (sg9 (List.mem_of_getElem? (i := 161) rfl)) rfl
theorem lo_X10_mark : Cond.code yX10_mark cX10_mark 8 (some .long) ∈ mTB := mTB_of (sg9 (List.mem_of_getElem? (i := 162) rfl)) rfl
theorem lmX10_119 : Cond.methodLink RX10 119 yX10_setZone ∈ mTB := mTB_of (sg9 (List.mem_of_getElem? (i := 163) rfl)) rfl
theorem lv_X10_setZone_i : Cond.instanceMethod yX10_setZone ∈ mTB := mTB_of (sg9 (List.mem_of_getElem? (i := 165) rfl)) rfl
theorem lo_X10_setZone : Cond.code yX10_setZone cX10_setZone 5 (some .long) ∈ mTB := mTB_of (sg9 (List.mem_of_getElem? (i := 166) rfl)) rfl
theorem lmX10_122 : Cond.methodLink RX10 122 yX10_zoneSum ∈ mTB := mTB_of (sg9 (List.mem_of_getElem? (i := 167) rfl)) rfl
theorem lv_X10_zoneSum_i : Cond.instanceMethod yX10_zoneSum ∈ mTB := mTB_of (sg9 (List.mem_of_getElem? (i := 169) rfl)) rfl
theorem lo_X10_zoneSum : Cond.code yX10_zoneSum cX10_zoneSum 8 (some .long) ∈ mTB := mTB_of (sg9 (List.mem_of_getElem? (i := 170) rfl)) rfl
theorem lmX10_125 : Cond.methodLink RX10 125 yX10_turnsOf ∈ mTB := mTB_of (sg9 (List.mem_of_getElem? (i := 171) rfl)) rfl
theorem lv_X10_turnsOf_i : Cond.instanceMethod yX10_turnsOf ∈ mTB := mTB_of (sg9 (List.mem_of_getElem? (i := 173) rfl)) rfl
theorem lo_X10_turnsOf : Cond.code yX10_turnsOf cX10_turnsOf 4 (some .long) ∈ mTB := mTB_of (sg9 (List.mem_of_getElem? (i := 174) rfl)) rfl
theorem lmX10_129 : Cond.methodLink RX10 129 yX10_keeps ∈ mTB := mTB_of (sg9 (List.mem_of_getElem? (i := 175) rfl)) rfl
theorem lcX10_133 : Cond.constantLong RX10 133 (-9000000000000000000 : Int64) ∈ mTB := mTB_of (sg9 (List.mem_of_getElem? (i := 176) rfl)) rfl
theorem lmX11_75 : Cond.methodLink RX11 75 yX4_answer ∈ mTB := mTB_of (sg9 (List.mem_of_getElem? (i := 177) rfl)) rfl
theorem lv_X4_answer_i : Cond.instanceMethod yX4_answer ∈ mTB := mTB_of (sg9 (List.mem_of_getElem? (i := 178) rfl)) rfl
theorem ls_X4_answer : Cond.selects yX4_answer.cls yX4_answer yX4_answer ∈ mTB := mTB_of (sg9 (List.mem_of_getElem? (i := 179) rfl)) rfl
theorem lo_X4_answer : Cond.code yX4_answer cX4_answer 6 (some .long) ∈ mTB := mTB_of (sg9 (List.mem_of_getElem? (i := 180) rfl)) rfl
theorem lmX4_76 : Cond.methodLink RX4 76 yX4_addCut ∈ mTB := mTB_of (sg9 (List.mem_of_getElem? (i := 181) rfl)) rfl
theorem lmX4_80 : Cond.methodLink RX4 80 yX4_addFill ∈ mTB := mTB_of (sg9 (List.mem_of_getElem? (i := 182) rfl)) rfl
theorem lmX4_84 : Cond.methodLink RX4 84 yX4_setSwell ∈ mTB := mTB_of (sg9 (List.mem_of_getElem? (i := 183) rfl)) rfl
theorem lv_X4_setSwell_i : Cond.instanceMethod yX4_setSwell ∈ mTB := mTB_of (sg9 (List.mem_of_getElem? (i := 185) rfl)) rfl
theorem lo_X4_setSwell : Cond.code yX4_setSwell cX4_setSwell 4 (some .boolean) ∈ mTB := mTB_of (sg9 (List.mem_of_getElem? (i := 186) rfl)) rfl
theorem lmX4_88 : Cond.methodLink RX4 88 yX4_setFit ∈ mTB := mTB_of (sg9 (List.mem_of_getElem? (i := 187) rfl)) rfl
theorem lv_X4_setFit_i : Cond.instanceMethod yX4_setFit ∈ mTB := mTB_of (sg9 (List.mem_of_getElem? (i := 189) rfl)) rfl
theorem lo_X4_setFit : Cond.code yX4_setFit cX4_setFit 4 (some .boolean) ∈ mTB := mTB_of (sg9 (List.mem_of_getElem? (i := 190) rfl)) rfl
theorem lmX4_92 : Cond.methodLink RX4 92 yX4_addWay ∈ mTB := mTB_of (sg9 (List.mem_of_getElem? (i := 191) rfl)) rfl
theorem lv_X4_addWay_i : Cond.instanceMethod yX4_addWay ∈ mTB := mTB_of (sg9 (List.mem_of_getElem? (i := 193) rfl)) rfl
theorem lo_X4_addWay : Cond.code yX4_addWay cX4_addWay 5 (some .long) ∈ mTB := mTB_of (sg9 (List.mem_of_getElem? (i := 194) rfl)) rfl
theorem lmX4_96 : Cond.methodLink RX4 96 yX4_barWay ∈ mTB := mTB_of (sg9 (List.mem_of_getElem? (i := 195) rfl)) rfl
theorem lv_X4_barWay_i : Cond.instanceMethod yX4_barWay ∈ mTB := mTB_of (sg9 (List.mem_of_getElem? (i := 197) rfl)) rfl
theorem lo_X4_barWay : Cond.code yX4_barWay cX4_barWay 5 (some .boolean) ∈ mTB := mTB_of (sg9 (List.mem_of_getElem? (i := 198) rfl)) rfl
theorem lmX4_99 : Cond.methodLink RX4 99 yX4_addPit ∈ mTB := mTB_of (sg9 (List.mem_of_getElem? (i := 199) rfl)) rfl
theorem lv_X4_addPit_i : Cond.instanceMethod yX4_addPit ∈ mTB := mTB_of (sg9 (List.mem_of_getElem? (i := 201) rfl)) rfl
theorem lo_X4_addPit : Cond.code yX4_addPit cX4_addPit 3 (some .long) ∈ mTB := mTB_of (sg9 (List.mem_of_getElem? (i := 202) rfl)) rfl
theorem lmX4_159 : Cond.methodLink RX4 159 yX4_pits ∈ mTB := mTB_of (sg9 (List.mem_of_getElem? (i := 203) rfl)) rfl
theorem lv_X4_pits_i : Cond.instanceMethod yX4_pits ∈ mTB := mTB_of (sg9 (List.mem_of_getElem? (i := 205) rfl)) rfl
theorem lo_X4_pits : Cond.code yX4_pits cX4_pits 1 (some .int) ∈ mTB := mTB_of (sg9 (List.mem_of_getElem? (i := 206) rfl)) rfl
theorem lmX4_103 : Cond.methodLink RX4 103 yX4_setMost ∈ mTB := mTB_of (sg9 (List.mem_of_getElem? (i := 207) rfl)) rfl
theorem lv_X4_setMost_i : Cond.instanceMethod yX4_setMost ∈ mTB := mTB_of (sg9 (List.mem_of_getElem? (i := 209) rfl)) rfl
theorem lo_X4_setMost : Cond.code yX4_setMost cX4_setMost 3 (some .boolean) ∈ mTB := mTB_of (sg9 (List.mem_of_getElem? (i := 210) rfl)) rfl
theorem lcX4_162 : Cond.constant RX4 162 (10000000 : Int32) ∈ mTB := mTB_of (sg9 (List.mem_of_getElem? (i := 211) rfl)) rfl
theorem lmX4_107 : Cond.methodLink RX4 107 yX4_run ∈ mTB := mTB_of (sg9 (List.mem_of_getElem? (i := 212) rfl)) rfl
theorem lv_X4_run_i : Cond.instanceMethod yX4_run ∈ mTB := mTB_of (sg9 (List.mem_of_getElem? (i := 214) rfl)) rfl
theorem lo_X4_run : Cond.code yX4_run cX4_run 3 (some .long) ∈ mTB := mTB_of (sg9 (List.mem_of_getElem? (i := 215) rfl)) rfl
theorem lkX4_187 : Cond.classLink RX4 187 "java/lang/IllegalStateException" ∈ mTB := mTB_of (sg9 (List.mem_of_getElem? (i := 216) rfl)) rfl
theorem lmX4_189 : Cond.methodLink RX4 189 ⟨"java/lang/IllegalStateException", "<init>", "()V"⟩ ∈ mTB := mTB_of (sg9 (List.mem_of_getElem? (i := 225) rfl)) rfl
theorem lmX4_190 : Cond.methodLink RX4 190 yX4_priceUnits ∈ mTB := mTB_of (sg9 (List.mem_of_getElem? (i := 231) rfl)) rfl
theorem lv_X4_priceUnits_i : Cond.instanceMethod yX4_priceUnits ∈ mTB := mTB_of (sg9 (List.mem_of_getElem? (i := 233) rfl)) rfl
theorem lo_X4_priceUnits : Cond.code yX4_priceUnits cX4_priceUnits 4 none ∈ mTB := mTB_of (sg9 (List.mem_of_getElem? (i := 234) rfl)) rfl
theorem lmX4_184 : Cond.methodLink RX4 184 yX4_unitCost ∈ mTB := mTB_of (sg9 (List.mem_of_getElem? (i := 235) rfl)) rfl
theorem lmX4_194 : Cond.methodLink RX4 194 yX4_weeksSuffice ∈ mTB := mTB_of (sg9 (List.mem_of_getElem? (i := 236) rfl)) rfl
theorem lv_X4_weeksSuffice_i : Cond.instanceMethod yX4_weeksSuffice ∈ mTB := mTB_of (sg9 (List.mem_of_getElem? (i := 238) rfl)) rfl
theorem lo_X4_weeksSuffice : Cond.code yX4_weeksSuffice cX4_weeksSuffice 6 (some .boolean) ∈ mTB := mTB_of (sg9 (List.mem_of_getElem? (i := 239) rfl)) rfl
theorem lmX4_197 : Cond.methodLink RX4 197 yX4_planFlow ∈ mTB := mTB_of (sg10 (List.mem_of_getElem? (i := 0) rfl)) rfl
theorem lv_X4_planFlow_i : Cond.instanceMethod yX4_planFlow ∈ mTB := mTB_of (sg10 (List.mem_of_getElem? (i := 2) rfl)) rfl
theorem lo_X4_planFlow : Cond.code yX4_planFlow cX4_planFlow 5 (some .boolean) ∈ mTB := mTB_of (sg10 (List.mem_of_getElem? (i := 3) rfl)) rfl
theorem lmX4_213 : Cond.methodLink RX4 213 yJ7_fill_d0a16 ∈ mTB := mTB_of (sg10 (List.mem_of_getElem? (i := 4) rfl)) rfl
theorem lmX4_218 : Cond.methodLink RX4 218 yX4_cheapest ∈ mTB := mTB_of (sg10 (List.mem_of_getElem? (i := 5) rfl)) rfl
theorem lv_X4_cheapest_i : Cond.instanceMethod yX4_cheapest ∈ mTB := mTB_of (sg10 (List.mem_of_getElem? (i := 7) rfl)) rfl
theorem lo_X4_cheapest : Cond.code yX4_cheapest cX4_cheapest 7 (some .boolean) ∈ mTB := mTB_of (sg10 (List.mem_of_getElem? (i := 8) rfl)) rfl
theorem lmX4_228 : Cond.methodLink RX4 228 yX4_shorten ∈ mTB := mTB_of (sg10 (List.mem_of_getElem? (i := 9) rfl)) rfl
theorem lv_X4_shorten_i : Cond.instanceMethod yX4_shorten ∈ mTB := mTB_of (sg10 (List.mem_of_getElem? (i := 11) rfl)) rfl
theorem lo_X4_shorten : Cond.code yX4_shorten cX4_shorten 5 (some .boolean) ∈ mTB := mTB_of (sg10 (List.mem_of_getElem? (i := 12) rfl)) rfl
theorem lmX4_221 : Cond.methodLink RX4 221 yX4_push ∈ mTB := mTB_of (sg10 (List.mem_of_getElem? (i := 13) rfl)) rfl
theorem lv_X4_push_i : Cond.instanceMethod yX4_push ∈ mTB := mTB_of (sg10 (List.mem_of_getElem? (i := 15) rfl)) rfl
theorem lo_X4_push : Cond.code yX4_push cX4_push 9 (some .long) ∈ mTB := mTB_of (sg10 (List.mem_of_getElem? (i := 16) rfl)) rfl
theorem lmX4_232 : Cond.methodLink RX4 232 yX4_room ∈ mTB := mTB_of (sg10 (List.mem_of_getElem? (i := 17) rfl)) rfl
theorem lv_X4_room_i : Cond.instanceMethod yX4_room ∈ mTB := mTB_of (sg10 (List.mem_of_getElem? (i := 19) rfl)) rfl
theorem lo_X4_room : Cond.code yX4_room cX4_room 3 (some .long) ∈ mTB := mTB_of (sg10 (List.mem_of_getElem? (i := 20) rfl)) rfl
theorem lmX4_235 : Cond.methodLink RX4 235 yJ9_min_f86c9 ∈ mTB := mTB_of (sg10 (List.mem_of_getElem? (i := 21) rfl)) rfl
theorem lmX4_238 : Cond.methodLink RX4 238 yX4_change ∈ mTB := mTB_of (sg10 (List.mem_of_getElem? (i := 22) rfl)) rfl
theorem lv_X4_change_i : Cond.instanceMethod yX4_change ∈ mTB := mTB_of (sg10 (List.mem_of_getElem? (i := 24) rfl)) rfl
theorem lo_X4_change : Cond.code yX4_change cX4_change 5 none ∈ mTB := mTB_of (sg10 (List.mem_of_getElem? (i := 25) rfl)) rfl
theorem lmX4_201 : Cond.methodLink RX4 201 yX4_findClashes ∈ mTB := mTB_of (sg10 (List.mem_of_getElem? (i := 26) rfl)) rfl
theorem lv_X4_findClashes_i : Cond.instanceMethod yX4_findClashes ∈ mTB := mTB_of (sg10 (List.mem_of_getElem? (i := 28) rfl)) rfl
theorem lo_X4_findClashes : Cond.code yX4_findClashes cX4_findClashes 3 none ∈ mTB := mTB_of (sg10 (List.mem_of_getElem? (i := 29) rfl)) rfl
theorem lmX4_242 : Cond.methodLink RX4 242 yX4_reaches ∈ mTB := mTB_of (sg10 (List.mem_of_getElem? (i := 30) rfl)) rfl
theorem lv_X4_reaches_i : Cond.instanceMethod yX4_reaches ∈ mTB := mTB_of (sg10 (List.mem_of_getElem? (i := 32) rfl)) rfl
theorem lo_X4_reaches : Cond.code yX4_reaches cX4_reaches 7 (some .boolean) ∈ mTB := mTB_of (sg10 (List.mem_of_getElem? (i := 33) rfl)) rfl
theorem lmX4_251 : Cond.methodLink RX4 251 yJ7_fill_53178 ∈ mTB := mTB_of (sg10 (List.mem_of_getElem? (i := 34) rfl)) rfl
theorem lmX4_245 : Cond.methodLink RX4 245 yX4_fillPipes ∈ mTB := mTB_of (sg10 (List.mem_of_getElem? (i := 35) rfl)) rfl
theorem lv_X4_fillPipes_i : Cond.instanceMethod yX4_fillPipes ∈ mTB := mTB_of (sg10 (List.mem_of_getElem? (i := 37) rfl)) rfl
theorem lo_X4_fillPipes : Cond.code yX4_fillPipes cX4_fillPipes 5 none ∈ mTB := mTB_of (sg10 (List.mem_of_getElem? (i := 38) rfl)) rfl
theorem lmX4_204 : Cond.methodLink RX4 204 yX4_preferFirst ∈ mTB := mTB_of (sg10 (List.mem_of_getElem? (i := 39) rfl)) rfl
theorem lv_X4_preferFirst_i : Cond.instanceMethod yX4_preferFirst ∈ mTB := mTB_of (sg10 (List.mem_of_getElem? (i := 41) rfl)) rfl
theorem lo_X4_preferFirst : Cond.code yX4_preferFirst cX4_preferFirst 4 none ∈ mTB := mTB_of (sg10 (List.mem_of_getElem? (i := 42) rfl)) rfl
theorem lmX4_207 : Cond.methodLink RX4 207 ⟨"java/lang/System", "arraycopy", "(Ljava/lang/Object;ILjava/lang/Object;II)V"⟩ ∈ mTB := mTB_of (sg10 (List.mem_of_getElem? (i := 43) rfl)) rfl
theorem lmX4_111 : Cond.methodLink RX4 111 yX4_movedPart ∈ mTB := mTB_of (sg10 (List.mem_of_getElem? (i := 44) rfl)) rfl
theorem lv_X4_movedPart_i : Cond.instanceMethod yX4_movedPart ∈ mTB := mTB_of (sg10 (List.mem_of_getElem? (i := 46) rfl)) rfl
theorem lo_X4_movedPart : Cond.code yX4_movedPart cX4_movedPart 4 (some .long) ∈ mTB := mTB_of (sg10 (List.mem_of_getElem? (i := 47) rfl)) rfl
theorem lmX4_114 : Cond.methodLink RX4 114 yX4_costPart ∈ mTB := mTB_of (sg10 (List.mem_of_getElem? (i := 48) rfl)) rfl
theorem lv_X4_costPart_i : Cond.instanceMethod yX4_costPart ∈ mTB := mTB_of (sg10 (List.mem_of_getElem? (i := 50) rfl)) rfl
theorem lo_X4_costPart : Cond.code yX4_costPart cX4_costPart 8 (some .long) ∈ mTB := mTB_of (sg10 (List.mem_of_getElem? (i := 51) rfl)) rfl
theorem lmX4_117 : Cond.methodLink RX4 117 yX4_dual ∈ mTB := mTB_of (sg10 (List.mem_of_getElem? (i := 52) rfl)) rfl
theorem lv_X4_dual_i : Cond.instanceMethod yX4_dual ∈ mTB := mTB_of (sg10 (List.mem_of_getElem? (i := 54) rfl)) rfl
theorem lo_X4_dual : Cond.code yX4_dual cX4_dual 5 (some .long) ∈ mTB := mTB_of (sg10 (List.mem_of_getElem? (i := 55) rfl)) rfl
theorem lmX4_257 : Cond.methodLink RX4 257 yX4_takeUpPlan ∈ mTB := mTB_of (sg10 (List.mem_of_getElem? (i := 56) rfl)) rfl
theorem lv_X4_takeUpPlan_i : Cond.instanceMethod yX4_takeUpPlan ∈ mTB := mTB_of (sg10 (List.mem_of_getElem? (i := 58) rfl)) rfl
theorem lo_X4_takeUpPlan : Cond.code yX4_takeUpPlan cX4_takeUpPlan 3 none ∈ mTB := mTB_of (sg10 (List.mem_of_getElem? (i := 59) rfl)) rfl
theorem lmX4_120 : Cond.methodLink RX4 120 yX4_clash ∈ mTB := mTB_of (sg10 (List.mem_of_getElem? (i := 60) rfl)) rfl
theorem lv_X4_clash_i : Cond.instanceMethod yX4_clash ∈ mTB := mTB_of (sg10 (List.mem_of_getElem? (i := 62) rfl)) rfl
theorem lo_X4_clash : Cond.code yX4_clash cX4_clash 4 (some .long) ∈ mTB := mTB_of (sg10 (List.mem_of_getElem? (i := 63) rfl)) rfl
theorem lmX4_123 : Cond.methodLink RX4 123 yX4_closure ∈ mTB := mTB_of (sg10 (List.mem_of_getElem? (i := 64) rfl)) rfl
theorem lv_X4_closure_i : Cond.instanceMethod yX4_closure ∈ mTB := mTB_of (sg10 (List.mem_of_getElem? (i := 66) rfl)) rfl
theorem lo_X4_closure : Cond.code yX4_closure cX4_closure 7 (some .long) ∈ mTB := mTB_of (sg10 (List.mem_of_getElem? (i := 67) rfl)) rfl
theorem lmX4_260 : Cond.methodLink RX4 260 yJ9_max_f86c9 ∈ mTB := mTB_of (sg10 (List.mem_of_getElem? (i := 68) rfl)) rfl
theorem lmX4_126 : Cond.methodLink RX4 126 yX4_listed ∈ mTB := mTB_of (sg10 (List.mem_of_getElem? (i := 69) rfl)) rfl
theorem lv_X4_listed_i : Cond.instanceMethod yX4_listed ∈ mTB := mTB_of (sg10 (List.mem_of_getElem? (i := 71) rfl)) rfl
theorem lo_X4_listed : Cond.code yX4_listed cX4_listed 7 (some .long) ∈ mTB := mTB_of (sg10 (List.mem_of_getElem? (i := 72) rfl)) rfl
theorem lmX4_129 : Cond.methodLink RX4 129 yX4_mass ∈ mTB := mTB_of (sg10 (List.mem_of_getElem? (i := 73) rfl)) rfl
theorem lv_X4_mass_i : Cond.instanceMethod yX4_mass ∈ mTB := mTB_of (sg10 (List.mem_of_getElem? (i := 75) rfl)) rfl
theorem lo_X4_mass : Cond.code yX4_mass cX4_mass 8 (some .long) ∈ mTB := mTB_of (sg10 (List.mem_of_getElem? (i := 76) rfl)) rfl
theorem lmX4_132 : Cond.methodLink RX4 132 yX4_check ∈ mTB := mTB_of (sg10 (List.mem_of_getElem? (i := 77) rfl)) rfl
theorem lmX4_136 : Cond.methodLink RX4 136 yX4_levelOf ∈ mTB := mTB_of (sg10 (List.mem_of_getElem? (i := 78) rfl)) rfl
theorem lv_X4_levelOf_i : Cond.instanceMethod yX4_levelOf ∈ mTB := mTB_of (sg10 (List.mem_of_getElem? (i := 80) rfl)) rfl
theorem lo_X4_levelOf : Cond.code yX4_levelOf cX4_levelOf 6 (some .long) ∈ mTB := mTB_of (sg10 (List.mem_of_getElem? (i := 81) rfl)) rfl
theorem lcX4_139 : Cond.constantLong RX4 139 (-9000000000000000000 : Int64) ∈ mTB := mTB_of (sg10 (List.mem_of_getElem? (i := 82) rfl)) rfl
theorem lmX11_78 : Cond.methodLink RX11 78 yX0_answer ∈ mTB := mTB_of (sg10 (List.mem_of_getElem? (i := 83) rfl)) rfl
theorem lv_X0_answer_i : Cond.instanceMethod yX0_answer ∈ mTB := mTB_of (sg10 (List.mem_of_getElem? (i := 84) rfl)) rfl
theorem ls_X0_answer : Cond.selects yX0_answer.cls yX0_answer yX0_answer ∈ mTB := mTB_of (sg10 (List.mem_of_getElem? (i := 85) rfl)) rfl
theorem lo_X0_answer : Cond.code yX0_answer cX0_answer 6 (some .long) ∈ mTB := mTB_of (sg10 (List.mem_of_getElem? (i := 86) rfl)) rfl
theorem lmX0_79 : Cond.methodLink RX0 79 yX0_collect ∈ mTB := mTB_of (sg10 (List.mem_of_getElem? (i := 87) rfl)) rfl
theorem lmX0_83 : Cond.methodLink RX0 83 yX0_read ∈ mTB := mTB_of (sg10 (List.mem_of_getElem? (i := 88) rfl)) rfl
theorem lmX0_87 : Cond.methodLink RX0 87 yX0_setMember ∈ mTB := mTB_of (sg10 (List.mem_of_getElem? (i := 89) rfl)) rfl
theorem lv_X0_setMember_i : Cond.instanceMethod yX0_setMember ∈ mTB := mTB_of (sg10 (List.mem_of_getElem? (i := 91) rfl)) rfl
theorem lo_X0_setMember : Cond.code yX0_setMember cX0_setMember 4 (some .boolean) ∈ mTB := mTB_of (sg10 (List.mem_of_getElem? (i := 92) rfl)) rfl
theorem lkX0_168 : Cond.classLink RX0 168 RJx00060 ∈ mTB := mTB_of (sg10 (List.mem_of_getElem? (i := 93) rfl)) rfl
theorem lmX0_170 : Cond.methodLink RX0 170 yJx00060_init_da8c8 ∈ mTB := mTB_of (sg10 (List.mem_of_getElem? (i := 94) rfl)) rfl
theorem lmX0_91 : Cond.methodLink RX0 91 yX0_setSupport ∈ mTB := mTB_of (sg10 (List.mem_of_getElem? (i := 101) rfl)) rfl
theorem lv_X0_setSupport_i : Cond.instanceMethod yX0_setSupport ∈ mTB := mTB_of (sg10 (List.mem_of_getElem? (i := 103) rfl)) rfl
theorem lo_X0_setSupport : Cond.code yX0_setSupport cX0_setSupport 5 (some .boolean) ∈ mTB := mTB_of (sg10 (List.mem_of_getElem? (i := 104) rfl)) rfl
theorem lmX0_95 : Cond.methodLink RX0 95 yX0_setHinge ∈ mTB := mTB_of (sg10 (List.mem_of_getElem? (i := 105) rfl)) rfl
theorem lv_X0_setHinge_i : Cond.instanceMethod yX0_setHinge ∈ mTB := mTB_of (sg10 (List.mem_of_getElem? (i := 107) rfl)) rfl
theorem lo_X0_setHinge : Cond.code yX0_setHinge cX0_setHinge 5 (some .boolean) ∈ mTB := mTB_of (sg10 (List.mem_of_getElem? (i := 108) rfl)) rfl
theorem lmX0_98 : Cond.methodLink RX0 98 yX0_solve ∈ mTB := mTB_of (sg10 (List.mem_of_getElem? (i := 109) rfl)) rfl
theorem lv_X0_solve_i : Cond.instanceMethod yX0_solve ∈ mTB := mTB_of (sg10 (List.mem_of_getElem? (i := 111) rfl)) rfl
theorem lo_X0_solve : Cond.code yX0_solve cX0_solve 3 (some .long) ∈ mTB := mTB_of (sg10 (List.mem_of_getElem? (i := 112) rfl)) rfl
theorem lmX0_174 : Cond.methodLink RX0 174 yX0_isLoose ∈ mTB := mTB_of (sg10 (List.mem_of_getElem? (i := 113) rfl)) rfl
theorem lv_X0_isLoose_i : Cond.instanceMethod yX0_isLoose ∈ mTB := mTB_of (sg10 (List.mem_of_getElem? (i := 115) rfl)) rfl
theorem lo_X0_isLoose : Cond.code yX0_isLoose cX0_isLoose 2 (some .boolean) ∈ mTB := mTB_of (sg10 (List.mem_of_getElem? (i := 116) rfl)) rfl
theorem lmX0_101 : Cond.methodLink RX0 101 yX0_looseNode ∈ mTB := mTB_of (sg10 (List.mem_of_getElem? (i := 117) rfl)) rfl
theorem lv_X0_looseNode_i : Cond.instanceMethod yX0_looseNode ∈ mTB := mTB_of (sg10 (List.mem_of_getElem? (i := 119) rfl)) rfl
theorem lo_X0_looseNode : Cond.code yX0_looseNode cX0_looseNode 4 (some .long) ∈ mTB := mTB_of (sg10 (List.mem_of_getElem? (i := 120) rfl)) rfl
theorem lcX0_177 : Cond.constantLong RX0 177 (-1 : Int64) ∈ mTB := mTB_of (sg10 (List.mem_of_getElem? (i := 121) rfl)) rfl
theorem lmX0_105 : Cond.methodLink RX0 105 yX0_tellRow ∈ mTB := mTB_of (sg10 (List.mem_of_getElem? (i := 122) rfl)) rfl
theorem lv_X0_tellRow_i : Cond.instanceMethod yX0_tellRow ∈ mTB := mTB_of (sg10 (List.mem_of_getElem? (i := 124) rfl)) rfl
theorem lo_X0_tellRow : Cond.code yX0_tellRow cX0_tellRow 5 (some .long) ∈ mTB := mTB_of (sg10 (List.mem_of_getElem? (i := 125) rfl)) rfl
theorem lmX0_109 : Cond.methodLink RX0 109 yX0_valueAt ∈ mTB := mTB_of (sg10 (List.mem_of_getElem? (i := 126) rfl)) rfl
theorem lv_X0_valueAt_i : Cond.instanceMethod yX0_valueAt ∈ mTB := mTB_of (sg10 (List.mem_of_getElem? (i := 128) rfl)) rfl
theorem lo_X0_valueAt : Cond.code yX0_valueAt cX0_valueAt 5 (some .long) ∈ mTB := mTB_of (sg10 (List.mem_of_getElem? (i := 129) rfl)) rfl
theorem lmX0_295 : Cond.methodLink RX0 295 yX0_nothing ∈ mTB := mTB_of (sg10 (List.mem_of_getElem? (i := 130) rfl)) rfl
theorem lv_X0_nothing_s : Cond.static yX0_nothing ∈ mTB := mTB_of (sg10 (List.mem_of_getElem? (i := 131) rfl)) rfl
theorem lo_X0_nothing : Cond.code yX0_nothing cX0_nothing 1 (some .long) ∈ mTB := mTB_of (sg10 (List.mem_of_getElem? (i := 132) rfl)) rfl
theorem lcX0_290 : Cond.constantLong RX0 290 (-2 : Int64) ∈ mTB := mTB_of (sg10 (List.mem_of_getElem? (i := 133) rfl)) rfl
theorem lmX0_113 : Cond.methodLink RX0 113 yX0_area ∈ mTB := mTB_of (sg10 (List.mem_of_getElem? (i := 134) rfl)) rfl
theorem lv_X0_area_i : Cond.instanceMethod yX0_area ∈ mTB := mTB_of (sg10 (List.mem_of_getElem? (i := 136) rfl)) rfl
theorem lo_X0_area : Cond.code yX0_area cX0_area 6 (some .long) ∈ mTB := mTB_of (sg10 (List.mem_of_getElem? (i := 137) rfl)) rfl
theorem lmX0_325 : Cond.methodLink RX0 325 yX0_shrinkPoints ∈ mTB := mTB_of (sg10 (List.mem_of_getElem? (i := 138) rfl)) rfl
theorem lv_X0_shrinkPoints_i : Cond.instanceMethod yX0_shrinkPoints ∈ mTB := mTB_of (sg10 (List.mem_of_getElem? (i := 140) rfl)) rfl
theorem lo_X0_shrinkPoints : Cond.code yX0_shrinkPoints cX0_shrinkPoints 2 none ∈ mTB := mTB_of (sg10 (List.mem_of_getElem? (i := 141) rfl)) rfl
theorem lmX0_337 : Cond.methodLink RX0 337 yX5_greatestCommon ∈ mTB := mTB_of (sg10 (List.mem_of_getElem? (i := 142) rfl)) rfl
theorem lmX0_341 : Cond.methodLink RX0 341 yX5_shrink ∈ mTB := mTB_of (sg10 (List.mem_of_getElem? (i := 143) rfl)) rfl
theorem lmX0_328 : Cond.methodLink RX0 328 yX5_set ∈ mTB := mTB_of (sg10 (List.mem_of_getElem? (i := 144) rfl)) rfl
theorem lv_X5_set_i : Cond.instanceMethod yX5_set ∈ mTB := mTB_of (sg10 (List.mem_of_getElem? (i := 145) rfl)) rfl
theorem ls_X5_set : Cond.selects yX5_set.cls yX5_set yX5_set ∈ mTB := mTB_of (sg10 (List.mem_of_getElem? (i := 146) rfl)) rfl
theorem lo_X5_set : Cond.code yX5_set cX5_set 5 none ∈ mTB := mTB_of (sg10 (List.mem_of_getElem? (i := 147) rfl)) rfl
theorem lmX0_331 : Cond.methodLink RX0 331 yX0_addPiece ∈ mTB := mTB_of (sg10 (List.mem_of_getElem? (i := 148) rfl)) rfl
theorem lv_X0_addPiece_i : Cond.instanceMethod yX0_addPiece ∈ mTB := mTB_of (sg10 (List.mem_of_getElem? (i := 150) rfl)) rfl
theorem lo_X0_addPiece : Cond.code yX0_addPiece cX0_addPiece 5 none ∈ mTB := mTB_of (sg10 (List.mem_of_getElem? (i := 151) rfl)) rfl
theorem lmX0_344 : Cond.methodLink RX0 344 yX5_add_ ∈ mTB := mTB_of (sg10 (List.mem_of_getElem? (i := 152) rfl)) rfl
theorem lv_X5_add__i : Cond.instanceMethod yX5_add_ ∈ mTB := mTB_of (sg10 (List.mem_of_getElem? (i := 153) rfl)) rfl
theorem ls_X5_add_ : Cond.selects yX5_add_.cls yX5_add_ yX5_add_ ∈ mTB := mTB_of (sg10 (List.mem_of_getElem? (i := 154) rfl)) rfl
theorem lo_X5_add_ : Cond.code yX5_add_ cX5_add_ 3 none ∈ mTB := mTB_of (sg10 (List.mem_of_getElem? (i := 155) rfl)) rfl
theorem lmX5_85 : Cond.methodLink RX5 85 yX1_product_ ∈ mTB := mTB_of (sg10 (List.mem_of_getElem? (i := 156) rfl)) rfl
theorem lmX5_81 : Cond.methodLink RX5 81 yX1_add ∈ mTB := mTB_of (sg10 (List.mem_of_getElem? (i := 157) rfl)) rfl
theorem lcX0_335 : Cond.constantLong RX0 335 (8 : Int64) ∈ mTB := mTB_of (sg10 (List.mem_of_getElem? (i := 158) rfl)) rfl
theorem lmX0_116 : Cond.methodLink RX0 116 yX0_turned ∈ mTB := mTB_of (sg10 (List.mem_of_getElem? (i := 159) rfl)) rfl
theorem lv_X0_turned_i : Cond.instanceMethod yX0_turned ∈ mTB := mTB_of (sg10 (List.mem_of_getElem? (i := 161) rfl)) rfl
theorem lo_X0_turned : Cond.code yX0_turned cX0_turned 4 (some .boolean) ∈ mTB := mTB_of (sg10 (List.mem_of_getElem? (i := 162) rfl)) rfl
theorem lmX0_119 : Cond.methodLink RX0 119 yX0_sumsAreOne ∈ mTB := mTB_of (sg10 (List.mem_of_getElem? (i := 163) rfl)) rfl
theorem lmX0_123 : Cond.methodLink RX0 123 yX0_settle ∈ mTB := mTB_of (sg10 (List.mem_of_getElem? (i := 164) rfl)) rfl
theorem lv_X0_settle_i : Cond.instanceMethod yX0_settle ∈ mTB := mTB_of (sg10 (List.mem_of_getElem? (i := 166) rfl)) rfl
theorem lo_X0_settle : Cond.code yX0_settle cX0_settle 3 (some .boolean) ∈ mTB := mTB_of (sg10 (List.mem_of_getElem? (i := 167) rfl)) rfl
theorem lmX0_127 : Cond.methodLink RX0 127 yX0_settledMove ∈ mTB := mTB_of (sg10 (List.mem_of_getElem? (i := 168) rfl)) rfl
theorem lv_X0_settledMove_i : Cond.instanceMethod yX0_settledMove ∈ mTB := mTB_of (sg10 (List.mem_of_getElem? (i := 170) rfl)) rfl
theorem lo_X0_settledMove : Cond.code yX0_settledMove cX0_settledMove 6 (some .long) ∈ mTB := mTB_of (sg10 (List.mem_of_getElem? (i := 171) rfl)) rfl
theorem lmX0_354 : Cond.methodLink RX0 354 yX0_moveBySettling ∈ mTB := mTB_of (sg10 (List.mem_of_getElem? (i := 172) rfl)) rfl
theorem lv_X0_moveBySettling_i : Cond.instanceMethod yX0_moveBySettling ∈ mTB := mTB_of (sg10 (List.mem_of_getElem? (i := 174) rfl)) rfl
theorem lo_X0_moveBySettling : Cond.code yX0_moveBySettling cX0_moveBySettling 6 none ∈ mTB := mTB_of (sg10 (List.mem_of_getElem? (i := 175) rfl)) rfl
theorem lmX0_357 : Cond.methodLink RX0 357 yX5_times ∈ mTB := mTB_of (sg10 (List.mem_of_getElem? (i := 176) rfl)) rfl
theorem lv_X5_times_i : Cond.instanceMethod yX5_times ∈ mTB := mTB_of (sg10 (List.mem_of_getElem? (i := 177) rfl)) rfl
theorem ls_X5_times : Cond.selects yX5_times.cls yX5_times yX5_times ∈ mTB := mTB_of (sg10 (List.mem_of_getElem? (i := 178) rfl)) rfl
theorem lo_X5_times : Cond.code yX5_times cX5_times 5 none ∈ mTB := mTB_of (sg10 (List.mem_of_getElem? (i := 179) rfl)) rfl
theorem lmX5_77 : Cond.methodLink RX5 77 yX1_product ∈ mTB := mTB_of (sg10 (List.mem_of_getElem? (i := 180) rfl)) rfl
theorem lmX0_130 : Cond.methodLink RX0 130 yX0_count ∈ mTB := mTB_of (sg10 (List.mem_of_getElem? (i := 181) rfl)) rfl
theorem lv_X0_count_i : Cond.instanceMethod yX0_count ∈ mTB := mTB_of (sg10 (List.mem_of_getElem? (i := 183) rfl)) rfl
theorem lo_X0_count : Cond.code yX0_count cX0_count 4 (some .long) ∈ mTB := mTB_of (sg10 (List.mem_of_getElem? (i := 184) rfl)) rfl
theorem lmX11_79 : Cond.methodLink RX11 79 yX9_answer ∈ mTB := mTB_of (sg10 (List.mem_of_getElem? (i := 185) rfl)) rfl
theorem lv_X9_answer_i : Cond.instanceMethod yX9_answer ∈ mTB := mTB_of (sg10 (List.mem_of_getElem? (i := 186) rfl)) rfl
theorem ls_X9_answer : Cond.selects yX9_answer.cls yX9_answer yX9_answer ∈ mTB := mTB_of (sg10 (List.mem_of_getElem? (i := 187) rfl)) rfl
theorem lo_X9_answer : Cond.code yX9_answer cX9_answer 5 (some .long) ∈ mTB := mTB_of (sg10 (List.mem_of_getElem? (i := 188) rfl)) rfl
theorem lmX9_70 : Cond.methodLink RX9 70 yX9_addCorner ∈ mTB := mTB_of (sg10 (List.mem_of_getElem? (i := 189) rfl)) rfl
theorem lmX9_74 : Cond.methodLink RX9 74 yX9_addTrain ∈ mTB := mTB_of (sg10 (List.mem_of_getElem? (i := 190) rfl)) rfl
theorem lv_X9_addTrain_i : Cond.instanceMethod yX9_addTrain ∈ mTB := mTB_of (sg10 (List.mem_of_getElem? (i := 192) rfl)) rfl
theorem lo_X9_addTrain : Cond.code yX9_addTrain cX9_addTrain 1 (some .long) ∈ mTB := mTB_of (sg10 (List.mem_of_getElem? (i := 193) rfl)) rfl
theorem lcX9_108 : Cond.constantLong RX9 108 (-1 : Int64) ∈ mTB := mTB_of (sg10 (List.mem_of_getElem? (i := 194) rfl)) rfl
theorem lmX9_78 : Cond.methodLink RX9 78 yX9_addAxle ∈ mTB := mTB_of (sg10 (List.mem_of_getElem? (i := 195) rfl)) rfl
theorem lv_X9_addAxle_i : Cond.instanceMethod yX9_addAxle ∈ mTB := mTB_of (sg10 (List.mem_of_getElem? (i := 197) rfl)) rfl
theorem lo_X9_addAxle : Cond.code yX9_addAxle cX9_addAxle 5 (some .boolean) ∈ mTB := mTB_of (sg10 (List.mem_of_getElem? (i := 198) rfl)) rfl
theorem lmX9_81 : Cond.methodLink RX9 81 yX9_setGap ∈ mTB := mTB_of (sg10 (List.mem_of_getElem? (i := 199) rfl)) rfl
theorem lv_X9_setGap_i : Cond.instanceMethod yX9_setGap ∈ mTB := mTB_of (sg10 (List.mem_of_getElem? (i := 201) rfl)) rfl
theorem lo_X9_setGap : Cond.code yX9_setGap cX9_setGap 4 (some .boolean) ∈ mTB := mTB_of (sg10 (List.mem_of_getElem? (i := 202) rfl)) rfl
theorem lmX9_84 : Cond.methodLink RX9 84 yX9_run ∈ mTB := mTB_of (sg10 (List.mem_of_getElem? (i := 203) rfl)) rfl
theorem lv_X9_run_i : Cond.instanceMethod yX9_run ∈ mTB := mTB_of (sg10 (List.mem_of_getElem? (i := 205) rfl)) rfl
theorem lo_X9_run : Cond.code yX9_run cX9_run 7 (some .long) ∈ mTB := mTB_of (sg10 (List.mem_of_getElem? (i := 206) rfl)) rfl
theorem lmX9_267 : Cond.methodLink RX9 267 yX9_worse ∈ mTB := mTB_of (sg10 (List.mem_of_getElem? (i := 207) rfl)) rfl
theorem lv_X9_worse_i : Cond.instanceMethod yX9_worse ∈ mTB := mTB_of (sg10 (List.mem_of_getElem? (i := 209) rfl)) rfl
theorem lo_X9_worse : Cond.code yX9_worse cX9_worse 1 (some .boolean) ∈ mTB := mTB_of (sg10 (List.mem_of_getElem? (i := 210) rfl)) rfl
theorem lmX9_88 : Cond.methodLink RX9 88 yX9_worst ∈ mTB := mTB_of (sg10 (List.mem_of_getElem? (i := 211) rfl)) rfl
theorem lv_X9_worst_i : Cond.instanceMethod yX9_worst ∈ mTB := mTB_of (sg10 (List.mem_of_getElem? (i := 213) rfl)) rfl
theorem lo_X9_worst : Cond.code yX9_worst cX9_worst 2 (some .long) ∈ mTB := mTB_of (sg10 (List.mem_of_getElem? (i := 214) rfl)) rfl
theorem lmX9_279 : Cond.methodLink RX9 279 yX9_nothing ∈ mTB := mTB_of (sg10 (List.mem_of_getElem? (i := 215) rfl)) rfl
theorem lv_X9_nothing_s : Cond.static yX9_nothing ∈ mTB := mTB_of (sg10 (List.mem_of_getElem? (i := 216) rfl)) rfl
theorem lo_X9_nothing : Cond.code yX9_nothing cX9_nothing 1 (some .long) ∈ mTB := mTB_of (sg10 (List.mem_of_getElem? (i := 217) rfl)) rfl
theorem lcX9_149 : Cond.constantLong RX9 149 (-2 : Int64) ∈ mTB := mTB_of (sg10 (List.mem_of_getElem? (i := 218) rfl)) rfl
theorem lmX9_92 : Cond.methodLink RX9 92 yX9_placePart ∈ mTB := mTB_of (sg10 (List.mem_of_getElem? (i := 219) rfl)) rfl
theorem lv_X9_placePart_i : Cond.instanceMethod yX9_placePart ∈ mTB := mTB_of (sg10 (List.mem_of_getElem? (i := 221) rfl)) rfl
theorem lo_X9_placePart : Cond.code yX9_placePart cX9_placePart 2 (some .long) ∈ mTB := mTB_of (sg10 (List.mem_of_getElem? (i := 222) rfl)) rfl
theorem lmX9_95 : Cond.methodLink RX9 95 yX9_addLane ∈ mTB := mTB_of (sg10 (List.mem_of_getElem? (i := 223) rfl)) rfl
theorem lv_X9_addLane_i : Cond.instanceMethod yX9_addLane ∈ mTB := mTB_of (sg10 (List.mem_of_getElem? (i := 225) rfl)) rfl
theorem lo_X9_addLane : Cond.code yX9_addLane cX9_addLane 3 (some .long) ∈ mTB := mTB_of (sg10 (List.mem_of_getElem? (i := 226) rfl)) rfl
theorem lmX9_99 : Cond.methodLink RX9 99 yX9_worstOnLanes ∈ mTB := mTB_of (sg10 (List.mem_of_getElem? (i := 227) rfl)) rfl
theorem lv_X9_worstOnLanes_i : Cond.instanceMethod yX9_worstOnLanes ∈ mTB := mTB_of (sg10 (List.mem_of_getElem? (i := 229) rfl)) rfl
theorem lo_X9_worstOnLanes : Cond.code yX9_worstOnLanes cX9_worstOnLanes 3 (some .long) ∈ mTB := mTB_of (sg10 (List.mem_of_getElem? (i := 230) rfl)) rfl
theorem lmX9_285 : Cond.methodLink RX9 285 yX9_laneSum ∈ mTB := mTB_of (sg10 (List.mem_of_getElem? (i := 231) rfl)) rfl
theorem lv_X9_laneSum_i : Cond.instanceMethod yX9_laneSum ∈ mTB := mTB_of (sg10 (List.mem_of_getElem? (i := 233) rfl)) rfl
theorem lo_X9_laneSum : Cond.code yX9_laneSum cX9_laneSum 8 (some .long) ∈ mTB := mTB_of (sg10 (List.mem_of_getElem? (i := 234) rfl)) rfl
theorem lmX9_102 : Cond.methodLink RX9 102 yX9_patch ∈ mTB := mTB_of (sg10 (List.mem_of_getElem? (i := 235) rfl)) rfl
theorem lv_X9_patch_i : Cond.instanceMethod yX9_patch ∈ mTB := mTB_of (sg10 (List.mem_of_getElem? (i := 237) rfl)) rfl
theorem lo_X9_patch : Cond.code yX9_patch cX9_patch 3 (some .long) ∈ mTB := mTB_of (sg10 (List.mem_of_getElem? (i := 238) rfl)) rfl
theorem lmX9_288 : Cond.methodLink RX9 288 yX9_prepareArea ∈ mTB := mTB_of (sg10 (List.mem_of_getElem? (i := 239) rfl)) rfl
theorem lv_X9_prepareArea_i : Cond.instanceMethod yX9_prepareArea ∈ mTB := mTB_of (sg11 (List.mem_of_getElem? (i := 1) rfl)) rfl
theorem lo_X9_prepareArea : Cond.code yX9_prepareArea cX9_prepareArea 2 none ∈ mTB := mTB_of (sg11 (List.mem_of_getElem? (i := 2) rfl)) rfl
theorem lmX9_217 : Cond.methodLink RX9 217 yX5_set ∈ mTB := mTB_of (sg11 (List.mem_of_getElem? (i := 3) rfl)) rfl
theorem lmX9_220 : Cond.methodLink RX9 220 yX9_addPiece ∈ mTB := mTB_of (sg11 (List.mem_of_getElem? (i := 4) rfl)) rfl
theorem lv_X9_addPiece_i : Cond.instanceMethod yX9_addPiece ∈ mTB := mTB_of (sg11 (List.mem_of_getElem? (i := 6) rfl)) rfl
theorem lo_X9_addPiece : Cond.code yX9_addPiece cX9_addPiece 10 none ∈ mTB := mTB_of (sg11 (List.mem_of_getElem? (i := 7) rfl)) rfl
theorem lcX9_234 : Cond.constantLong RX9 234 (2 : Int64) ∈ mTB := mTB_of (sg11 (List.mem_of_getElem? (i := 8) rfl)) rfl
theorem lmX9_236 : Cond.methodLink RX9 236 yX5_add ∈ mTB := mTB_of (sg11 (List.mem_of_getElem? (i := 9) rfl)) rfl
theorem lv_X5_add_i : Cond.instanceMethod yX5_add ∈ mTB := mTB_of (sg11 (List.mem_of_getElem? (i := 10) rfl)) rfl
theorem ls_X5_add : Cond.selects yX5_add.cls yX5_add yX5_add ∈ mTB := mTB_of (sg11 (List.mem_of_getElem? (i := 11) rfl)) rfl
theorem lo_X5_add : Cond.code yX5_add cX5_add 5 none ∈ mTB := mTB_of (sg11 (List.mem_of_getElem? (i := 12) rfl)) rfl
theorem lmX9_105 : Cond.methodLink RX9 105 yX9_stretch ∈ mTB := mTB_of (sg11 (List.mem_of_getElem? (i := 13) rfl)) rfl
theorem lv_X9_stretch_i : Cond.instanceMethod yX9_stretch ∈ mTB := mTB_of (sg11 (List.mem_of_getElem? (i := 15) rfl)) rfl
theorem lo_X9_stretch : Cond.code yX9_stretch cX9_stretch 7 (some .long) ∈ mTB := mTB_of (sg11 (List.mem_of_getElem? (i := 16) rfl)) rfl
theorem lmX9_291 : Cond.methodLink RX9 291 yX9_crossing ∈ mTB := mTB_of (sg11 (List.mem_of_getElem? (i := 17) rfl)) rfl
theorem lv_X9_crossing_i : Cond.instanceMethod yX9_crossing ∈ mTB := mTB_of (sg11 (List.mem_of_getElem? (i := 19) rfl)) rfl
theorem lo_X9_crossing : Cond.code yX9_crossing cX9_crossing 7 (some .int) ∈ mTB := mTB_of (sg11 (List.mem_of_getElem? (i := 20) rfl)) rfl
theorem lmX9_110 : Cond.methodLink RX9 110 yX9_collect ∈ mTB := mTB_of (sg11 (List.mem_of_getElem? (i := 21) rfl)) rfl
theorem lv_X9_collect_i : Cond.instanceMethod yX9_collect ∈ mTB := mTB_of (sg11 (List.mem_of_getElem? (i := 23) rfl)) rfl
theorem lo_X9_collect : Cond.code yX9_collect cX9_collect 2 (some .boolean) ∈ mTB := mTB_of (sg11 (List.mem_of_getElem? (i := 24) rfl)) rfl
theorem lmX9_114 : Cond.methodLink RX9 114 yX9_readCases ∈ mTB := mTB_of (sg11 (List.mem_of_getElem? (i := 25) rfl)) rfl
theorem lv_X9_readCases_i : Cond.instanceMethod yX9_readCases ∈ mTB := mTB_of (sg11 (List.mem_of_getElem? (i := 27) rfl)) rfl
theorem lo_X9_readCases : Cond.code yX9_readCases cX9_readCases 2 (some .long) ∈ mTB := mTB_of (sg11 (List.mem_of_getElem? (i := 28) rfl)) rfl
theorem lmX9_297 : Cond.methodLink RX9 297 yX9_wrongSign ∈ mTB := mTB_of (sg11 (List.mem_of_getElem? (i := 29) rfl)) rfl
theorem lv_X9_wrongSign_i : Cond.instanceMethod yX9_wrongSign ∈ mTB := mTB_of (sg11 (List.mem_of_getElem? (i := 31) rfl)) rfl
theorem lo_X9_wrongSign : Cond.code yX9_wrongSign cX9_wrongSign 7 (some .int) ∈ mTB := mTB_of (sg11 (List.mem_of_getElem? (i := 32) rfl)) rfl
theorem lmX9_304 : Cond.methodLink RX9 304 yX9_signAt ∈ mTB := mTB_of (sg11 (List.mem_of_getElem? (i := 33) rfl)) rfl
theorem lv_X9_signAt_i : Cond.instanceMethod yX9_signAt ∈ mTB := mTB_of (sg11 (List.mem_of_getElem? (i := 35) rfl)) rfl
theorem lo_X9_signAt : Cond.code yX9_signAt cX9_signAt 2 (some .char) ∈ mTB := mTB_of (sg11 (List.mem_of_getElem? (i := 36) rfl)) rfl
theorem lmX9_308 : Cond.methodLink RX9 308 yX9_isDigit ∈ mTB := mTB_of (sg11 (List.mem_of_getElem? (i := 37) rfl)) rfl
theorem lv_X9_isDigit_s : Cond.static yX9_isDigit ∈ mTB := mTB_of (sg11 (List.mem_of_getElem? (i := 38) rfl)) rfl
theorem lo_X9_isDigit : Cond.code yX9_isDigit cX9_isDigit 1 (some .boolean) ∈ mTB := mTB_of (sg11 (List.mem_of_getElem? (i := 39) rfl)) rfl
theorem lmX9_301 : Cond.methodLink RX9 301 yX9_takeCases ∈ mTB := mTB_of (sg11 (List.mem_of_getElem? (i := 40) rfl)) rfl
theorem lv_X9_takeCases_i : Cond.instanceMethod yX9_takeCases ∈ mTB := mTB_of (sg11 (List.mem_of_getElem? (i := 42) rfl)) rfl
theorem lo_X9_takeCases : Cond.code yX9_takeCases cX9_takeCases 5 none ∈ mTB := mTB_of (sg11 (List.mem_of_getElem? (i := 43) rfl)) rfl
theorem lmX9_121 : Cond.methodLink RX9 121 yX9_caseOf ∈ mTB := mTB_of (sg11 (List.mem_of_getElem? (i := 44) rfl)) rfl
theorem lv_X9_caseOf_i : Cond.instanceMethod yX9_caseOf ∈ mTB := mTB_of (sg11 (List.mem_of_getElem? (i := 46) rfl)) rfl
theorem lo_X9_caseOf : Cond.code yX9_caseOf cX9_caseOf 3 (some .long) ∈ mTB := mTB_of (sg11 (List.mem_of_getElem? (i := 47) rfl)) rfl
theorem lmX9_317 : Cond.methodLink RX9 317 yX9_caseNumber ∈ mTB := mTB_of (sg11 (List.mem_of_getElem? (i := 48) rfl)) rfl
theorem lv_X9_caseNumber_i : Cond.instanceMethod yX9_caseNumber ∈ mTB := mTB_of (sg11 (List.mem_of_getElem? (i := 50) rfl)) rfl
theorem lo_X9_caseNumber : Cond.code yX9_caseNumber cX9_caseNumber 7 none ∈ mTB := mTB_of (sg11 (List.mem_of_getElem? (i := 51) rfl)) rfl
theorem lmX9_312 : Cond.methodLink RX9 312 yX1_product_ ∈ mTB := mTB_of (sg11 (List.mem_of_getElem? (i := 52) rfl)) rfl
theorem lmX9_321 : Cond.methodLink RX9 321 yX9_caseDivisor ∈ mTB := mTB_of (sg11 (List.mem_of_getElem? (i := 53) rfl)) rfl
theorem lv_X9_caseDivisor_i : Cond.instanceMethod yX9_caseDivisor ∈ mTB := mTB_of (sg11 (List.mem_of_getElem? (i := 55) rfl)) rfl
theorem lo_X9_caseDivisor : Cond.code yX9_caseDivisor cX9_caseDivisor 2 none ∈ mTB := mTB_of (sg11 (List.mem_of_getElem? (i := 56) rfl)) rfl
theorem lcX9_315 : Cond.constantLong RX9 315 (100 : Int64) ∈ mTB := mTB_of (sg11 (List.mem_of_getElem? (i := 57) rfl)) rfl
theorem lmX9_124 : Cond.methodLink RX9 124 yX9_caseByRank ∈ mTB := mTB_of (sg11 (List.mem_of_getElem? (i := 58) rfl)) rfl
theorem lv_X9_caseByRank_i : Cond.instanceMethod yX9_caseByRank ∈ mTB := mTB_of (sg11 (List.mem_of_getElem? (i := 60) rfl)) rfl
theorem lo_X9_caseByRank : Cond.code yX9_caseByRank cX9_caseByRank 6 (some .long) ∈ mTB := mTB_of (sg11 (List.mem_of_getElem? (i := 61) rfl)) rfl
theorem lmX9_127 : Cond.methodLink RX9 127 yX9_between ∈ mTB := mTB_of (sg11 (List.mem_of_getElem? (i := 62) rfl)) rfl
theorem lv_X9_between_i : Cond.instanceMethod yX9_between ∈ mTB := mTB_of (sg11 (List.mem_of_getElem? (i := 64) rfl)) rfl
theorem lo_X9_between : Cond.code yX9_between cX9_between 9 (some .long) ∈ mTB := mTB_of (sg11 (List.mem_of_getElem? (i := 65) rfl)) rfl
theorem lmX9_270 : Cond.methodLink RX9 270 ⟨"java/lang/System", "arraycopy", "(Ljava/lang/Object;ILjava/lang/Object;II)V"⟩ ∈ mTB := mTB_of (sg11 (List.mem_of_getElem? (i := 66) rfl)) rfl
theorem lmX9_276 : Cond.methodLink RX9 276 yX9_listGaps ∈ mTB := mTB_of (sg11 (List.mem_of_getElem? (i := 67) rfl)) rfl
theorem lv_X9_listGaps_i : Cond.instanceMethod yX9_listGaps ∈ mTB := mTB_of (sg11 (List.mem_of_getElem? (i := 69) rfl)) rfl
theorem lo_X9_listGaps : Cond.code yX9_listGaps cX9_listGaps 9 (some .int) ∈ mTB := mTB_of (sg11 (List.mem_of_getElem? (i := 70) rfl)) rfl
theorem lmX9_130 : Cond.methodLink RX9 130 yX9_fatigue ∈ mTB := mTB_of (sg11 (List.mem_of_getElem? (i := 71) rfl)) rfl
theorem lv_X9_fatigue_i : Cond.instanceMethod yX9_fatigue ∈ mTB := mTB_of (sg11 (List.mem_of_getElem? (i := 73) rfl)) rfl
theorem lo_X9_fatigue : Cond.code yX9_fatigue cX9_fatigue 4 (some .long) ∈ mTB := mTB_of (sg11 (List.mem_of_getElem? (i := 74) rfl)) rfl
theorem lmX9_134 : Cond.methodLink RX9 134 yX9_brake ∈ mTB := mTB_of (sg11 (List.mem_of_getElem? (i := 75) rfl)) rfl
theorem lv_X9_brake_i : Cond.instanceMethod yX9_brake ∈ mTB := mTB_of (sg11 (List.mem_of_getElem? (i := 77) rfl)) rfl
theorem lo_X9_brake : Cond.code yX9_brake cX9_brake 4 (some .long) ∈ mTB := mTB_of (sg11 (List.mem_of_getElem? (i := 78) rfl)) rfl
theorem lmX9_140 : Cond.methodLink RX9 140 yX9_cornersAreWorst ∈ mTB := mTB_of (sg11 (List.mem_of_getElem? (i := 79) rfl)) rfl
theorem lmX9_144 : Cond.methodLink RX9 144 yX9_clearRow ∈ mTB := mTB_of (sg11 (List.mem_of_getElem? (i := 80) rfl)) rfl
theorem lmX11_82 : Cond.methodLink RX11 82 yX8_answer ∈ mTB := mTB_of (sg11 (List.mem_of_getElem? (i := 81) rfl)) rfl
theorem lv_X8_answer_i : Cond.instanceMethod yX8_answer ∈ mTB := mTB_of (sg11 (List.mem_of_getElem? (i := 82) rfl)) rfl
theorem ls_X8_answer : Cond.selects yX8_answer.cls yX8_answer yX8_answer ∈ mTB := mTB_of (sg11 (List.mem_of_getElem? (i := 83) rfl)) rfl
theorem lo_X8_answer : Cond.code yX8_answer cX8_answer 5 (some .long) ∈ mTB := mTB_of (sg11 (List.mem_of_getElem? (i := 84) rfl)) rfl
theorem lmX8_74 : Cond.methodLink RX8 74 yX8_feed ∈ mTB := mTB_of (sg11 (List.mem_of_getElem? (i := 85) rfl)) rfl
theorem lmX8_81 : Cond.methodLink RX8 81 yX8_turnPart ∈ mTB := mTB_of (sg11 (List.mem_of_getElem? (i := 86) rfl)) rfl
theorem lv_X8_turnPart_i : Cond.instanceMethod yX8_turnPart ∈ mTB := mTB_of (sg11 (List.mem_of_getElem? (i := 88) rfl)) rfl
theorem lo_X8_turnPart : Cond.code yX8_turnPart cX8_turnPart 3 (some .long) ∈ mTB := mTB_of (sg11 (List.mem_of_getElem? (i := 89) rfl)) rfl
theorem lcX8_109 : Cond.constantLong RX8 109 (-1 : Int64) ∈ mTB := mTB_of (sg11 (List.mem_of_getElem? (i := 90) rfl)) rfl
theorem lmX8_163 : Cond.methodLink RX8 163 yJ9_min_7cf53 ∈ mTB := mTB_of (sg11 (List.mem_of_getElem? (i := 91) rfl)) rfl
theorem lmX8_168 : Cond.methodLink RX8 168 yJ9_max_7cf53 ∈ mTB := mTB_of (sg11 (List.mem_of_getElem? (i := 92) rfl)) rfl
theorem lcX8_88 : Cond.constantLong RX8 88 (-2 : Int64) ∈ mTB := mTB_of (sg11 (List.mem_of_getElem? (i := 93) rfl)) rfl
theorem lmX8_90 : Cond.methodLink RX8 90 yX8_sameAnew ∈ mTB := mTB_of (sg11 (List.mem_of_getElem? (i := 94) rfl)) rfl
theorem lmX8_94 : Cond.methodLink RX8 94 yX8_addLine ∈ mTB := mTB_of (sg11 (List.mem_of_getElem? (i := 95) rfl)) rfl
theorem lv_X8_addLine_i : Cond.instanceMethod yX8_addLine ∈ mTB := mTB_of (sg11 (List.mem_of_getElem? (i := 97) rfl)) rfl
theorem lo_X8_addLine : Cond.code yX8_addLine cX8_addLine 5 (some .boolean) ∈ mTB := mTB_of (sg11 (List.mem_of_getElem? (i := 98) rfl)) rfl
theorem lcX8_171 : Cond.constant RX8 171 (2000000 : Int32) ∈ mTB := mTB_of (sg11 (List.mem_of_getElem? (i := 99) rfl)) rfl
theorem lmX8_98 : Cond.methodLink RX8 98 yX8_setCutOff ∈ mTB := mTB_of (sg11 (List.mem_of_getElem? (i := 100) rfl)) rfl
theorem lv_X8_setCutOff_i : Cond.instanceMethod yX8_setCutOff ∈ mTB := mTB_of (sg11 (List.mem_of_getElem? (i := 102) rfl)) rfl
theorem lo_X8_setCutOff : Cond.code yX8_setCutOff cX8_setCutOff 3 (some .boolean) ∈ mTB := mTB_of (sg11 (List.mem_of_getElem? (i := 103) rfl)) rfl
theorem lmX8_102 : Cond.methodLink RX8 102 yX8_setHot ∈ mTB := mTB_of (sg11 (List.mem_of_getElem? (i := 104) rfl)) rfl
theorem lv_X8_setHot_i : Cond.instanceMethod yX8_setHot ∈ mTB := mTB_of (sg11 (List.mem_of_getElem? (i := 106) rfl)) rfl
theorem lo_X8_setHot : Cond.code yX8_setHot cX8_setHot 3 (some .boolean) ∈ mTB := mTB_of (sg11 (List.mem_of_getElem? (i := 107) rfl)) rfl
theorem lmX8_105 : Cond.methodLink RX8 105 yX8_shares ∈ mTB := mTB_of (sg11 (List.mem_of_getElem? (i := 108) rfl)) rfl
theorem lv_X8_shares_i : Cond.instanceMethod yX8_shares ∈ mTB := mTB_of (sg11 (List.mem_of_getElem? (i := 110) rfl)) rfl
theorem lo_X8_shares : Cond.code yX8_shares cX8_shares 5 (some .long) ∈ mTB := mTB_of (sg11 (List.mem_of_getElem? (i := 111) rfl)) rfl
theorem lmX8_190 : Cond.methodLink RX8 190 yX8_sumShares ∈ mTB := mTB_of (sg11 (List.mem_of_getElem? (i := 112) rfl)) rfl
theorem lv_X8_sumShares_i : Cond.instanceMethod yX8_sumShares ∈ mTB := mTB_of (sg11 (List.mem_of_getElem? (i := 114) rfl)) rfl
theorem lo_X8_sumShares : Cond.code yX8_sumShares cX8_sumShares 9 none ∈ mTB := mTB_of (sg11 (List.mem_of_getElem? (i := 115) rfl)) rfl
theorem lmX8_172 : Cond.methodLink RX8 172 yX5_set ∈ mTB := mTB_of (sg11 (List.mem_of_getElem? (i := 116) rfl)) rfl
theorem lmX8_176 : Cond.methodLink RX8 176 yX8_bears ∈ mTB := mTB_of (sg11 (List.mem_of_getElem? (i := 117) rfl)) rfl
theorem lv_X8_bears_i : Cond.instanceMethod yX8_bears ∈ mTB := mTB_of (sg11 (List.mem_of_getElem? (i := 119) rfl)) rfl
theorem lo_X8_bears : Cond.code yX8_bears cX8_bears 6 (some .int) ∈ mTB := mTB_of (sg11 (List.mem_of_getElem? (i := 120) rfl)) rfl
theorem lcX8_179 : Cond.constantLong RX8 179 (2 : Int64) ∈ mTB := mTB_of (sg11 (List.mem_of_getElem? (i := 121) rfl)) rfl
theorem lmX8_184 : Cond.methodLink RX8 184 yX5_add ∈ mTB := mTB_of (sg11 (List.mem_of_getElem? (i := 122) rfl)) rfl
theorem lmX8_187 : Cond.methodLink RX8 187 yX5_reduce ∈ mTB := mTB_of (sg11 (List.mem_of_getElem? (i := 123) rfl)) rfl
theorem lmX8_197 : Cond.methodLink RX8 197 yX5_limb32 ∈ mTB := mTB_of (sg11 (List.mem_of_getElem? (i := 124) rfl)) rfl
theorem lv_X5_limb32_s : Cond.static yX5_limb32 ∈ mTB := mTB_of (sg11 (List.mem_of_getElem? (i := 125) rfl)) rfl
theorem lo_X5_limb32 : Cond.code yX5_limb32 cX5_limb32 6 (some .long) ∈ mTB := mTB_of (sg11 (List.mem_of_getElem? (i := 126) rfl)) rfl
theorem lcX5_96 : Cond.constantLong RX5 96 (4294967295 : Int64) ∈ mTB := mTB_of (sg11 (List.mem_of_getElem? (i := 127) rfl)) rfl
theorem lmX8_111 : Cond.methodLink RX8 111 yX8_setRepeats ∈ mTB := mTB_of (sg11 (List.mem_of_getElem? (i := 128) rfl)) rfl
theorem lv_X8_setRepeats_i : Cond.instanceMethod yX8_setRepeats ∈ mTB := mTB_of (sg11 (List.mem_of_getElem? (i := 130) rfl)) rfl
theorem lo_X8_setRepeats : Cond.code yX8_setRepeats cX8_setRepeats 2 (some .boolean) ∈ mTB := mTB_of (sg11 (List.mem_of_getElem? (i := 131) rfl)) rfl
theorem lmX8_114 : Cond.methodLink RX8 114 yX8_years ∈ mTB := mTB_of (sg11 (List.mem_of_getElem? (i := 132) rfl)) rfl
theorem lv_X8_years_i : Cond.instanceMethod yX8_years ∈ mTB := mTB_of (sg11 (List.mem_of_getElem? (i := 134) rfl)) rfl
theorem lo_X8_years : Cond.code yX8_years cX8_years 7 (some .long) ∈ mTB := mTB_of (sg11 (List.mem_of_getElem? (i := 135) rfl)) rfl
theorem lcX8_204 : Cond.constant RX8 204 (1000000000 : Int32) ∈ mTB := mTB_of (sg11 (List.mem_of_getElem? (i := 136) rfl)) rfl
theorem lcX8_205 : Cond.constant RX8 205 (100000 : Int32) ∈ mTB := mTB_of (sg11 (List.mem_of_getElem? (i := 137) rfl)) rfl
theorem lmX8_206 : Cond.methodLink RX8 206 yX1_product ∈ mTB := mTB_of (sg11 (List.mem_of_getElem? (i := 138) rfl)) rfl
theorem lmX8_210 : Cond.methodLink RX8 210 yX1_compare ∈ mTB := mTB_of (sg11 (List.mem_of_getElem? (i := 139) rfl)) rfl
theorem lmX8_117 : Cond.methodLink RX8 117 yX8_span ∈ mTB := mTB_of (sg11 (List.mem_of_getElem? (i := 140) rfl)) rfl
theorem lv_X8_span_i : Cond.instanceMethod yX8_span ∈ mTB := mTB_of (sg11 (List.mem_of_getElem? (i := 142) rfl)) rfl
theorem lo_X8_span : Cond.code yX8_span cX8_span 4 (some .long) ∈ mTB := mTB_of (sg11 (List.mem_of_getElem? (i := 143) rfl)) rfl
theorem lmX8_121 : Cond.methodLink RX8 121 yX8_bolt ∈ mTB := mTB_of (sg11 (List.mem_of_getElem? (i := 144) rfl)) rfl
theorem lv_X8_bolt_i : Cond.instanceMethod yX8_bolt ∈ mTB := mTB_of (sg11 (List.mem_of_getElem? (i := 146) rfl)) rfl
theorem lo_X8_bolt : Cond.code yX8_bolt cX8_bolt 4 (some .long) ∈ mTB := mTB_of (sg11 (List.mem_of_getElem? (i := 147) rfl)) rfl
theorem lmX8_124 : Cond.methodLink RX8 124 yX8_setCost ∈ mTB := mTB_of (sg11 (List.mem_of_getElem? (i := 148) rfl)) rfl
theorem lv_X8_setCost_i : Cond.instanceMethod yX8_setCost ∈ mTB := mTB_of (sg11 (List.mem_of_getElem? (i := 150) rfl)) rfl
theorem lo_X8_setCost : Cond.code yX8_setCost cX8_setCost 3 (some .boolean) ∈ mTB := mTB_of (sg11 (List.mem_of_getElem? (i := 151) rfl)) rfl
theorem lmX8_127 : Cond.methodLink RX8 127 yX8_inspect ∈ mTB := mTB_of (sg11 (List.mem_of_getElem? (i := 152) rfl)) rfl
theorem lv_X8_inspect_i : Cond.instanceMethod yX8_inspect ∈ mTB := mTB_of (sg11 (List.mem_of_getElem? (i := 154) rfl)) rfl
theorem lo_X8_inspect : Cond.code yX8_inspect cX8_inspect 7 (some .long) ∈ mTB := mTB_of (sg11 (List.mem_of_getElem? (i := 155) rfl)) rfl
theorem lmX8_214 : Cond.methodLink RX8 214 yX8_squared ∈ mTB := mTB_of (sg11 (List.mem_of_getElem? (i := 156) rfl)) rfl
theorem lv_X8_squared_i : Cond.instanceMethod yX8_squared ∈ mTB := mTB_of (sg11 (List.mem_of_getElem? (i := 158) rfl)) rfl
theorem lo_X8_squared : Cond.code yX8_squared cX8_squared 2 (some .long) ∈ mTB := mTB_of (sg11 (List.mem_of_getElem? (i := 159) rfl)) rfl
theorem lmX8_130 : Cond.methodLink RX8 130 yX8_mend ∈ mTB := mTB_of (sg11 (List.mem_of_getElem? (i := 160) rfl)) rfl
theorem lv_X8_mend_i : Cond.instanceMethod yX8_mend ∈ mTB := mTB_of (sg11 (List.mem_of_getElem? (i := 162) rfl)) rfl
theorem lo_X8_mend : Cond.code yX8_mend cX8_mend 4 (some .boolean) ∈ mTB := mTB_of (sg11 (List.mem_of_getElem? (i := 163) rfl)) rfl
theorem lcX8_136 : Cond.constantLong RX8 136 (-9000000000000000000 : Int64) ∈ mTB := mTB_of (sg11 (List.mem_of_getElem? (i := 164) rfl)) rfl
theorem lmX11_83 : Cond.methodLink RX11 83 yX7_answer ∈ mTB := mTB_of (sg11 (List.mem_of_getElem? (i := 165) rfl)) rfl
theorem lv_X7_answer_i : Cond.instanceMethod yX7_answer ∈ mTB := mTB_of (sg11 (List.mem_of_getElem? (i := 166) rfl)) rfl
theorem ls_X7_answer : Cond.selects yX7_answer.cls yX7_answer yX7_answer ∈ mTB := mTB_of (sg11 (List.mem_of_getElem? (i := 167) rfl)) rfl
theorem lo_X7_answer : Cond.code yX7_answer cX7_answer 5 (some .long) ∈ mTB := mTB_of (sg11 (List.mem_of_getElem? (i := 168) rfl)) rfl
theorem lmX7_72 : Cond.methodLink RX7 72 yX7_begin ∈ mTB := mTB_of (sg11 (List.mem_of_getElem? (i := 169) rfl)) rfl
theorem lv_X7_begin_i : Cond.instanceMethod yX7_begin ∈ mTB := mTB_of (sg11 (List.mem_of_getElem? (i := 171) rfl)) rfl
theorem lo_X7_begin : Cond.code yX7_begin cX7_begin 2 none ∈ mTB := mTB_of (sg11 (List.mem_of_getElem? (i := 172) rfl)) rfl
theorem lkX7_146 : Cond.classLink RX7 146 RJxde1cd ∈ mTB := mTB_of (sg11 (List.mem_of_getElem? (i := 173) rfl)) rfl
theorem lmX7_148 : Cond.methodLink RX7 148 yJxde1cd_init_da8c8 ∈ mTB := mTB_of (sg11 (List.mem_of_getElem? (i := 174) rfl)) rfl
theorem lkX7_149 : Cond.classLink RX7 149 "java/lang/IllegalArgumentException" ∈ mTB := mTB_of (sg11 (List.mem_of_getElem? (i := 175) rfl)) rfl
theorem lmX7_151 : Cond.methodLink RX7 151 ⟨"java/lang/IllegalArgumentException", "<init>", "()V"⟩ ∈ mTB := mTB_of (sg11 (List.mem_of_getElem? (i := 176) rfl)) rfl
theorem lmX7_75 : Cond.methodLink RX7 75 yX7_setClash ∈ mTB := mTB_of (sg11 (List.mem_of_getElem? (i := 180) rfl)) rfl
theorem lv_X7_setClash_i : Cond.instanceMethod yX7_setClash ∈ mTB := mTB_of (sg11 (List.mem_of_getElem? (i := 182) rfl)) rfl
theorem lo_X7_setClash : Cond.code yX7_setClash cX7_setClash 4 (some .boolean) ∈ mTB := mTB_of (sg11 (List.mem_of_getElem? (i := 183) rfl)) rfl
theorem lmX7_180 : Cond.methodLink RX7 180 yX7_testGroup ∈ mTB := mTB_of (sg11 (List.mem_of_getElem? (i := 184) rfl)) rfl
theorem lv_X7_testGroup_i : Cond.instanceMethod yX7_testGroup ∈ mTB := mTB_of (sg11 (List.mem_of_getElem? (i := 186) rfl)) rfl
theorem lo_X7_testGroup : Cond.code yX7_testGroup cX7_testGroup 2 none ∈ mTB := mTB_of (sg11 (List.mem_of_getElem? (i := 187) rfl)) rfl
theorem lkX7_177 : Cond.classLink RX7 177 RJx00060 ∈ mTB := mTB_of (sg11 (List.mem_of_getElem? (i := 188) rfl)) rfl
theorem lmX7_179 : Cond.methodLink RX7 179 yJx00060_init_da8c8 ∈ mTB := mTB_of (sg11 (List.mem_of_getElem? (i := 189) rfl)) rfl
theorem lmX7_79 : Cond.methodLink RX7 79 yX7_setTime ∈ mTB := mTB_of (sg11 (List.mem_of_getElem? (i := 190) rfl)) rfl
theorem lv_X7_setTime_i : Cond.instanceMethod yX7_setTime ∈ mTB := mTB_of (sg11 (List.mem_of_getElem? (i := 192) rfl)) rfl
theorem lo_X7_setTime : Cond.code yX7_setTime cX7_setTime 5 (some .boolean) ∈ mTB := mTB_of (sg11 (List.mem_of_getElem? (i := 193) rfl)) rfl
theorem lmX7_83 : Cond.methodLink RX7 83 yX7_collect ∈ mTB := mTB_of (sg11 (List.mem_of_getElem? (i := 194) rfl)) rfl
theorem lv_X7_collect_i : Cond.instanceMethod yX7_collect ∈ mTB := mTB_of (sg11 (List.mem_of_getElem? (i := 196) rfl)) rfl
theorem lo_X7_collect : Cond.code yX7_collect cX7_collect 2 (some .boolean) ∈ mTB := mTB_of (sg11 (List.mem_of_getElem? (i := 197) rfl)) rfl
theorem lmX7_87 : Cond.methodLink RX7 87 yX7_read ∈ mTB := mTB_of (sg11 (List.mem_of_getElem? (i := 198) rfl)) rfl
theorem lv_X7_read_i : Cond.instanceMethod yX7_read ∈ mTB := mTB_of (sg11 (List.mem_of_getElem? (i := 200) rfl)) rfl
theorem lo_X7_read : Cond.code yX7_read cX7_read 3 (some .long) ∈ mTB := mTB_of (sg11 (List.mem_of_getElem? (i := 201) rfl)) rfl
theorem lmX7_190 : Cond.methodLink RX7 190 yX7_takePlan ∈ mTB := mTB_of (sg11 (List.mem_of_getElem? (i := 202) rfl)) rfl
theorem lv_X7_takePlan_i : Cond.instanceMethod yX7_takePlan ∈ mTB := mTB_of (sg11 (List.mem_of_getElem? (i := 204) rfl)) rfl
theorem lo_X7_takePlan : Cond.code yX7_takePlan cX7_takePlan 8 (some .int) ∈ mTB := mTB_of (sg11 (List.mem_of_getElem? (i := 205) rfl)) rfl
theorem lmX7_183 : Cond.methodLink RX7 183 yX7_signAt ∈ mTB := mTB_of (sg11 (List.mem_of_getElem? (i := 206) rfl)) rfl
theorem lv_X7_signAt_i : Cond.instanceMethod yX7_signAt ∈ mTB := mTB_of (sg11 (List.mem_of_getElem? (i := 208) rfl)) rfl
theorem lo_X7_signAt : Cond.code yX7_signAt cX7_signAt 2 (some .char) ∈ mTB := mTB_of (sg11 (List.mem_of_getElem? (i := 209) rfl)) rfl
theorem lmX7_194 : Cond.methodLink RX7 194 yX7_numberAt ∈ mTB := mTB_of (sg11 (List.mem_of_getElem? (i := 210) rfl)) rfl
theorem lv_X7_numberAt_i : Cond.instanceMethod yX7_numberAt ∈ mTB := mTB_of (sg11 (List.mem_of_getElem? (i := 212) rfl)) rfl
theorem lo_X7_numberAt : Cond.code yX7_numberAt cX7_numberAt 7 (some .int) ∈ mTB := mTB_of (sg11 (List.mem_of_getElem? (i := 213) rfl)) rfl
theorem lmX7_187 : Cond.methodLink RX7 187 yX7_digitsAt ∈ mTB := mTB_of (sg11 (List.mem_of_getElem? (i := 214) rfl)) rfl
theorem lv_X7_digitsAt_i : Cond.instanceMethod yX7_digitsAt ∈ mTB := mTB_of (sg11 (List.mem_of_getElem? (i := 216) rfl)) rfl
theorem lo_X7_digitsAt : Cond.code yX7_digitsAt cX7_digitsAt 3 (some .int) ∈ mTB := mTB_of (sg11 (List.mem_of_getElem? (i := 217) rfl)) rfl
theorem lmX7_94 : Cond.methodLink RX7 94 yX7_tell ∈ mTB := mTB_of (sg11 (List.mem_of_getElem? (i := 218) rfl)) rfl
theorem lv_X7_tell_i : Cond.instanceMethod yX7_tell ∈ mTB := mTB_of (sg11 (List.mem_of_getElem? (i := 220) rfl)) rfl
theorem lo_X7_tell : Cond.code yX7_tell cX7_tell 3 (some .boolean) ∈ mTB := mTB_of (sg11 (List.mem_of_getElem? (i := 221) rfl)) rfl
theorem lmX7_102 : Cond.methodLink RX7 102 yX7_nextSecond ∈ mTB := mTB_of (sg11 (List.mem_of_getElem? (i := 222) rfl)) rfl
theorem lmX7_108 : Cond.methodLink RX7 108 yX7_toldOf ∈ mTB := mTB_of (sg11 (List.mem_of_getElem? (i := 223) rfl)) rfl
theorem lv_X7_toldOf_i : Cond.instanceMethod yX7_toldOf ∈ mTB := mTB_of (sg11 (List.mem_of_getElem? (i := 225) rfl)) rfl
theorem lo_X7_toldOf : Cond.code yX7_toldOf cX7_toldOf 2 (some .long) ∈ mTB := mTB_of (sg11 (List.mem_of_getElem? (i := 226) rfl)) rfl
theorem lmX7_237 : Cond.methodLink RX7 237 yX7_pack ∈ mTB := mTB_of (sg11 (List.mem_of_getElem? (i := 227) rfl)) rfl
theorem lv_X7_pack_s : Cond.static yX7_pack ∈ mTB := mTB_of (sg11 (List.mem_of_getElem? (i := 228) rfl)) rfl
theorem lo_X7_pack : Cond.code yX7_pack cX7_pack 4 (some .long) ∈ mTB := mTB_of (sg11 (List.mem_of_getElem? (i := 229) rfl)) rfl
theorem lmX7_241 : Cond.methodLink RX7 241 yX7_numberOf ∈ mTB := mTB_of (sg11 (List.mem_of_getElem? (i := 230) rfl)) rfl
theorem lv_X7_numberOf_i : Cond.instanceMethod yX7_numberOf ∈ mTB := mTB_of (sg11 (List.mem_of_getElem? (i := 232) rfl)) rfl
theorem lo_X7_numberOf : Cond.code yX7_numberOf cX7_numberOf 5 (some .int) ∈ mTB := mTB_of (sg11 (List.mem_of_getElem? (i := 233) rfl)) rfl
theorem lmX7_250 : Cond.methodLink RX7 250 yX7_slotOf ∈ mTB := mTB_of (sg11 (List.mem_of_getElem? (i := 234) rfl)) rfl
theorem lv_X7_slotOf_s : Cond.static yX7_slotOf ∈ mTB := mTB_of (sg11 (List.mem_of_getElem? (i := 235) rfl)) rfl
theorem lo_X7_slotOf : Cond.code yX7_slotOf cX7_slotOf 2 (some .int) ∈ mTB := mTB_of (sg11 (List.mem_of_getElem? (i := 236) rfl)) rfl
theorem lcX7_248 : Cond.constantLong RX7 248 (-7046029254386353131 : Int64) ∈ mTB := mTB_of (sg11 (List.mem_of_getElem? (i := 237) rfl)) rfl
theorem lmX7_112 : Cond.methodLink RX7 112 yX7_isShown ∈ mTB := mTB_of (sg11 (List.mem_of_getElem? (i := 238) rfl)) rfl
theorem lmX7_115 : Cond.methodLink RX7 115 yX7_prove ∈ mTB := mTB_of (sg11 (List.mem_of_getElem? (i := 239) rfl)) rfl
theorem lv_X7_prove_i : Cond.instanceMethod yX7_prove ∈ mTB := mTB_of (sg12 (List.mem_of_getElem? (i := 1) rfl)) rfl
theorem lo_X7_prove : Cond.code yX7_prove cX7_prove 8 (some .long) ∈ mTB := mTB_of (sg12 (List.mem_of_getElem? (i := 2) rfl)) rfl
theorem lmX7_253 : Cond.methodLink RX7 253 yX7_addState ∈ mTB := mTB_of (sg12 (List.mem_of_getElem? (i := 3) rfl)) rfl
theorem lv_X7_addState_i : Cond.instanceMethod yX7_addState ∈ mTB := mTB_of (sg12 (List.mem_of_getElem? (i := 5) rfl)) rfl
theorem lo_X7_addState : Cond.code yX7_addState cX7_addState 7 none ∈ mTB := mTB_of (sg12 (List.mem_of_getElem? (i := 6) rfl)) rfl
theorem lmX7_261 : Cond.methodLink RX7 261 yX7_noteFault ∈ mTB := mTB_of (sg12 (List.mem_of_getElem? (i := 7) rfl)) rfl
theorem lv_X7_noteFault_i : Cond.instanceMethod yX7_noteFault ∈ mTB := mTB_of (sg12 (List.mem_of_getElem? (i := 9) rfl)) rfl
theorem lo_X7_noteFault : Cond.code yX7_noteFault cX7_noteFault 6 none ∈ mTB := mTB_of (sg12 (List.mem_of_getElem? (i := 10) rfl)) rfl
theorem lcX7_265 : Cond.constantLong RX7 265 (2 : Int64) ∈ mTB := mTB_of (sg12 (List.mem_of_getElem? (i := 11) rfl)) rfl
theorem lmX7_121 : Cond.methodLink RX7 121 yX7_rowOfFault ∈ mTB := mTB_of (sg12 (List.mem_of_getElem? (i := 12) rfl)) rfl
theorem lv_X7_rowOfFault_i : Cond.instanceMethod yX7_rowOfFault ∈ mTB := mTB_of (sg12 (List.mem_of_getElem? (i := 14) rfl)) rfl
theorem lo_X7_rowOfFault : Cond.code yX7_rowOfFault cX7_rowOfFault 4 (some .long) ∈ mTB := mTB_of (sg12 (List.mem_of_getElem? (i := 15) rfl)) rfl
theorem lcX7_129 : Cond.constantLong RX7 129 (-2 : Int64) ∈ mTB := mTB_of (sg12 (List.mem_of_getElem? (i := 16) rfl)) rfl
theorem lmX7_134 : Cond.methodLink RX7 134 yX7_allAnswered ∈ mTB := mTB_of (sg12 (List.mem_of_getElem? (i := 17) rfl)) rfl
theorem lmX7_137 : Cond.methodLink RX7 137 yX7_same ∈ mTB := mTB_of (sg12 (List.mem_of_getElem? (i := 18) rfl)) rfl
theorem lv_X7_same_i : Cond.instanceMethod yX7_same ∈ mTB := mTB_of (sg12 (List.mem_of_getElem? (i := 20) rfl)) rfl
theorem lo_X7_same : Cond.code yX7_same cX7_same 3 (some .boolean) ∈ mTB := mTB_of (sg12 (List.mem_of_getElem? (i := 21) rfl)) rfl
theorem lmX7_273 : Cond.methodLink RX7 273 ⟨"java/lang/System", "arraycopy", "(Ljava/lang/Object;ILjava/lang/Object;II)V"⟩ ∈ mTB := mTB_of (sg12 (List.mem_of_getElem? (i := 22) rfl)) rfl
theorem lmX7_140 : Cond.methodLink RX7 140 yX7_clearingTime ∈ mTB := mTB_of (sg12 (List.mem_of_getElem? (i := 23) rfl)) rfl
theorem lv_X7_clearingTime_s : Cond.static yX7_clearingTime ∈ mTB := mTB_of (sg12 (List.mem_of_getElem? (i := 24) rfl)) rfl
theorem lo_X7_clearingTime : Cond.code yX7_clearingTime cX7_clearingTime 3 (some .long) ∈ mTB := mTB_of (sg12 (List.mem_of_getElem? (i := 25) rfl)) rfl
theorem lcX7_144 : Cond.constantLong RX7 144 (-9000000000000000000 : Int64) ∈ mTB := mTB_of (sg12 (List.mem_of_getElem? (i := 26) rfl)) rfl
theorem lmX11_84 : Cond.methodLink RX11 84 yX2_answer ∈ mTB := mTB_of (sg12 (List.mem_of_getElem? (i := 27) rfl)) rfl
theorem lv_X2_answer_i : Cond.instanceMethod yX2_answer ∈ mTB := mTB_of (sg12 (List.mem_of_getElem? (i := 28) rfl)) rfl
theorem ls_X2_answer : Cond.selects yX2_answer.cls yX2_answer yX2_answer ∈ mTB := mTB_of (sg12 (List.mem_of_getElem? (i := 29) rfl)) rfl
theorem lo_X2_answer : Cond.code yX2_answer cX2_answer 6 (some .long) ∈ mTB := mTB_of (sg12 (List.mem_of_getElem? (i := 30) rfl)) rfl
theorem lmX2_64 : Cond.methodLink RX2 64 yX2_setCell ∈ mTB := mTB_of (sg12 (List.mem_of_getElem? (i := 31) rfl)) rfl
theorem lv_X2_setCell_i : Cond.instanceMethod yX2_setCell ∈ mTB := mTB_of (sg12 (List.mem_of_getElem? (i := 33) rfl)) rfl
theorem lo_X2_setCell : Cond.code yX2_setCell cX2_setCell 6 (some .boolean) ∈ mTB := mTB_of (sg12 (List.mem_of_getElem? (i := 34) rfl)) rfl
theorem lcX2_159 : Cond.constant RX2 159 (100000 : Int32) ∈ mTB := mTB_of (sg12 (List.mem_of_getElem? (i := 35) rfl)) rfl
theorem lmX2_68 : Cond.methodLink RX2 68 yX2_joinCells ∈ mTB := mTB_of (sg12 (List.mem_of_getElem? (i := 36) rfl)) rfl
theorem lv_X2_joinCells_i : Cond.instanceMethod yX2_joinCells ∈ mTB := mTB_of (sg12 (List.mem_of_getElem? (i := 38) rfl)) rfl
theorem lo_X2_joinCells : Cond.code yX2_joinCells cX2_joinCells 4 (some .boolean) ∈ mTB := mTB_of (sg12 (List.mem_of_getElem? (i := 39) rfl)) rfl
theorem lmX2_103 : Cond.methodLink RX2 103 yX2_joinOf ∈ mTB := mTB_of (sg12 (List.mem_of_getElem? (i := 40) rfl)) rfl
theorem lv_X2_joinOf_i : Cond.instanceMethod yX2_joinOf ∈ mTB := mTB_of (sg12 (List.mem_of_getElem? (i := 42) rfl)) rfl
theorem lo_X2_joinOf : Cond.code yX2_joinOf cX2_joinOf 4 (some .int) ∈ mTB := mTB_of (sg12 (List.mem_of_getElem? (i := 43) rfl)) rfl
theorem lmX2_167 : Cond.methodLink RX2 167 yX2_sortJoins ∈ mTB := mTB_of (sg12 (List.mem_of_getElem? (i := 44) rfl)) rfl
theorem lv_X2_sortJoins_i : Cond.instanceMethod yX2_sortJoins ∈ mTB := mTB_of (sg12 (List.mem_of_getElem? (i := 46) rfl)) rfl
theorem lo_X2_sortJoins : Cond.code yX2_sortJoins cX2_sortJoins 6 none ∈ mTB := mTB_of (sg12 (List.mem_of_getElem? (i := 47) rfl)) rfl
theorem lmX2_171 : Cond.methodLink RX2 171 yX2_goesBefore ∈ mTB := mTB_of (sg12 (List.mem_of_getElem? (i := 48) rfl)) rfl
theorem lv_X2_goesBefore_i : Cond.instanceMethod yX2_goesBefore ∈ mTB := mTB_of (sg12 (List.mem_of_getElem? (i := 50) rfl)) rfl
theorem lo_X2_goesBefore : Cond.code yX2_goesBefore cX2_goesBefore 5 (some .boolean) ∈ mTB := mTB_of (sg12 (List.mem_of_getElem? (i := 51) rfl)) rfl
theorem lmX2_72 : Cond.methodLink RX2 72 yX2_setShare ∈ mTB := mTB_of (sg12 (List.mem_of_getElem? (i := 52) rfl)) rfl
theorem lv_X2_setShare_i : Cond.instanceMethod yX2_setShare ∈ mTB := mTB_of (sg12 (List.mem_of_getElem? (i := 54) rfl)) rfl
theorem lo_X2_setShare : Cond.code yX2_setShare cX2_setShare 7 (some .boolean) ∈ mTB := mTB_of (sg12 (List.mem_of_getElem? (i := 55) rfl)) rfl
theorem lmX2_111 : Cond.methodLink RX2 111 yX2_isFraction ∈ mTB := mTB_of (sg12 (List.mem_of_getElem? (i := 56) rfl)) rfl
theorem lv_X2_isFraction_s : Cond.static yX2_isFraction ∈ mTB := mTB_of (sg12 (List.mem_of_getElem? (i := 57) rfl)) rfl
theorem lo_X2_isFraction : Cond.code yX2_isFraction cX2_isFraction 2 (some .boolean) ∈ mTB := mTB_of (sg12 (List.mem_of_getElem? (i := 58) rfl)) rfl
theorem lmX2_75 : Cond.methodLink RX2 75 yX2_setRank ∈ mTB := mTB_of (sg12 (List.mem_of_getElem? (i := 59) rfl)) rfl
theorem lv_X2_setRank_i : Cond.instanceMethod yX2_setRank ∈ mTB := mTB_of (sg12 (List.mem_of_getElem? (i := 61) rfl)) rfl
theorem lo_X2_setRank : Cond.code yX2_setRank cX2_setRank 5 (some .boolean) ∈ mTB := mTB_of (sg12 (List.mem_of_getElem? (i := 62) rfl)) rfl
theorem lmX2_79 : Cond.methodLink RX2 79 yX2_put ∈ mTB := mTB_of (sg12 (List.mem_of_getElem? (i := 63) rfl)) rfl
theorem lv_X2_put_i : Cond.instanceMethod yX2_put ∈ mTB := mTB_of (sg12 (List.mem_of_getElem? (i := 65) rfl)) rfl
theorem lo_X2_put : Cond.code yX2_put cX2_put 3 (some .boolean) ∈ mTB := mTB_of (sg12 (List.mem_of_getElem? (i := 66) rfl)) rfl
theorem lmX2_82 : Cond.methodLink RX2 82 yX2_tellComing ∈ mTB := mTB_of (sg12 (List.mem_of_getElem? (i := 67) rfl)) rfl
theorem lv_X2_tellComing_i : Cond.instanceMethod yX2_tellComing ∈ mTB := mTB_of (sg12 (List.mem_of_getElem? (i := 69) rfl)) rfl
theorem lo_X2_tellComing : Cond.code yX2_tellComing cX2_tellComing 4 (some .boolean) ∈ mTB := mTB_of (sg12 (List.mem_of_getElem? (i := 70) rfl)) rfl
theorem lmX2_85 : Cond.methodLink RX2 85 yX2_setSignal ∈ mTB := mTB_of (sg12 (List.mem_of_getElem? (i := 71) rfl)) rfl
theorem lmX2_89 : Cond.methodLink RX2 89 yX2_run ∈ mTB := mTB_of (sg12 (List.mem_of_getElem? (i := 72) rfl)) rfl
theorem lv_X2_run_i : Cond.instanceMethod yX2_run ∈ mTB := mTB_of (sg12 (List.mem_of_getElem? (i := 74) rfl)) rfl
theorem lo_X2_run : Cond.code yX2_run cX2_run 3 (some .long) ∈ mTB := mTB_of (sg12 (List.mem_of_getElem? (i := 75) rfl)) rfl
theorem lcX2_97 : Cond.constantLong RX2 97 (-1 : Int64) ∈ mTB := mTB_of (sg12 (List.mem_of_getElem? (i := 76) rfl)) rfl
theorem lmX2_186 : Cond.methodLink RX2 186 yX2_step ∈ mTB := mTB_of (sg12 (List.mem_of_getElem? (i := 77) rfl)) rfl
theorem lmX2_99 : Cond.methodLink RX2 99 yX2_allKept ∈ mTB := mTB_of (sg12 (List.mem_of_getElem? (i := 78) rfl)) rfl
theorem lmX2_107 : Cond.methodLink RX2 107 yX2_restOf ∈ mTB := mTB_of (sg12 (List.mem_of_getElem? (i := 79) rfl)) rfl
theorem lv_X2_restOf_i : Cond.instanceMethod yX2_restOf ∈ mTB := mTB_of (sg12 (List.mem_of_getElem? (i := 81) rfl)) rfl
theorem lo_X2_restOf : Cond.code yX2_restOf cX2_restOf 5 (some .long) ∈ mTB := mTB_of (sg12 (List.mem_of_getElem? (i := 82) rfl)) rfl
theorem lmX2_118 : Cond.methodLink RX2 118 yX2_setMeter ∈ mTB := mTB_of (sg12 (List.mem_of_getElem? (i := 83) rfl)) rfl
theorem lv_X2_setMeter_i : Cond.instanceMethod yX2_setMeter ∈ mTB := mTB_of (sg12 (List.mem_of_getElem? (i := 85) rfl)) rfl
theorem lo_X2_setMeter : Cond.code yX2_setMeter cX2_setMeter 4 (some .long) ∈ mTB := mTB_of (sg12 (List.mem_of_getElem? (i := 86) rfl)) rfl
theorem lmX2_122 : Cond.methodLink RX2 122 yX2_setLane ∈ mTB := mTB_of (sg12 (List.mem_of_getElem? (i := 87) rfl)) rfl
theorem lv_X2_setLane_i : Cond.instanceMethod yX2_setLane ∈ mTB := mTB_of (sg12 (List.mem_of_getElem? (i := 89) rfl)) rfl
theorem lo_X2_setLane : Cond.code yX2_setLane cX2_setLane 5 (some .long) ∈ mTB := mTB_of (sg12 (List.mem_of_getElem? (i := 90) rfl)) rfl
theorem lmX2_125 : Cond.methodLink RX2 125 yX2_tellRead ∈ mTB := mTB_of (sg12 (List.mem_of_getElem? (i := 91) rfl)) rfl
theorem lv_X2_tellRead_i : Cond.instanceMethod yX2_tellRead ∈ mTB := mTB_of (sg12 (List.mem_of_getElem? (i := 93) rfl)) rfl
theorem lo_X2_tellRead : Cond.code yX2_tellRead cX2_tellRead 4 (some .boolean) ∈ mTB := mTB_of (sg12 (List.mem_of_getElem? (i := 94) rfl)) rfl
theorem lmX2_128 : Cond.methodLink RX2 128 yX2_differs ∈ mTB := mTB_of (sg12 (List.mem_of_getElem? (i := 95) rfl)) rfl
theorem lv_X2_differs_i : Cond.instanceMethod yX2_differs ∈ mTB := mTB_of (sg12 (List.mem_of_getElem? (i := 97) rfl)) rfl
theorem lo_X2_differs : Cond.code yX2_differs cX2_differs 7 (some .long) ∈ mTB := mTB_of (sg12 (List.mem_of_getElem? (i := 98) rfl)) rfl
theorem lmX2_131 : Cond.methodLink RX2 131 yX2_addRule ∈ mTB := mTB_of (sg12 (List.mem_of_getElem? (i := 99) rfl)) rfl
theorem lv_X2_addRule_i : Cond.instanceMethod yX2_addRule ∈ mTB := mTB_of (sg12 (List.mem_of_getElem? (i := 101) rfl)) rfl
theorem lo_X2_addRule : Cond.code yX2_addRule cX2_addRule 4 (some .boolean) ∈ mTB := mTB_of (sg12 (List.mem_of_getElem? (i := 102) rfl)) rfl
theorem lmX2_142 : Cond.methodLink RX2 142 yX2_save ∈ mTB := mTB_of (sg12 (List.mem_of_getElem? (i := 103) rfl)) rfl
theorem lv_X2_save_i : Cond.instanceMethod yX2_save ∈ mTB := mTB_of (sg12 (List.mem_of_getElem? (i := 105) rfl)) rfl
theorem lo_X2_save : Cond.code yX2_save cX2_save 1 (some .long) ∈ mTB := mTB_of (sg12 (List.mem_of_getElem? (i := 106) rfl)) rfl
theorem lmX2_228 : Cond.methodLink RX2 228 ⟨"[J", "clone", "()Ljava/lang/Object;"⟩ ∈ mTB := mTB_of (sg12 (List.mem_of_getElem? (i := 107) rfl)) rfl
theorem lkX2_229 : Cond.classLink RX2 229 "[J" ∈ mTB := mTB_of (sg12 (List.mem_of_getElem? (i := 111) rfl)) rfl
theorem lmX2_146 : Cond.methodLink RX2 146 yX2_goBack ∈ mTB := mTB_of (sg12 (List.mem_of_getElem? (i := 112) rfl)) rfl
theorem lv_X2_goBack_i : Cond.instanceMethod yX2_goBack ∈ mTB := mTB_of (sg12 (List.mem_of_getElem? (i := 114) rfl)) rfl
theorem lo_X2_goBack : Cond.code yX2_goBack cX2_goBack 2 (some .boolean) ∈ mTB := mTB_of (sg12 (List.mem_of_getElem? (i := 115) rfl)) rfl
theorem lmX2_233 : Cond.methodLink RX2 233 ⟨"java/lang/System", "arraycopy", "(Ljava/lang/Object;ILjava/lang/Object;II)V"⟩ ∈ mTB := mTB_of (sg12 (List.mem_of_getElem? (i := 116) rfl)) rfl
theorem lmX2_149 : Cond.methodLink RX2 149 yX2_over ∈ mTB := mTB_of (sg12 (List.mem_of_getElem? (i := 117) rfl)) rfl
theorem lv_X2_over_i : Cond.instanceMethod yX2_over ∈ mTB := mTB_of (sg12 (List.mem_of_getElem? (i := 119) rfl)) rfl
theorem lo_X2_over : Cond.code yX2_over cX2_over 4 (some .long) ∈ mTB := mTB_of (sg12 (List.mem_of_getElem? (i := 120) rfl)) rfl
theorem lmX2_239 : Cond.methodLink RX2 239 yX2_wasDone ∈ mTB := mTB_of (sg12 (List.mem_of_getElem? (i := 121) rfl)) rfl
theorem lv_X2_wasDone_i : Cond.instanceMethod yX2_wasDone ∈ mTB := mTB_of (sg12 (List.mem_of_getElem? (i := 123) rfl)) rfl
theorem lo_X2_wasDone : Cond.code yX2_wasDone cX2_wasDone 2 (some .boolean) ∈ mTB := mTB_of (sg12 (List.mem_of_getElem? (i := 124) rfl)) rfl
theorem lmX2_152 : Cond.methodLink RX2 152 yX2_toll ∈ mTB := mTB_of (sg12 (List.mem_of_getElem? (i := 125) rfl)) rfl
theorem lv_X2_toll_i : Cond.instanceMethod yX2_toll ∈ mTB := mTB_of (sg12 (List.mem_of_getElem? (i := 127) rfl)) rfl
theorem lo_X2_toll : Cond.code yX2_toll cX2_toll 3 (some .long) ∈ mTB := mTB_of (sg12 (List.mem_of_getElem? (i := 128) rfl)) rfl
theorem lcX2_155 : Cond.constantLong RX2 155 (-9000000000000000000 : Int64) ∈ mTB := mTB_of (sg12 (List.mem_of_getElem? (i := 129) rfl)) rfl
theorem lmX11_85 : Cond.methodLink RX11 85 yX3_answer ∈ mTB := mTB_of (sg12 (List.mem_of_getElem? (i := 130) rfl)) rfl
theorem lv_X3_answer_i : Cond.instanceMethod yX3_answer ∈ mTB := mTB_of (sg12 (List.mem_of_getElem? (i := 131) rfl)) rfl
theorem ls_X3_answer : Cond.selects yX3_answer.cls yX3_answer yX3_answer ∈ mTB := mTB_of (sg12 (List.mem_of_getElem? (i := 132) rfl)) rfl
theorem lo_X3_answer : Cond.code yX3_answer cX3_answer 6 (some .long) ∈ mTB := mTB_of (sg12 (List.mem_of_getElem? (i := 133) rfl)) rfl
theorem lmX3_59 : Cond.methodLink RX3 59 yX3_collect ∈ mTB := mTB_of (sg12 (List.mem_of_getElem? (i := 134) rfl)) rfl
theorem lv_X3_collect_i : Cond.instanceMethod yX3_collect ∈ mTB := mTB_of (sg12 (List.mem_of_getElem? (i := 136) rfl)) rfl
theorem lo_X3_collect : Cond.code yX3_collect cX3_collect 2 (some .boolean) ∈ mTB := mTB_of (sg12 (List.mem_of_getElem? (i := 137) rfl)) rfl
theorem lmX3_63 : Cond.methodLink RX3 63 yX3_read ∈ mTB := mTB_of (sg12 (List.mem_of_getElem? (i := 138) rfl)) rfl
theorem lv_X3_read_i : Cond.instanceMethod yX3_read ∈ mTB := mTB_of (sg12 (List.mem_of_getElem? (i := 140) rfl)) rfl
theorem lo_X3_read : Cond.code yX3_read cX3_read 3 (some .long) ∈ mTB := mTB_of (sg12 (List.mem_of_getElem? (i := 141) rfl)) rfl
theorem lcX3_169 : Cond.constantLong RX3 169 (-1000 : Int64) ∈ mTB := mTB_of (sg12 (List.mem_of_getElem? (i := 142) rfl)) rfl
theorem lmX3_171 : Cond.methodLink RX3 171 yX3_findWords ∈ mTB := mTB_of (sg12 (List.mem_of_getElem? (i := 143) rfl)) rfl
theorem lv_X3_findWords_i : Cond.instanceMethod yX3_findWords ∈ mTB := mTB_of (sg12 (List.mem_of_getElem? (i := 145) rfl)) rfl
theorem lo_X3_findWords : Cond.code yX3_findWords cX3_findWords 4 none ∈ mTB := mTB_of (sg12 (List.mem_of_getElem? (i := 146) rfl)) rfl
theorem lmX3_154 : Cond.methodLink RX3 154 yX3_kindOfSign ∈ mTB := mTB_of (sg12 (List.mem_of_getElem? (i := 147) rfl)) rfl
theorem lv_X3_kindOfSign_s : Cond.static yX3_kindOfSign ∈ mTB := mTB_of (sg12 (List.mem_of_getElem? (i := 148) rfl)) rfl
theorem lo_X3_kindOfSign : Cond.code yX3_kindOfSign cX3_kindOfSign 1 (some .char) ∈ mTB := mTB_of (sg12 (List.mem_of_getElem? (i := 149) rfl)) rfl
theorem lmX3_174 : Cond.methodLink RX3 174 yX3_takeItem ∈ mTB := mTB_of (sg12 (List.mem_of_getElem? (i := 150) rfl)) rfl
theorem lv_X3_takeItem_i : Cond.instanceMethod yX3_takeItem ∈ mTB := mTB_of (sg12 (List.mem_of_getElem? (i := 152) rfl)) rfl
theorem lo_X3_takeItem : Cond.code yX3_takeItem cX3_takeItem 4 (some .int) ∈ mTB := mTB_of (sg12 (List.mem_of_getElem? (i := 153) rfl)) rfl
theorem lmX3_178 : Cond.methodLink RX3 178 yX3_takeName ∈ mTB := mTB_of (sg12 (List.mem_of_getElem? (i := 154) rfl)) rfl
theorem lv_X3_takeName_i : Cond.instanceMethod yX3_takeName ∈ mTB := mTB_of (sg12 (List.mem_of_getElem? (i := 156) rfl)) rfl
theorem lo_X3_takeName : Cond.code yX3_takeName cX3_takeName 8 (some .boolean) ∈ mTB := mTB_of (sg12 (List.mem_of_getElem? (i := 157) rfl)) rfl
theorem lmX3_162 : Cond.methodLink RX3 162 yX3_lengthOf ∈ mTB := mTB_of (sg12 (List.mem_of_getElem? (i := 158) rfl)) rfl
theorem lv_X3_lengthOf_i : Cond.instanceMethod yX3_lengthOf ∈ mTB := mTB_of (sg12 (List.mem_of_getElem? (i := 160) rfl)) rfl
theorem lo_X3_lengthOf : Cond.code yX3_lengthOf cX3_lengthOf 2 (some .int) ∈ mTB := mTB_of (sg12 (List.mem_of_getElem? (i := 161) rfl)) rfl
theorem lmX3_158 : Cond.methodLink RX3 158 yX3_kindOf ∈ mTB := mTB_of (sg12 (List.mem_of_getElem? (i := 162) rfl)) rfl
theorem lv_X3_kindOf_i : Cond.instanceMethod yX3_kindOf ∈ mTB := mTB_of (sg12 (List.mem_of_getElem? (i := 164) rfl)) rfl
theorem lo_X3_kindOf : Cond.code yX3_kindOf cX3_kindOf 2 (some .int) ∈ mTB := mTB_of (sg12 (List.mem_of_getElem? (i := 165) rfl)) rfl
theorem lmX3_165 : Cond.methodLink RX3 165 yX3_signOf ∈ mTB := mTB_of (sg12 (List.mem_of_getElem? (i := 166) rfl)) rfl
theorem lv_X3_signOf_i : Cond.instanceMethod yX3_signOf ∈ mTB := mTB_of (sg12 (List.mem_of_getElem? (i := 168) rfl)) rfl
theorem lo_X3_signOf : Cond.code yX3_signOf cX3_signOf 3 (some .char) ∈ mTB := mTB_of (sg12 (List.mem_of_getElem? (i := 169) rfl)) rfl
theorem lmX3_181 : Cond.methodLink RX3 181 yX3_takeExpression ∈ mTB := mTB_of (sg12 (List.mem_of_getElem? (i := 170) rfl)) rfl
theorem lv_X3_takeExpression_i : Cond.instanceMethod yX3_takeExpression ∈ mTB := mTB_of (sg12 (List.mem_of_getElem? (i := 172) rfl)) rfl
theorem lo_X3_takeExpression : Cond.code yX3_takeExpression cX3_takeExpression 9 (some .int) ∈ mTB := mTB_of (sg12 (List.mem_of_getElem? (i := 173) rfl)) rfl
theorem lcX3_188 : Cond.constantLong RX3 188 (40 : Int64) ∈ mTB := mTB_of (sg12 (List.mem_of_getElem? (i := 174) rfl)) rfl
theorem lmX3_190 : Cond.methodLink RX3 190 yX3_thing ∈ mTB := mTB_of (sg12 (List.mem_of_getElem? (i := 175) rfl)) rfl
theorem lv_X3_thing_i : Cond.instanceMethod yX3_thing ∈ mTB := mTB_of (sg12 (List.mem_of_getElem? (i := 177) rfl)) rfl
theorem lo_X3_thing : Cond.code yX3_thing cX3_thing 4 (some .int) ∈ mTB := mTB_of (sg12 (List.mem_of_getElem? (i := 178) rfl)) rfl
theorem lmX3_185 : Cond.methodLink RX3 185 yX3_numberOf ∈ mTB := mTB_of (sg12 (List.mem_of_getElem? (i := 179) rfl)) rfl
theorem lv_X3_numberOf_i : Cond.instanceMethod yX3_numberOf ∈ mTB := mTB_of (sg12 (List.mem_of_getElem? (i := 181) rfl)) rfl
theorem lo_X3_numberOf : Cond.code yX3_numberOf cX3_numberOf 4 (some .int) ∈ mTB := mTB_of (sg12 (List.mem_of_getElem? (i := 182) rfl)) rfl
theorem lmX3_193 : Cond.methodLink RX3 193 yX3_takeWaiting ∈ mTB := mTB_of (sg12 (List.mem_of_getElem? (i := 183) rfl)) rfl
theorem lv_X3_takeWaiting_i : Cond.instanceMethod yX3_takeWaiting ∈ mTB := mTB_of (sg12 (List.mem_of_getElem? (i := 185) rfl)) rfl
theorem lo_X3_takeWaiting : Cond.code yX3_takeWaiting cX3_takeWaiting 5 (some .int) ∈ mTB := mTB_of (sg12 (List.mem_of_getElem? (i := 186) rfl)) rfl
theorem lmX3_197 : Cond.methodLink RX3 197 yX3_rankOf ∈ mTB := mTB_of (sg12 (List.mem_of_getElem? (i := 187) rfl)) rfl
theorem lv_X3_rankOf_s : Cond.static yX3_rankOf ∈ mTB := mTB_of (sg12 (List.mem_of_getElem? (i := 188) rfl)) rfl
theorem lo_X3_rankOf : Cond.code yX3_rankOf cX3_rankOf 2 (some .int) ∈ mTB := mTB_of (sg12 (List.mem_of_getElem? (i := 189) rfl)) rfl
theorem lcX3_201 : Cond.constantLong RX3 201 (43 : Int64) ∈ mTB := mTB_of (sg12 (List.mem_of_getElem? (i := 190) rfl)) rfl
theorem lcX3_203 : Cond.constantLong RX3 203 (45 : Int64) ∈ mTB := mTB_of (sg12 (List.mem_of_getElem? (i := 191) rfl)) rfl
theorem lcX3_205 : Cond.constantLong RX3 205 (42 : Int64) ∈ mTB := mTB_of (sg12 (List.mem_of_getElem? (i := 192) rfl)) rfl
theorem lcX3_207 : Cond.constantLong RX3 207 (47 : Int64) ∈ mTB := mTB_of (sg12 (List.mem_of_getElem? (i := 193) rfl)) rfl
theorem lmX3_67 : Cond.methodLink RX3 67 yX3_setRate ∈ mTB := mTB_of (sg12 (List.mem_of_getElem? (i := 194) rfl)) rfl
theorem lv_X3_setRate_i : Cond.instanceMethod yX3_setRate ∈ mTB := mTB_of (sg12 (List.mem_of_getElem? (i := 196) rfl)) rfl
theorem lo_X3_setRate : Cond.code yX3_setRate cX3_setRate 3 (some .long) ∈ mTB := mTB_of (sg12 (List.mem_of_getElem? (i := 197) rfl)) rfl
theorem lcX3_225 : Cond.constant RX3 225 (-1000000 : Int32) ∈ mTB := mTB_of (sg12 (List.mem_of_getElem? (i := 198) rfl)) rfl
theorem lcX3_226 : Cond.constant RX3 226 (1000000 : Int32) ∈ mTB := mTB_of (sg12 (List.mem_of_getElem? (i := 199) rfl)) rfl
theorem lcX3_89 : Cond.constantLong RX3 89 (-1 : Int64) ∈ mTB := mTB_of (sg12 (List.mem_of_getElem? (i := 200) rfl)) rfl
theorem lmX3_71 : Cond.methodLink RX3 71 yX3_addShape ∈ mTB := mTB_of (sg12 (List.mem_of_getElem? (i := 201) rfl)) rfl
theorem lmX3_75 : Cond.methodLink RX3 75 yX3_addPlain ∈ mTB := mTB_of (sg12 (List.mem_of_getElem? (i := 202) rfl)) rfl
theorem lmX3_79 : Cond.methodLink RX3 79 yX3_quantityPart ∈ mTB := mTB_of (sg12 (List.mem_of_getElem? (i := 203) rfl)) rfl
theorem lv_X3_quantityPart_i : Cond.instanceMethod yX3_quantityPart ∈ mTB := mTB_of (sg12 (List.mem_of_getElem? (i := 205) rfl)) rfl
theorem lo_X3_quantityPart : Cond.code yX3_quantityPart cX3_quantityPart 7 (some .long) ∈ mTB := mTB_of (sg12 (List.mem_of_getElem? (i := 206) rfl)) rfl
theorem lmX3_86 : Cond.methodLink RX3 86 yX3_pay ∈ mTB := mTB_of (sg12 (List.mem_of_getElem? (i := 207) rfl)) rfl
theorem lv_X3_pay_i : Cond.instanceMethod yX3_pay ∈ mTB := mTB_of (sg12 (List.mem_of_getElem? (i := 209) rfl)) rfl
theorem lo_X3_pay : Cond.code yX3_pay cX3_pay 3 (some .long) ∈ mTB := mTB_of (sg12 (List.mem_of_getElem? (i := 210) rfl)) rfl
theorem lmX3_269 : Cond.methodLink RX3 269 yX3_gross ∈ mTB := mTB_of (sg12 (List.mem_of_getElem? (i := 211) rfl)) rfl
theorem lv_X3_gross_i : Cond.instanceMethod yX3_gross ∈ mTB := mTB_of (sg12 (List.mem_of_getElem? (i := 213) rfl)) rfl
theorem lo_X3_gross : Cond.code yX3_gross cX3_gross 5 (some .long) ∈ mTB := mTB_of (sg12 (List.mem_of_getElem? (i := 214) rfl)) rfl
theorem lmX3_266 : Cond.methodLink RX3 266 yX3_rateOf ∈ mTB := mTB_of (sg12 (List.mem_of_getElem? (i := 215) rfl)) rfl
theorem lv_X3_rateOf_i : Cond.instanceMethod yX3_rateOf ∈ mTB := mTB_of (sg12 (List.mem_of_getElem? (i := 217) rfl)) rfl
theorem lo_X3_rateOf : Cond.code yX3_rateOf cX3_rateOf 7 (some .long) ∈ mTB := mTB_of (sg12 (List.mem_of_getElem? (i := 218) rfl)) rfl
theorem lmX3_272 : Cond.methodLink RX3 272 yX3_kept ∈ mTB := mTB_of (sg12 (List.mem_of_getElem? (i := 219) rfl)) rfl
theorem lv_X3_kept_i : Cond.instanceMethod yX3_kept ∈ mTB := mTB_of (sg12 (List.mem_of_getElem? (i := 221) rfl)) rfl
theorem lo_X3_kept : Cond.code yX3_kept cX3_kept 4 (some .long) ∈ mTB := mTB_of (sg12 (List.mem_of_getElem? (i := 222) rfl)) rfl
theorem lmX3_281 : Cond.methodLink RX3 281 yX3_penaltiesOf ∈ mTB := mTB_of (sg12 (List.mem_of_getElem? (i := 223) rfl)) rfl
theorem lv_X3_penaltiesOf_i : Cond.instanceMethod yX3_penaltiesOf ∈ mTB := mTB_of (sg12 (List.mem_of_getElem? (i := 225) rfl)) rfl
theorem lo_X3_penaltiesOf : Cond.code yX3_penaltiesOf cX3_penaltiesOf 5 (some .long) ∈ mTB := mTB_of (sg12 (List.mem_of_getElem? (i := 226) rfl)) rfl
theorem lmX3_275 : Cond.methodLink RX3 275 yX3_keptUpTo ∈ mTB := mTB_of (sg12 (List.mem_of_getElem? (i := 227) rfl)) rfl
theorem lv_X3_keptUpTo_i : Cond.instanceMethod yX3_keptUpTo ∈ mTB := mTB_of (sg12 (List.mem_of_getElem? (i := 229) rfl)) rfl
theorem lo_X3_keptUpTo : Cond.code yX3_keptUpTo cX3_keptUpTo 5 (some .long) ∈ mTB := mTB_of (sg12 (List.mem_of_getElem? (i := 230) rfl)) rfl
theorem lmX3_91 : Cond.methodLink RX3 91 yX3_twice ∈ mTB := mTB_of (sg12 (List.mem_of_getElem? (i := 231) rfl)) rfl
theorem lv_X3_twice_i : Cond.instanceMethod yX3_twice ∈ mTB := mTB_of (sg12 (List.mem_of_getElem? (i := 233) rfl)) rfl
theorem lo_X3_twice : Cond.code yX3_twice cX3_twice 6 (some .long) ∈ mTB := mTB_of (sg12 (List.mem_of_getElem? (i := 234) rfl)) rfl
theorem lmX3_284 : Cond.methodLink RX3 284 yX3_areTwice ∈ mTB := mTB_of (sg12 (List.mem_of_getElem? (i := 235) rfl)) rfl
theorem lv_X3_areTwice_s : Cond.static yX3_areTwice ∈ mTB := mTB_of (sg12 (List.mem_of_getElem? (i := 236) rfl)) rfl
theorem lo_X3_areTwice : Cond.code yX3_areTwice cX3_areTwice 2 (some .boolean) ∈ mTB := mTB_of (sg12 (List.mem_of_getElem? (i := 237) rfl)) rfl
theorem lmX3_97 : Cond.methodLink RX3 97 yX3_addChange ∈ mTB := mTB_of (sg12 (List.mem_of_getElem? (i := 238) rfl)) rfl
theorem lv_X3_addChange_i : Cond.instanceMethod yX3_addChange ∈ mTB := mTB_of (sg13 (List.mem_of_getElem? (i := 0) rfl)) rfl
theorem lo_X3_addChange : Cond.code yX3_addChange cX3_addChange 5 (some .long) ∈ mTB := mTB_of (sg13 (List.mem_of_getElem? (i := 1) rfl)) rfl
theorem lmX3_101 : Cond.methodLink RX3 101 yX3_setIndex ∈ mTB := mTB_of (sg13 (List.mem_of_getElem? (i := 2) rfl)) rfl
theorem lv_X3_setIndex_i : Cond.instanceMethod yX3_setIndex ∈ mTB := mTB_of (sg13 (List.mem_of_getElem? (i := 4) rfl)) rfl
theorem lo_X3_setIndex : Cond.code yX3_setIndex cX3_setIndex 4 (some .boolean) ∈ mTB := mTB_of (sg13 (List.mem_of_getElem? (i := 5) rfl)) rfl
theorem lmX3_104 : Cond.methodLink RX3 104 yX3_setKeep ∈ mTB := mTB_of (sg13 (List.mem_of_getElem? (i := 6) rfl)) rfl
theorem lv_X3_setKeep_i : Cond.instanceMethod yX3_setKeep ∈ mTB := mTB_of (sg13 (List.mem_of_getElem? (i := 8) rfl)) rfl
theorem lo_X3_setKeep : Cond.code yX3_setKeep cX3_setKeep 3 (some .boolean) ∈ mTB := mTB_of (sg13 (List.mem_of_getElem? (i := 9) rfl)) rfl
theorem lmX3_108 : Cond.methodLink RX3 108 yX3_stillKept ∈ mTB := mTB_of (sg13 (List.mem_of_getElem? (i := 10) rfl)) rfl
theorem lv_X3_stillKept_i : Cond.instanceMethod yX3_stillKept ∈ mTB := mTB_of (sg13 (List.mem_of_getElem? (i := 12) rfl)) rfl
theorem lo_X3_stillKept : Cond.code yX3_stillKept cX3_stillKept 2 (some .long) ∈ mTB := mTB_of (sg13 (List.mem_of_getElem? (i := 13) rfl)) rfl
theorem lmX3_112 : Cond.methodLink RX3 112 yX3_setBack ∈ mTB := mTB_of (sg13 (List.mem_of_getElem? (i := 14) rfl)) rfl
theorem lv_X3_setBack_i : Cond.instanceMethod yX3_setBack ∈ mTB := mTB_of (sg13 (List.mem_of_getElem? (i := 16) rfl)) rfl
theorem lo_X3_setBack : Cond.code yX3_setBack cX3_setBack 2 (some .long) ∈ mTB := mTB_of (sg13 (List.mem_of_getElem? (i := 17) rfl)) rfl
theorem lmX3_115 : Cond.methodLink RX3 115 yX3_addPenalty ∈ mTB := mTB_of (sg13 (List.mem_of_getElem? (i := 18) rfl)) rfl
theorem lv_X3_addPenalty_i : Cond.instanceMethod yX3_addPenalty ∈ mTB := mTB_of (sg13 (List.mem_of_getElem? (i := 20) rfl)) rfl
theorem lo_X3_addPenalty : Cond.code yX3_addPenalty cX3_addPenalty 4 (some .boolean) ∈ mTB := mTB_of (sg13 (List.mem_of_getElem? (i := 21) rfl)) rfl
theorem lmX3_118 : Cond.methodLink RX3 118 yX3_sumOfPay ∈ mTB := mTB_of (sg13 (List.mem_of_getElem? (i := 22) rfl)) rfl
theorem lv_X3_sumOfPay_i : Cond.instanceMethod yX3_sumOfPay ∈ mTB := mTB_of (sg13 (List.mem_of_getElem? (i := 24) rfl)) rfl
theorem lo_X3_sumOfPay : Cond.code yX3_sumOfPay cX3_sumOfPay 6 (some .long) ∈ mTB := mTB_of (sg13 (List.mem_of_getElem? (i := 25) rfl)) rfl
theorem lmX3_121 : Cond.methodLink RX3 121 yX3_setFirm ∈ mTB := mTB_of (sg13 (List.mem_of_getElem? (i := 26) rfl)) rfl
theorem lv_X3_setFirm_i : Cond.instanceMethod yX3_setFirm ∈ mTB := mTB_of (sg13 (List.mem_of_getElem? (i := 28) rfl)) rfl
theorem lo_X3_setFirm : Cond.code yX3_setFirm cX3_setFirm 3 (some .boolean) ∈ mTB := mTB_of (sg13 (List.mem_of_getElem? (i := 29) rfl)) rfl
theorem lmX3_124 : Cond.methodLink RX3 124 yX3_shareOf ∈ mTB := mTB_of (sg13 (List.mem_of_getElem? (i := 30) rfl)) rfl
theorem lv_X3_shareOf_i : Cond.instanceMethod yX3_shareOf ∈ mTB := mTB_of (sg13 (List.mem_of_getElem? (i := 32) rfl)) rfl
theorem lo_X3_shareOf : Cond.code yX3_shareOf cX3_shareOf 14 (some .long) ∈ mTB := mTB_of (sg13 (List.mem_of_getElem? (i := 33) rfl)) rfl
theorem lmX3_127 : Cond.methodLink RX3 127 yX3_correct ∈ mTB := mTB_of (sg13 (List.mem_of_getElem? (i := 34) rfl)) rfl
theorem lv_X3_correct_i : Cond.instanceMethod yX3_correct ∈ mTB := mTB_of (sg13 (List.mem_of_getElem? (i := 36) rfl)) rfl
theorem lo_X3_correct : Cond.code yX3_correct cX3_correct 7 (some .long) ∈ mTB := mTB_of (sg13 (List.mem_of_getElem? (i := 37) rfl)) rfl
theorem lmX3_251 : Cond.methodLink RX3 251 yX3_addDifference ∈ mTB := mTB_of (sg13 (List.mem_of_getElem? (i := 38) rfl)) rfl
theorem lv_X3_addDifference_i : Cond.instanceMethod yX3_addDifference ∈ mTB := mTB_of (sg13 (List.mem_of_getElem? (i := 40) rfl)) rfl
theorem lo_X3_addDifference : Cond.code yX3_addDifference cX3_addDifference 9 none ∈ mTB := mTB_of (sg13 (List.mem_of_getElem? (i := 41) rfl)) rfl
theorem lmX3_131 : Cond.methodLink RX3 131 yX3_dispute ∈ mTB := mTB_of (sg13 (List.mem_of_getElem? (i := 42) rfl)) rfl
theorem lv_X3_dispute_i : Cond.instanceMethod yX3_dispute ∈ mTB := mTB_of (sg13 (List.mem_of_getElem? (i := 44) rfl)) rfl
theorem lo_X3_dispute : Cond.code yX3_dispute cX3_dispute 5 (some .long) ∈ mTB := mTB_of (sg13 (List.mem_of_getElem? (i := 45) rfl)) rfl
theorem lmX3_288 : Cond.methodLink RX3 288 yX3_hasOther ∈ mTB := mTB_of (sg13 (List.mem_of_getElem? (i := 46) rfl)) rfl
theorem lv_X3_hasOther_i : Cond.instanceMethod yX3_hasOther ∈ mTB := mTB_of (sg13 (List.mem_of_getElem? (i := 48) rfl)) rfl
theorem lo_X3_hasOther : Cond.code yX3_hasOther cX3_hasOther 3 (some .boolean) ∈ mTB := mTB_of (sg13 (List.mem_of_getElem? (i := 49) rfl)) rfl
theorem lmX3_134 : Cond.methodLink RX3 134 yX3_plainEntries ∈ mTB := mTB_of (sg13 (List.mem_of_getElem? (i := 50) rfl)) rfl
theorem lv_X3_plainEntries_i : Cond.instanceMethod yX3_plainEntries ∈ mTB := mTB_of (sg13 (List.mem_of_getElem? (i := 52) rfl)) rfl
theorem lo_X3_plainEntries : Cond.code yX3_plainEntries cX3_plainEntries 4 (some .long) ∈ mTB := mTB_of (sg13 (List.mem_of_getElem? (i := 53) rfl)) rfl
theorem lkX3_291 : Cond.classLink RX3 291 RJx00060 ∈ mTB := mTB_of (sg13 (List.mem_of_getElem? (i := 54) rfl)) rfl
theorem lmX3_293 : Cond.methodLink RX3 293 yJx00060_init_da8c8 ∈ mTB := mTB_of (sg13 (List.mem_of_getElem? (i := 55) rfl)) rfl
theorem lmX3_137 : Cond.methodLink RX3 137 yX3_sign ∈ mTB := mTB_of (sg13 (List.mem_of_getElem? (i := 56) rfl)) rfl
theorem lv_X3_sign_i : Cond.instanceMethod yX3_sign ∈ mTB := mTB_of (sg13 (List.mem_of_getElem? (i := 58) rfl)) rfl
theorem lo_X3_sign : Cond.code yX3_sign cX3_sign 11 (some .long) ∈ mTB := mTB_of (sg13 (List.mem_of_getElem? (i := 59) rfl)) rfl
theorem lmX3_294 : Cond.methodLink RX3 294 yX3_write ∈ mTB := mTB_of (sg13 (List.mem_of_getElem? (i := 60) rfl)) rfl
theorem lv_X3_write_i : Cond.instanceMethod yX3_write ∈ mTB := mTB_of (sg13 (List.mem_of_getElem? (i := 62) rfl)) rfl
theorem lo_X3_write : Cond.code yX3_write cX3_write 3 (some .int) ∈ mTB := mTB_of (sg13 (List.mem_of_getElem? (i := 63) rfl)) rfl
theorem lmX3_298 : Cond.methodLink RX3 298 yX3_writeNumber ∈ mTB := mTB_of (sg13 (List.mem_of_getElem? (i := 64) rfl)) rfl
theorem lv_X3_writeNumber_i : Cond.instanceMethod yX3_writeNumber ∈ mTB := mTB_of (sg13 (List.mem_of_getElem? (i := 66) rfl)) rfl
theorem lo_X3_writeNumber : Cond.code yX3_writeNumber cX3_writeNumber 11 (some .int) ∈ mTB := mTB_of (sg13 (List.mem_of_getElem? (i := 67) rfl)) rfl
theorem lcX3_302 : Cond.constantLong RX3 302 (10 : Int64) ∈ mTB := mTB_of (sg13 (List.mem_of_getElem? (i := 68) rfl)) rfl
theorem lcX3_304 : Cond.constantLong RX3 304 (48 : Int64) ∈ mTB := mTB_of (sg13 (List.mem_of_getElem? (i := 69) rfl)) rfl
theorem lcX3_140 : Cond.constantLong RX3 140 (-9000000000000000000 : Int64) ∈ mTB := mTB_of (sg13 (List.mem_of_getElem? (i := 70) rfl)) rfl
theorem lkL_22 : Cond.classLink RL 22 RX20 ∈ mTB := mTB_of (sg13 (List.mem_of_getElem? (i := 71) rfl)) rfl
theorem ln_X20 : Cond.instantiable RX20 19 ∈ mTB := mTB_of (sg13 (List.mem_of_getElem? (i := 72) rfl)) rfl
theorem lmL_24 : Cond.methodLink RL 24 yX20_init ∈ mTB := mTB_of (sg13 (List.mem_of_getElem? (i := 73) rfl)) rfl
theorem lv_X20_init_i : Cond.instanceMethod yX20_init ∈ mTB := mTB_of (sg13 (List.mem_of_getElem? (i := 74) rfl)) rfl
theorem lo_X20_init : Cond.code yX20_init cX20_init 1 none ∈ mTB := mTB_of (sg13 (List.mem_of_getElem? (i := 75) rfl)) rfl
theorem lmX20_1 : Cond.methodLink RX20 1 ⟨"java/lang/Object", "<init>", "()V"⟩ ∈ mTB := mTB_of (sg13 (List.mem_of_getElem? (i := 76) rfl)) rfl
theorem lkX20_7 : Cond.classLink RX20 7 RX12 ∈ mTB := mTB_of (sg13 (List.mem_of_getElem? (i := 77) rfl)) rfl
theorem ln_X12 : Cond.instantiable RX12 32 ∈ mTB := mTB_of (sg13 (List.mem_of_getElem? (i := 78) rfl)) rfl
theorem lmX20_9 : Cond.methodLink RX20 9 yX12_init ∈ mTB := mTB_of (sg13 (List.mem_of_getElem? (i := 79) rfl)) rfl
theorem lv_X12_init_i : Cond.instanceMethod yX12_init ∈ mTB := mTB_of (sg13 (List.mem_of_getElem? (i := 80) rfl)) rfl
theorem lo_X12_init : Cond.code yX12_init cX12_init 4 none ∈ mTB := mTB_of (sg13 (List.mem_of_getElem? (i := 81) rfl)) rfl
theorem lmX12_1 : Cond.methodLink RX12 1 ⟨"java/lang/Object", "<init>", "()V"⟩ ∈ mTB := mTB_of (sg13 (List.mem_of_getElem? (i := 82) rfl)) rfl
theorem lcX12_51 : Cond.constant RX12 51 (88128 : Int32) ∈ mTB := mTB_of (sg13 (List.mem_of_getElem? (i := 83) rfl)) rfl
theorem lcX12_78 : Cond.constantLong RX12 78 (-1 : Int64) ∈ mTB := mTB_of (sg13 (List.mem_of_getElem? (i := 84) rfl)) rfl
theorem lfX12_84 : Cond.fieldLink RX12 84 (TX12 0).1 (TX12 0).2.1 (TX12 0).2.2.1 ∈ mTB := mTB_of (sg13 (List.mem_of_getElem? (i := 85) rfl)) rfl
theorem lfX12_87 : Cond.fieldLink RX12 87 (TX12 1).1 (TX12 1).2.1 (TX12 1).2.2.1 ∈ mTB := mTB_of (sg13 (List.mem_of_getElem? (i := 86) rfl)) rfl
theorem lfX12_7 : Cond.fieldLink RX12 7 (TX12 2).1 (TX12 2).2.1 (TX12 2).2.2.1 ∈ mTB := mTB_of (sg13 (List.mem_of_getElem? (i := 87) rfl)) rfl
theorem lfX12_13 : Cond.fieldLink RX12 13 (TX12 3).1 (TX12 3).2.1 (TX12 3).2.2.1 ∈ mTB := mTB_of (sg13 (List.mem_of_getElem? (i := 88) rfl)) rfl
theorem lfX12_16 : Cond.fieldLink RX12 16 (TX12 4).1 (TX12 4).2.1 (TX12 4).2.2.1 ∈ mTB := mTB_of (sg13 (List.mem_of_getElem? (i := 89) rfl)) rfl
theorem lfX12_19 : Cond.fieldLink RX12 19 (TX12 5).1 (TX12 5).2.1 (TX12 5).2.2.1 ∈ mTB := mTB_of (sg13 (List.mem_of_getElem? (i := 90) rfl)) rfl
theorem lfX12_22 : Cond.fieldLink RX12 22 (TX12 6).1 (TX12 6).2.1 (TX12 6).2.2.1 ∈ mTB := mTB_of (sg13 (List.mem_of_getElem? (i := 91) rfl)) rfl
theorem lfX12_25 : Cond.fieldLink RX12 25 (TX12 7).1 (TX12 7).2.1 (TX12 7).2.2.1 ∈ mTB := mTB_of (sg13 (List.mem_of_getElem? (i := 92) rfl)) rfl
theorem lfX12_29 : Cond.fieldLink RX12 29 (TX12 8).1 (TX12 8).2.1 (TX12 8).2.2.1 ∈ mTB := mTB_of (sg13 (List.mem_of_getElem? (i := 93) rfl)) rfl
theorem lfX12_32 : Cond.fieldLink RX12 32 (TX12 9).1 (TX12 9).2.1 (TX12 9).2.2.1 ∈ mTB := mTB_of (sg13 (List.mem_of_getElem? (i := 94) rfl)) rfl
theorem lfX12_35 : Cond.fieldLink RX12 35 (TX12 10).1 (TX12 10).2.1 (TX12 10).2.2.1 ∈ mTB := mTB_of (sg13 (List.mem_of_getElem? (i := 95) rfl)) rfl
theorem lfX12_38 : Cond.fieldLink RX12 38 (TX12 11).1 (TX12 11).2.1 (TX12 11).2.2.1 ∈ mTB := mTB_of (sg13 (List.mem_of_getElem? (i := 96) rfl)) rfl
theorem lfX12_41 : Cond.fieldLink RX12 41 (TX12 12).1 (TX12 12).2.1 (TX12 12).2.2.1 ∈ mTB := mTB_of (sg13 (List.mem_of_getElem? (i := 97) rfl)) rfl
theorem lfX12_45 : Cond.fieldLink RX12 45 (TX12 13).1 (TX12 13).2.1 (TX12 13).2.2.1 ∈ mTB := mTB_of (sg13 (List.mem_of_getElem? (i := 98) rfl)) rfl
theorem lfX12_48 : Cond.fieldLink RX12 48 (TX12 14).1 (TX12 14).2.1 (TX12 14).2.2.1 ∈ mTB := mTB_of (sg13 (List.mem_of_getElem? (i := 99) rfl)) rfl
theorem lfX12_52 : Cond.fieldLink RX12 52 (TX12 15).1 (TX12 15).2.1 (TX12 15).2.2.1 ∈ mTB := mTB_of (sg13 (List.mem_of_getElem? (i := 100) rfl)) rfl
theorem lfX12_56 : Cond.fieldLink RX12 56 (TX12 16).1 (TX12 16).2.1 (TX12 16).2.2.1 ∈ mTB := mTB_of (sg13 (List.mem_of_getElem? (i := 101) rfl)) rfl
theorem lfX12_59 : Cond.fieldLink RX12 59 (TX12 17).1 (TX12 17).2.1 (TX12 17).2.2.1 ∈ mTB := mTB_of (sg13 (List.mem_of_getElem? (i := 102) rfl)) rfl
theorem lfX12_62 : Cond.fieldLink RX12 62 (TX12 18).1 (TX12 18).2.1 (TX12 18).2.2.1 ∈ mTB := mTB_of (sg13 (List.mem_of_getElem? (i := 103) rfl)) rfl
theorem lfX12_65 : Cond.fieldLink RX12 65 (TX12 19).1 (TX12 19).2.1 (TX12 19).2.2.1 ∈ mTB := mTB_of (sg13 (List.mem_of_getElem? (i := 104) rfl)) rfl
theorem lfX12_175 : Cond.fieldLink RX12 175 (TX12 20).1 (TX12 20).2.1 (TX12 20).2.2.1 ∈ mTB := mTB_of (sg13 (List.mem_of_getElem? (i := 105) rfl)) rfl
theorem lfX12_147 : Cond.fieldLink RX12 147 (TX12 21).1 (TX12 21).2.1 (TX12 21).2.2.1 ∈ mTB := mTB_of (sg13 (List.mem_of_getElem? (i := 106) rfl)) rfl
theorem lfX12_178 : Cond.fieldLink RX12 178 (TX12 22).1 (TX12 22).2.1 (TX12 22).2.2.1 ∈ mTB := mTB_of (sg13 (List.mem_of_getElem? (i := 107) rfl)) rfl
theorem lfX12_207 : Cond.fieldLink RX12 207 (TX12 23).1 (TX12 23).2.1 (TX12 23).2.2.1 ∈ mTB := mTB_of (sg13 (List.mem_of_getElem? (i := 108) rfl)) rfl
theorem lfX12_68 : Cond.fieldLink RX12 68 (TX12 24).1 (TX12 24).2.1 (TX12 24).2.2.1 ∈ mTB := mTB_of (sg13 (List.mem_of_getElem? (i := 109) rfl)) rfl
theorem lfX12_71 : Cond.fieldLink RX12 71 (TX12 25).1 (TX12 25).2.1 (TX12 25).2.2.1 ∈ mTB := mTB_of (sg13 (List.mem_of_getElem? (i := 110) rfl)) rfl
theorem lfX12_74 : Cond.fieldLink RX12 74 (TX12 26).1 (TX12 26).2.1 (TX12 26).2.2.1 ∈ mTB := mTB_of (sg13 (List.mem_of_getElem? (i := 111) rfl)) rfl
theorem lfX12_184 : Cond.fieldLink RX12 184 (TX12 27).1 (TX12 27).2.1 (TX12 27).2.2.1 ∈ mTB := mTB_of (sg13 (List.mem_of_getElem? (i := 112) rfl)) rfl
theorem lfX12_197 : Cond.fieldLink RX12 197 (TX12 28).1 (TX12 28).2.1 (TX12 28).2.2.1 ∈ mTB := mTB_of (sg13 (List.mem_of_getElem? (i := 113) rfl)) rfl
theorem lfX12_80 : Cond.fieldLink RX12 80 (TX12 29).1 (TX12 29).2.1 (TX12 29).2.2.1 ∈ mTB := mTB_of (sg13 (List.mem_of_getElem? (i := 114) rfl)) rfl
theorem lfX12_194 : Cond.fieldLink RX12 194 (TX12 30).1 (TX12 30).2.1 (TX12 30).2.2.1 ∈ mTB := mTB_of (sg13 (List.mem_of_getElem? (i := 115) rfl)) rfl
theorem lkX20_18 : Cond.classLink RX20 18 RX13 ∈ mTB := mTB_of (sg13 (List.mem_of_getElem? (i := 181) rfl)) rfl
theorem ln_X13 : Cond.instantiable RX13 38 ∈ mTB := mTB_of (sg13 (List.mem_of_getElem? (i := 182) rfl)) rfl
theorem lmX20_20 : Cond.methodLink RX20 20 yX13_init ∈ mTB := mTB_of (sg13 (List.mem_of_getElem? (i := 183) rfl)) rfl
theorem lv_X13_init_i : Cond.instanceMethod yX13_init ∈ mTB := mTB_of (sg13 (List.mem_of_getElem? (i := 184) rfl)) rfl
theorem lo_X13_init : Cond.code yX13_init cX13_init 2 none ∈ mTB := mTB_of (sg13 (List.mem_of_getElem? (i := 185) rfl)) rfl
theorem lmX13_1 : Cond.methodLink RX13 1 ⟨"java/lang/Object", "<init>", "()V"⟩ ∈ mTB := mTB_of (sg13 (List.mem_of_getElem? (i := 186) rfl)) rfl
theorem lcX13_90 : Cond.constantLong RX13 90 (1125899906842624 : Int64) ∈ mTB := mTB_of (sg13 (List.mem_of_getElem? (i := 187) rfl)) rfl
theorem lfX13_92 : Cond.fieldLink RX13 92 (TX13 0).1 (TX13 0).2.1 (TX13 0).2.2.1 ∈ mTB := mTB_of (sg13 (List.mem_of_getElem? (i := 188) rfl)) rfl
theorem lfX13_115 : Cond.fieldLink RX13 115 (TX13 1).1 (TX13 1).2.1 (TX13 1).2.2.1 ∈ mTB := mTB_of (sg13 (List.mem_of_getElem? (i := 189) rfl)) rfl
theorem lfX13_7 : Cond.fieldLink RX13 7 (TX13 2).1 (TX13 2).2.1 (TX13 2).2.2.1 ∈ mTB := mTB_of (sg13 (List.mem_of_getElem? (i := 190) rfl)) rfl
theorem lfX13_13 : Cond.fieldLink RX13 13 (TX13 3).1 (TX13 3).2.1 (TX13 3).2.2.1 ∈ mTB := mTB_of (sg13 (List.mem_of_getElem? (i := 191) rfl)) rfl
theorem lfX13_16 : Cond.fieldLink RX13 16 (TX13 4).1 (TX13 4).2.1 (TX13 4).2.2.1 ∈ mTB := mTB_of (sg13 (List.mem_of_getElem? (i := 192) rfl)) rfl
theorem lfX13_19 : Cond.fieldLink RX13 19 (TX13 5).1 (TX13 5).2.1 (TX13 5).2.2.1 ∈ mTB := mTB_of (sg13 (List.mem_of_getElem? (i := 193) rfl)) rfl
theorem lfX13_136 : Cond.fieldLink RX13 136 (TX13 6).1 (TX13 6).2.1 (TX13 6).2.2.1 ∈ mTB := mTB_of (sg13 (List.mem_of_getElem? (i := 194) rfl)) rfl
theorem lfX13_22 : Cond.fieldLink RX13 22 (TX13 7).1 (TX13 7).2.1 (TX13 7).2.2.1 ∈ mTB := mTB_of (sg13 (List.mem_of_getElem? (i := 195) rfl)) rfl
theorem lfX13_25 : Cond.fieldLink RX13 25 (TX13 8).1 (TX13 8).2.1 (TX13 8).2.2.1 ∈ mTB := mTB_of (sg13 (List.mem_of_getElem? (i := 196) rfl)) rfl
theorem lfX13_121 : Cond.fieldLink RX13 121 (TX13 9).1 (TX13 9).2.1 (TX13 9).2.2.1 ∈ mTB := mTB_of (sg13 (List.mem_of_getElem? (i := 197) rfl)) rfl
theorem lfX13_28 : Cond.fieldLink RX13 28 (TX13 10).1 (TX13 10).2.1 (TX13 10).2.2.1 ∈ mTB := mTB_of (sg13 (List.mem_of_getElem? (i := 198) rfl)) rfl
theorem lfX13_31 : Cond.fieldLink RX13 31 (TX13 11).1 (TX13 11).2.1 (TX13 11).2.2.1 ∈ mTB := mTB_of (sg13 (List.mem_of_getElem? (i := 199) rfl)) rfl
theorem lfX13_34 : Cond.fieldLink RX13 34 (TX13 12).1 (TX13 12).2.1 (TX13 12).2.2.1 ∈ mTB := mTB_of (sg13 (List.mem_of_getElem? (i := 200) rfl)) rfl
theorem lfX13_130 : Cond.fieldLink RX13 130 (TX13 13).1 (TX13 13).2.1 (TX13 13).2.2.1 ∈ mTB := mTB_of (sg13 (List.mem_of_getElem? (i := 201) rfl)) rfl
theorem lfX13_37 : Cond.fieldLink RX13 37 (TX13 14).1 (TX13 14).2.1 (TX13 14).2.2.1 ∈ mTB := mTB_of (sg13 (List.mem_of_getElem? (i := 202) rfl)) rfl
theorem lfX13_40 : Cond.fieldLink RX13 40 (TX13 15).1 (TX13 15).2.1 (TX13 15).2.2.1 ∈ mTB := mTB_of (sg13 (List.mem_of_getElem? (i := 203) rfl)) rfl
theorem lfX13_43 : Cond.fieldLink RX13 43 (TX13 16).1 (TX13 16).2.1 (TX13 16).2.2.1 ∈ mTB := mTB_of (sg13 (List.mem_of_getElem? (i := 204) rfl)) rfl
theorem lfX13_46 : Cond.fieldLink RX13 46 (TX13 17).1 (TX13 17).2.1 (TX13 17).2.2.1 ∈ mTB := mTB_of (sg13 (List.mem_of_getElem? (i := 205) rfl)) rfl
theorem lfX13_50 : Cond.fieldLink RX13 50 (TX13 18).1 (TX13 18).2.1 (TX13 18).2.2.1 ∈ mTB := mTB_of (sg13 (List.mem_of_getElem? (i := 206) rfl)) rfl
theorem lfX13_54 : Cond.fieldLink RX13 54 (TX13 19).1 (TX13 19).2.1 (TX13 19).2.2.1 ∈ mTB := mTB_of (sg13 (List.mem_of_getElem? (i := 207) rfl)) rfl
theorem lfX13_57 : Cond.fieldLink RX13 57 (TX13 20).1 (TX13 20).2.1 (TX13 20).2.2.1 ∈ mTB := mTB_of (sg13 (List.mem_of_getElem? (i := 208) rfl)) rfl
theorem lfX13_60 : Cond.fieldLink RX13 60 (TX13 21).1 (TX13 21).2.1 (TX13 21).2.2.1 ∈ mTB := mTB_of (sg13 (List.mem_of_getElem? (i := 209) rfl)) rfl
theorem lfX13_149 : Cond.fieldLink RX13 149 (TX13 22).1 (TX13 22).2.1 (TX13 22).2.2.1 ∈ mTB := mTB_of (sg13 (List.mem_of_getElem? (i := 210) rfl)) rfl
theorem lfX13_63 : Cond.fieldLink RX13 63 (TX13 23).1 (TX13 23).2.1 (TX13 23).2.2.1 ∈ mTB := mTB_of (sg13 (List.mem_of_getElem? (i := 211) rfl)) rfl
theorem lfX13_66 : Cond.fieldLink RX13 66 (TX13 24).1 (TX13 24).2.1 (TX13 24).2.2.1 ∈ mTB := mTB_of (sg13 (List.mem_of_getElem? (i := 212) rfl)) rfl
theorem lfX13_69 : Cond.fieldLink RX13 69 (TX13 25).1 (TX13 25).2.1 (TX13 25).2.2.1 ∈ mTB := mTB_of (sg13 (List.mem_of_getElem? (i := 213) rfl)) rfl
theorem lfX13_72 : Cond.fieldLink RX13 72 (TX13 26).1 (TX13 26).2.1 (TX13 26).2.2.1 ∈ mTB := mTB_of (sg13 (List.mem_of_getElem? (i := 214) rfl)) rfl
theorem lfX13_75 : Cond.fieldLink RX13 75 (TX13 27).1 (TX13 27).2.1 (TX13 27).2.2.1 ∈ mTB := mTB_of (sg13 (List.mem_of_getElem? (i := 215) rfl)) rfl
theorem lfX13_78 : Cond.fieldLink RX13 78 (TX13 28).1 (TX13 28).2.1 (TX13 28).2.2.1 ∈ mTB := mTB_of (sg13 (List.mem_of_getElem? (i := 216) rfl)) rfl
theorem lfX13_81 : Cond.fieldLink RX13 81 (TX13 29).1 (TX13 29).2.1 (TX13 29).2.2.1 ∈ mTB := mTB_of (sg13 (List.mem_of_getElem? (i := 217) rfl)) rfl
theorem lfX13_84 : Cond.fieldLink RX13 84 (TX13 30).1 (TX13 30).2.1 (TX13 30).2.2.1 ∈ mTB := mTB_of (sg13 (List.mem_of_getElem? (i := 218) rfl)) rfl
theorem lfX13_172 : Cond.fieldLink RX13 172 (TX13 31).1 (TX13 31).2.1 (TX13 31).2.2.1 ∈ mTB := mTB_of (sg13 (List.mem_of_getElem? (i := 219) rfl)) rfl
theorem lfX13_176 : Cond.fieldLink RX13 176 (TX13 32).1 (TX13 32).2.1 (TX13 32).2.2.1 ∈ mTB := mTB_of (sg13 (List.mem_of_getElem? (i := 220) rfl)) rfl
theorem lfX13_96 : Cond.fieldLink RX13 96 (TX13 33).1 (TX13 33).2.1 (TX13 33).2.2.1 ∈ mTB := mTB_of (sg13 (List.mem_of_getElem? (i := 221) rfl)) rfl
theorem lfX13_100 : Cond.fieldLink RX13 100 (TX13 34).1 (TX13 34).2.1 (TX13 34).2.2.1 ∈ mTB := mTB_of (sg13 (List.mem_of_getElem? (i := 222) rfl)) rfl
theorem lfX13_198 : Cond.fieldLink RX13 198 (TX13 35).1 (TX13 35).2.1 (TX13 35).2.2.1 ∈ mTB := mTB_of (sg13 (List.mem_of_getElem? (i := 223) rfl)) rfl
theorem lfX13_201 : Cond.fieldLink RX13 201 (TX13 36).1 (TX13 36).2.1 (TX13 36).2.2.1 ∈ mTB := mTB_of (sg13 (List.mem_of_getElem? (i := 224) rfl)) rfl
theorem lfX13_87 : Cond.fieldLink RX13 87 (TX13 37).1 (TX13 37).2.1 (TX13 37).2.2.1 ∈ mTB := mTB_of (sg13 (List.mem_of_getElem? (i := 225) rfl)) rfl
theorem lkX20_25 : Cond.classLink RX20 25 RX14 ∈ mTB := mTB_of (sg14 (List.mem_of_getElem? (i := 63) rfl)) rfl
theorem ln_X14 : Cond.instantiable RX14 26 ∈ mTB := mTB_of (sg14 (List.mem_of_getElem? (i := 64) rfl)) rfl
theorem lmX20_27 : Cond.methodLink RX20 27 yX14_init ∈ mTB := mTB_of (sg14 (List.mem_of_getElem? (i := 65) rfl)) rfl
theorem lv_X14_init_i : Cond.instanceMethod yX14_init ∈ mTB := mTB_of (sg14 (List.mem_of_getElem? (i := 66) rfl)) rfl
theorem lo_X14_init : Cond.code yX14_init cX14_init 1 none ∈ mTB := mTB_of (sg14 (List.mem_of_getElem? (i := 67) rfl)) rfl
theorem lmX14_1 : Cond.methodLink RX14 1 ⟨"java/lang/Object", "<init>", "()V"⟩ ∈ mTB := mTB_of (sg14 (List.mem_of_getElem? (i := 68) rfl)) rfl
theorem lcX14_7 : Cond.constant RX14 7 (48300 : Int32) ∈ mTB := mTB_of (sg14 (List.mem_of_getElem? (i := 69) rfl)) rfl
theorem lfX14_70 : Cond.fieldLink RX14 70 (TX14 0).1 (TX14 0).2.1 (TX14 0).2.2.1 ∈ mTB := mTB_of (sg14 (List.mem_of_getElem? (i := 70) rfl)) rfl
theorem lfX14_8 : Cond.fieldLink RX14 8 (TX14 1).1 (TX14 1).2.1 (TX14 1).2.2.1 ∈ mTB := mTB_of (sg14 (List.mem_of_getElem? (i := 71) rfl)) rfl
theorem lfX14_14 : Cond.fieldLink RX14 14 (TX14 2).1 (TX14 2).2.1 (TX14 2).2.2.1 ∈ mTB := mTB_of (sg14 (List.mem_of_getElem? (i := 72) rfl)) rfl
theorem lfX14_66 : Cond.fieldLink RX14 66 (TX14 3).1 (TX14 3).2.1 (TX14 3).2.2.1 ∈ mTB := mTB_of (sg14 (List.mem_of_getElem? (i := 73) rfl)) rfl
theorem lfX14_17 : Cond.fieldLink RX14 17 (TX14 4).1 (TX14 4).2.1 (TX14 4).2.2.1 ∈ mTB := mTB_of (sg14 (List.mem_of_getElem? (i := 74) rfl)) rfl
theorem lfX14_20 : Cond.fieldLink RX14 20 (TX14 5).1 (TX14 5).2.1 (TX14 5).2.2.1 ∈ mTB := mTB_of (sg14 (List.mem_of_getElem? (i := 76) rfl)) rfl
theorem lfX14_23 : Cond.fieldLink RX14 23 (TX14 6).1 (TX14 6).2.1 (TX14 6).2.2.1 ∈ mTB := mTB_of (sg14 (List.mem_of_getElem? (i := 77) rfl)) rfl
theorem lfX14_27 : Cond.fieldLink RX14 27 (TX14 7).1 (TX14 7).2.1 (TX14 7).2.2.1 ∈ mTB := mTB_of (sg14 (List.mem_of_getElem? (i := 78) rfl)) rfl
theorem lfX14_30 : Cond.fieldLink RX14 30 (TX14 8).1 (TX14 8).2.1 (TX14 8).2.2.1 ∈ mTB := mTB_of (sg14 (List.mem_of_getElem? (i := 79) rfl)) rfl
theorem lfX14_33 : Cond.fieldLink RX14 33 (TX14 9).1 (TX14 9).2.1 (TX14 9).2.2.1 ∈ mTB := mTB_of (sg14 (List.mem_of_getElem? (i := 80) rfl)) rfl
theorem lfX14_139 : Cond.fieldLink RX14 139 (TX14 10).1 (TX14 10).2.1 (TX14 10).2.2.1 ∈ mTB := mTB_of (sg14 (List.mem_of_getElem? (i := 81) rfl)) rfl
theorem lfX14_36 : Cond.fieldLink RX14 36 (TX14 11).1 (TX14 11).2.1 (TX14 11).2.2.1 ∈ mTB := mTB_of (sg14 (List.mem_of_getElem? (i := 82) rfl)) rfl
theorem lfX14_161 : Cond.fieldLink RX14 161 (TX14 12).1 (TX14 12).2.1 (TX14 12).2.2.1 ∈ mTB := mTB_of (sg14 (List.mem_of_getElem? (i := 83) rfl)) rfl
theorem lfX14_39 : Cond.fieldLink RX14 39 (TX14 13).1 (TX14 13).2.1 (TX14 13).2.2.1 ∈ mTB := mTB_of (sg14 (List.mem_of_getElem? (i := 84) rfl)) rfl
theorem lfX14_42 : Cond.fieldLink RX14 42 (TX14 14).1 (TX14 14).2.1 (TX14 14).2.2.1 ∈ mTB := mTB_of (sg14 (List.mem_of_getElem? (i := 85) rfl)) rfl
theorem lfX14_45 : Cond.fieldLink RX14 45 (TX14 15).1 (TX14 15).2.1 (TX14 15).2.2.1 ∈ mTB := mTB_of (sg14 (List.mem_of_getElem? (i := 86) rfl)) rfl
theorem lfX14_164 : Cond.fieldLink RX14 164 (TX14 16).1 (TX14 16).2.1 (TX14 16).2.2.1 ∈ mTB := mTB_of (sg14 (List.mem_of_getElem? (i := 87) rfl)) rfl
theorem lfX14_199 : Cond.fieldLink RX14 199 (TX14 17).1 (TX14 17).2.1 (TX14 17).2.2.1 ∈ mTB := mTB_of (sg14 (List.mem_of_getElem? (i := 88) rfl)) rfl
theorem lfX14_218 : Cond.fieldLink RX14 218 (TX14 18).1 (TX14 18).2.1 (TX14 18).2.2.1 ∈ mTB := mTB_of (sg14 (List.mem_of_getElem? (i := 89) rfl)) rfl
theorem lfX14_48 : Cond.fieldLink RX14 48 (TX14 19).1 (TX14 19).2.1 (TX14 19).2.2.1 ∈ mTB := mTB_of (sg14 (List.mem_of_getElem? (i := 90) rfl)) rfl
theorem lfX14_142 : Cond.fieldLink RX14 142 (TX14 20).1 (TX14 20).2.1 (TX14 20).2.2.1 ∈ mTB := mTB_of (sg14 (List.mem_of_getElem? (i := 91) rfl)) rfl
theorem lfX14_51 : Cond.fieldLink RX14 51 (TX14 21).1 (TX14 21).2.1 (TX14 21).2.2.1 ∈ mTB := mTB_of (sg14 (List.mem_of_getElem? (i := 92) rfl)) rfl
theorem lfX14_54 : Cond.fieldLink RX14 54 (TX14 22).1 (TX14 22).2.1 (TX14 22).2.2.1 ∈ mTB := mTB_of (sg14 (List.mem_of_getElem? (i := 93) rfl)) rfl
theorem lfX14_57 : Cond.fieldLink RX14 57 (TX14 23).1 (TX14 23).2.1 (TX14 23).2.2.1 ∈ mTB := mTB_of (sg14 (List.mem_of_getElem? (i := 94) rfl)) rfl
theorem lfX14_60 : Cond.fieldLink RX14 60 (TX14 24).1 (TX14 24).2.1 (TX14 24).2.2.1 ∈ mTB := mTB_of (sg14 (List.mem_of_getElem? (i := 95) rfl)) rfl
theorem lfX14_63 : Cond.fieldLink RX14 63 (TX14 25).1 (TX14 25).2.1 (TX14 25).2.2.1 ∈ mTB := mTB_of (sg14 (List.mem_of_getElem? (i := 96) rfl)) rfl
theorem lkX20_32 : Cond.classLink RX20 32 RX19 ∈ mTB := mTB_of (sg14 (List.mem_of_getElem? (i := 150) rfl)) rfl
theorem ln_X19 : Cond.instantiable RX19 35 ∈ mTB := mTB_of (sg14 (List.mem_of_getElem? (i := 151) rfl)) rfl
theorem lmX20_34 : Cond.methodLink RX20 34 yX19_init ∈ mTB := mTB_of (sg14 (List.mem_of_getElem? (i := 152) rfl)) rfl
theorem lv_X19_init_i : Cond.instanceMethod yX19_init ∈ mTB := mTB_of (sg14 (List.mem_of_getElem? (i := 153) rfl)) rfl
theorem lo_X19_init : Cond.code yX19_init cX19_init 1 none ∈ mTB := mTB_of (sg14 (List.mem_of_getElem? (i := 154) rfl)) rfl
theorem lmX19_1 : Cond.methodLink RX19 1 ⟨"java/lang/Object", "<init>", "()V"⟩ ∈ mTB := mTB_of (sg14 (List.mem_of_getElem? (i := 155) rfl)) rfl
theorem lfX19_7 : Cond.fieldLink RX19 7 (TX19 0).1 (TX19 0).2.1 (TX19 0).2.2.1 ∈ mTB := mTB_of (sg14 (List.mem_of_getElem? (i := 156) rfl)) rfl
theorem lfX19_13 : Cond.fieldLink RX19 13 (TX19 1).1 (TX19 1).2.1 (TX19 1).2.2.1 ∈ mTB := mTB_of (sg14 (List.mem_of_getElem? (i := 157) rfl)) rfl
theorem lfX19_140 : Cond.fieldLink RX19 140 (TX19 2).1 (TX19 2).2.1 (TX19 2).2.2.1 ∈ mTB := mTB_of (sg14 (List.mem_of_getElem? (i := 158) rfl)) rfl
theorem lfX19_16 : Cond.fieldLink RX19 16 (TX19 3).1 (TX19 3).2.1 (TX19 3).2.2.1 ∈ mTB := mTB_of (sg14 (List.mem_of_getElem? (i := 159) rfl)) rfl
theorem lfX19_19 : Cond.fieldLink RX19 19 (TX19 4).1 (TX19 4).2.1 (TX19 4).2.2.1 ∈ mTB := mTB_of (sg14 (List.mem_of_getElem? (i := 160) rfl)) rfl
theorem lfX19_23 : Cond.fieldLink RX19 23 (TX19 5).1 (TX19 5).2.1 (TX19 5).2.2.1 ∈ mTB := mTB_of (sg14 (List.mem_of_getElem? (i := 161) rfl)) rfl
theorem lfX19_151 : Cond.fieldLink RX19 151 (TX19 6).1 (TX19 6).2.1 (TX19 6).2.2.1 ∈ mTB := mTB_of (sg14 (List.mem_of_getElem? (i := 162) rfl)) rfl
theorem lfX19_167 : Cond.fieldLink RX19 167 (TX19 7).1 (TX19 7).2.1 (TX19 7).2.2.1 ∈ mTB := mTB_of (sg14 (List.mem_of_getElem? (i := 163) rfl)) rfl
theorem lfX19_26 : Cond.fieldLink RX19 26 (TX19 8).1 (TX19 8).2.1 (TX19 8).2.2.1 ∈ mTB := mTB_of (sg14 (List.mem_of_getElem? (i := 164) rfl)) rfl
theorem lfX19_29 : Cond.fieldLink RX19 29 (TX19 9).1 (TX19 9).2.1 (TX19 9).2.2.1 ∈ mTB := mTB_of (sg14 (List.mem_of_getElem? (i := 165) rfl)) rfl
theorem lfX19_32 : Cond.fieldLink RX19 32 (TX19 10).1 (TX19 10).2.1 (TX19 10).2.2.1 ∈ mTB := mTB_of (sg14 (List.mem_of_getElem? (i := 166) rfl)) rfl
theorem lfX19_35 : Cond.fieldLink RX19 35 (TX19 11).1 (TX19 11).2.1 (TX19 11).2.2.1 ∈ mTB := mTB_of (sg14 (List.mem_of_getElem? (i := 167) rfl)) rfl
theorem lfX19_38 : Cond.fieldLink RX19 38 (TX19 12).1 (TX19 12).2.1 (TX19 12).2.2.1 ∈ mTB := mTB_of (sg14 (List.mem_of_getElem? (i := 168) rfl)) rfl
theorem lfX19_132 : Cond.fieldLink RX19 132 (TX19 13).1 (TX19 13).2.1 (TX19 13).2.2.1 ∈ mTB := mTB_of (sg14 (List.mem_of_getElem? (i := 169) rfl)) rfl
theorem lfX19_183 : Cond.fieldLink RX19 183 (TX19 14).1 (TX19 14).2.1 (TX19 14).2.2.1 ∈ mTB := mTB_of (sg14 (List.mem_of_getElem? (i := 170) rfl)) rfl
theorem lfX19_186 : Cond.fieldLink RX19 186 (TX19 15).1 (TX19 15).2.1 (TX19 15).2.2.1 ∈ mTB := mTB_of (sg14 (List.mem_of_getElem? (i := 171) rfl)) rfl
theorem lfX19_189 : Cond.fieldLink RX19 189 (TX19 16).1 (TX19 16).2.1 (TX19 16).2.2.1 ∈ mTB := mTB_of (sg14 (List.mem_of_getElem? (i := 172) rfl)) rfl
theorem lfX19_136 : Cond.fieldLink RX19 136 (TX19 17).1 (TX19 17).2.1 (TX19 17).2.2.1 ∈ mTB := mTB_of (sg14 (List.mem_of_getElem? (i := 173) rfl)) rfl
theorem lfX19_232 : Cond.fieldLink RX19 232 (TX19 18).1 (TX19 18).2.1 (TX19 18).2.2.1 ∈ mTB := mTB_of (sg14 (List.mem_of_getElem? (i := 174) rfl)) rfl
theorem lfX19_195 : Cond.fieldLink RX19 195 (TX19 19).1 (TX19 19).2.1 (TX19 19).2.2.1 ∈ mTB := mTB_of (sg14 (List.mem_of_getElem? (i := 175) rfl)) rfl
theorem lfX19_212 : Cond.fieldLink RX19 212 (TX19 20).1 (TX19 20).2.1 (TX19 20).2.2.1 ∈ mTB := mTB_of (sg14 (List.mem_of_getElem? (i := 176) rfl)) rfl
theorem lfX19_235 : Cond.fieldLink RX19 235 (TX19 21).1 (TX19 21).2.1 (TX19 21).2.2.1 ∈ mTB := mTB_of (sg14 (List.mem_of_getElem? (i := 177) rfl)) rfl
theorem lfX19_41 : Cond.fieldLink RX19 41 (TX19 22).1 (TX19 22).2.1 (TX19 22).2.2.1 ∈ mTB := mTB_of (sg14 (List.mem_of_getElem? (i := 178) rfl)) rfl
theorem lfX19_44 : Cond.fieldLink RX19 44 (TX19 23).1 (TX19 23).2.1 (TX19 23).2.2.1 ∈ mTB := mTB_of (sg14 (List.mem_of_getElem? (i := 179) rfl)) rfl
theorem lfX19_260 : Cond.fieldLink RX19 260 (TX19 24).1 (TX19 24).2.1 (TX19 24).2.2.1 ∈ mTB := mTB_of (sg14 (List.mem_of_getElem? (i := 180) rfl)) rfl
theorem lfX19_47 : Cond.fieldLink RX19 47 (TX19 25).1 (TX19 25).2.1 (TX19 25).2.2.1 ∈ mTB := mTB_of (sg14 (List.mem_of_getElem? (i := 181) rfl)) rfl
theorem lfX19_266 : Cond.fieldLink RX19 266 (TX19 26).1 (TX19 26).2.1 (TX19 26).2.2.1 ∈ mTB := mTB_of (sg14 (List.mem_of_getElem? (i := 182) rfl)) rfl
theorem lfX19_50 : Cond.fieldLink RX19 50 (TX19 27).1 (TX19 27).2.1 (TX19 27).2.2.1 ∈ mTB := mTB_of (sg14 (List.mem_of_getElem? (i := 183) rfl)) rfl
theorem lfX19_53 : Cond.fieldLink RX19 53 (TX19 28).1 (TX19 28).2.1 (TX19 28).2.2.1 ∈ mTB := mTB_of (sg14 (List.mem_of_getElem? (i := 184) rfl)) rfl
theorem lfX19_56 : Cond.fieldLink RX19 56 (TX19 29).1 (TX19 29).2.1 (TX19 29).2.2.1 ∈ mTB := mTB_of (sg14 (List.mem_of_getElem? (i := 185) rfl)) rfl
theorem lfX19_59 : Cond.fieldLink RX19 59 (TX19 30).1 (TX19 30).2.1 (TX19 30).2.2.1 ∈ mTB := mTB_of (sg14 (List.mem_of_getElem? (i := 186) rfl)) rfl
theorem lfX19_180 : Cond.fieldLink RX19 180 (TX19 31).1 (TX19 31).2.1 (TX19 31).2.2.1 ∈ mTB := mTB_of (sg14 (List.mem_of_getElem? (i := 187) rfl)) rfl
theorem lfX19_62 : Cond.fieldLink RX19 62 (TX19 32).1 (TX19 32).2.1 (TX19 32).2.2.1 ∈ mTB := mTB_of (sg14 (List.mem_of_getElem? (i := 188) rfl)) rfl
theorem lfX19_65 : Cond.fieldLink RX19 65 (TX19 34).1 (TX19 34).2.1 (TX19 34).2.2.1 ∈ mTB := mTB_of (sg14 (List.mem_of_getElem? (i := 189) rfl)) rfl
theorem lkX20_39 : Cond.classLink RX20 39 RX18 ∈ mTB := mTB_of (sg15 (List.mem_of_getElem? (i := 21) rfl)) rfl
theorem ln_X18 : Cond.instantiable RX18 25 ∈ mTB := mTB_of (sg15 (List.mem_of_getElem? (i := 22) rfl)) rfl
theorem lmX20_41 : Cond.methodLink RX20 41 yX18_init ∈ mTB := mTB_of (sg15 (List.mem_of_getElem? (i := 23) rfl)) rfl
theorem lv_X18_init_i : Cond.instanceMethod yX18_init ∈ mTB := mTB_of (sg15 (List.mem_of_getElem? (i := 24) rfl)) rfl
theorem lo_X18_init : Cond.code yX18_init cX18_init 1 none ∈ mTB := mTB_of (sg15 (List.mem_of_getElem? (i := 25) rfl)) rfl
theorem lmX18_1 : Cond.methodLink RX18 1 ⟨"java/lang/Object", "<init>", "()V"⟩ ∈ mTB := mTB_of (sg15 (List.mem_of_getElem? (i := 26) rfl)) rfl
theorem lfX18_80 : Cond.fieldLink RX18 80 (TX18 0).1 (TX18 0).2.1 (TX18 0).2.2.1 ∈ mTB := mTB_of (sg15 (List.mem_of_getElem? (i := 27) rfl)) rfl
theorem lfX18_7 : Cond.fieldLink RX18 7 (TX18 1).1 (TX18 1).2.1 (TX18 1).2.2.1 ∈ mTB := mTB_of (sg15 (List.mem_of_getElem? (i := 28) rfl)) rfl
theorem lfX18_69 : Cond.fieldLink RX18 69 (TX18 2).1 (TX18 2).2.1 (TX18 2).2.2.1 ∈ mTB := mTB_of (sg15 (List.mem_of_getElem? (i := 29) rfl)) rfl
theorem lfX18_13 : Cond.fieldLink RX18 13 (TX18 3).1 (TX18 3).2.1 (TX18 3).2.2.1 ∈ mTB := mTB_of (sg15 (List.mem_of_getElem? (i := 30) rfl)) rfl
theorem lfX18_77 : Cond.fieldLink RX18 77 (TX18 4).1 (TX18 4).2.1 (TX18 4).2.2.1 ∈ mTB := mTB_of (sg15 (List.mem_of_getElem? (i := 31) rfl)) rfl
theorem lfX18_16 : Cond.fieldLink RX18 16 (TX18 5).1 (TX18 5).2.1 (TX18 5).2.2.1 ∈ mTB := mTB_of (sg15 (List.mem_of_getElem? (i := 32) rfl)) rfl
theorem lfX18_19 : Cond.fieldLink RX18 19 (TX18 6).1 (TX18 6).2.1 (TX18 6).2.2.1 ∈ mTB := mTB_of (sg15 (List.mem_of_getElem? (i := 33) rfl)) rfl
theorem lfX18_22 : Cond.fieldLink RX18 22 (TX18 7).1 (TX18 7).2.1 (TX18 7).2.2.1 ∈ mTB := mTB_of (sg15 (List.mem_of_getElem? (i := 34) rfl)) rfl
theorem lfX18_25 : Cond.fieldLink RX18 25 (TX18 8).1 (TX18 8).2.1 (TX18 8).2.2.1 ∈ mTB := mTB_of (sg15 (List.mem_of_getElem? (i := 35) rfl)) rfl
theorem lfX18_28 : Cond.fieldLink RX18 28 (TX18 9).1 (TX18 9).2.1 (TX18 9).2.2.1 ∈ mTB := mTB_of (sg15 (List.mem_of_getElem? (i := 36) rfl)) rfl
theorem lfX18_32 : Cond.fieldLink RX18 32 (TX18 10).1 (TX18 10).2.1 (TX18 10).2.2.1 ∈ mTB := mTB_of (sg15 (List.mem_of_getElem? (i := 37) rfl)) rfl
theorem lfX18_35 : Cond.fieldLink RX18 35 (TX18 11).1 (TX18 11).2.1 (TX18 11).2.2.1 ∈ mTB := mTB_of (sg15 (List.mem_of_getElem? (i := 38) rfl)) rfl
theorem lfX18_38 : Cond.fieldLink RX18 38 (TX18 12).1 (TX18 12).2.1 (TX18 12).2.2.1 ∈ mTB := mTB_of (sg15 (List.mem_of_getElem? (i := 39) rfl)) rfl
theorem lfX18_42 : Cond.fieldLink RX18 42 (TX18 13).1 (TX18 13).2.1 (TX18 13).2.2.1 ∈ mTB := mTB_of (sg15 (List.mem_of_getElem? (i := 40) rfl)) rfl
theorem lfX18_45 : Cond.fieldLink RX18 45 (TX18 14).1 (TX18 14).2.1 (TX18 14).2.2.1 ∈ mTB := mTB_of (sg15 (List.mem_of_getElem? (i := 41) rfl)) rfl
theorem lfX18_48 : Cond.fieldLink RX18 48 (TX18 15).1 (TX18 15).2.1 (TX18 15).2.2.1 ∈ mTB := mTB_of (sg15 (List.mem_of_getElem? (i := 42) rfl)) rfl
theorem lfX18_200 : Cond.fieldLink RX18 200 (TX18 16).1 (TX18 16).2.1 (TX18 16).2.2.1 ∈ mTB := mTB_of (sg15 (List.mem_of_getElem? (i := 43) rfl)) rfl
theorem lfX18_51 : Cond.fieldLink RX18 51 (TX18 17).1 (TX18 17).2.1 (TX18 17).2.2.1 ∈ mTB := mTB_of (sg15 (List.mem_of_getElem? (i := 44) rfl)) rfl
theorem lfX18_182 : Cond.fieldLink RX18 182 (TX18 18).1 (TX18 18).2.1 (TX18 18).2.2.1 ∈ mTB := mTB_of (sg15 (List.mem_of_getElem? (i := 45) rfl)) rfl
theorem lfX18_186 : Cond.fieldLink RX18 186 (TX18 19).1 (TX18 19).2.1 (TX18 19).2.2.1 ∈ mTB := mTB_of (sg15 (List.mem_of_getElem? (i := 46) rfl)) rfl
theorem lfX18_54 : Cond.fieldLink RX18 54 (TX18 20).1 (TX18 20).2.1 (TX18 20).2.2.1 ∈ mTB := mTB_of (sg15 (List.mem_of_getElem? (i := 47) rfl)) rfl
theorem lfX18_57 : Cond.fieldLink RX18 57 (TX18 21).1 (TX18 21).2.1 (TX18 21).2.2.1 ∈ mTB := mTB_of (sg15 (List.mem_of_getElem? (i := 48) rfl)) rfl
theorem lfX18_60 : Cond.fieldLink RX18 60 (TX18 22).1 (TX18 22).2.1 (TX18 22).2.2.1 ∈ mTB := mTB_of (sg15 (List.mem_of_getElem? (i := 49) rfl)) rfl
theorem lfX18_63 : Cond.fieldLink RX18 63 (TX18 23).1 (TX18 23).2.1 (TX18 23).2.2.1 ∈ mTB := mTB_of (sg15 (List.mem_of_getElem? (i := 50) rfl)) rfl
theorem lfX18_66 : Cond.fieldLink RX18 66 (TX18 24).1 (TX18 24).2.1 (TX18 24).2.2.1 ∈ mTB := mTB_of (sg15 (List.mem_of_getElem? (i := 51) rfl)) rfl
theorem lkX20_46 : Cond.classLink RX20 46 RX16 ∈ mTB := mTB_of (sg15 (List.mem_of_getElem? (i := 103) rfl)) rfl
theorem ln_X16 : Cond.instantiable RX16 30 ∈ mTB := mTB_of (sg15 (List.mem_of_getElem? (i := 104) rfl)) rfl
theorem lmX20_48 : Cond.methodLink RX20 48 yX16_init ∈ mTB := mTB_of (sg15 (List.mem_of_getElem? (i := 105) rfl)) rfl
theorem lv_X16_init_i : Cond.instanceMethod yX16_init ∈ mTB := mTB_of (sg15 (List.mem_of_getElem? (i := 106) rfl)) rfl
theorem lo_X16_init : Cond.code yX16_init cX16_init 1 none ∈ mTB := mTB_of (sg15 (List.mem_of_getElem? (i := 107) rfl)) rfl
theorem lmX16_1 : Cond.methodLink RX16 1 ⟨"java/lang/Object", "<init>", "()V"⟩ ∈ mTB := mTB_of (sg15 (List.mem_of_getElem? (i := 108) rfl)) rfl
theorem lmX16_65 : Cond.methodLink RX16 65 yX16_begin ∈ mTB := mTB_of (sg15 (List.mem_of_getElem? (i := 109) rfl)) rfl
theorem lv_X16_begin_i : Cond.instanceMethod yX16_begin ∈ mTB := mTB_of (sg15 (List.mem_of_getElem? (i := 110) rfl)) rfl
theorem ls_X16_begin : Cond.selects yX16_begin.cls yX16_begin yX16_begin ∈ mTB := mTB_of (sg15 (List.mem_of_getElem? (i := 111) rfl)) rfl
theorem lo_X16_begin : Cond.code yX16_begin cX16_begin 3 none ∈ mTB := mTB_of (sg15 (List.mem_of_getElem? (i := 112) rfl)) rfl
theorem lmX16_101 : Cond.methodLink RX16 101 yX16_forget ∈ mTB := mTB_of (sg15 (List.mem_of_getElem? (i := 113) rfl)) rfl
theorem lv_X16_forget_i : Cond.instanceMethod yX16_forget ∈ mTB := mTB_of (sg15 (List.mem_of_getElem? (i := 115) rfl)) rfl
theorem lo_X16_forget : Cond.code yX16_forget cX16_forget 1 none ∈ mTB := mTB_of (sg15 (List.mem_of_getElem? (i := 116) rfl)) rfl
theorem lmX16_88 : Cond.methodLink RX16 88 yX16_first ∈ mTB := mTB_of (sg15 (List.mem_of_getElem? (i := 117) rfl)) rfl
theorem lv_X16_first_i : Cond.instanceMethod yX16_first ∈ mTB := mTB_of (sg15 (List.mem_of_getElem? (i := 119) rfl)) rfl
theorem lo_X16_first : Cond.code yX16_first cX16_first 2 none ∈ mTB := mTB_of (sg15 (List.mem_of_getElem? (i := 120) rfl)) rfl
theorem lmX16_122 : Cond.methodLink RX16 122 yX16_groupsNow ∈ mTB := mTB_of (sg15 (List.mem_of_getElem? (i := 121) rfl)) rfl
theorem lv_X16_groupsNow_i : Cond.instanceMethod yX16_groupsNow ∈ mTB := mTB_of (sg15 (List.mem_of_getElem? (i := 123) rfl)) rfl
theorem lo_X16_groupsNow : Cond.code yX16_groupsNow cX16_groupsNow 1 (some .int) ∈ mTB := mTB_of (sg15 (List.mem_of_getElem? (i := 124) rfl)) rfl
theorem lmX16_119 : Cond.methodLink RX16 119 yX16_part ∈ mTB := mTB_of (sg15 (List.mem_of_getElem? (i := 125) rfl)) rfl
theorem lv_X16_part_i : Cond.instanceMethod yX16_part ∈ mTB := mTB_of (sg15 (List.mem_of_getElem? (i := 127) rfl)) rfl
theorem lo_X16_part : Cond.code yX16_part cX16_part 4 (some .int) ∈ mTB := mTB_of (sg15 (List.mem_of_getElem? (i := 128) rfl)) rfl
theorem lmX16_129 : Cond.methodLink RX16 129 yX16_in ∈ mTB := mTB_of (sg15 (List.mem_of_getElem? (i := 129) rfl)) rfl
theorem lv_X16_in_s : Cond.static yX16_in ∈ mTB := mTB_of (sg15 (List.mem_of_getElem? (i := 130) rfl)) rfl
theorem lo_X16_in : Cond.code yX16_in cX16_in 2 (some .boolean) ∈ mTB := mTB_of (sg15 (List.mem_of_getElem? (i := 131) rfl)) rfl
theorem lmX16_91 : Cond.methodLink RX16 91 yX16_copyTo ∈ mTB := mTB_of (sg15 (List.mem_of_getElem? (i := 132) rfl)) rfl
theorem lv_X16_copyTo_i : Cond.instanceMethod yX16_copyTo ∈ mTB := mTB_of (sg15 (List.mem_of_getElem? (i := 134) rfl)) rfl
theorem lo_X16_copyTo : Cond.code yX16_copyTo cX16_copyTo 3 none ∈ mTB := mTB_of (sg15 (List.mem_of_getElem? (i := 135) rfl)) rfl
theorem lfX16_69 : Cond.fieldLink RX16 69 (TX16 0).1 (TX16 0).2.1 (TX16 0).2.2.1 ∈ mTB := mTB_of (sg15 (List.mem_of_getElem? (i := 136) rfl)) rfl
theorem lfX16_95 : Cond.fieldLink RX16 95 (TX16 1).1 (TX16 1).2.1 (TX16 1).2.2.1 ∈ mTB := mTB_of (sg15 (List.mem_of_getElem? (i := 137) rfl)) rfl
theorem lfX16_7 : Cond.fieldLink RX16 7 (TX16 2).1 (TX16 2).2.1 (TX16 2).2.2.1 ∈ mTB := mTB_of (sg15 (List.mem_of_getElem? (i := 138) rfl)) rfl
theorem lfX16_13 : Cond.fieldLink RX16 13 (TX16 3).1 (TX16 3).2.1 (TX16 3).2.2.1 ∈ mTB := mTB_of (sg15 (List.mem_of_getElem? (i := 139) rfl)) rfl
theorem lfX16_16 : Cond.fieldLink RX16 16 (TX16 4).1 (TX16 4).2.1 (TX16 4).2.2.1 ∈ mTB := mTB_of (sg15 (List.mem_of_getElem? (i := 140) rfl)) rfl
theorem lfX16_20 : Cond.fieldLink RX16 20 (TX16 5).1 (TX16 5).2.1 (TX16 5).2.2.1 ∈ mTB := mTB_of (sg15 (List.mem_of_getElem? (i := 141) rfl)) rfl
theorem lfX16_85 : Cond.fieldLink RX16 85 (TX16 6).1 (TX16 6).2.1 (TX16 6).2.2.1 ∈ mTB := mTB_of (sg15 (List.mem_of_getElem? (i := 142) rfl)) rfl
theorem lfX16_23 : Cond.fieldLink RX16 23 (TX16 7).1 (TX16 7).2.1 (TX16 7).2.2.1 ∈ mTB := mTB_of (sg15 (List.mem_of_getElem? (i := 143) rfl)) rfl
theorem lfX16_26 : Cond.fieldLink RX16 26 (TX16 8).1 (TX16 8).2.1 (TX16 8).2.2.1 ∈ mTB := mTB_of (sg15 (List.mem_of_getElem? (i := 144) rfl)) rfl
theorem lfX16_29 : Cond.fieldLink RX16 29 (TX16 9).1 (TX16 9).2.1 (TX16 9).2.2.1 ∈ mTB := mTB_of (sg15 (List.mem_of_getElem? (i := 145) rfl)) rfl
theorem lfX16_98 : Cond.fieldLink RX16 98 (TX16 10).1 (TX16 10).2.1 (TX16 10).2.2.1 ∈ mTB := mTB_of (sg15 (List.mem_of_getElem? (i := 146) rfl)) rfl
theorem lfX16_32 : Cond.fieldLink RX16 32 (TX16 11).1 (TX16 11).2.1 (TX16 11).2.2.1 ∈ mTB := mTB_of (sg15 (List.mem_of_getElem? (i := 147) rfl)) rfl
theorem lfX16_35 : Cond.fieldLink RX16 35 (TX16 12).1 (TX16 12).2.1 (TX16 12).2.2.1 ∈ mTB := mTB_of (sg15 (List.mem_of_getElem? (i := 148) rfl)) rfl
theorem lfX16_38 : Cond.fieldLink RX16 38 (TX16 13).1 (TX16 13).2.1 (TX16 13).2.2.1 ∈ mTB := mTB_of (sg15 (List.mem_of_getElem? (i := 149) rfl)) rfl
theorem lfX16_79 : Cond.fieldLink RX16 79 (TX16 14).1 (TX16 14).2.1 (TX16 14).2.2.1 ∈ mTB := mTB_of (sg15 (List.mem_of_getElem? (i := 150) rfl)) rfl
theorem lfX16_82 : Cond.fieldLink RX16 82 (TX16 15).1 (TX16 15).2.1 (TX16 15).2.2.1 ∈ mTB := mTB_of (sg15 (List.mem_of_getElem? (i := 151) rfl)) rfl
theorem lfX16_41 : Cond.fieldLink RX16 41 (TX16 16).1 (TX16 16).2.1 (TX16 16).2.2.1 ∈ mTB := mTB_of (sg15 (List.mem_of_getElem? (i := 152) rfl)) rfl
theorem lfX16_44 : Cond.fieldLink RX16 44 (TX16 17).1 (TX16 17).2.1 (TX16 17).2.2.1 ∈ mTB := mTB_of (sg15 (List.mem_of_getElem? (i := 153) rfl)) rfl
theorem lfX16_133 : Cond.fieldLink RX16 133 (TX16 18).1 (TX16 18).2.1 (TX16 18).2.2.1 ∈ mTB := mTB_of (sg15 (List.mem_of_getElem? (i := 154) rfl)) rfl
theorem lfX16_137 : Cond.fieldLink RX16 137 (TX16 19).1 (TX16 19).2.1 (TX16 19).2.2.1 ∈ mTB := mTB_of (sg15 (List.mem_of_getElem? (i := 155) rfl)) rfl
theorem lfX16_73 : Cond.fieldLink RX16 73 (TX16 20).1 (TX16 20).2.1 (TX16 20).2.2.1 ∈ mTB := mTB_of (sg15 (List.mem_of_getElem? (i := 156) rfl)) rfl
theorem lfX16_76 : Cond.fieldLink RX16 76 (TX16 21).1 (TX16 21).2.1 (TX16 21).2.2.1 ∈ mTB := mTB_of (sg15 (List.mem_of_getElem? (i := 157) rfl)) rfl
theorem lfX16_47 : Cond.fieldLink RX16 47 (TX16 22).1 (TX16 22).2.1 (TX16 22).2.2.1 ∈ mTB := mTB_of (sg15 (List.mem_of_getElem? (i := 158) rfl)) rfl
theorem lfX16_50 : Cond.fieldLink RX16 50 (TX16 23).1 (TX16 23).2.1 (TX16 23).2.2.1 ∈ mTB := mTB_of (sg15 (List.mem_of_getElem? (i := 159) rfl)) rfl
theorem lfX16_53 : Cond.fieldLink RX16 53 (TX16 24).1 (TX16 24).2.1 (TX16 24).2.2.1 ∈ mTB := mTB_of (sg15 (List.mem_of_getElem? (i := 160) rfl)) rfl
theorem lfX16_56 : Cond.fieldLink RX16 56 (TX16 25).1 (TX16 25).2.1 (TX16 25).2.2.1 ∈ mTB := mTB_of (sg15 (List.mem_of_getElem? (i := 161) rfl)) rfl
theorem lfX16_59 : Cond.fieldLink RX16 59 (TX16 26).1 (TX16 26).2.1 (TX16 26).2.2.1 ∈ mTB := mTB_of (sg15 (List.mem_of_getElem? (i := 162) rfl)) rfl
theorem lfX16_181 : Cond.fieldLink RX16 181 (TX16 27).1 (TX16 27).2.1 (TX16 27).2.2.1 ∈ mTB := mTB_of (sg15 (List.mem_of_getElem? (i := 163) rfl)) rfl
theorem lfX16_184 : Cond.fieldLink RX16 184 (TX16 28).1 (TX16 28).2.1 (TX16 28).2.2.1 ∈ mTB := mTB_of (sg15 (List.mem_of_getElem? (i := 164) rfl)) rfl
theorem lfX16_62 : Cond.fieldLink RX16 62 (TX16 29).1 (TX16 29).2.1 (TX16 29).2.2.1 ∈ mTB := mTB_of (sg15 (List.mem_of_getElem? (i := 165) rfl)) rfl
theorem lkX20_53 : Cond.classLink RX20 53 RX17 ∈ mTB := mTB_of (sg15 (List.mem_of_getElem? (i := 227) rfl)) rfl
theorem ln_X17 : Cond.instantiable RX17 32 ∈ mTB := mTB_of (sg15 (List.mem_of_getElem? (i := 228) rfl)) rfl
theorem lmX20_55 : Cond.methodLink RX20 55 yX17_init ∈ mTB := mTB_of (sg15 (List.mem_of_getElem? (i := 229) rfl)) rfl
theorem lv_X17_init_i : Cond.instanceMethod yX17_init ∈ mTB := mTB_of (sg15 (List.mem_of_getElem? (i := 230) rfl)) rfl
theorem lo_X17_init : Cond.code yX17_init cX17_init 2 none ∈ mTB := mTB_of (sg15 (List.mem_of_getElem? (i := 231) rfl)) rfl
theorem lmX17_1 : Cond.methodLink RX17 1 ⟨"java/lang/Object", "<init>", "()V"⟩ ∈ mTB := mTB_of (sg15 (List.mem_of_getElem? (i := 232) rfl)) rfl
theorem lcX17_62 : Cond.constant RX17 62 (40864 : Int32) ∈ mTB := mTB_of (sg15 (List.mem_of_getElem? (i := 233) rfl)) rfl
theorem lfX17_85 : Cond.fieldLink RX17 85 (TX17 0).1 (TX17 0).2.1 (TX17 0).2.2.1 ∈ mTB := mTB_of (sg15 (List.mem_of_getElem? (i := 234) rfl)) rfl
theorem lfX17_7 : Cond.fieldLink RX17 7 (TX17 1).1 (TX17 1).2.1 (TX17 1).2.2.1 ∈ mTB := mTB_of (sg15 (List.mem_of_getElem? (i := 235) rfl)) rfl
theorem lfX17_13 : Cond.fieldLink RX17 13 (TX17 2).1 (TX17 2).2.1 (TX17 2).2.2.1 ∈ mTB := mTB_of (sg15 (List.mem_of_getElem? (i := 236) rfl)) rfl
theorem lfX17_16 : Cond.fieldLink RX17 16 (TX17 3).1 (TX17 3).2.1 (TX17 3).2.2.1 ∈ mTB := mTB_of (sg15 (List.mem_of_getElem? (i := 237) rfl)) rfl
theorem lfX17_19 : Cond.fieldLink RX17 19 (TX17 4).1 (TX17 4).2.1 (TX17 4).2.2.1 ∈ mTB := mTB_of (sg15 (List.mem_of_getElem? (i := 238) rfl)) rfl
theorem lfX17_22 : Cond.fieldLink RX17 22 (TX17 5).1 (TX17 5).2.1 (TX17 5).2.2.1 ∈ mTB := mTB_of (sg15 (List.mem_of_getElem? (i := 239) rfl)) rfl
theorem lfX17_107 : Cond.fieldLink RX17 107 (TX17 6).1 (TX17 6).2.1 (TX17 6).2.2.1 ∈ mTB := mTB_of (sg16 (List.mem_of_getElem? (i := 0) rfl)) rfl
theorem lfX17_25 : Cond.fieldLink RX17 25 (TX17 7).1 (TX17 7).2.1 (TX17 7).2.2.1 ∈ mTB := mTB_of (sg16 (List.mem_of_getElem? (i := 1) rfl)) rfl
theorem lfX17_28 : Cond.fieldLink RX17 28 (TX17 8).1 (TX17 8).2.1 (TX17 8).2.2.1 ∈ mTB := mTB_of (sg16 (List.mem_of_getElem? (i := 2) rfl)) rfl
theorem lfX17_31 : Cond.fieldLink RX17 31 (TX17 9).1 (TX17 9).2.1 (TX17 9).2.2.1 ∈ mTB := mTB_of (sg16 (List.mem_of_getElem? (i := 3) rfl)) rfl
theorem lfX17_34 : Cond.fieldLink RX17 34 (TX17 10).1 (TX17 10).2.1 (TX17 10).2.2.1 ∈ mTB := mTB_of (sg16 (List.mem_of_getElem? (i := 4) rfl)) rfl
theorem lfX17_37 : Cond.fieldLink RX17 37 (TX17 11).1 (TX17 11).2.1 (TX17 11).2.2.1 ∈ mTB := mTB_of (sg16 (List.mem_of_getElem? (i := 5) rfl)) rfl
theorem lfX17_40 : Cond.fieldLink RX17 40 (TX17 12).1 (TX17 12).2.1 (TX17 12).2.2.1 ∈ mTB := mTB_of (sg16 (List.mem_of_getElem? (i := 6) rfl)) rfl
theorem lfX17_43 : Cond.fieldLink RX17 43 (TX17 13).1 (TX17 13).2.1 (TX17 13).2.2.1 ∈ mTB := mTB_of (sg16 (List.mem_of_getElem? (i := 7) rfl)) rfl
theorem lfX17_133 : Cond.fieldLink RX17 133 (TX17 14).1 (TX17 14).2.1 (TX17 14).2.2.1 ∈ mTB := mTB_of (sg16 (List.mem_of_getElem? (i := 8) rfl)) rfl
theorem lfX17_46 : Cond.fieldLink RX17 46 (TX17 15).1 (TX17 15).2.1 (TX17 15).2.2.1 ∈ mTB := mTB_of (sg16 (List.mem_of_getElem? (i := 9) rfl)) rfl
theorem lfX17_130 : Cond.fieldLink RX17 130 (TX17 16).1 (TX17 16).2.1 (TX17 16).2.2.1 ∈ mTB := mTB_of (sg16 (List.mem_of_getElem? (i := 10) rfl)) rfl
theorem lfX17_49 : Cond.fieldLink RX17 49 (TX17 17).1 (TX17 17).2.1 (TX17 17).2.2.1 ∈ mTB := mTB_of (sg16 (List.mem_of_getElem? (i := 11) rfl)) rfl
theorem lfX17_173 : Cond.fieldLink RX17 173 (TX17 18).1 (TX17 18).2.1 (TX17 18).2.2.1 ∈ mTB := mTB_of (sg16 (List.mem_of_getElem? (i := 12) rfl)) rfl
theorem lfX17_52 : Cond.fieldLink RX17 52 (TX17 19).1 (TX17 19).2.1 (TX17 19).2.2.1 ∈ mTB := mTB_of (sg16 (List.mem_of_getElem? (i := 13) rfl)) rfl
theorem lfX17_142 : Cond.fieldLink RX17 142 (TX17 20).1 (TX17 20).2.1 (TX17 20).2.2.1 ∈ mTB := mTB_of (sg16 (List.mem_of_getElem? (i := 14) rfl)) rfl
theorem lfX17_55 : Cond.fieldLink RX17 55 (TX17 21).1 (TX17 21).2.1 (TX17 21).2.2.1 ∈ mTB := mTB_of (sg16 (List.mem_of_getElem? (i := 15) rfl)) rfl
theorem lfX17_58 : Cond.fieldLink RX17 58 (TX17 22).1 (TX17 22).2.1 (TX17 22).2.2.1 ∈ mTB := mTB_of (sg16 (List.mem_of_getElem? (i := 16) rfl)) rfl
theorem lfX17_63 : Cond.fieldLink RX17 63 (TX17 23).1 (TX17 23).2.1 (TX17 23).2.2.1 ∈ mTB := mTB_of (sg16 (List.mem_of_getElem? (i := 17) rfl)) rfl
theorem lfX17_104 : Cond.fieldLink RX17 104 (TX17 24).1 (TX17 24).2.1 (TX17 24).2.2.1 ∈ mTB := mTB_of (sg16 (List.mem_of_getElem? (i := 18) rfl)) rfl
theorem lfX17_66 : Cond.fieldLink RX17 66 (TX17 25).1 (TX17 25).2.1 (TX17 25).2.2.1 ∈ mTB := mTB_of (sg16 (List.mem_of_getElem? (i := 19) rfl)) rfl
theorem lfX17_69 : Cond.fieldLink RX17 69 (TX17 26).1 (TX17 26).2.1 (TX17 26).2.2.1 ∈ mTB := mTB_of (sg16 (List.mem_of_getElem? (i := 20) rfl)) rfl
theorem lfX17_72 : Cond.fieldLink RX17 72 (TX17 27).1 (TX17 27).2.1 (TX17 27).2.2.1 ∈ mTB := mTB_of (sg16 (List.mem_of_getElem? (i := 21) rfl)) rfl
theorem lfX17_75 : Cond.fieldLink RX17 75 (TX17 28).1 (TX17 28).2.1 (TX17 28).2.2.1 ∈ mTB := mTB_of (sg16 (List.mem_of_getElem? (i := 22) rfl)) rfl
theorem lfX17_78 : Cond.fieldLink RX17 78 (TX17 29).1 (TX17 29).2.1 (TX17 29).2.2.1 ∈ mTB := mTB_of (sg16 (List.mem_of_getElem? (i := 23) rfl)) rfl
theorem lfX17_82 : Cond.fieldLink RX17 82 (TX17 30).1 (TX17 30).2.1 (TX17 30).2.2.1 ∈ mTB := mTB_of (sg16 (List.mem_of_getElem? (i := 24) rfl)) rfl
theorem lkX20_62 : Cond.classLink RX20 62 RX15 ∈ mTB := mTB_of (sg16 (List.mem_of_getElem? (i := 90) rfl)) rfl
theorem ln_X15 : Cond.instantiable RX15 40 ∈ mTB := mTB_of (sg16 (List.mem_of_getElem? (i := 91) rfl)) rfl
theorem lmX20_64 : Cond.methodLink RX20 64 yX15_init ∈ mTB := mTB_of (sg16 (List.mem_of_getElem? (i := 92) rfl)) rfl
theorem lv_X15_init_i : Cond.instanceMethod yX15_init ∈ mTB := mTB_of (sg16 (List.mem_of_getElem? (i := 93) rfl)) rfl
theorem lo_X15_init : Cond.code yX15_init cX15_init 2 none ∈ mTB := mTB_of (sg16 (List.mem_of_getElem? (i := 94) rfl)) rfl
theorem lmX15_1 : Cond.methodLink RX15 1 ⟨"java/lang/Object", "<init>", "()V"⟩ ∈ mTB := mTB_of (sg16 (List.mem_of_getElem? (i := 95) rfl)) rfl
theorem lfX15_88 : Cond.fieldLink RX15 88 (TX15 0).1 (TX15 0).2.1 (TX15 0).2.2.1 ∈ mTB := mTB_of (sg16 (List.mem_of_getElem? (i := 96) rfl)) rfl
theorem lfX15_91 : Cond.fieldLink RX15 91 (TX15 1).1 (TX15 1).2.1 (TX15 1).2.2.1 ∈ mTB := mTB_of (sg16 (List.mem_of_getElem? (i := 97) rfl)) rfl
theorem lfX15_7 : Cond.fieldLink RX15 7 (TX15 2).1 (TX15 2).2.1 (TX15 2).2.2.1 ∈ mTB := mTB_of (sg16 (List.mem_of_getElem? (i := 98) rfl)) rfl
theorem lfX15_13 : Cond.fieldLink RX15 13 (TX15 3).1 (TX15 3).2.1 (TX15 3).2.2.1 ∈ mTB := mTB_of (sg16 (List.mem_of_getElem? (i := 99) rfl)) rfl
theorem lfX15_94 : Cond.fieldLink RX15 94 (TX15 4).1 (TX15 4).2.1 (TX15 4).2.2.1 ∈ mTB := mTB_of (sg16 (List.mem_of_getElem? (i := 100) rfl)) rfl
theorem lfX15_16 : Cond.fieldLink RX15 16 (TX15 5).1 (TX15 5).2.1 (TX15 5).2.2.1 ∈ mTB := mTB_of (sg16 (List.mem_of_getElem? (i := 101) rfl)) rfl
theorem lfX15_19 : Cond.fieldLink RX15 19 (TX15 6).1 (TX15 6).2.1 (TX15 6).2.2.1 ∈ mTB := mTB_of (sg16 (List.mem_of_getElem? (i := 102) rfl)) rfl
theorem lfX15_107 : Cond.fieldLink RX15 107 (TX15 7).1 (TX15 7).2.1 (TX15 7).2.2.1 ∈ mTB := mTB_of (sg16 (List.mem_of_getElem? (i := 103) rfl)) rfl
theorem lfX15_22 : Cond.fieldLink RX15 22 (TX15 8).1 (TX15 8).2.1 (TX15 8).2.2.1 ∈ mTB := mTB_of (sg16 (List.mem_of_getElem? (i := 104) rfl)) rfl
theorem lfX15_25 : Cond.fieldLink RX15 25 (TX15 9).1 (TX15 9).2.1 (TX15 9).2.2.1 ∈ mTB := mTB_of (sg16 (List.mem_of_getElem? (i := 105) rfl)) rfl
theorem lfX15_28 : Cond.fieldLink RX15 28 (TX15 10).1 (TX15 10).2.1 (TX15 10).2.2.1 ∈ mTB := mTB_of (sg16 (List.mem_of_getElem? (i := 106) rfl)) rfl
theorem lfX15_31 : Cond.fieldLink RX15 31 (TX15 11).1 (TX15 11).2.1 (TX15 11).2.2.1 ∈ mTB := mTB_of (sg16 (List.mem_of_getElem? (i := 107) rfl)) rfl
theorem lfX15_114 : Cond.fieldLink RX15 114 (TX15 12).1 (TX15 12).2.1 (TX15 12).2.2.1 ∈ mTB := mTB_of (sg16 (List.mem_of_getElem? (i := 108) rfl)) rfl
theorem lfX15_133 : Cond.fieldLink RX15 133 (TX15 13).1 (TX15 13).2.1 (TX15 13).2.2.1 ∈ mTB := mTB_of (sg16 (List.mem_of_getElem? (i := 109) rfl)) rfl
theorem lfX15_34 : Cond.fieldLink RX15 34 (TX15 14).1 (TX15 14).2.1 (TX15 14).2.2.1 ∈ mTB := mTB_of (sg16 (List.mem_of_getElem? (i := 110) rfl)) rfl
theorem lfX15_38 : Cond.fieldLink RX15 38 (TX15 15).1 (TX15 15).2.1 (TX15 15).2.2.1 ∈ mTB := mTB_of (sg16 (List.mem_of_getElem? (i := 111) rfl)) rfl
theorem lfX15_164 : Cond.fieldLink RX15 164 (TX15 16).1 (TX15 16).2.1 (TX15 16).2.2.1 ∈ mTB := mTB_of (sg16 (List.mem_of_getElem? (i := 112) rfl)) rfl
theorem lfX15_41 : Cond.fieldLink RX15 41 (TX15 17).1 (TX15 17).2.1 (TX15 17).2.2.1 ∈ mTB := mTB_of (sg16 (List.mem_of_getElem? (i := 113) rfl)) rfl
theorem lfX15_188 : Cond.fieldLink RX15 188 (TX15 18).1 (TX15 18).2.1 (TX15 18).2.2.1 ∈ mTB := mTB_of (sg16 (List.mem_of_getElem? (i := 114) rfl)) rfl
theorem lfX15_44 : Cond.fieldLink RX15 44 (TX15 19).1 (TX15 19).2.1 (TX15 19).2.2.1 ∈ mTB := mTB_of (sg16 (List.mem_of_getElem? (i := 115) rfl)) rfl
theorem lfX15_47 : Cond.fieldLink RX15 47 (TX15 20).1 (TX15 20).2.1 (TX15 20).2.2.1 ∈ mTB := mTB_of (sg16 (List.mem_of_getElem? (i := 116) rfl)) rfl
theorem lfX15_50 : Cond.fieldLink RX15 50 (TX15 21).1 (TX15 21).2.1 (TX15 21).2.2.1 ∈ mTB := mTB_of (sg16 (List.mem_of_getElem? (i := 117) rfl)) rfl
theorem lfX15_217 : Cond.fieldLink RX15 217 (TX15 22).1 (TX15 22).2.1 (TX15 22).2.2.1 ∈ mTB := mTB_of (sg16 (List.mem_of_getElem? (i := 118) rfl)) rfl
theorem lfX15_53 : Cond.fieldLink RX15 53 (TX15 23).1 (TX15 23).2.1 (TX15 23).2.2.1 ∈ mTB := mTB_of (sg16 (List.mem_of_getElem? (i := 119) rfl)) rfl
theorem lfX15_234 : Cond.fieldLink RX15 234 (TX15 24).1 (TX15 24).2.1 (TX15 24).2.2.1 ∈ mTB := mTB_of (sg16 (List.mem_of_getElem? (i := 120) rfl)) rfl
theorem lfX15_56 : Cond.fieldLink RX15 56 (TX15 25).1 (TX15 25).2.1 (TX15 25).2.2.1 ∈ mTB := mTB_of (sg16 (List.mem_of_getElem? (i := 121) rfl)) rfl
theorem lfX15_161 : Cond.fieldLink RX15 161 (TX15 26).1 (TX15 26).2.1 (TX15 26).2.2.1 ∈ mTB := mTB_of (sg16 (List.mem_of_getElem? (i := 122) rfl)) rfl
theorem lfX15_59 : Cond.fieldLink RX15 59 (TX15 27).1 (TX15 27).2.1 (TX15 27).2.2.1 ∈ mTB := mTB_of (sg16 (List.mem_of_getElem? (i := 123) rfl)) rfl
theorem lfX15_62 : Cond.fieldLink RX15 62 (TX15 28).1 (TX15 28).2.1 (TX15 28).2.2.1 ∈ mTB := mTB_of (sg16 (List.mem_of_getElem? (i := 124) rfl)) rfl
theorem lfX15_65 : Cond.fieldLink RX15 65 (TX15 29).1 (TX15 29).2.1 (TX15 29).2.2.1 ∈ mTB := mTB_of (sg16 (List.mem_of_getElem? (i := 125) rfl)) rfl
theorem lfX15_68 : Cond.fieldLink RX15 68 (TX15 30).1 (TX15 30).2.1 (TX15 30).2.2.1 ∈ mTB := mTB_of (sg16 (List.mem_of_getElem? (i := 126) rfl)) rfl
theorem lfX15_228 : Cond.fieldLink RX15 228 (TX15 31).1 (TX15 31).2.1 (TX15 31).2.2.1 ∈ mTB := mTB_of (sg16 (List.mem_of_getElem? (i := 127) rfl)) rfl
theorem lfX15_71 : Cond.fieldLink RX15 71 (TX15 32).1 (TX15 32).2.1 (TX15 32).2.2.1 ∈ mTB := mTB_of (sg16 (List.mem_of_getElem? (i := 128) rfl)) rfl
theorem lfX15_75 : Cond.fieldLink RX15 75 (TX15 33).1 (TX15 33).2.1 (TX15 33).2.2.1 ∈ mTB := mTB_of (sg16 (List.mem_of_getElem? (i := 129) rfl)) rfl
theorem lfX15_79 : Cond.fieldLink RX15 79 (TX15 34).1 (TX15 34).2.1 (TX15 34).2.2.1 ∈ mTB := mTB_of (sg16 (List.mem_of_getElem? (i := 130) rfl)) rfl
theorem lfX15_82 : Cond.fieldLink RX15 82 (TX15 35).1 (TX15 35).2.1 (TX15 35).2.2.1 ∈ mTB := mTB_of (sg16 (List.mem_of_getElem? (i := 131) rfl)) rfl
theorem lfX15_148 : Cond.fieldLink RX15 148 (TX15 36).1 (TX15 36).2.1 (TX15 36).2.2.1 ∈ mTB := mTB_of (sg16 (List.mem_of_getElem? (i := 132) rfl)) rfl
theorem lfX15_253 : Cond.fieldLink RX15 253 (TX15 37).1 (TX15 37).2.1 (TX15 37).2.2.1 ∈ mTB := mTB_of (sg16 (List.mem_of_getElem? (i := 133) rfl)) rfl
theorem lfX15_85 : Cond.fieldLink RX15 85 (TX15 38).1 (TX15 38).2.1 (TX15 38).2.2.1 ∈ mTB := mTB_of (sg16 (List.mem_of_getElem? (i := 134) rfl)) rfl
theorem lfX15_145 : Cond.fieldLink RX15 145 (TX15 39).1 (TX15 39).2.1 (TX15 39).2.2.1 ∈ mTB := mTB_of (sg16 (List.mem_of_getElem? (i := 135) rfl)) rfl
theorem lfX20_96 : Cond.fieldLink RX20 96 (TX20 0).1 (TX20 0).2.1 (TX20 0).2.2.1 ∈ mTB := mTB_of (sg16 (List.mem_of_getElem? (i := 217) rfl)) rfl
theorem lfX20_12 : Cond.fieldLink RX20 12 (TX20 1).1 (TX20 1).2.1 (TX20 1).2.2.1 ∈ mTB := mTB_of (sg16 (List.mem_of_getElem? (i := 218) rfl)) rfl
theorem lfX20_21 : Cond.fieldLink RX20 21 (TX20 2).1 (TX20 2).2.1 (TX20 2).2.2.1 ∈ mTB := mTB_of (sg16 (List.mem_of_getElem? (i := 219) rfl)) rfl
theorem lfX20_28 : Cond.fieldLink RX20 28 (TX20 3).1 (TX20 3).2.1 (TX20 3).2.2.1 ∈ mTB := mTB_of (sg16 (List.mem_of_getElem? (i := 220) rfl)) rfl
theorem lfX20_35 : Cond.fieldLink RX20 35 (TX20 4).1 (TX20 4).2.1 (TX20 4).2.2.1 ∈ mTB := mTB_of (sg16 (List.mem_of_getElem? (i := 221) rfl)) rfl
theorem lfX20_42 : Cond.fieldLink RX20 42 (TX20 5).1 (TX20 5).2.1 (TX20 5).2.2.1 ∈ mTB := mTB_of (sg16 (List.mem_of_getElem? (i := 222) rfl)) rfl
theorem lfX20_49 : Cond.fieldLink RX20 49 (TX20 6).1 (TX20 6).2.1 (TX20 6).2.2.1 ∈ mTB := mTB_of (sg16 (List.mem_of_getElem? (i := 223) rfl)) rfl
theorem lfX20_58 : Cond.fieldLink RX20 58 (TX20 7).1 (TX20 7).2.1 (TX20 7).2.2.1 ∈ mTB := mTB_of (sg16 (List.mem_of_getElem? (i := 224) rfl)) rfl
theorem lfX20_65 : Cond.fieldLink RX20 65 (TX20 8).1 (TX20 8).2.1 (TX20 8).2.2.1 ∈ mTB := mTB_of (sg16 (List.mem_of_getElem? (i := 225) rfl)) rfl
theorem lfX20_69 : Cond.fieldLink RX20 69 (TX20 9).1 (TX20 9).2.1 (TX20 9).2.2.1 ∈ mTB := mTB_of (sg16 (List.mem_of_getElem? (i := 226) rfl)) rfl
theorem lfX20_73 : Cond.fieldLink RX20 73 (TX20 10).1 (TX20 10).2.1 (TX20 10).2.2.1 ∈ mTB := mTB_of (sg16 (List.mem_of_getElem? (i := 227) rfl)) rfl
theorem lfX20_76 : Cond.fieldLink RX20 76 (TX20 11).1 (TX20 11).2.1 (TX20 11).2.2.1 ∈ mTB := mTB_of (sg16 (List.mem_of_getElem? (i := 228) rfl)) rfl
theorem lfX20_79 : Cond.fieldLink RX20 79 (TX20 12).1 (TX20 12).2.1 (TX20 12).2.2.1 ∈ mTB := mTB_of (sg16 (List.mem_of_getElem? (i := 229) rfl)) rfl
theorem lfX20_150 : Cond.fieldLink RX20 150 (TX20 13).1 (TX20 13).2.1 (TX20 13).2.2.1 ∈ mTB := mTB_of (sg16 (List.mem_of_getElem? (i := 230) rfl)) rfl
theorem lfX20_83 : Cond.fieldLink RX20 83 (TX20 14).1 (TX20 14).2.1 (TX20 14).2.2.1 ∈ mTB := mTB_of (sg16 (List.mem_of_getElem? (i := 231) rfl)) rfl
theorem lfX20_86 : Cond.fieldLink RX20 86 (TX20 15).1 (TX20 15).2.1 (TX20 15).2.2.1 ∈ mTB := mTB_of (sg16 (List.mem_of_getElem? (i := 232) rfl)) rfl
theorem lfX20_89 : Cond.fieldLink RX20 89 (TX20 16).1 (TX20 16).2.1 (TX20 16).2.2.1 ∈ mTB := mTB_of (sg16 (List.mem_of_getElem? (i := 233) rfl)) rfl
theorem lfX20_92 : Cond.fieldLink RX20 92 (TX20 17).1 (TX20 17).2.1 (TX20 17).2.2.1 ∈ mTB := mTB_of (sg16 (List.mem_of_getElem? (i := 234) rfl)) rfl
theorem lfX20_177 : Cond.fieldLink RX20 177 (TX20 18).1 (TX20 18).2.1 (TX20 18).2.2.1 ∈ mTB := mTB_of (sg16 (List.mem_of_getElem? (i := 235) rfl)) rfl
theorem lmL_30 : Cond.methodLink RL 30 yX20_act ∈ mTB := mTB_of (sg17 (List.mem_of_getElem? (i := 35) rfl)) rfl
theorem lv_X20_act_i : Cond.instanceMethod yX20_act ∈ mTB := mTB_of (sg17 (List.mem_of_getElem? (i := 36) rfl)) rfl
theorem ls_X20_act : Cond.selects yX20_act.cls yX20_act yX20_act ∈ mTB := mTB_of (sg17 (List.mem_of_getElem? (i := 37) rfl)) rfl
theorem lo_X20_act : Cond.code yX20_act cX20_act 11 (some .long) ∈ mTB := mTB_of (sg17 (List.mem_of_getElem? (i := 38) rfl)) rfl
theorem lcX20_100 : Cond.constantLong RX20 100 (-9000000000000000000 : Int64) ∈ mTB := mTB_of (sg17 (List.mem_of_getElem? (i := 39) rfl)) rfl
theorem lmX20_102 : Cond.methodLink RX20 102 yX20_wayCall ∈ mTB := mTB_of (sg17 (List.mem_of_getElem? (i := 40) rfl)) rfl
theorem lv_X20_wayCall_i : Cond.instanceMethod yX20_wayCall ∈ mTB := mTB_of (sg17 (List.mem_of_getElem? (i := 42) rfl)) rfl
theorem lo_X20_wayCall : Cond.code yX20_wayCall cX20_wayCall 7 (some .long) ∈ mTB := mTB_of (sg17 (List.mem_of_getElem? (i := 43) rfl)) rfl
theorem lmX20_290 : Cond.methodLink RX20 290 yX12_cell ∈ mTB := mTB_of (sg17 (List.mem_of_getElem? (i := 44) rfl)) rfl
theorem lv_X12_cell_i : Cond.instanceMethod yX12_cell ∈ mTB := mTB_of (sg17 (List.mem_of_getElem? (i := 45) rfl)) rfl
theorem ls_X12_cell : Cond.selects yX12_cell.cls yX12_cell yX12_cell ∈ mTB := mTB_of (sg17 (List.mem_of_getElem? (i := 46) rfl)) rfl
theorem lo_X12_cell : Cond.code yX12_cell cX12_cell 5 (some .boolean) ∈ mTB := mTB_of (sg17 (List.mem_of_getElem? (i := 47) rfl)) rfl
theorem lmX12_93 : Cond.methodLink RX12 93 yX12_noCell ∈ mTB := mTB_of (sg17 (List.mem_of_getElem? (i := 48) rfl)) rfl
theorem lv_X12_noCell_i : Cond.instanceMethod yX12_noCell ∈ mTB := mTB_of (sg17 (List.mem_of_getElem? (i := 50) rfl)) rfl
theorem lo_X12_noCell : Cond.code yX12_noCell cX12_noCell 3 (some .boolean) ∈ mTB := mTB_of (sg17 (List.mem_of_getElem? (i := 51) rfl)) rfl
theorem lcX12_97 : Cond.constantLong RX12 97 (999 : Int64) ∈ mTB := mTB_of (sg17 (List.mem_of_getElem? (i := 52) rfl)) rfl
theorem lmX12_99 : Cond.methodLink RX12 99 yX12_isOut ∈ mTB := mTB_of (sg17 (List.mem_of_getElem? (i := 53) rfl)) rfl
theorem lv_X12_isOut_s : Cond.static yX12_isOut ∈ mTB := mTB_of (sg17 (List.mem_of_getElem? (i := 54) rfl)) rfl
theorem lo_X12_isOut : Cond.code yX12_isOut cX12_isOut 6 (some .boolean) ∈ mTB := mTB_of (sg17 (List.mem_of_getElem? (i := 55) rfl)) rfl
theorem lcX12_103 : Cond.constantLong RX12 103 (9999 : Int64) ∈ mTB := mTB_of (sg17 (List.mem_of_getElem? (i := 56) rfl)) rfl
theorem lmX20_266 : Cond.methodLink RX20 266 yX20_truth ∈ mTB := mTB_of (sg17 (List.mem_of_getElem? (i := 57) rfl)) rfl
theorem lv_X20_truth_s : Cond.static yX20_truth ∈ mTB := mTB_of (sg17 (List.mem_of_getElem? (i := 58) rfl)) rfl
theorem lo_X20_truth : Cond.code yX20_truth cX20_truth 1 (some .long) ∈ mTB := mTB_of (sg17 (List.mem_of_getElem? (i := 59) rfl)) rfl
theorem lmX20_294 : Cond.methodLink RX20 294 yX12_bar ∈ mTB := mTB_of (sg17 (List.mem_of_getElem? (i := 60) rfl)) rfl
theorem lv_X12_bar_i : Cond.instanceMethod yX12_bar ∈ mTB := mTB_of (sg17 (List.mem_of_getElem? (i := 61) rfl)) rfl
theorem ls_X12_bar : Cond.selects yX12_bar.cls yX12_bar yX12_bar ∈ mTB := mTB_of (sg17 (List.mem_of_getElem? (i := 62) rfl)) rfl
theorem lo_X12_bar : Cond.code yX12_bar cX12_bar 3 (some .boolean) ∈ mTB := mTB_of (sg17 (List.mem_of_getElem? (i := 63) rfl)) rfl
theorem lmX20_298 : Cond.methodLink RX20 298 yX12_moves ∈ mTB := mTB_of (sg17 (List.mem_of_getElem? (i := 64) rfl)) rfl
theorem lv_X12_moves_i : Cond.instanceMethod yX12_moves ∈ mTB := mTB_of (sg17 (List.mem_of_getElem? (i := 65) rfl)) rfl
theorem ls_X12_moves : Cond.selects yX12_moves.cls yX12_moves yX12_moves ∈ mTB := mTB_of (sg17 (List.mem_of_getElem? (i := 66) rfl)) rfl
theorem lo_X12_moves : Cond.code yX12_moves cX12_moves 4 (some .boolean) ∈ mTB := mTB_of (sg17 (List.mem_of_getElem? (i := 67) rfl)) rfl
theorem lcX12_105 : Cond.constantLong RX12 105 (2 : Int64) ∈ mTB := mTB_of (sg17 (List.mem_of_getElem? (i := 68) rfl)) rfl
theorem lcX12_107 : Cond.constantLong RX12 107 (8 : Int64) ∈ mTB := mTB_of (sg17 (List.mem_of_getElem? (i := 69) rfl)) rfl
theorem lmX20_301 : Cond.methodLink RX20 301 yX12_aim ∈ mTB := mTB_of (sg17 (List.mem_of_getElem? (i := 70) rfl)) rfl
theorem lv_X12_aim_i : Cond.instanceMethod yX12_aim ∈ mTB := mTB_of (sg17 (List.mem_of_getElem? (i := 71) rfl)) rfl
theorem ls_X12_aim : Cond.selects yX12_aim.cls yX12_aim yX12_aim ∈ mTB := mTB_of (sg17 (List.mem_of_getElem? (i := 72) rfl)) rfl
theorem lo_X12_aim : Cond.code yX12_aim cX12_aim 6 (some .boolean) ∈ mTB := mTB_of (sg17 (List.mem_of_getElem? (i := 73) rfl)) rfl
theorem lcX12_109 : Cond.constantLong RX12 109 (3 : Int64) ∈ mTB := mTB_of (sg17 (List.mem_of_getElem? (i := 74) rfl)) rfl
theorem lmX20_305 : Cond.methodLink RX20 305 yX12_weight ∈ mTB := mTB_of (sg17 (List.mem_of_getElem? (i := 75) rfl)) rfl
theorem lv_X12_weight_i : Cond.instanceMethod yX12_weight ∈ mTB := mTB_of (sg17 (List.mem_of_getElem? (i := 76) rfl)) rfl
theorem ls_X12_weight : Cond.selects yX12_weight.cls yX12_weight yX12_weight ∈ mTB := mTB_of (sg17 (List.mem_of_getElem? (i := 77) rfl)) rfl
theorem lo_X12_weight : Cond.code yX12_weight cX12_weight 6 (some .boolean) ∈ mTB := mTB_of (sg17 (List.mem_of_getElem? (i := 78) rfl)) rfl
theorem lcX12_111 : Cond.constantLong RX12 111 (20 : Int64) ∈ mTB := mTB_of (sg17 (List.mem_of_getElem? (i := 79) rfl)) rfl
theorem lcX12_113 : Cond.constantLong RX12 113 (6 : Int64) ∈ mTB := mTB_of (sg17 (List.mem_of_getElem? (i := 80) rfl)) rfl
theorem lmX20_309 : Cond.methodLink RX20 309 yX12_run ∈ mTB := mTB_of (sg17 (List.mem_of_getElem? (i := 81) rfl)) rfl
theorem lv_X12_run_i : Cond.instanceMethod yX12_run ∈ mTB := mTB_of (sg17 (List.mem_of_getElem? (i := 82) rfl)) rfl
theorem ls_X12_run : Cond.selects yX12_run.cls yX12_run yX12_run ∈ mTB := mTB_of (sg17 (List.mem_of_getElem? (i := 83) rfl)) rfl
theorem lo_X12_run : Cond.code yX12_run cX12_run 8 (some .int) ∈ mTB := mTB_of (sg17 (List.mem_of_getElem? (i := 84) rfl)) rfl
theorem lmX12_210 : Cond.methodLink RX12 210 yX12_noEnd ∈ mTB := mTB_of (sg17 (List.mem_of_getElem? (i := 85) rfl)) rfl
theorem lv_X12_noEnd_i : Cond.instanceMethod yX12_noEnd ∈ mTB := mTB_of (sg17 (List.mem_of_getElem? (i := 87) rfl)) rfl
theorem lo_X12_noEnd : Cond.code yX12_noEnd cX12_noEnd 3 (some .boolean) ∈ mTB := mTB_of (sg17 (List.mem_of_getElem? (i := 88) rfl)) rfl
theorem lcX12_213 : Cond.constantLong RX12 213 (100000 : Int64) ∈ mTB := mTB_of (sg17 (List.mem_of_getElem? (i := 89) rfl)) rfl
theorem lmX12_215 : Cond.methodLink RX12 215 yX12_search ∈ mTB := mTB_of (sg17 (List.mem_of_getElem? (i := 90) rfl)) rfl
theorem lv_X12_search_i : Cond.instanceMethod yX12_search ∈ mTB := mTB_of (sg17 (List.mem_of_getElem? (i := 92) rfl)) rfl
theorem lo_X12_search : Cond.code yX12_search cX12_search 17 (some .int) ∈ mTB := mTB_of (sg17 (List.mem_of_getElem? (i := 93) rfl)) rfl
theorem lmX12_188 : Cond.methodLink RX12 188 yX12_findAll ∈ mTB := mTB_of (sg17 (List.mem_of_getElem? (i := 94) rfl)) rfl
theorem lv_X12_findAll_i : Cond.instanceMethod yX12_findAll ∈ mTB := mTB_of (sg17 (List.mem_of_getElem? (i := 96) rfl)) rfl
theorem lo_X12_findAll : Cond.code yX12_findAll cX12_findAll 6 none ∈ mTB := mTB_of (sg17 (List.mem_of_getElem? (i := 97) rfl)) rfl
theorem lmX12_163 : Cond.methodLink RX12 163 yX12_label ∈ mTB := mTB_of (sg17 (List.mem_of_getElem? (i := 98) rfl)) rfl
theorem lv_X12_label_s : Cond.static yX12_label ∈ mTB := mTB_of (sg17 (List.mem_of_getElem? (i := 99) rfl)) rfl
theorem lo_X12_label : Cond.code yX12_label cX12_label 4 (some .int) ∈ mTB := mTB_of (sg17 (List.mem_of_getElem? (i := 100) rfl)) rfl
theorem lmX12_124 : Cond.methodLink RX12 124 yX12_isHeading ∈ mTB := mTB_of (sg17 (List.mem_of_getElem? (i := 101) rfl)) rfl
theorem lv_X12_isHeading_i : Cond.instanceMethod yX12_isHeading ∈ mTB := mTB_of (sg17 (List.mem_of_getElem? (i := 103) rfl)) rfl
theorem lo_X12_isHeading : Cond.code yX12_isHeading cX12_isHeading 2 (some .boolean) ∈ mTB := mTB_of (sg17 (List.mem_of_getElem? (i := 104) rfl)) rfl
theorem lmX12_160 : Cond.methodLink RX12 160 yX12_isRun ∈ mTB := mTB_of (sg17 (List.mem_of_getElem? (i := 105) rfl)) rfl
theorem lv_X12_isRun_i : Cond.instanceMethod yX12_isRun ∈ mTB := mTB_of (sg17 (List.mem_of_getElem? (i := 107) rfl)) rfl
theorem lo_X12_isRun : Cond.code yX12_isRun cX12_isRun 3 (some .boolean) ∈ mTB := mTB_of (sg17 (List.mem_of_getElem? (i := 108) rfl)) rfl
theorem lmX12_131 : Cond.methodLink RX12 131 yX12_isBridged ∈ mTB := mTB_of (sg17 (List.mem_of_getElem? (i := 109) rfl)) rfl
theorem lv_X12_isBridged_i : Cond.instanceMethod yX12_isBridged ∈ mTB := mTB_of (sg17 (List.mem_of_getElem? (i := 111) rfl)) rfl
theorem lo_X12_isBridged : Cond.code yX12_isBridged cX12_isBridged 2 (some .boolean) ∈ mTB := mTB_of (sg17 (List.mem_of_getElem? (i := 112) rfl)) rfl
theorem lmX12_181 : Cond.methodLink RX12 181 yX12_look ∈ mTB := mTB_of (sg17 (List.mem_of_getElem? (i := 113) rfl)) rfl
theorem lv_X12_look_i : Cond.instanceMethod yX12_look ∈ mTB := mTB_of (sg17 (List.mem_of_getElem? (i := 115) rfl)) rfl
theorem lo_X12_look : Cond.code yX12_look cX12_look 14 (some .boolean) ∈ mTB := mTB_of (sg17 (List.mem_of_getElem? (i := 116) rfl)) rfl
theorem lmX12_167 : Cond.methodLink RX12 167 yX12_onward ∈ mTB := mTB_of (sg17 (List.mem_of_getElem? (i := 117) rfl)) rfl
theorem lv_X12_onward_i : Cond.instanceMethod yX12_onward ∈ mTB := mTB_of (sg17 (List.mem_of_getElem? (i := 119) rfl)) rfl
theorem lo_X12_onward : Cond.code yX12_onward cX12_onward 10 (some .int) ∈ mTB := mTB_of (sg17 (List.mem_of_getElem? (i := 120) rfl)) rfl
theorem lmX12_150 : Cond.methodLink RX12 150 yX12_step ∈ mTB := mTB_of (sg17 (List.mem_of_getElem? (i := 121) rfl)) rfl
theorem lv_X12_step_i : Cond.instanceMethod yX12_step ∈ mTB := mTB_of (sg17 (List.mem_of_getElem? (i := 123) rfl)) rfl
theorem lo_X12_step : Cond.code yX12_step cX12_step 5 (some .int) ∈ mTB := mTB_of (sg17 (List.mem_of_getElem? (i := 124) rfl)) rfl
theorem lmX12_117 : Cond.methodLink RX12 117 yX12_dx ∈ mTB := mTB_of (sg17 (List.mem_of_getElem? (i := 125) rfl)) rfl
theorem lv_X12_dx_s : Cond.static yX12_dx ∈ mTB := mTB_of (sg17 (List.mem_of_getElem? (i := 126) rfl)) rfl
theorem lo_X12_dx : Cond.code yX12_dx cX12_dx 1 (some .int) ∈ mTB := mTB_of (sg17 (List.mem_of_getElem? (i := 127) rfl)) rfl
theorem lmX12_121 : Cond.methodLink RX12 121 yX12_dy ∈ mTB := mTB_of (sg17 (List.mem_of_getElem? (i := 128) rfl)) rfl
theorem lv_X12_dy_s : Cond.static yX12_dy ∈ mTB := mTB_of (sg17 (List.mem_of_getElem? (i := 129) rfl)) rfl
theorem lo_X12_dy : Cond.code yX12_dy cX12_dy 1 (some .int) ∈ mTB := mTB_of (sg17 (List.mem_of_getElem? (i := 130) rfl)) rfl
theorem lmX12_153 : Cond.methodLink RX12 153 yX12_may ∈ mTB := mTB_of (sg17 (List.mem_of_getElem? (i := 131) rfl)) rfl
theorem lv_X12_may_i : Cond.instanceMethod yX12_may ∈ mTB := mTB_of (sg17 (List.mem_of_getElem? (i := 133) rfl)) rfl
theorem lo_X12_may : Cond.code yX12_may cX12_may 6 (some .boolean) ∈ mTB := mTB_of (sg17 (List.mem_of_getElem? (i := 134) rfl)) rfl
theorem lmX12_128 : Cond.methodLink RX12 128 yX12_isClosed ∈ mTB := mTB_of (sg17 (List.mem_of_getElem? (i := 135) rfl)) rfl
theorem lv_X12_isClosed_i : Cond.instanceMethod yX12_isClosed ∈ mTB := mTB_of (sg17 (List.mem_of_getElem? (i := 137) rfl)) rfl
theorem lo_X12_isClosed : Cond.code yX12_isClosed cX12_isClosed 2 (some .boolean) ∈ mTB := mTB_of (sg17 (List.mem_of_getElem? (i := 138) rfl)) rfl
theorem lmX12_134 : Cond.methodLink RX12 134 yX12_mayTurn ∈ mTB := mTB_of (sg17 (List.mem_of_getElem? (i := 139) rfl)) rfl
theorem lv_X12_mayTurn_i : Cond.instanceMethod yX12_mayTurn ∈ mTB := mTB_of (sg17 (List.mem_of_getElem? (i := 141) rfl)) rfl
theorem lo_X12_mayTurn : Cond.code yX12_mayTurn cX12_mayTurn 5 (some .boolean) ∈ mTB := mTB_of (sg17 (List.mem_of_getElem? (i := 142) rfl)) rfl
theorem lmX12_157 : Cond.methodLink RX12 157 yX12_shares ∈ mTB := mTB_of (sg17 (List.mem_of_getElem? (i := 143) rfl)) rfl
theorem lv_X12_shares_i : Cond.instanceMethod yX12_shares ∈ mTB := mTB_of (sg17 (List.mem_of_getElem? (i := 145) rfl)) rfl
theorem lo_X12_shares : Cond.code yX12_shares cX12_shares 2 (some .int) ∈ mTB := mTB_of (sg17 (List.mem_of_getElem? (i := 146) rfl)) rfl
theorem lmX12_171 : Cond.methodLink RX12 171 yX12_price ∈ mTB := mTB_of (sg17 (List.mem_of_getElem? (i := 147) rfl)) rfl
theorem lv_X12_price_i : Cond.instanceMethod yX12_price ∈ mTB := mTB_of (sg17 (List.mem_of_getElem? (i := 149) rfl)) rfl
theorem lo_X12_price : Cond.code yX12_price cX12_price 6 (some .long) ∈ mTB := mTB_of (sg17 (List.mem_of_getElem? (i := 150) rfl)) rfl
theorem lcX12_138 : Cond.constantLong RX12 138 (60 : Int64) ∈ mTB := mTB_of (sg17 (List.mem_of_getElem? (i := 151) rfl)) rfl
theorem lmX12_140 : Cond.methodLink RX12 140 yX12_length ∈ mTB := mTB_of (sg17 (List.mem_of_getElem? (i := 152) rfl)) rfl
theorem lv_X12_length_s : Cond.static yX12_length ∈ mTB := mTB_of (sg17 (List.mem_of_getElem? (i := 153) rfl)) rfl
theorem lo_X12_length : Cond.code yX12_length cX12_length 1 (some .int) ∈ mTB := mTB_of (sg17 (List.mem_of_getElem? (i := 154) rfl)) rfl
theorem lmX12_143 : Cond.methodLink RX12 143 yX12_valueOf ∈ mTB := mTB_of (sg17 (List.mem_of_getElem? (i := 155) rfl)) rfl
theorem lv_X12_valueOf_i : Cond.instanceMethod yX12_valueOf ∈ mTB := mTB_of (sg17 (List.mem_of_getElem? (i := 157) rfl)) rfl
theorem lo_X12_valueOf : Cond.code yX12_valueOf cX12_valueOf 5 (some .int) ∈ mTB := mTB_of (sg17 (List.mem_of_getElem? (i := 158) rfl)) rfl
theorem lmX12_191 : Cond.methodLink RX12 191 yX12_isBefore ∈ mTB := mTB_of (sg17 (List.mem_of_getElem? (i := 159) rfl)) rfl
theorem lv_X12_isBefore_i : Cond.instanceMethod yX12_isBefore ∈ mTB := mTB_of (sg17 (List.mem_of_getElem? (i := 161) rfl)) rfl
theorem lo_X12_isBefore : Cond.code yX12_isBefore cX12_isBefore 3 (some .boolean) ∈ mTB := mTB_of (sg17 (List.mem_of_getElem? (i := 162) rfl)) rfl
theorem lmX12_200 : Cond.methodLink RX12 200 yX12_walk ∈ mTB := mTB_of (sg17 (List.mem_of_getElem? (i := 163) rfl)) rfl
theorem lv_X12_walk_i : Cond.instanceMethod yX12_walk ∈ mTB := mTB_of (sg17 (List.mem_of_getElem? (i := 165) rfl)) rfl
theorem lo_X12_walk : Cond.code yX12_walk cX12_walk 10 (some .int) ∈ mTB := mTB_of (sg17 (List.mem_of_getElem? (i := 166) rfl)) rfl
theorem lmX12_203 : Cond.methodLink RX12 203 yX12_costUpTo ∈ mTB := mTB_of (sg17 (List.mem_of_getElem? (i := 167) rfl)) rfl
theorem lv_X12_costUpTo_i : Cond.instanceMethod yX12_costUpTo ∈ mTB := mTB_of (sg17 (List.mem_of_getElem? (i := 169) rfl)) rfl
theorem lo_X12_costUpTo : Cond.code yX12_costUpTo cX12_costUpTo 6 (some .long) ∈ mTB := mTB_of (sg17 (List.mem_of_getElem? (i := 170) rfl)) rfl
theorem lmX20_153 : Cond.methodLink RX20 153 yX12_at ∈ mTB := mTB_of (sg17 (List.mem_of_getElem? (i := 171) rfl)) rfl
theorem lv_X12_at_i : Cond.instanceMethod yX12_at ∈ mTB := mTB_of (sg17 (List.mem_of_getElem? (i := 172) rfl)) rfl
theorem ls_X12_at : Cond.selects yX12_at.cls yX12_at yX12_at ∈ mTB := mTB_of (sg17 (List.mem_of_getElem? (i := 173) rfl)) rfl
theorem lo_X12_at : Cond.code yX12_at cX12_at 4 (some .int) ∈ mTB := mTB_of (sg17 (List.mem_of_getElem? (i := 174) rfl)) rfl
theorem lmX12_221 : Cond.methodLink RX12 221 yX12_cellOf ∈ mTB := mTB_of (sg17 (List.mem_of_getElem? (i := 175) rfl)) rfl
theorem lv_X12_cellOf_i : Cond.instanceMethod yX12_cellOf ∈ mTB := mTB_of (sg17 (List.mem_of_getElem? (i := 177) rfl)) rfl
theorem lo_X12_cellOf : Cond.code yX12_cellOf cX12_cellOf 5 (some .int) ∈ mTB := mTB_of (sg17 (List.mem_of_getElem? (i := 178) rfl)) rfl
theorem lmX20_312 : Cond.methodLink RX20 312 yX12_cost ∈ mTB := mTB_of (sg17 (List.mem_of_getElem? (i := 179) rfl)) rfl
theorem lv_X12_cost_i : Cond.instanceMethod yX12_cost ∈ mTB := mTB_of (sg17 (List.mem_of_getElem? (i := 180) rfl)) rfl
theorem ls_X12_cost : Cond.selects yX12_cost.cls yX12_cost yX12_cost ∈ mTB := mTB_of (sg17 (List.mem_of_getElem? (i := 181) rfl)) rfl
theorem lo_X12_cost : Cond.code yX12_cost cX12_cost 4 (some .long) ∈ mTB := mTB_of (sg17 (List.mem_of_getElem? (i := 182) rfl)) rfl
theorem lmX12_224 : Cond.methodLink RX12 224 yX12_priceOf ∈ mTB := mTB_of (sg17 (List.mem_of_getElem? (i := 183) rfl)) rfl
theorem lv_X12_priceOf_i : Cond.instanceMethod yX12_priceOf ∈ mTB := mTB_of (sg17 (List.mem_of_getElem? (i := 185) rfl)) rfl
theorem lo_X12_priceOf : Cond.code yX12_priceOf cX12_priceOf 5 (some .long) ∈ mTB := mTB_of (sg17 (List.mem_of_getElem? (i := 186) rfl)) rfl
theorem lmX12_228 : Cond.methodLink RX12 228 yX12_common ∈ mTB := mTB_of (sg17 (List.mem_of_getElem? (i := 187) rfl)) rfl
theorem lv_X12_common_s : Cond.static yX12_common ∈ mTB := mTB_of (sg17 (List.mem_of_getElem? (i := 188) rfl)) rfl
theorem lo_X12_common : Cond.code yX12_common cX12_common 10 (some .long) ∈ mTB := mTB_of (sg17 (List.mem_of_getElem? (i := 189) rfl)) rfl
theorem lmX20_313 : Cond.methodLink RX20 313 yX12_bound ∈ mTB := mTB_of (sg17 (List.mem_of_getElem? (i := 190) rfl)) rfl
theorem lv_X12_bound_i : Cond.instanceMethod yX12_bound ∈ mTB := mTB_of (sg17 (List.mem_of_getElem? (i := 191) rfl)) rfl
theorem ls_X12_bound : Cond.selects yX12_bound.cls yX12_bound yX12_bound ∈ mTB := mTB_of (sg17 (List.mem_of_getElem? (i := 192) rfl)) rfl
theorem lo_X12_bound : Cond.code yX12_bound cX12_bound 1 (some .long) ∈ mTB := mTB_of (sg17 (List.mem_of_getElem? (i := 193) rfl)) rfl
theorem lmX20_317 : Cond.methodLink RX20 317 yX12_proved ∈ mTB := mTB_of (sg17 (List.mem_of_getElem? (i := 194) rfl)) rfl
theorem lv_X12_proved_i : Cond.instanceMethod yX12_proved ∈ mTB := mTB_of (sg17 (List.mem_of_getElem? (i := 195) rfl)) rfl
theorem ls_X12_proved : Cond.selects yX12_proved.cls yX12_proved yX12_proved ∈ mTB := mTB_of (sg17 (List.mem_of_getElem? (i := 196) rfl)) rfl
theorem lo_X12_proved : Cond.code yX12_proved cX12_proved 1 (some .boolean) ∈ mTB := mTB_of (sg17 (List.mem_of_getElem? (i := 197) rfl)) rfl
theorem lmX20_320 : Cond.methodLink RX20 320 yX12_unlike ∈ mTB := mTB_of (sg17 (List.mem_of_getElem? (i := 198) rfl)) rfl
theorem lv_X12_unlike_i : Cond.instanceMethod yX12_unlike ∈ mTB := mTB_of (sg17 (List.mem_of_getElem? (i := 199) rfl)) rfl
theorem ls_X12_unlike : Cond.selects yX12_unlike.cls yX12_unlike yX12_unlike ∈ mTB := mTB_of (sg17 (List.mem_of_getElem? (i := 200) rfl)) rfl
theorem lo_X12_unlike : Cond.code yX12_unlike cX12_unlike 9 (some .int) ∈ mTB := mTB_of (sg17 (List.mem_of_getElem? (i := 201) rfl)) rfl
theorem lcX12_219 : Cond.constantLong RX12 219 (100 : Int64) ∈ mTB := mTB_of (sg17 (List.mem_of_getElem? (i := 202) rfl)) rfl
theorem lmX20_324 : Cond.methodLink RX20 324 yX12_span ∈ mTB := mTB_of (sg17 (List.mem_of_getElem? (i := 203) rfl)) rfl
theorem lv_X12_span_i : Cond.instanceMethod yX12_span ∈ mTB := mTB_of (sg17 (List.mem_of_getElem? (i := 204) rfl)) rfl
theorem ls_X12_span : Cond.selects yX12_span.cls yX12_span yX12_span ∈ mTB := mTB_of (sg17 (List.mem_of_getElem? (i := 205) rfl)) rfl
theorem lo_X12_span : Cond.code yX12_span cX12_span 23 (some .long) ∈ mTB := mTB_of (sg17 (List.mem_of_getElem? (i := 206) rfl)) rfl
theorem lmX12_232 : Cond.methodLink RX12 232 yX12_aimOf ∈ mTB := mTB_of (sg17 (List.mem_of_getElem? (i := 207) rfl)) rfl
theorem lv_X12_aimOf_i : Cond.instanceMethod yX12_aimOf ∈ mTB := mTB_of (sg17 (List.mem_of_getElem? (i := 209) rfl)) rfl
theorem lo_X12_aimOf : Cond.code yX12_aimOf cX12_aimOf 7 (some .long) ∈ mTB := mTB_of (sg17 (List.mem_of_getElem? (i := 210) rfl)) rfl
theorem lmX12_235 : Cond.methodLink RX12 235 yX12_isLessPart ∈ mTB := mTB_of (sg17 (List.mem_of_getElem? (i := 211) rfl)) rfl
theorem lv_X12_isLessPart_s : Cond.static yX12_isLessPart ∈ mTB := mTB_of (sg17 (List.mem_of_getElem? (i := 212) rfl)) rfl
theorem lo_X12_isLessPart : Cond.code yX12_isLessPart cX12_isLessPart 23 (some .boolean) ∈ mTB := mTB_of (sg17 (List.mem_of_getElem? (i := 213) rfl)) rfl
theorem lmX20_327 : Cond.methodLink RX20 327 yX12_bridge ∈ mTB := mTB_of (sg17 (List.mem_of_getElem? (i := 214) rfl)) rfl
theorem lv_X12_bridge_i : Cond.instanceMethod yX12_bridge ∈ mTB := mTB_of (sg17 (List.mem_of_getElem? (i := 215) rfl)) rfl
theorem ls_X12_bridge : Cond.selects yX12_bridge.cls yX12_bridge yX12_bridge ∈ mTB := mTB_of (sg17 (List.mem_of_getElem? (i := 216) rfl)) rfl
theorem lo_X12_bridge : Cond.code yX12_bridge cX12_bridge 6 (some .boolean) ∈ mTB := mTB_of (sg17 (List.mem_of_getElem? (i := 217) rfl)) rfl
theorem lmX20_330 : Cond.methodLink RX20 330 yX12_mark ∈ mTB := mTB_of (sg17 (List.mem_of_getElem? (i := 218) rfl)) rfl
theorem lv_X12_mark_i : Cond.instanceMethod yX12_mark ∈ mTB := mTB_of (sg17 (List.mem_of_getElem? (i := 219) rfl)) rfl
theorem ls_X12_mark : Cond.selects yX12_mark.cls yX12_mark yX12_mark ∈ mTB := mTB_of (sg17 (List.mem_of_getElem? (i := 220) rfl)) rfl
theorem lo_X12_mark : Cond.code yX12_mark cX12_mark 7 (some .int) ∈ mTB := mTB_of (sg17 (List.mem_of_getElem? (i := 221) rfl)) rfl
theorem lcX12_115 : Cond.constantLong RX12 115 (7 : Int64) ∈ mTB := mTB_of (sg17 (List.mem_of_getElem? (i := 222) rfl)) rfl
theorem lmX20_334 : Cond.methodLink RX20 334 yX12_zone ∈ mTB := mTB_of (sg17 (List.mem_of_getElem? (i := 223) rfl)) rfl
theorem lv_X12_zone_i : Cond.instanceMethod yX12_zone ∈ mTB := mTB_of (sg17 (List.mem_of_getElem? (i := 224) rfl)) rfl
theorem ls_X12_zone : Cond.selects yX12_zone.cls yX12_zone yX12_zone ∈ mTB := mTB_of (sg17 (List.mem_of_getElem? (i := 225) rfl)) rfl
theorem lo_X12_zone : Cond.code yX12_zone cX12_zone 5 (some .int) ∈ mTB := mTB_of (sg17 (List.mem_of_getElem? (i := 226) rfl)) rfl
theorem lmX20_338 : Cond.methodLink RX20 338 yX12_sum ∈ mTB := mTB_of (sg17 (List.mem_of_getElem? (i := 227) rfl)) rfl
theorem lv_X12_sum_i : Cond.instanceMethod yX12_sum ∈ mTB := mTB_of (sg17 (List.mem_of_getElem? (i := 228) rfl)) rfl
theorem ls_X12_sum : Cond.selects yX12_sum.cls yX12_sum yX12_sum ∈ mTB := mTB_of (sg17 (List.mem_of_getElem? (i := 229) rfl)) rfl
theorem lo_X12_sum : Cond.code yX12_sum cX12_sum 6 (some .long) ∈ mTB := mTB_of (sg17 (List.mem_of_getElem? (i := 230) rfl)) rfl
theorem lmX20_341 : Cond.methodLink RX20 341 yX12_turns ∈ mTB := mTB_of (sg17 (List.mem_of_getElem? (i := 231) rfl)) rfl
theorem lv_X12_turns_i : Cond.instanceMethod yX12_turns ∈ mTB := mTB_of (sg17 (List.mem_of_getElem? (i := 232) rfl)) rfl
theorem ls_X12_turns : Cond.selects yX12_turns.cls yX12_turns yX12_turns ∈ mTB := mTB_of (sg17 (List.mem_of_getElem? (i := 233) rfl)) rfl
theorem lo_X12_turns : Cond.code yX12_turns cX12_turns 4 (some .int) ∈ mTB := mTB_of (sg17 (List.mem_of_getElem? (i := 234) rfl)) rfl
theorem lmX20_263 : Cond.methodLink RX20 263 yX12_keeps ∈ mTB := mTB_of (sg17 (List.mem_of_getElem? (i := 235) rfl)) rfl
theorem lv_X12_keeps_i : Cond.instanceMethod yX12_keeps ∈ mTB := mTB_of (sg17 (List.mem_of_getElem? (i := 236) rfl)) rfl
theorem ls_X12_keeps : Cond.selects yX12_keeps.cls yX12_keeps yX12_keeps ∈ mTB := mTB_of (sg17 (List.mem_of_getElem? (i := 237) rfl)) rfl
theorem lo_X12_keeps : Cond.code yX12_keeps cX12_keeps 8 (some .boolean) ∈ mTB := mTB_of (sg17 (List.mem_of_getElem? (i := 238) rfl)) rfl
theorem lmX20_106 : Cond.methodLink RX20 106 yX20_noteCell ∈ mTB := mTB_of (sg17 (List.mem_of_getElem? (i := 239) rfl)) rfl
theorem lv_X20_noteCell_i : Cond.instanceMethod yX20_noteCell ∈ mTB := mTB_of (sg18 (List.mem_of_getElem? (i := 1) rfl)) rfl
theorem lo_X20_noteCell : Cond.code yX20_noteCell cX20_noteCell 8 none ∈ mTB := mTB_of (sg18 (List.mem_of_getElem? (i := 2) rfl)) rfl
theorem lmX20_110 : Cond.methodLink RX20 110 yX20_earthCall ∈ mTB := mTB_of (sg18 (List.mem_of_getElem? (i := 3) rfl)) rfl
theorem lv_X20_earthCall_i : Cond.instanceMethod yX20_earthCall ∈ mTB := mTB_of (sg18 (List.mem_of_getElem? (i := 5) rfl)) rfl
theorem lo_X20_earthCall : Cond.code yX20_earthCall cX20_earthCall 7 (some .long) ∈ mTB := mTB_of (sg18 (List.mem_of_getElem? (i := 6) rfl)) rfl
theorem lmX20_167 : Cond.methodLink RX20 167 yX13_cut ∈ mTB := mTB_of (sg18 (List.mem_of_getElem? (i := 7) rfl)) rfl
theorem lv_X13_cut_i : Cond.instanceMethod yX13_cut ∈ mTB := mTB_of (sg18 (List.mem_of_getElem? (i := 8) rfl)) rfl
theorem ls_X13_cut : Cond.selects yX13_cut.cls yX13_cut yX13_cut ∈ mTB := mTB_of (sg18 (List.mem_of_getElem? (i := 9) rfl)) rfl
theorem lo_X13_cut : Cond.code yX13_cut cX13_cut 7 (some .int) ∈ mTB := mTB_of (sg18 (List.mem_of_getElem? (i := 10) rfl)) rfl
theorem lcX13_103 : Cond.constantLong RX13 103 (1000000 : Int64) ∈ mTB := mTB_of (sg18 (List.mem_of_getElem? (i := 11) rfl)) rfl
theorem lmX13_105 : Cond.methodLink RX13 105 yX13_isOut ∈ mTB := mTB_of (sg18 (List.mem_of_getElem? (i := 12) rfl)) rfl
theorem lv_X13_isOut_s : Cond.static yX13_isOut ∈ mTB := mTB_of (sg18 (List.mem_of_getElem? (i := 13) rfl)) rfl
theorem lo_X13_isOut : Cond.code yX13_isOut cX13_isOut 6 (some .boolean) ∈ mTB := mTB_of (sg18 (List.mem_of_getElem? (i := 14) rfl)) rfl
theorem lcX13_109 : Cond.constantLong RX13 109 (3 : Int64) ∈ mTB := mTB_of (sg18 (List.mem_of_getElem? (i := 15) rfl)) rfl
theorem lcX13_111 : Cond.constantLong RX13 111 (11 : Int64) ∈ mTB := mTB_of (sg18 (List.mem_of_getElem? (i := 16) rfl)) rfl
theorem lcX13_113 : Cond.constantLong RX13 113 (100000 : Int64) ∈ mTB := mTB_of (sg18 (List.mem_of_getElem? (i := 17) rfl)) rfl
theorem lmX13_118 : Cond.methodLink RX13 118 yX13_drop ∈ mTB := mTB_of (sg18 (List.mem_of_getElem? (i := 18) rfl)) rfl
theorem lv_X13_drop_i : Cond.instanceMethod yX13_drop ∈ mTB := mTB_of (sg18 (List.mem_of_getElem? (i := 20) rfl)) rfl
theorem lo_X13_drop : Cond.code yX13_drop cX13_drop 1 none ∈ mTB := mTB_of (sg18 (List.mem_of_getElem? (i := 21) rfl)) rfl
theorem lmX20_173 : Cond.methodLink RX20 173 yX13_fill ∈ mTB := mTB_of (sg18 (List.mem_of_getElem? (i := 22) rfl)) rfl
theorem lv_X13_fill_i : Cond.instanceMethod yX13_fill ∈ mTB := mTB_of (sg18 (List.mem_of_getElem? (i := 23) rfl)) rfl
theorem ls_X13_fill : Cond.selects yX13_fill.cls yX13_fill yX13_fill ∈ mTB := mTB_of (sg18 (List.mem_of_getElem? (i := 24) rfl)) rfl
theorem lo_X13_fill : Cond.code yX13_fill cX13_fill 6 (some .int) ∈ mTB := mTB_of (sg18 (List.mem_of_getElem? (i := 25) rfl)) rfl
theorem lmX20_344 : Cond.methodLink RX20 344 yX13_swell ∈ mTB := mTB_of (sg18 (List.mem_of_getElem? (i := 26) rfl)) rfl
theorem lv_X13_swell_i : Cond.instanceMethod yX13_swell ∈ mTB := mTB_of (sg18 (List.mem_of_getElem? (i := 27) rfl)) rfl
theorem ls_X13_swell : Cond.selects yX13_swell.cls yX13_swell yX13_swell ∈ mTB := mTB_of (sg18 (List.mem_of_getElem? (i := 28) rfl)) rfl
theorem lo_X13_swell : Cond.code yX13_swell cX13_swell 6 (some .boolean) ∈ mTB := mTB_of (sg18 (List.mem_of_getElem? (i := 29) rfl)) rfl
theorem lcX13_124 : Cond.constantLong RX13 124 (1000 : Int64) ∈ mTB := mTB_of (sg18 (List.mem_of_getElem? (i := 30) rfl)) rfl
theorem lmX20_347 : Cond.methodLink RX20 347 yX13_fits ∈ mTB := mTB_of (sg18 (List.mem_of_getElem? (i := 31) rfl)) rfl
theorem lv_X13_fits_i : Cond.instanceMethod yX13_fits ∈ mTB := mTB_of (sg18 (List.mem_of_getElem? (i := 32) rfl)) rfl
theorem ls_X13_fits : Cond.selects yX13_fits.cls yX13_fits yX13_fits ∈ mTB := mTB_of (sg18 (List.mem_of_getElem? (i := 33) rfl)) rfl
theorem lo_X13_fits : Cond.code yX13_fits cX13_fits 4 (some .boolean) ∈ mTB := mTB_of (sg18 (List.mem_of_getElem? (i := 34) rfl)) rfl
theorem lmX13_126 : Cond.methodLink RX13 126 yX13_noFill ∈ mTB := mTB_of (sg18 (List.mem_of_getElem? (i := 35) rfl)) rfl
theorem lv_X13_noFill_i : Cond.instanceMethod yX13_noFill ∈ mTB := mTB_of (sg18 (List.mem_of_getElem? (i := 37) rfl)) rfl
theorem lo_X13_noFill : Cond.code yX13_noFill cX13_noFill 2 (some .boolean) ∈ mTB := mTB_of (sg18 (List.mem_of_getElem? (i := 38) rfl)) rfl
theorem lmX20_350 : Cond.methodLink RX20 350 yX13_way ∈ mTB := mTB_of (sg18 (List.mem_of_getElem? (i := 39) rfl)) rfl
theorem lv_X13_way_i : Cond.instanceMethod yX13_way ∈ mTB := mTB_of (sg18 (List.mem_of_getElem? (i := 40) rfl)) rfl
theorem ls_X13_way : Cond.selects yX13_way.cls yX13_way yX13_way ∈ mTB := mTB_of (sg18 (List.mem_of_getElem? (i := 41) rfl)) rfl
theorem lo_X13_way : Cond.code yX13_way cX13_way 7 (some .int) ∈ mTB := mTB_of (sg18 (List.mem_of_getElem? (i := 42) rfl)) rfl
theorem lmX20_353 : Cond.methodLink RX20 353 yX13_bar ∈ mTB := mTB_of (sg18 (List.mem_of_getElem? (i := 43) rfl)) rfl
theorem lv_X13_bar_i : Cond.instanceMethod yX13_bar ∈ mTB := mTB_of (sg18 (List.mem_of_getElem? (i := 44) rfl)) rfl
theorem ls_X13_bar : Cond.selects yX13_bar.cls yX13_bar yX13_bar ∈ mTB := mTB_of (sg18 (List.mem_of_getElem? (i := 45) rfl)) rfl
theorem lo_X13_bar : Cond.code yX13_bar cX13_bar 5 (some .boolean) ∈ mTB := mTB_of (sg18 (List.mem_of_getElem? (i := 46) rfl)) rfl
theorem lmX13_133 : Cond.methodLink RX13 133 yX13_noWay ∈ mTB := mTB_of (sg18 (List.mem_of_getElem? (i := 47) rfl)) rfl
theorem lv_X13_noWay_i : Cond.instanceMethod yX13_noWay ∈ mTB := mTB_of (sg18 (List.mem_of_getElem? (i := 49) rfl)) rfl
theorem lo_X13_noWay : Cond.code yX13_noWay cX13_noWay 2 (some .boolean) ∈ mTB := mTB_of (sg18 (List.mem_of_getElem? (i := 50) rfl)) rfl
theorem lmX20_355 : Cond.methodLink RX20 355 yX13_borrow ∈ mTB := mTB_of (sg18 (List.mem_of_getElem? (i := 51) rfl)) rfl
theorem lv_X13_borrow_i : Cond.instanceMethod yX13_borrow ∈ mTB := mTB_of (sg18 (List.mem_of_getElem? (i := 52) rfl)) rfl
theorem ls_X13_borrow : Cond.selects yX13_borrow.cls yX13_borrow yX13_borrow ∈ mTB := mTB_of (sg18 (List.mem_of_getElem? (i := 53) rfl)) rfl
theorem lo_X13_borrow : Cond.code yX13_borrow cX13_borrow 5 (some .int) ∈ mTB := mTB_of (sg18 (List.mem_of_getElem? (i := 54) rfl)) rfl
theorem lmX20_358 : Cond.methodLink RX20 358 yX13_most ∈ mTB := mTB_of (sg18 (List.mem_of_getElem? (i := 55) rfl)) rfl
theorem lv_X13_most_i : Cond.instanceMethod yX13_most ∈ mTB := mTB_of (sg18 (List.mem_of_getElem? (i := 56) rfl)) rfl
theorem ls_X13_most : Cond.selects yX13_most.cls yX13_most yX13_most ∈ mTB := mTB_of (sg18 (List.mem_of_getElem? (i := 57) rfl)) rfl
theorem lo_X13_most : Cond.code yX13_most cX13_most 4 (some .boolean) ∈ mTB := mTB_of (sg18 (List.mem_of_getElem? (i := 58) rfl)) rfl
theorem lcX13_139 : Cond.constantLong RX13 139 (10000000 : Int64) ∈ mTB := mTB_of (sg18 (List.mem_of_getElem? (i := 59) rfl)) rfl
theorem lmX20_362 : Cond.methodLink RX20 362 yX13_run ∈ mTB := mTB_of (sg18 (List.mem_of_getElem? (i := 60) rfl)) rfl
theorem lv_X13_run_i : Cond.instanceMethod yX13_run ∈ mTB := mTB_of (sg18 (List.mem_of_getElem? (i := 61) rfl)) rfl
theorem ls_X13_run : Cond.selects yX13_run.cls yX13_run yX13_run ∈ mTB := mTB_of (sg18 (List.mem_of_getElem? (i := 62) rfl)) rfl
theorem lo_X13_run : Cond.code yX13_run cX13_run 6 (some .int) ∈ mTB := mTB_of (sg18 (List.mem_of_getElem? (i := 63) rfl)) rfl
theorem lmX13_152 : Cond.methodLink RX13 152 yX13_sources ∈ mTB := mTB_of (sg18 (List.mem_of_getElem? (i := 64) rfl)) rfl
theorem lv_X13_sources_i : Cond.instanceMethod yX13_sources ∈ mTB := mTB_of (sg18 (List.mem_of_getElem? (i := 66) rfl)) rfl
theorem lo_X13_sources : Cond.code yX13_sources cX13_sources 1 (some .int) ∈ mTB := mTB_of (sg18 (List.mem_of_getElem? (i := 67) rfl)) rfl
theorem lmX13_187 : Cond.methodLink RX13 187 yX13_lay ∈ mTB := mTB_of (sg18 (List.mem_of_getElem? (i := 68) rfl)) rfl
theorem lv_X13_lay_i : Cond.instanceMethod yX13_lay ∈ mTB := mTB_of (sg18 (List.mem_of_getElem? (i := 70) rfl)) rfl
theorem lo_X13_lay : Cond.code yX13_lay cX13_lay 7 none ∈ mTB := mTB_of (sg18 (List.mem_of_getElem? (i := 71) rfl)) rfl
theorem lmX13_156 : Cond.methodLink RX13 156 yX13_gives ∈ mTB := mTB_of (sg18 (List.mem_of_getElem? (i := 72) rfl)) rfl
theorem lv_X13_gives_i : Cond.instanceMethod yX13_gives ∈ mTB := mTB_of (sg18 (List.mem_of_getElem? (i := 74) rfl)) rfl
theorem lo_X13_gives : Cond.code yX13_gives cX13_gives 2 (some .long) ∈ mTB := mTB_of (sg18 (List.mem_of_getElem? (i := 75) rfl)) rfl
theorem lmX13_160 : Cond.methodLink RX13 160 yX13_arc ∈ mTB := mTB_of (sg18 (List.mem_of_getElem? (i := 76) rfl)) rfl
theorem lv_X13_arc_i : Cond.instanceMethod yX13_arc ∈ mTB := mTB_of (sg18 (List.mem_of_getElem? (i := 78) rfl)) rfl
theorem lo_X13_arc : Cond.code yX13_arc cX13_arc 7 none ∈ mTB := mTB_of (sg18 (List.mem_of_getElem? (i := 79) rfl)) rfl
theorem lmX13_164 : Cond.methodLink RX13 164 yX13_serves ∈ mTB := mTB_of (sg18 (List.mem_of_getElem? (i := 80) rfl)) rfl
theorem lv_X13_serves_i : Cond.instanceMethod yX13_serves ∈ mTB := mTB_of (sg18 (List.mem_of_getElem? (i := 82) rfl)) rfl
theorem lo_X13_serves : Cond.code yX13_serves cX13_serves 3 (some .boolean) ∈ mTB := mTB_of (sg18 (List.mem_of_getElem? (i := 83) rfl)) rfl
theorem lmX13_168 : Cond.methodLink RX13 168 yX13_priceOf ∈ mTB := mTB_of (sg18 (List.mem_of_getElem? (i := 84) rfl)) rfl
theorem lv_X13_priceOf_i : Cond.instanceMethod yX13_priceOf ∈ mTB := mTB_of (sg18 (List.mem_of_getElem? (i := 86) rfl)) rfl
theorem lo_X13_priceOf : Cond.code yX13_priceOf cX13_priceOf 15 (some .long) ∈ mTB := mTB_of (sg18 (List.mem_of_getElem? (i := 87) rfl)) rfl
theorem lmX13_141 : Cond.methodLink RX13 141 yX13_metreOf ∈ mTB := mTB_of (sg18 (List.mem_of_getElem? (i := 88) rfl)) rfl
theorem lv_X13_metreOf_i : Cond.instanceMethod yX13_metreOf ∈ mTB := mTB_of (sg18 (List.mem_of_getElem? (i := 90) rfl)) rfl
theorem lo_X13_metreOf : Cond.code yX13_metreOf cX13_metreOf 2 (some .int) ∈ mTB := mTB_of (sg18 (List.mem_of_getElem? (i := 91) rfl)) rfl
theorem lmX13_145 : Cond.methodLink RX13 145 yX13_apart ∈ mTB := mTB_of (sg18 (List.mem_of_getElem? (i := 92) rfl)) rfl
theorem lv_X13_apart_s : Cond.static yX13_apart ∈ mTB := mTB_of (sg18 (List.mem_of_getElem? (i := 93) rfl)) rfl
theorem lo_X13_apart : Cond.code yX13_apart cX13_apart 4 (some .long) ∈ mTB := mTB_of (sg18 (List.mem_of_getElem? (i := 94) rfl)) rfl
theorem lmX13_191 : Cond.methodLink RX13 191 yX13_sendAll ∈ mTB := mTB_of (sg18 (List.mem_of_getElem? (i := 95) rfl)) rfl
theorem lv_X13_sendAll_i : Cond.instanceMethod yX13_sendAll ∈ mTB := mTB_of (sg18 (List.mem_of_getElem? (i := 97) rfl)) rfl
theorem lo_X13_sendAll : Cond.code yX13_sendAll cX13_sendAll 5 none ∈ mTB := mTB_of (sg18 (List.mem_of_getElem? (i := 98) rfl)) rfl
theorem lmX13_179 : Cond.methodLink RX13 179 yX13_walk ∈ mTB := mTB_of (sg18 (List.mem_of_getElem? (i := 99) rfl)) rfl
theorem lv_X13_walk_i : Cond.instanceMethod yX13_walk ∈ mTB := mTB_of (sg18 (List.mem_of_getElem? (i := 101) rfl)) rfl
theorem lo_X13_walk : Cond.code yX13_walk cX13_walk 7 none ∈ mTB := mTB_of (sg18 (List.mem_of_getElem? (i := 102) rfl)) rfl
theorem lmX13_183 : Cond.methodLink RX13 183 yX13_go ∈ mTB := mTB_of (sg18 (List.mem_of_getElem? (i := 103) rfl)) rfl
theorem lv_X13_go_i : Cond.instanceMethod yX13_go ∈ mTB := mTB_of (sg18 (List.mem_of_getElem? (i := 105) rfl)) rfl
theorem lo_X13_go : Cond.code yX13_go cX13_go 11 (some .long) ∈ mTB := mTB_of (sg18 (List.mem_of_getElem? (i := 106) rfl)) rfl
theorem lmX13_194 : Cond.methodLink RX13 194 yX13_wanted ∈ mTB := mTB_of (sg18 (List.mem_of_getElem? (i := 107) rfl)) rfl
theorem lv_X13_wanted_i : Cond.instanceMethod yX13_wanted ∈ mTB := mTB_of (sg18 (List.mem_of_getElem? (i := 109) rfl)) rfl
theorem lo_X13_wanted : Cond.code yX13_wanted cX13_wanted 4 (some .long) ∈ mTB := mTB_of (sg18 (List.mem_of_getElem? (i := 110) rfl)) rfl
theorem lmX13_204 : Cond.methodLink RX13 204 yX13_firstOfAll ∈ mTB := mTB_of (sg18 (List.mem_of_getElem? (i := 111) rfl)) rfl
theorem lv_X13_firstOfAll_i : Cond.instanceMethod yX13_firstOfAll ∈ mTB := mTB_of (sg18 (List.mem_of_getElem? (i := 113) rfl)) rfl
theorem lo_X13_firstOfAll : Cond.code yX13_firstOfAll cX13_firstOfAll 5 none ∈ mTB := mTB_of (sg18 (List.mem_of_getElem? (i := 114) rfl)) rfl
theorem lmX20_248 : Cond.methodLink RX20 248 yX13_moved ∈ mTB := mTB_of (sg18 (List.mem_of_getElem? (i := 115) rfl)) rfl
theorem lv_X13_moved_i : Cond.instanceMethod yX13_moved ∈ mTB := mTB_of (sg18 (List.mem_of_getElem? (i := 116) rfl)) rfl
theorem ls_X13_moved : Cond.selects yX13_moved.cls yX13_moved yX13_moved ∈ mTB := mTB_of (sg18 (List.mem_of_getElem? (i := 117) rfl)) rfl
theorem lo_X13_moved : Cond.code yX13_moved cX13_moved 4 (some .long) ∈ mTB := mTB_of (sg18 (List.mem_of_getElem? (i := 118) rfl)) rfl
theorem lmX13_207 : Cond.methodLink RX13 207 yX13_noSource ∈ mTB := mTB_of (sg18 (List.mem_of_getElem? (i := 119) rfl)) rfl
theorem lv_X13_noSource_i : Cond.instanceMethod yX13_noSource ∈ mTB := mTB_of (sg18 (List.mem_of_getElem? (i := 121) rfl)) rfl
theorem lo_X13_noSource : Cond.code yX13_noSource cX13_noSource 2 (some .boolean) ∈ mTB := mTB_of (sg18 (List.mem_of_getElem? (i := 122) rfl)) rfl
theorem lcX13_210 : Cond.constantLong RX13 210 (-1 : Int64) ∈ mTB := mTB_of (sg18 (List.mem_of_getElem? (i := 123) rfl)) rfl
theorem lmX20_242 : Cond.methodLink RX20 242 yX13_cost ∈ mTB := mTB_of (sg18 (List.mem_of_getElem? (i := 124) rfl)) rfl
theorem lv_X13_cost_i : Cond.instanceMethod yX13_cost ∈ mTB := mTB_of (sg18 (List.mem_of_getElem? (i := 125) rfl)) rfl
theorem ls_X13_cost : Cond.selects yX13_cost.cls yX13_cost yX13_cost ∈ mTB := mTB_of (sg18 (List.mem_of_getElem? (i := 126) rfl)) rfl
theorem lo_X13_cost : Cond.code yX13_cost cX13_cost 10 (some .long) ∈ mTB := mTB_of (sg18 (List.mem_of_getElem? (i := 127) rfl)) rfl
theorem lmX20_363 : Cond.methodLink RX20 363 yX13_dual ∈ mTB := mTB_of (sg18 (List.mem_of_getElem? (i := 128) rfl)) rfl
theorem lv_X13_dual_i : Cond.instanceMethod yX13_dual ∈ mTB := mTB_of (sg18 (List.mem_of_getElem? (i := 129) rfl)) rfl
theorem ls_X13_dual : Cond.selects yX13_dual.cls yX13_dual yX13_dual ∈ mTB := mTB_of (sg18 (List.mem_of_getElem? (i := 130) rfl)) rfl
theorem lo_X13_dual : Cond.code yX13_dual cX13_dual 5 (some .long) ∈ mTB := mTB_of (sg18 (List.mem_of_getElem? (i := 131) rfl)) rfl
theorem lmX13_212 : Cond.methodLink RX13 212 yX13_more ∈ mTB := mTB_of (sg18 (List.mem_of_getElem? (i := 132) rfl)) rfl
theorem lv_X13_more_i : Cond.instanceMethod yX13_more ∈ mTB := mTB_of (sg18 (List.mem_of_getElem? (i := 134) rfl)) rfl
theorem lo_X13_more : Cond.code yX13_more cX13_more 4 (some .long) ∈ mTB := mTB_of (sg18 (List.mem_of_getElem? (i := 135) rfl)) rfl
theorem lmX20_366 : Cond.methodLink RX20 366 yX13_clash ∈ mTB := mTB_of (sg18 (List.mem_of_getElem? (i := 136) rfl)) rfl
theorem lv_X13_clash_i : Cond.instanceMethod yX13_clash ∈ mTB := mTB_of (sg18 (List.mem_of_getElem? (i := 137) rfl)) rfl
theorem ls_X13_clash : Cond.selects yX13_clash.cls yX13_clash yX13_clash ∈ mTB := mTB_of (sg18 (List.mem_of_getElem? (i := 138) rfl)) rfl
theorem lo_X13_clash : Cond.code yX13_clash cX13_clash 4 (some .int) ∈ mTB := mTB_of (sg18 (List.mem_of_getElem? (i := 139) rfl)) rfl
theorem lmX20_369 : Cond.methodLink RX20 369 yX13_closure ∈ mTB := mTB_of (sg18 (List.mem_of_getElem? (i := 140) rfl)) rfl
theorem lv_X13_closure_i : Cond.instanceMethod yX13_closure ∈ mTB := mTB_of (sg18 (List.mem_of_getElem? (i := 141) rfl)) rfl
theorem ls_X13_closure : Cond.selects yX13_closure.cls yX13_closure yX13_closure ∈ mTB := mTB_of (sg18 (List.mem_of_getElem? (i := 142) rfl)) rfl
theorem lo_X13_closure : Cond.code yX13_closure cX13_closure 3 (some .long) ∈ mTB := mTB_of (sg18 (List.mem_of_getElem? (i := 143) rfl)) rfl
theorem lmX20_373 : Cond.methodLink RX20 373 yX13_list ∈ mTB := mTB_of (sg18 (List.mem_of_getElem? (i := 144) rfl)) rfl
theorem lv_X13_list_i : Cond.instanceMethod yX13_list ∈ mTB := mTB_of (sg18 (List.mem_of_getElem? (i := 145) rfl)) rfl
theorem ls_X13_list : Cond.selects yX13_list.cls yX13_list yX13_list ∈ mTB := mTB_of (sg18 (List.mem_of_getElem? (i := 146) rfl)) rfl
theorem lo_X13_list : Cond.code yX13_list cX13_list 7 (some .int) ∈ mTB := mTB_of (sg18 (List.mem_of_getElem? (i := 147) rfl)) rfl
theorem lmX20_376 : Cond.methodLink RX20 376 yX13_mass ∈ mTB := mTB_of (sg18 (List.mem_of_getElem? (i := 148) rfl)) rfl
theorem lv_X13_mass_i : Cond.instanceMethod yX13_mass ∈ mTB := mTB_of (sg18 (List.mem_of_getElem? (i := 149) rfl)) rfl
theorem ls_X13_mass : Cond.selects yX13_mass.cls yX13_mass yX13_mass ∈ mTB := mTB_of (sg18 (List.mem_of_getElem? (i := 150) rfl)) rfl
theorem lo_X13_mass : Cond.code yX13_mass cX13_mass 10 (some .long) ∈ mTB := mTB_of (sg18 (List.mem_of_getElem? (i := 151) rfl)) rfl
theorem lmX20_270 : Cond.methodLink RX20 270 yX13_check ∈ mTB := mTB_of (sg18 (List.mem_of_getElem? (i := 152) rfl)) rfl
theorem lv_X13_check_i : Cond.instanceMethod yX13_check ∈ mTB := mTB_of (sg18 (List.mem_of_getElem? (i := 153) rfl)) rfl
theorem ls_X13_check : Cond.selects yX13_check.cls yX13_check yX13_check ∈ mTB := mTB_of (sg18 (List.mem_of_getElem? (i := 154) rfl)) rfl
theorem lo_X13_check : Cond.code yX13_check cX13_check 1 (some .int) ∈ mTB := mTB_of (sg18 (List.mem_of_getElem? (i := 155) rfl)) rfl
theorem lmX20_380 : Cond.methodLink RX20 380 yX13_level ∈ mTB := mTB_of (sg18 (List.mem_of_getElem? (i := 156) rfl)) rfl
theorem lv_X13_level_i : Cond.instanceMethod yX13_level ∈ mTB := mTB_of (sg18 (List.mem_of_getElem? (i := 157) rfl)) rfl
theorem ls_X13_level : Cond.selects yX13_level.cls yX13_level yX13_level ∈ mTB := mTB_of (sg18 (List.mem_of_getElem? (i := 158) rfl)) rfl
theorem lo_X13_level : Cond.code yX13_level cX13_level 6 (some .long) ∈ mTB := mTB_of (sg18 (List.mem_of_getElem? (i := 159) rfl)) rfl
theorem lmX20_113 : Cond.methodLink RX20 113 yX13_thrown ∈ mTB := mTB_of (sg18 (List.mem_of_getElem? (i := 160) rfl)) rfl
theorem lv_X13_thrown_i : Cond.instanceMethod yX13_thrown ∈ mTB := mTB_of (sg18 (List.mem_of_getElem? (i := 161) rfl)) rfl
theorem ls_X13_thrown : Cond.selects yX13_thrown.cls yX13_thrown yX13_thrown ∈ mTB := mTB_of (sg18 (List.mem_of_getElem? (i := 162) rfl)) rfl
theorem lo_X13_thrown : Cond.code yX13_thrown cX13_thrown 1 (some .int) ∈ mTB := mTB_of (sg18 (List.mem_of_getElem? (i := 163) rfl)) rfl
theorem lmX20_117 : Cond.methodLink RX20 117 yX20_beamsCall ∈ mTB := mTB_of (sg18 (List.mem_of_getElem? (i := 164) rfl)) rfl
theorem lv_X20_beamsCall_i : Cond.instanceMethod yX20_beamsCall ∈ mTB := mTB_of (sg18 (List.mem_of_getElem? (i := 166) rfl)) rfl
theorem lo_X20_beamsCall : Cond.code yX20_beamsCall cX20_beamsCall 7 (some .long) ∈ mTB := mTB_of (sg18 (List.mem_of_getElem? (i := 167) rfl)) rfl
theorem lmX20_180 : Cond.methodLink RX20 180 yX14_unit ∈ mTB := mTB_of (sg18 (List.mem_of_getElem? (i := 168) rfl)) rfl
theorem lv_X14_unit_i : Cond.instanceMethod yX14_unit ∈ mTB := mTB_of (sg18 (List.mem_of_getElem? (i := 169) rfl)) rfl
theorem ls_X14_unit : Cond.selects yX14_unit.cls yX14_unit yX14_unit ∈ mTB := mTB_of (sg18 (List.mem_of_getElem? (i := 170) rfl)) rfl
theorem lo_X14_unit : Cond.code yX14_unit cX14_unit 2 (some .boolean) ∈ mTB := mTB_of (sg18 (List.mem_of_getElem? (i := 171) rfl)) rfl
theorem lmX20_183 : Cond.methodLink RX20 183 yX14_read ∈ mTB := mTB_of (sg18 (List.mem_of_getElem? (i := 172) rfl)) rfl
theorem lv_X14_read_i : Cond.instanceMethod yX14_read ∈ mTB := mTB_of (sg18 (List.mem_of_getElem? (i := 173) rfl)) rfl
theorem ls_X14_read : Cond.selects yX14_read.cls yX14_read yX14_read ∈ mTB := mTB_of (sg18 (List.mem_of_getElem? (i := 174) rfl)) rfl
theorem lo_X14_read : Cond.code yX14_read cX14_read 4 (some .int) ∈ mTB := mTB_of (sg18 (List.mem_of_getElem? (i := 175) rfl)) rfl
theorem lmX14_155 : Cond.methodLink RX14 155 yX14_readNode ∈ mTB := mTB_of (sg18 (List.mem_of_getElem? (i := 176) rfl)) rfl
theorem lv_X14_readNode_i : Cond.instanceMethod yX14_readNode ∈ mTB := mTB_of (sg18 (List.mem_of_getElem? (i := 178) rfl)) rfl
theorem lo_X14_readNode : Cond.code yX14_readNode cX14_readNode 3 (some .boolean) ∈ mTB := mTB_of (sg18 (List.mem_of_getElem? (i := 179) rfl)) rfl
theorem lmX14_145 : Cond.methodLink RX14 145 yX14_sign ∈ mTB := mTB_of (sg18 (List.mem_of_getElem? (i := 180) rfl)) rfl
theorem lv_X14_sign_i : Cond.instanceMethod yX14_sign ∈ mTB := mTB_of (sg18 (List.mem_of_getElem? (i := 182) rfl)) rfl
theorem lo_X14_sign : Cond.code yX14_sign cX14_sign 1 (some .int) ∈ mTB := mTB_of (sg18 (List.mem_of_getElem? (i := 183) rfl)) rfl
theorem lmX14_158 : Cond.methodLink RX14 158 yX14_readBeam ∈ mTB := mTB_of (sg18 (List.mem_of_getElem? (i := 184) rfl)) rfl
theorem lv_X14_readBeam_i : Cond.instanceMethod yX14_readBeam ∈ mTB := mTB_of (sg18 (List.mem_of_getElem? (i := 186) rfl)) rfl
theorem lo_X14_readBeam : Cond.code yX14_readBeam cX14_readBeam 2 (some .boolean) ∈ mTB := mTB_of (sg18 (List.mem_of_getElem? (i := 187) rfl)) rfl
theorem lmX14_152 : Cond.methodLink RX14 152 yX14_readNumber ∈ mTB := mTB_of (sg18 (List.mem_of_getElem? (i := 188) rfl)) rfl
theorem lv_X14_readNumber_i : Cond.instanceMethod yX14_readNumber ∈ mTB := mTB_of (sg18 (List.mem_of_getElem? (i := 190) rfl)) rfl
theorem lo_X14_readNumber : Cond.code yX14_readNumber cX14_readNumber 4 (some .int) ∈ mTB := mTB_of (sg18 (List.mem_of_getElem? (i := 191) rfl)) rfl
theorem lmX14_149 : Cond.methodLink RX14 149 yX14_isDigit ∈ mTB := mTB_of (sg18 (List.mem_of_getElem? (i := 192) rfl)) rfl
theorem lv_X14_isDigit_i : Cond.instanceMethod yX14_isDigit ∈ mTB := mTB_of (sg18 (List.mem_of_getElem? (i := 194) rfl)) rfl
theorem lo_X14_isDigit : Cond.code yX14_isDigit cX14_isDigit 2 (some .boolean) ∈ mTB := mTB_of (sg18 (List.mem_of_getElem? (i := 195) rfl)) rfl
theorem lmX20_383 : Cond.methodLink RX20 383 yX14_member ∈ mTB := mTB_of (sg18 (List.mem_of_getElem? (i := 196) rfl)) rfl
theorem lv_X14_member_i : Cond.instanceMethod yX14_member ∈ mTB := mTB_of (sg18 (List.mem_of_getElem? (i := 197) rfl)) rfl
theorem ls_X14_member : Cond.selects yX14_member.cls yX14_member yX14_member ∈ mTB := mTB_of (sg18 (List.mem_of_getElem? (i := 198) rfl)) rfl
theorem lo_X14_member : Cond.code yX14_member cX14_member 6 (some .boolean) ∈ mTB := mTB_of (sg18 (List.mem_of_getElem? (i := 199) rfl)) rfl
theorem lmX14_168 : Cond.methodLink RX14 168 yX14_thrownAt ∈ mTB := mTB_of (sg18 (List.mem_of_getElem? (i := 200) rfl)) rfl
theorem lv_X14_thrownAt_i : Cond.instanceMethod yX14_thrownAt ∈ mTB := mTB_of (sg18 (List.mem_of_getElem? (i := 202) rfl)) rfl
theorem lo_X14_thrownAt : Cond.code yX14_thrownAt cX14_thrownAt 3 (some .boolean) ∈ mTB := mTB_of (sg18 (List.mem_of_getElem? (i := 203) rfl)) rfl
theorem lcX14_172 : Cond.constantLong RX14 172 (12 : Int64) ∈ mTB := mTB_of (sg18 (List.mem_of_getElem? (i := 204) rfl)) rfl
theorem lmX20_386 : Cond.methodLink RX20 386 yX14_support ∈ mTB := mTB_of (sg18 (List.mem_of_getElem? (i := 205) rfl)) rfl
theorem lv_X14_support_i : Cond.instanceMethod yX14_support ∈ mTB := mTB_of (sg18 (List.mem_of_getElem? (i := 206) rfl)) rfl
theorem ls_X14_support : Cond.selects yX14_support.cls yX14_support yX14_support ∈ mTB := mTB_of (sg18 (List.mem_of_getElem? (i := 207) rfl)) rfl
theorem lo_X14_support : Cond.code yX14_support cX14_support 5 (some .boolean) ∈ mTB := mTB_of (sg18 (List.mem_of_getElem? (i := 208) rfl)) rfl
theorem lmX20_389 : Cond.methodLink RX20 389 yX14_hinge ∈ mTB := mTB_of (sg18 (List.mem_of_getElem? (i := 209) rfl)) rfl
theorem lv_X14_hinge_i : Cond.instanceMethod yX14_hinge ∈ mTB := mTB_of (sg18 (List.mem_of_getElem? (i := 210) rfl)) rfl
theorem ls_X14_hinge : Cond.selects yX14_hinge.cls yX14_hinge yX14_hinge ∈ mTB := mTB_of (sg18 (List.mem_of_getElem? (i := 211) rfl)) rfl
theorem lo_X14_hinge : Cond.code yX14_hinge cX14_hinge 5 (some .boolean) ∈ mTB := mTB_of (sg18 (List.mem_of_getElem? (i := 212) rfl)) rfl
theorem lmX20_392 : Cond.methodLink RX20 392 yX14_solve ∈ mTB := mTB_of (sg18 (List.mem_of_getElem? (i := 213) rfl)) rfl
theorem lv_X14_solve_i : Cond.instanceMethod yX14_solve ∈ mTB := mTB_of (sg18 (List.mem_of_getElem? (i := 214) rfl)) rfl
theorem ls_X14_solve : Cond.selects yX14_solve.cls yX14_solve yX14_solve ∈ mTB := mTB_of (sg18 (List.mem_of_getElem? (i := 215) rfl)) rfl
theorem lo_X14_solve : Cond.code yX14_solve cX14_solve 4 (some .int) ∈ mTB := mTB_of (sg18 (List.mem_of_getElem? (i := 216) rfl)) rfl
theorem lmX14_240 : Cond.methodLink RX14 240 yX14_isFirm ∈ mTB := mTB_of (sg18 (List.mem_of_getElem? (i := 217) rfl)) rfl
theorem lv_X14_isFirm_i : Cond.instanceMethod yX14_isFirm ∈ mTB := mTB_of (sg18 (List.mem_of_getElem? (i := 219) rfl)) rfl
theorem lo_X14_isFirm : Cond.code yX14_isFirm cX14_isFirm 1 (some .boolean) ∈ mTB := mTB_of (sg18 (List.mem_of_getElem? (i := 220) rfl)) rfl
theorem lmX14_233 : Cond.methodLink RX14 233 yX14_solveAll ∈ mTB := mTB_of (sg18 (List.mem_of_getElem? (i := 221) rfl)) rfl
theorem lv_X14_solveAll_i : Cond.instanceMethod yX14_solveAll ∈ mTB := mTB_of (sg18 (List.mem_of_getElem? (i := 223) rfl)) rfl
theorem lo_X14_solveAll : Cond.code yX14_solveAll cX14_solveAll 4 none ∈ mTB := mTB_of (sg18 (List.mem_of_getElem? (i := 224) rfl)) rfl
theorem lmX14_99 : Cond.methodLink RX14 99 yX14_small ∈ mTB := mTB_of (sg18 (List.mem_of_getElem? (i := 225) rfl)) rfl
theorem lv_X14_small_i : Cond.instanceMethod yX14_small ∈ mTB := mTB_of (sg18 (List.mem_of_getElem? (i := 227) rfl)) rfl
theorem lo_X14_small : Cond.code yX14_small cX14_small 7 none ∈ mTB := mTB_of (sg18 (List.mem_of_getElem? (i := 228) rfl)) rfl
theorem lcX14_73 : Cond.constantLong RX14 73 (16777215 : Int64) ∈ mTB := mTB_of (sg18 (List.mem_of_getElem? (i := 229) rfl)) rfl
theorem lmX14_212 : Cond.methodLink RX14 212 yX14_heights ∈ mTB := mTB_of (sg18 (List.mem_of_getElem? (i := 230) rfl)) rfl
theorem lv_X14_heights_i : Cond.instanceMethod yX14_heights ∈ mTB := mTB_of (sg18 (List.mem_of_getElem? (i := 232) rfl)) rfl
theorem lo_X14_heights : Cond.code yX14_heights cX14_heights 2 none ∈ mTB := mTB_of (sg18 (List.mem_of_getElem? (i := 233) rfl)) rfl
theorem lmX14_202 : Cond.methodLink RX14 202 yX14_put ∈ mTB := mTB_of (sg18 (List.mem_of_getElem? (i := 234) rfl)) rfl
theorem lv_X14_put_i : Cond.instanceMethod yX14_put ∈ mTB := mTB_of (sg18 (List.mem_of_getElem? (i := 236) rfl)) rfl
theorem lo_X14_put : Cond.code yX14_put cX14_put 12 none ∈ mTB := mTB_of (sg18 (List.mem_of_getElem? (i := 237) rfl)) rfl
theorem lmX14_185 : Cond.methodLink RX14 185 yX14_coefficient ∈ mTB := mTB_of (sg18 (List.mem_of_getElem? (i := 238) rfl)) rfl
theorem lv_X14_coefficient_i : Cond.instanceMethod yX14_coefficient ∈ mTB := mTB_of (sg19 (List.mem_of_getElem? (i := 0) rfl)) rfl
theorem lo_X14_coefficient : Cond.code yX14_coefficient cX14_coefficient 17 none ∈ mTB := mTB_of (sg19 (List.mem_of_getElem? (i := 1) rfl)) rfl
theorem lcX14_191 : Cond.constantLong RX14 191 (4 : Int64) ∈ mTB := mTB_of (sg19 (List.mem_of_getElem? (i := 2) rfl)) rfl
theorem lcX14_193 : Cond.constantLong RX14 193 (32 : Int64) ∈ mTB := mTB_of (sg19 (List.mem_of_getElem? (i := 3) rfl)) rfl
theorem lcX14_195 : Cond.constantLong RX14 195 (384 : Int64) ∈ mTB := mTB_of (sg19 (List.mem_of_getElem? (i := 4) rfl)) rfl
theorem lmX14_174 : Cond.methodLink RX14 174 yX14_fraction ∈ mTB := mTB_of (sg19 (List.mem_of_getElem? (i := 5) rfl)) rfl
theorem lv_X14_fraction_i : Cond.instanceMethod yX14_fraction ∈ mTB := mTB_of (sg19 (List.mem_of_getElem? (i := 7) rfl)) rfl
theorem lo_X14_fraction : Cond.code yX14_fraction cX14_fraction 7 none ∈ mTB := mTB_of (sg19 (List.mem_of_getElem? (i := 8) rfl)) rfl
theorem lmX14_129 : Cond.methodLink RX14 129 yX14_reduce ∈ mTB := mTB_of (sg19 (List.mem_of_getElem? (i := 9) rfl)) rfl
theorem lv_X14_reduce_i : Cond.instanceMethod yX14_reduce ∈ mTB := mTB_of (sg19 (List.mem_of_getElem? (i := 11) rfl)) rfl
theorem lo_X14_reduce : Cond.code yX14_reduce cX14_reduce 3 none ∈ mTB := mTB_of (sg19 (List.mem_of_getElem? (i := 12) rfl)) rfl
theorem lmX14_120 : Cond.methodLink RX14 120 yX14_divisorOf ∈ mTB := mTB_of (sg19 (List.mem_of_getElem? (i := 13) rfl)) rfl
theorem lv_X14_divisorOf_i : Cond.instanceMethod yX14_divisorOf ∈ mTB := mTB_of (sg19 (List.mem_of_getElem? (i := 15) rfl)) rfl
theorem lo_X14_divisorOf : Cond.code yX14_divisorOf cX14_divisorOf 5 none ∈ mTB := mTB_of (sg19 (List.mem_of_getElem? (i := 16) rfl)) rfl
theorem lmX14_90 : Cond.methodLink RX14 90 yX14_copy ∈ mTB := mTB_of (sg19 (List.mem_of_getElem? (i := 17) rfl)) rfl
theorem lv_X14_copy_i : Cond.instanceMethod yX14_copy ∈ mTB := mTB_of (sg19 (List.mem_of_getElem? (i := 19) rfl)) rfl
theorem lo_X14_copy : Cond.code yX14_copy cX14_copy 4 none ∈ mTB := mTB_of (sg19 (List.mem_of_getElem? (i := 20) rfl)) rfl
theorem lmX14_107 : Cond.methodLink RX14 107 yX14_isEven ∈ mTB := mTB_of (sg19 (List.mem_of_getElem? (i := 21) rfl)) rfl
theorem lv_X14_isEven_i : Cond.instanceMethod yX14_isEven ∈ mTB := mTB_of (sg19 (List.mem_of_getElem? (i := 23) rfl)) rfl
theorem lo_X14_isEven : Cond.code yX14_isEven cX14_isEven 2 (some .boolean) ∈ mTB := mTB_of (sg19 (List.mem_of_getElem? (i := 24) rfl)) rfl
theorem lmX14_79 : Cond.methodLink RX14 79 yX14_limb ∈ mTB := mTB_of (sg19 (List.mem_of_getElem? (i := 25) rfl)) rfl
theorem lv_X14_limb_i : Cond.instanceMethod yX14_limb ∈ mTB := mTB_of (sg19 (List.mem_of_getElem? (i := 27) rfl)) rfl
theorem lo_X14_limb : Cond.code yX14_limb cX14_limb 3 (some .int) ∈ mTB := mTB_of (sg19 (List.mem_of_getElem? (i := 28) rfl)) rfl
theorem lmX14_111 : Cond.methodLink RX14 111 yX14_halve ∈ mTB := mTB_of (sg19 (List.mem_of_getElem? (i := 29) rfl)) rfl
theorem lv_X14_halve_i : Cond.instanceMethod yX14_halve ∈ mTB := mTB_of (sg19 (List.mem_of_getElem? (i := 31) rfl)) rfl
theorem lo_X14_halve : Cond.code yX14_halve cX14_halve 4 none ∈ mTB := mTB_of (sg19 (List.mem_of_getElem? (i := 32) rfl)) rfl
theorem lmX14_86 : Cond.methodLink RX14 86 yX14_trim ∈ mTB := mTB_of (sg19 (List.mem_of_getElem? (i := 33) rfl)) rfl
theorem lv_X14_trim_i : Cond.instanceMethod yX14_trim ∈ mTB := mTB_of (sg19 (List.mem_of_getElem? (i := 35) rfl)) rfl
theorem lo_X14_trim : Cond.code yX14_trim cX14_trim 4 none ∈ mTB := mTB_of (sg19 (List.mem_of_getElem? (i := 36) rfl)) rfl
theorem lcX14_115 : Cond.constant RX14 115 (47250 : Int32) ∈ mTB := mTB_of (sg19 (List.mem_of_getElem? (i := 37) rfl)) rfl
theorem lmX14_82 : Cond.methodLink RX14 82 yX14_compare ∈ mTB := mTB_of (sg19 (List.mem_of_getElem? (i := 38) rfl)) rfl
theorem lv_X14_compare_i : Cond.instanceMethod yX14_compare ∈ mTB := mTB_of (sg19 (List.mem_of_getElem? (i := 40) rfl)) rfl
theorem lo_X14_compare : Cond.code yX14_compare cX14_compare 4 (some .int) ∈ mTB := mTB_of (sg19 (List.mem_of_getElem? (i := 41) rfl)) rfl
theorem lmX14_75 : Cond.methodLink RX14 75 yX14_longer ∈ mTB := mTB_of (sg19 (List.mem_of_getElem? (i := 42) rfl)) rfl
theorem lv_X14_longer_i : Cond.instanceMethod yX14_longer ∈ mTB := mTB_of (sg19 (List.mem_of_getElem? (i := 44) rfl)) rfl
theorem lo_X14_longer : Cond.code yX14_longer cX14_longer 3 (some .int) ∈ mTB := mTB_of (sg19 (List.mem_of_getElem? (i := 45) rfl)) rfl
theorem lmX14_96 : Cond.methodLink RX14 96 yX14_takePlain ∈ mTB := mTB_of (sg19 (List.mem_of_getElem? (i := 46) rfl)) rfl
theorem lv_X14_takePlain_i : Cond.instanceMethod yX14_takePlain ∈ mTB := mTB_of (sg19 (List.mem_of_getElem? (i := 48) rfl)) rfl
theorem lo_X14_takePlain : Cond.code yX14_takePlain cX14_takePlain 7 none ∈ mTB := mTB_of (sg19 (List.mem_of_getElem? (i := 49) rfl)) rfl
theorem lcX14_85 : Cond.constant RX14 85 (16777215 : Int32) ∈ mTB := mTB_of (sg19 (List.mem_of_getElem? (i := 50) rfl)) rfl
theorem lmX14_93 : Cond.methodLink RX14 93 yX14_addPlain ∈ mTB := mTB_of (sg19 (List.mem_of_getElem? (i := 51) rfl)) rfl
theorem lv_X14_addPlain_i : Cond.instanceMethod yX14_addPlain ∈ mTB := mTB_of (sg19 (List.mem_of_getElem? (i := 53) rfl)) rfl
theorem lo_X14_addPlain : Cond.code yX14_addPlain cX14_addPlain 7 none ∈ mTB := mTB_of (sg19 (List.mem_of_getElem? (i := 54) rfl)) rfl
theorem lmX14_123 : Cond.methodLink RX14 123 yX14_exact ∈ mTB := mTB_of (sg19 (List.mem_of_getElem? (i := 55) rfl)) rfl
theorem lv_X14_exact_i : Cond.instanceMethod yX14_exact ∈ mTB := mTB_of (sg19 (List.mem_of_getElem? (i := 57) rfl)) rfl
theorem lo_X14_exact : Cond.code yX14_exact cX14_exact 5 none ∈ mTB := mTB_of (sg19 (List.mem_of_getElem? (i := 58) rfl)) rfl
theorem lmX14_116 : Cond.methodLink RX14 116 yX14_bits ∈ mTB := mTB_of (sg19 (List.mem_of_getElem? (i := 59) rfl)) rfl
theorem lv_X14_bits_i : Cond.instanceMethod yX14_bits ∈ mTB := mTB_of (sg19 (List.mem_of_getElem? (i := 61) rfl)) rfl
theorem lo_X14_bits : Cond.code yX14_bits cX14_bits 5 (some .int) ∈ mTB := mTB_of (sg19 (List.mem_of_getElem? (i := 62) rfl)) rfl
theorem lmX14_178 : Cond.methodLink RX14 178 yX14_cell ∈ mTB := mTB_of (sg19 (List.mem_of_getElem? (i := 63) rfl)) rfl
theorem lv_X14_cell_s : Cond.static yX14_cell ∈ mTB := mTB_of (sg19 (List.mem_of_getElem? (i := 64) rfl)) rfl
theorem lo_X14_cell : Cond.code yX14_cell cX14_cell 2 (some .int) ∈ mTB := mTB_of (sg19 (List.mem_of_getElem? (i := 65) rfl)) rfl
theorem lmX14_181 : Cond.methodLink RX14 181 yX14_addFraction ∈ mTB := mTB_of (sg19 (List.mem_of_getElem? (i := 66) rfl)) rfl
theorem lv_X14_addFraction_i : Cond.instanceMethod yX14_addFraction ∈ mTB := mTB_of (sg19 (List.mem_of_getElem? (i := 68) rfl)) rfl
theorem lo_X14_addFraction : Cond.code yX14_addFraction cX14_addFraction 5 none ∈ mTB := mTB_of (sg19 (List.mem_of_getElem? (i := 69) rfl)) rfl
theorem lmX14_103 : Cond.methodLink RX14 103 yX14_product ∈ mTB := mTB_of (sg19 (List.mem_of_getElem? (i := 70) rfl)) rfl
theorem lv_X14_product_i : Cond.instanceMethod yX14_product ∈ mTB := mTB_of (sg19 (List.mem_of_getElem? (i := 72) rfl)) rfl
theorem lo_X14_product : Cond.code yX14_product cX14_product 10 none ∈ mTB := mTB_of (sg19 (List.mem_of_getElem? (i := 73) rfl)) rfl
theorem lmX14_126 : Cond.methodLink RX14 126 yX14_add ∈ mTB := mTB_of (sg19 (List.mem_of_getElem? (i := 74) rfl)) rfl
theorem lv_X14_add_i : Cond.instanceMethod yX14_add ∈ mTB := mTB_of (sg19 (List.mem_of_getElem? (i := 76) rfl)) rfl
theorem lo_X14_add : Cond.code yX14_add cX14_add 3 none ∈ mTB := mTB_of (sg19 (List.mem_of_getElem? (i := 77) rfl)) rfl
theorem lmX14_188 : Cond.methodLink RX14 188 yX14_own ∈ mTB := mTB_of (sg19 (List.mem_of_getElem? (i := 78) rfl)) rfl
theorem lv_X14_own_i : Cond.instanceMethod yX14_own ∈ mTB := mTB_of (sg19 (List.mem_of_getElem? (i := 80) rfl)) rfl
theorem lo_X14_own : Cond.code yX14_own cX14_own 15 none ∈ mTB := mTB_of (sg19 (List.mem_of_getElem? (i := 81) rfl)) rfl
theorem lcX14_197 : Cond.constantLong RX14 197 (-1 : Int64) ∈ mTB := mTB_of (sg19 (List.mem_of_getElem? (i := 82) rfl)) rfl
theorem lmX14_206 : Cond.methodLink RX14 206 yX14_grow ∈ mTB := mTB_of (sg19 (List.mem_of_getElem? (i := 83) rfl)) rfl
theorem lv_X14_grow_i : Cond.instanceMethod yX14_grow ∈ mTB := mTB_of (sg19 (List.mem_of_getElem? (i := 85) rfl)) rfl
theorem lo_X14_grow : Cond.code yX14_grow cX14_grow 7 none ∈ mTB := mTB_of (sg19 (List.mem_of_getElem? (i := 86) rfl)) rfl
theorem lmX14_209 : Cond.methodLink RX14 209 yX14_next ∈ mTB := mTB_of (sg19 (List.mem_of_getElem? (i := 87) rfl)) rfl
theorem lv_X14_next_i : Cond.instanceMethod yX14_next ∈ mTB := mTB_of (sg19 (List.mem_of_getElem? (i := 89) rfl)) rfl
theorem lo_X14_next : Cond.code yX14_next cX14_next 1 none ∈ mTB := mTB_of (sg19 (List.mem_of_getElem? (i := 90) rfl)) rfl
theorem lmX14_215 : Cond.methodLink RX14 215 yX14_turns ∈ mTB := mTB_of (sg19 (List.mem_of_getElem? (i := 91) rfl)) rfl
theorem lv_X14_turns_i : Cond.instanceMethod yX14_turns ∈ mTB := mTB_of (sg19 (List.mem_of_getElem? (i := 93) rfl)) rfl
theorem lo_X14_turns : Cond.code yX14_turns cX14_turns 4 none ∈ mTB := mTB_of (sg19 (List.mem_of_getElem? (i := 94) rfl)) rfl
theorem lmX14_221 : Cond.methodLink RX14 221 yX14_exchange ∈ mTB := mTB_of (sg19 (List.mem_of_getElem? (i := 95) rfl)) rfl
theorem lv_X14_exchange_i : Cond.instanceMethod yX14_exchange ∈ mTB := mTB_of (sg19 (List.mem_of_getElem? (i := 97) rfl)) rfl
theorem lo_X14_exchange : Cond.code yX14_exchange cX14_exchange 4 none ∈ mTB := mTB_of (sg19 (List.mem_of_getElem? (i := 98) rfl)) rfl
theorem lmX14_224 : Cond.methodLink RX14 224 yX14_divideFraction ∈ mTB := mTB_of (sg19 (List.mem_of_getElem? (i := 99) rfl)) rfl
theorem lv_X14_divideFraction_i : Cond.instanceMethod yX14_divideFraction ∈ mTB := mTB_of (sg19 (List.mem_of_getElem? (i := 101) rfl)) rfl
theorem lo_X14_divideFraction : Cond.code yX14_divideFraction cX14_divideFraction 6 none ∈ mTB := mTB_of (sg19 (List.mem_of_getElem? (i := 102) rfl)) rfl
theorem lmX14_227 : Cond.methodLink RX14 227 yX14_takeRow ∈ mTB := mTB_of (sg19 (List.mem_of_getElem? (i := 103) rfl)) rfl
theorem lv_X14_takeRow_i : Cond.instanceMethod yX14_takeRow ∈ mTB := mTB_of (sg19 (List.mem_of_getElem? (i := 105) rfl)) rfl
theorem lo_X14_takeRow : Cond.code yX14_takeRow cX14_takeRow 4 none ∈ mTB := mTB_of (sg19 (List.mem_of_getElem? (i := 106) rfl)) rfl
theorem lmX14_230 : Cond.methodLink RX14 230 yX14_timesFraction ∈ mTB := mTB_of (sg19 (List.mem_of_getElem? (i := 107) rfl)) rfl
theorem lv_X14_timesFraction_i : Cond.instanceMethod yX14_timesFraction ∈ mTB := mTB_of (sg19 (List.mem_of_getElem? (i := 109) rfl)) rfl
theorem lo_X14_timesFraction : Cond.code yX14_timesFraction cX14_timesFraction 5 none ∈ mTB := mTB_of (sg19 (List.mem_of_getElem? (i := 110) rfl)) rfl
theorem lmX14_244 : Cond.methodLink RX14 244 yX14_isLoose ∈ mTB := mTB_of (sg19 (List.mem_of_getElem? (i := 111) rfl)) rfl
theorem lv_X14_isLoose_i : Cond.instanceMethod yX14_isLoose ∈ mTB := mTB_of (sg19 (List.mem_of_getElem? (i := 113) rfl)) rfl
theorem lo_X14_isLoose : Cond.code yX14_isLoose cX14_isLoose 3 (some .boolean) ∈ mTB := mTB_of (sg19 (List.mem_of_getElem? (i := 114) rfl)) rfl
theorem lmX14_236 : Cond.methodLink RX14 236 yX14_moves ∈ mTB := mTB_of (sg19 (List.mem_of_getElem? (i := 115) rfl)) rfl
theorem lv_X14_moves_i : Cond.instanceMethod yX14_moves ∈ mTB := mTB_of (sg19 (List.mem_of_getElem? (i := 117) rfl)) rfl
theorem lo_X14_moves : Cond.code yX14_moves cX14_moves 7 (some .boolean) ∈ mTB := mTB_of (sg19 (List.mem_of_getElem? (i := 118) rfl)) rfl
theorem lmX20_395 : Cond.methodLink RX20 395 yX14_loose ∈ mTB := mTB_of (sg19 (List.mem_of_getElem? (i := 119) rfl)) rfl
theorem lv_X14_loose_i : Cond.instanceMethod yX14_loose ∈ mTB := mTB_of (sg19 (List.mem_of_getElem? (i := 120) rfl)) rfl
theorem ls_X14_loose : Cond.selects yX14_loose.cls yX14_loose yX14_loose ∈ mTB := mTB_of (sg19 (List.mem_of_getElem? (i := 121) rfl)) rfl
theorem lo_X14_loose : Cond.code yX14_loose cX14_loose 5 (some .int) ∈ mTB := mTB_of (sg19 (List.mem_of_getElem? (i := 122) rfl)) rfl
theorem lmX20_398 : Cond.methodLink RX20 398 yX14_row ∈ mTB := mTB_of (sg19 (List.mem_of_getElem? (i := 123) rfl)) rfl
theorem lv_X14_row_i : Cond.instanceMethod yX14_row ∈ mTB := mTB_of (sg19 (List.mem_of_getElem? (i := 124) rfl)) rfl
theorem ls_X14_row : Cond.selects yX14_row.cls yX14_row yX14_row ∈ mTB := mTB_of (sg19 (List.mem_of_getElem? (i := 125) rfl)) rfl
theorem lo_X14_row : Cond.code yX14_row cX14_row 5 (some .int) ∈ mTB := mTB_of (sg19 (List.mem_of_getElem? (i := 126) rfl)) rfl
theorem lmX14_247 : Cond.methodLink RX14 247 yX14_noNode ∈ mTB := mTB_of (sg19 (List.mem_of_getElem? (i := 127) rfl)) rfl
theorem lv_X14_noNode_i : Cond.instanceMethod yX14_noNode ∈ mTB := mTB_of (sg19 (List.mem_of_getElem? (i := 129) rfl)) rfl
theorem lo_X14_noNode : Cond.code yX14_noNode cX14_noNode 2 (some .boolean) ∈ mTB := mTB_of (sg19 (List.mem_of_getElem? (i := 130) rfl)) rfl
theorem lmX14_250 : Cond.methodLink RX14 250 yX14_noBeam ∈ mTB := mTB_of (sg19 (List.mem_of_getElem? (i := 131) rfl)) rfl
theorem lv_X14_noBeam_i : Cond.instanceMethod yX14_noBeam ∈ mTB := mTB_of (sg19 (List.mem_of_getElem? (i := 133) rfl)) rfl
theorem lo_X14_noBeam : Cond.code yX14_noBeam cX14_noBeam 2 (some .boolean) ∈ mTB := mTB_of (sg19 (List.mem_of_getElem? (i := 134) rfl)) rfl
theorem lmX20_193 : Cond.methodLink RX20 193 yX14_at ∈ mTB := mTB_of (sg19 (List.mem_of_getElem? (i := 135) rfl)) rfl
theorem lv_X14_at_i : Cond.instanceMethod yX14_at ∈ mTB := mTB_of (sg19 (List.mem_of_getElem? (i := 136) rfl)) rfl
theorem ls_X14_at : Cond.selects yX14_at.cls yX14_at yX14_at ∈ mTB := mTB_of (sg19 (List.mem_of_getElem? (i := 137) rfl)) rfl
theorem lo_X14_at : Cond.code yX14_at cX14_at 5 (some .long) ∈ mTB := mTB_of (sg19 (List.mem_of_getElem? (i := 138) rfl)) rfl
theorem lmX14_258 : Cond.methodLink RX14 258 yX14_noRow ∈ mTB := mTB_of (sg19 (List.mem_of_getElem? (i := 139) rfl)) rfl
theorem lv_X14_noRow_i : Cond.instanceMethod yX14_noRow ∈ mTB := mTB_of (sg19 (List.mem_of_getElem? (i := 141) rfl)) rfl
theorem lo_X14_noRow : Cond.code yX14_noRow cX14_noRow 2 (some .boolean) ∈ mTB := mTB_of (sg19 (List.mem_of_getElem? (i := 142) rfl)) rfl
theorem lmX14_261 : Cond.methodLink RX14 261 yX14_none ∈ mTB := mTB_of (sg19 (List.mem_of_getElem? (i := 143) rfl)) rfl
theorem lv_X14_none_s : Cond.static yX14_none ∈ mTB := mTB_of (sg19 (List.mem_of_getElem? (i := 144) rfl)) rfl
theorem lo_X14_none : Cond.code yX14_none cX14_none 1 (some .long) ∈ mTB := mTB_of (sg19 (List.mem_of_getElem? (i := 145) rfl)) rfl
theorem lcX14_256 : Cond.constantLong RX14 256 (-2 : Int64) ∈ mTB := mTB_of (sg19 (List.mem_of_getElem? (i := 146) rfl)) rfl
theorem lmX14_265 : Cond.methodLink RX14 265 yX14_value ∈ mTB := mTB_of (sg19 (List.mem_of_getElem? (i := 147) rfl)) rfl
theorem lv_X14_value_i : Cond.instanceMethod yX14_value ∈ mTB := mTB_of (sg19 (List.mem_of_getElem? (i := 149) rfl)) rfl
theorem lo_X14_value : Cond.code yX14_value cX14_value 6 none ∈ mTB := mTB_of (sg19 (List.mem_of_getElem? (i := 150) rfl)) rfl
theorem lmX14_253 : Cond.methodLink RX14 253 yX14_has ∈ mTB := mTB_of (sg19 (List.mem_of_getElem? (i := 151) rfl)) rfl
theorem lv_X14_has_i : Cond.instanceMethod yX14_has ∈ mTB := mTB_of (sg19 (List.mem_of_getElem? (i := 153) rfl)) rfl
theorem lo_X14_has : Cond.code yX14_has cX14_has 8 none ∈ mTB := mTB_of (sg19 (List.mem_of_getElem? (i := 154) rfl)) rfl
theorem lmX14_268 : Cond.methodLink RX14 268 yX14_told ∈ mTB := mTB_of (sg19 (List.mem_of_getElem? (i := 155) rfl)) rfl
theorem lv_X14_told_i : Cond.instanceMethod yX14_told ∈ mTB := mTB_of (sg19 (List.mem_of_getElem? (i := 157) rfl)) rfl
theorem lo_X14_told : Cond.code yX14_told cX14_told 7 (some .long) ∈ mTB := mTB_of (sg19 (List.mem_of_getElem? (i := 158) rfl)) rfl
theorem lcX14_132 : Cond.constant RX14 132 (47040 : Int32) ∈ mTB := mTB_of (sg19 (List.mem_of_getElem? (i := 159) rfl)) rfl
theorem lcX14_133 : Cond.constantLong RX14 133 (1000000000 : Int64) ∈ mTB := mTB_of (sg19 (List.mem_of_getElem? (i := 160) rfl)) rfl
theorem lmX14_135 : Cond.methodLink RX14 135 yX14_divide ∈ mTB := mTB_of (sg19 (List.mem_of_getElem? (i := 161) rfl)) rfl
theorem lv_X14_divide_i : Cond.instanceMethod yX14_divide ∈ mTB := mTB_of (sg19 (List.mem_of_getElem? (i := 163) rfl)) rfl
theorem lo_X14_divide : Cond.code yX14_divide cX14_divide 9 (some .long) ∈ mTB := mTB_of (sg19 (List.mem_of_getElem? (i := 164) rfl)) rfl
theorem lmX20_400 : Cond.methodLink RX20 400 yX14_area ∈ mTB := mTB_of (sg19 (List.mem_of_getElem? (i := 165) rfl)) rfl
theorem lv_X14_area_i : Cond.instanceMethod yX14_area ∈ mTB := mTB_of (sg19 (List.mem_of_getElem? (i := 166) rfl)) rfl
theorem ls_X14_area : Cond.selects yX14_area.cls yX14_area yX14_area ∈ mTB := mTB_of (sg19 (List.mem_of_getElem? (i := 167) rfl)) rfl
theorem lo_X14_area : Cond.code yX14_area cX14_area 6 (some .long) ∈ mTB := mTB_of (sg19 (List.mem_of_getElem? (i := 168) rfl)) rfl
theorem lmX14_272 : Cond.methodLink RX14 272 yX14_addPiece ∈ mTB := mTB_of (sg19 (List.mem_of_getElem? (i := 169) rfl)) rfl
theorem lv_X14_addPiece_i : Cond.instanceMethod yX14_addPiece ∈ mTB := mTB_of (sg19 (List.mem_of_getElem? (i := 171) rfl)) rfl
theorem lo_X14_addPiece : Cond.code yX14_addPiece cX14_addPiece 4 none ∈ mTB := mTB_of (sg19 (List.mem_of_getElem? (i := 172) rfl)) rfl
theorem lcX14_275 : Cond.constantLong RX14 275 (8 : Int64) ∈ mTB := mTB_of (sg19 (List.mem_of_getElem? (i := 173) rfl)) rfl
theorem lmX20_403 : Cond.methodLink RX20 403 yX14_turned ∈ mTB := mTB_of (sg19 (List.mem_of_getElem? (i := 174) rfl)) rfl
theorem lv_X14_turned_i : Cond.instanceMethod yX14_turned ∈ mTB := mTB_of (sg19 (List.mem_of_getElem? (i := 175) rfl)) rfl
theorem ls_X14_turned : Cond.selects yX14_turned.cls yX14_turned yX14_turned ∈ mTB := mTB_of (sg19 (List.mem_of_getElem? (i := 176) rfl)) rfl
theorem lo_X14_turned : Cond.code yX14_turned cX14_turned 2 (some .boolean) ∈ mTB := mTB_of (sg19 (List.mem_of_getElem? (i := 177) rfl)) rfl
theorem lmX20_273 : Cond.methodLink RX20 273 yX14_sums ∈ mTB := mTB_of (sg19 (List.mem_of_getElem? (i := 178) rfl)) rfl
theorem lv_X14_sums_i : Cond.instanceMethod yX14_sums ∈ mTB := mTB_of (sg19 (List.mem_of_getElem? (i := 179) rfl)) rfl
theorem ls_X14_sums : Cond.selects yX14_sums.cls yX14_sums yX14_sums ∈ mTB := mTB_of (sg19 (List.mem_of_getElem? (i := 180) rfl)) rfl
theorem lo_X14_sums : Cond.code yX14_sums cX14_sums 1 (some .boolean) ∈ mTB := mTB_of (sg19 (List.mem_of_getElem? (i := 181) rfl)) rfl
theorem lmX20_406 : Cond.methodLink RX20 406 yX14_settled ∈ mTB := mTB_of (sg19 (List.mem_of_getElem? (i := 182) rfl)) rfl
theorem lv_X14_settled_i : Cond.instanceMethod yX14_settled ∈ mTB := mTB_of (sg19 (List.mem_of_getElem? (i := 183) rfl)) rfl
theorem ls_X14_settled : Cond.selects yX14_settled.cls yX14_settled yX14_settled ∈ mTB := mTB_of (sg19 (List.mem_of_getElem? (i := 184) rfl)) rfl
theorem lo_X14_settled : Cond.code yX14_settled cX14_settled 4 (some .boolean) ∈ mTB := mTB_of (sg19 (List.mem_of_getElem? (i := 185) rfl)) rfl
theorem lcX14_277 : Cond.constantLong RX14 277 (-1000 : Int64) ∈ mTB := mTB_of (sg19 (List.mem_of_getElem? (i := 186) rfl)) rfl
theorem lcX14_279 : Cond.constantLong RX14 279 (1000 : Int64) ∈ mTB := mTB_of (sg19 (List.mem_of_getElem? (i := 187) rfl)) rfl
theorem lmX20_409 : Cond.methodLink RX20 409 yX14_move ∈ mTB := mTB_of (sg19 (List.mem_of_getElem? (i := 188) rfl)) rfl
theorem lv_X14_move_i : Cond.instanceMethod yX14_move ∈ mTB := mTB_of (sg19 (List.mem_of_getElem? (i := 189) rfl)) rfl
theorem ls_X14_move : Cond.selects yX14_move.cls yX14_move yX14_move ∈ mTB := mTB_of (sg19 (List.mem_of_getElem? (i := 190) rfl)) rfl
theorem lo_X14_move : Cond.code yX14_move cX14_move 7 (some .long) ∈ mTB := mTB_of (sg19 (List.mem_of_getElem? (i := 191) rfl)) rfl
theorem lmX20_189 : Cond.methodLink RX20 189 yX14_count ∈ mTB := mTB_of (sg19 (List.mem_of_getElem? (i := 192) rfl)) rfl
theorem lv_X14_count_i : Cond.instanceMethod yX14_count ∈ mTB := mTB_of (sg19 (List.mem_of_getElem? (i := 193) rfl)) rfl
theorem ls_X14_count : Cond.selects yX14_count.cls yX14_count yX14_count ∈ mTB := mTB_of (sg19 (List.mem_of_getElem? (i := 194) rfl)) rfl
theorem lo_X14_count : Cond.code yX14_count cX14_count 4 (some .int) ∈ mTB := mTB_of (sg19 (List.mem_of_getElem? (i := 195) rfl)) rfl
theorem lmX20_120 : Cond.methodLink RX20 120 yX14_thrown ∈ mTB := mTB_of (sg19 (List.mem_of_getElem? (i := 196) rfl)) rfl
theorem lv_X14_thrown_i : Cond.instanceMethod yX14_thrown ∈ mTB := mTB_of (sg19 (List.mem_of_getElem? (i := 197) rfl)) rfl
theorem ls_X14_thrown : Cond.selects yX14_thrown.cls yX14_thrown yX14_thrown ∈ mTB := mTB_of (sg19 (List.mem_of_getElem? (i := 198) rfl)) rfl
theorem lo_X14_thrown : Cond.code yX14_thrown cX14_thrown 1 (some .int) ∈ mTB := mTB_of (sg19 (List.mem_of_getElem? (i := 199) rfl)) rfl
theorem lmX20_121 : Cond.methodLink RX20 121 yX20_trainsCall ∈ mTB := mTB_of (sg19 (List.mem_of_getElem? (i := 200) rfl)) rfl
theorem lv_X20_trainsCall_i : Cond.instanceMethod yX20_trainsCall ∈ mTB := mTB_of (sg19 (List.mem_of_getElem? (i := 202) rfl)) rfl
theorem lo_X20_trainsCall : Cond.code yX20_trainsCall cX20_trainsCall 7 (some .long) ∈ mTB := mTB_of (sg19 (List.mem_of_getElem? (i := 203) rfl)) rfl
theorem lmX20_207 : Cond.methodLink RX20 207 yX19_row ∈ mTB := mTB_of (sg19 (List.mem_of_getElem? (i := 204) rfl)) rfl
theorem lv_X19_row_i : Cond.instanceMethod yX19_row ∈ mTB := mTB_of (sg19 (List.mem_of_getElem? (i := 205) rfl)) rfl
theorem ls_X19_row : Cond.selects yX19_row.cls yX19_row yX19_row ∈ mTB := mTB_of (sg19 (List.mem_of_getElem? (i := 206) rfl)) rfl
theorem lo_X19_row : Cond.code yX19_row cX19_row 7 (some .boolean) ∈ mTB := mTB_of (sg19 (List.mem_of_getElem? (i := 207) rfl)) rfl
theorem lcX19_143 : Cond.constantLong RX19 143 (400 : Int64) ∈ mTB := mTB_of (sg19 (List.mem_of_getElem? (i := 208) rfl)) rfl
theorem lcX19_145 : Cond.constantLong RX19 145 (-1000000 : Int64) ∈ mTB := mTB_of (sg19 (List.mem_of_getElem? (i := 209) rfl)) rfl
theorem lcX19_147 : Cond.constantLong RX19 147 (1000000 : Int64) ∈ mTB := mTB_of (sg19 (List.mem_of_getElem? (i := 210) rfl)) rfl
theorem lcX19_149 : Cond.constantLong RX19 149 (1000 : Int64) ∈ mTB := mTB_of (sg19 (List.mem_of_getElem? (i := 211) rfl)) rfl
theorem lmX19_154 : Cond.methodLink RX19 154 yX19_forget ∈ mTB := mTB_of (sg19 (List.mem_of_getElem? (i := 212) rfl)) rfl
theorem lv_X19_forget_i : Cond.instanceMethod yX19_forget ∈ mTB := mTB_of (sg19 (List.mem_of_getElem? (i := 214) rfl)) rfl
theorem lo_X19_forget : Cond.code yX19_forget cX19_forget 1 none ∈ mTB := mTB_of (sg19 (List.mem_of_getElem? (i := 215) rfl)) rfl
theorem lmX20_413 : Cond.methodLink RX20 413 yX19_train ∈ mTB := mTB_of (sg19 (List.mem_of_getElem? (i := 216) rfl)) rfl
theorem lv_X19_train_i : Cond.instanceMethod yX19_train ∈ mTB := mTB_of (sg19 (List.mem_of_getElem? (i := 217) rfl)) rfl
theorem ls_X19_train : Cond.selects yX19_train.cls yX19_train yX19_train ∈ mTB := mTB_of (sg19 (List.mem_of_getElem? (i := 218) rfl)) rfl
theorem lo_X19_train : Cond.code yX19_train cX19_train 1 (some .int) ∈ mTB := mTB_of (sg19 (List.mem_of_getElem? (i := 219) rfl)) rfl
theorem lmX20_416 : Cond.methodLink RX20 416 yX19_axle ∈ mTB := mTB_of (sg19 (List.mem_of_getElem? (i := 220) rfl)) rfl
theorem lv_X19_axle_i : Cond.instanceMethod yX19_axle ∈ mTB := mTB_of (sg19 (List.mem_of_getElem? (i := 221) rfl)) rfl
theorem ls_X19_axle : Cond.selects yX19_axle.cls yX19_axle yX19_axle ∈ mTB := mTB_of (sg19 (List.mem_of_getElem? (i := 222) rfl)) rfl
theorem lo_X19_axle : Cond.code yX19_axle cX19_axle 7 (some .boolean) ∈ mTB := mTB_of (sg19 (List.mem_of_getElem? (i := 223) rfl)) rfl
theorem lmX19_170 : Cond.methodLink RX19 170 yX19_noTrain ∈ mTB := mTB_of (sg19 (List.mem_of_getElem? (i := 224) rfl)) rfl
theorem lv_X19_noTrain_i : Cond.instanceMethod yX19_noTrain ∈ mTB := mTB_of (sg19 (List.mem_of_getElem? (i := 226) rfl)) rfl
theorem lo_X19_noTrain : Cond.code yX19_noTrain cX19_noTrain 2 (some .boolean) ∈ mTB := mTB_of (sg19 (List.mem_of_getElem? (i := 227) rfl)) rfl
theorem lcX19_173 : Cond.constantLong RX19 173 (60 : Int64) ∈ mTB := mTB_of (sg19 (List.mem_of_getElem? (i := 228) rfl)) rfl
theorem lmX20_419 : Cond.methodLink RX20 419 yX19_gap ∈ mTB := mTB_of (sg19 (List.mem_of_getElem? (i := 229) rfl)) rfl
theorem lv_X19_gap_i : Cond.instanceMethod yX19_gap ∈ mTB := mTB_of (sg19 (List.mem_of_getElem? (i := 230) rfl)) rfl
theorem ls_X19_gap : Cond.selects yX19_gap.cls yX19_gap yX19_gap ∈ mTB := mTB_of (sg19 (List.mem_of_getElem? (i := 231) rfl)) rfl
theorem lo_X19_gap : Cond.code yX19_gap cX19_gap 6 (some .boolean) ∈ mTB := mTB_of (sg19 (List.mem_of_getElem? (i := 232) rfl)) rfl
theorem lcX19_175 : Cond.constantLong RX19 175 (300 : Int64) ∈ mTB := mTB_of (sg19 (List.mem_of_getElem? (i := 233) rfl)) rfl
theorem lmX20_422 : Cond.methodLink RX20 422 yX19_run ∈ mTB := mTB_of (sg19 (List.mem_of_getElem? (i := 234) rfl)) rfl
theorem lv_X19_run_i : Cond.instanceMethod yX19_run ∈ mTB := mTB_of (sg19 (List.mem_of_getElem? (i := 235) rfl)) rfl
theorem ls_X19_run : Cond.selects yX19_run.cls yX19_run yX19_run ∈ mTB := mTB_of (sg19 (List.mem_of_getElem? (i := 236) rfl)) rfl
theorem lo_X19_run : Cond.code yX19_run cX19_run 6 (some .int) ∈ mTB := mTB_of (sg19 (List.mem_of_getElem? (i := 237) rfl)) rfl
theorem lmX19_192 : Cond.methodLink RX19 192 yX19_prepare ∈ mTB := mTB_of (sg19 (List.mem_of_getElem? (i := 238) rfl)) rfl
theorem lv_X19_prepare_i : Cond.instanceMethod yX19_prepare ∈ mTB := mTB_of (sg20 (List.mem_of_getElem? (i := 0) rfl)) rfl
theorem lo_X19_prepare : Cond.code yX19_prepare cX19_prepare 4 none ∈ mTB := mTB_of (sg20 (List.mem_of_getElem? (i := 1) rfl)) rfl
theorem lmX19_94 : Cond.methodLink RX19 94 yX19_small ∈ mTB := mTB_of (sg20 (List.mem_of_getElem? (i := 2) rfl)) rfl
theorem lv_X19_small_i : Cond.instanceMethod yX19_small ∈ mTB := mTB_of (sg20 (List.mem_of_getElem? (i := 4) rfl)) rfl
theorem lo_X19_small : Cond.code yX19_small cX19_small 7 none ∈ mTB := mTB_of (sg20 (List.mem_of_getElem? (i := 5) rfl)) rfl
theorem lcX19_68 : Cond.constantLong RX19 68 (16777215 : Int64) ∈ mTB := mTB_of (sg20 (List.mem_of_getElem? (i := 6) rfl)) rfl
theorem lmX19_157 : Cond.methodLink RX19 157 yX19_rest ∈ mTB := mTB_of (sg20 (List.mem_of_getElem? (i := 7) rfl)) rfl
theorem lv_X19_rest_i : Cond.instanceMethod yX19_rest ∈ mTB := mTB_of (sg20 (List.mem_of_getElem? (i := 9) rfl)) rfl
theorem lo_X19_rest : Cond.code yX19_rest cX19_rest 7 (some .long) ∈ mTB := mTB_of (sg20 (List.mem_of_getElem? (i := 10) rfl)) rfl
theorem lmX19_160 : Cond.methodLink RX19 160 yX19_common ∈ mTB := mTB_of (sg20 (List.mem_of_getElem? (i := 11) rfl)) rfl
theorem lv_X19_common_s : Cond.static yX19_common ∈ mTB := mTB_of (sg20 (List.mem_of_getElem? (i := 12) rfl)) rfl
theorem lo_X19_common : Cond.code yX19_common cX19_common 10 (some .long) ∈ mTB := mTB_of (sg20 (List.mem_of_getElem? (i := 13) rfl)) rfl
theorem lmX19_164 : Cond.methodLink RX19 164 yX19_times ∈ mTB := mTB_of (sg20 (List.mem_of_getElem? (i := 14) rfl)) rfl
theorem lv_X19_times_i : Cond.instanceMethod yX19_times ∈ mTB := mTB_of (sg20 (List.mem_of_getElem? (i := 16) rfl)) rfl
theorem lo_X19_times : Cond.code yX19_times cX19_times 4 none ∈ mTB := mTB_of (sg20 (List.mem_of_getElem? (i := 17) rfl)) rfl
theorem lmX19_98 : Cond.methodLink RX19 98 yX19_product ∈ mTB := mTB_of (sg20 (List.mem_of_getElem? (i := 18) rfl)) rfl
theorem lv_X19_product_i : Cond.instanceMethod yX19_product ∈ mTB := mTB_of (sg20 (List.mem_of_getElem? (i := 20) rfl)) rfl
theorem lo_X19_product : Cond.code yX19_product cX19_product 10 none ∈ mTB := mTB_of (sg20 (List.mem_of_getElem? (i := 21) rfl)) rfl
theorem lmX19_81 : Cond.methodLink RX19 81 yX19_trim ∈ mTB := mTB_of (sg20 (List.mem_of_getElem? (i := 22) rfl)) rfl
theorem lv_X19_trim_i : Cond.instanceMethod yX19_trim ∈ mTB := mTB_of (sg20 (List.mem_of_getElem? (i := 24) rfl)) rfl
theorem lo_X19_trim : Cond.code yX19_trim cX19_trim 4 none ∈ mTB := mTB_of (sg20 (List.mem_of_getElem? (i := 25) rfl)) rfl
theorem lmX19_85 : Cond.methodLink RX19 85 yX19_copy ∈ mTB := mTB_of (sg20 (List.mem_of_getElem? (i := 26) rfl)) rfl
theorem lv_X19_copy_i : Cond.instanceMethod yX19_copy ∈ mTB := mTB_of (sg20 (List.mem_of_getElem? (i := 28) rfl)) rfl
theorem lo_X19_copy : Cond.code yX19_copy cX19_copy 4 none ∈ mTB := mTB_of (sg20 (List.mem_of_getElem? (i := 29) rfl)) rfl
theorem lmX19_128 : Cond.methodLink RX19 128 yX19_divide ∈ mTB := mTB_of (sg20 (List.mem_of_getElem? (i := 30) rfl)) rfl
theorem lv_X19_divide_i : Cond.instanceMethod yX19_divide ∈ mTB := mTB_of (sg20 (List.mem_of_getElem? (i := 32) rfl)) rfl
theorem lo_X19_divide : Cond.code yX19_divide cX19_divide 9 (some .long) ∈ mTB := mTB_of (sg20 (List.mem_of_getElem? (i := 33) rfl)) rfl
theorem lmX19_198 : Cond.methodLink RX19 198 yX19_gather ∈ mTB := mTB_of (sg20 (List.mem_of_getElem? (i := 34) rfl)) rfl
theorem lv_X19_gather_i : Cond.instanceMethod yX19_gather ∈ mTB := mTB_of (sg20 (List.mem_of_getElem? (i := 36) rfl)) rfl
theorem lo_X19_gather : Cond.code yX19_gather cX19_gather 7 none ∈ mTB := mTB_of (sg20 (List.mem_of_getElem? (i := 37) rfl)) rfl
theorem lmX19_202 : Cond.methodLink RX19 202 yX19_addEffect ∈ mTB := mTB_of (sg20 (List.mem_of_getElem? (i := 38) rfl)) rfl
theorem lv_X19_addEffect_i : Cond.instanceMethod yX19_addEffect ∈ mTB := mTB_of (sg20 (List.mem_of_getElem? (i := 40) rfl)) rfl
theorem lo_X19_addEffect : Cond.code yX19_addEffect cX19_addEffect 5 none ∈ mTB := mTB_of (sg20 (List.mem_of_getElem? (i := 41) rfl)) rfl
theorem lmX19_177 : Cond.methodLink RX19 177 yX19_addValue ∈ mTB := mTB_of (sg20 (List.mem_of_getElem? (i := 42) rfl)) rfl
theorem lv_X19_addValue_i : Cond.instanceMethod yX19_addValue ∈ mTB := mTB_of (sg20 (List.mem_of_getElem? (i := 44) rfl)) rfl
theorem lo_X19_addValue : Cond.code yX19_addValue cX19_addValue 10 none ∈ mTB := mTB_of (sg20 (List.mem_of_getElem? (i := 45) rfl)) rfl
theorem lmX19_120 : Cond.methodLink RX19 120 yX19_add ∈ mTB := mTB_of (sg20 (List.mem_of_getElem? (i := 46) rfl)) rfl
theorem lv_X19_add_i : Cond.instanceMethod yX19_add ∈ mTB := mTB_of (sg20 (List.mem_of_getElem? (i := 48) rfl)) rfl
theorem lo_X19_add : Cond.code yX19_add cX19_add 3 none ∈ mTB := mTB_of (sg20 (List.mem_of_getElem? (i := 49) rfl)) rfl
theorem lmX19_88 : Cond.methodLink RX19 88 yX19_addPlain ∈ mTB := mTB_of (sg20 (List.mem_of_getElem? (i := 50) rfl)) rfl
theorem lv_X19_addPlain_i : Cond.instanceMethod yX19_addPlain ∈ mTB := mTB_of (sg20 (List.mem_of_getElem? (i := 52) rfl)) rfl
theorem lo_X19_addPlain : Cond.code yX19_addPlain cX19_addPlain 7 none ∈ mTB := mTB_of (sg20 (List.mem_of_getElem? (i := 53) rfl)) rfl
theorem lmX19_70 : Cond.methodLink RX19 70 yX19_longer ∈ mTB := mTB_of (sg20 (List.mem_of_getElem? (i := 54) rfl)) rfl
theorem lv_X19_longer_i : Cond.instanceMethod yX19_longer ∈ mTB := mTB_of (sg20 (List.mem_of_getElem? (i := 56) rfl)) rfl
theorem lo_X19_longer : Cond.code yX19_longer cX19_longer 3 (some .int) ∈ mTB := mTB_of (sg20 (List.mem_of_getElem? (i := 57) rfl)) rfl
theorem lmX19_74 : Cond.methodLink RX19 74 yX19_limb ∈ mTB := mTB_of (sg20 (List.mem_of_getElem? (i := 58) rfl)) rfl
theorem lv_X19_limb_i : Cond.instanceMethod yX19_limb ∈ mTB := mTB_of (sg20 (List.mem_of_getElem? (i := 60) rfl)) rfl
theorem lo_X19_limb : Cond.code yX19_limb cX19_limb 3 (some .int) ∈ mTB := mTB_of (sg20 (List.mem_of_getElem? (i := 61) rfl)) rfl
theorem lcX19_80 : Cond.constant RX19 80 (16777215 : Int32) ∈ mTB := mTB_of (sg20 (List.mem_of_getElem? (i := 62) rfl)) rfl
theorem lmX19_77 : Cond.methodLink RX19 77 yX19_compare ∈ mTB := mTB_of (sg20 (List.mem_of_getElem? (i := 63) rfl)) rfl
theorem lv_X19_compare_i : Cond.instanceMethod yX19_compare ∈ mTB := mTB_of (sg20 (List.mem_of_getElem? (i := 65) rfl)) rfl
theorem lo_X19_compare : Cond.code yX19_compare cX19_compare 4 (some .int) ∈ mTB := mTB_of (sg20 (List.mem_of_getElem? (i := 66) rfl)) rfl
theorem lmX19_91 : Cond.methodLink RX19 91 yX19_takePlain ∈ mTB := mTB_of (sg20 (List.mem_of_getElem? (i := 67) rfl)) rfl
theorem lv_X19_takePlain_i : Cond.instanceMethod yX19_takePlain ∈ mTB := mTB_of (sg20 (List.mem_of_getElem? (i := 69) rfl)) rfl
theorem lo_X19_takePlain : Cond.code yX19_takePlain cX19_takePlain 7 none ∈ mTB := mTB_of (sg20 (List.mem_of_getElem? (i := 70) rfl)) rfl
theorem lmX19_206 : Cond.methodLink RX19 206 yX19_order ∈ mTB := mTB_of (sg20 (List.mem_of_getElem? (i := 71) rfl)) rfl
theorem lv_X19_order_i : Cond.instanceMethod yX19_order ∈ mTB := mTB_of (sg20 (List.mem_of_getElem? (i := 73) rfl)) rfl
theorem lo_X19_order : Cond.code yX19_order cX19_order 3 (some .int) ∈ mTB := mTB_of (sg20 (List.mem_of_getElem? (i := 74) rfl)) rfl
theorem lmX19_209 : Cond.methodLink RX19 209 yX19_keep ∈ mTB := mTB_of (sg20 (List.mem_of_getElem? (i := 75) rfl)) rfl
theorem lv_X19_keep_i : Cond.instanceMethod yX19_keep ∈ mTB := mTB_of (sg20 (List.mem_of_getElem? (i := 77) rfl)) rfl
theorem lo_X19_keep : Cond.code yX19_keep cX19_keep 4 none ∈ mTB := mTB_of (sg20 (List.mem_of_getElem? (i := 78) rfl)) rfl
theorem lmX20_425 : Cond.methodLink RX20 425 yX19_worst ∈ mTB := mTB_of (sg20 (List.mem_of_getElem? (i := 79) rfl)) rfl
theorem lv_X19_worst_i : Cond.instanceMethod yX19_worst ∈ mTB := mTB_of (sg20 (List.mem_of_getElem? (i := 80) rfl)) rfl
theorem ls_X19_worst : Cond.selects yX19_worst.cls yX19_worst yX19_worst ∈ mTB := mTB_of (sg20 (List.mem_of_getElem? (i := 81) rfl)) rfl
theorem lo_X19_worst : Cond.code yX19_worst cX19_worst 2 (some .long) ∈ mTB := mTB_of (sg20 (List.mem_of_getElem? (i := 82) rfl)) rfl
theorem lmX19_224 : Cond.methodLink RX19 224 yX19_none ∈ mTB := mTB_of (sg20 (List.mem_of_getElem? (i := 83) rfl)) rfl
theorem lv_X19_none_s : Cond.static yX19_none ∈ mTB := mTB_of (sg20 (List.mem_of_getElem? (i := 84) rfl)) rfl
theorem lo_X19_none : Cond.code yX19_none cX19_none 1 (some .long) ∈ mTB := mTB_of (sg20 (List.mem_of_getElem? (i := 85) rfl)) rfl
theorem lcX19_216 : Cond.constantLong RX19 216 (-2 : Int64) ∈ mTB := mTB_of (sg20 (List.mem_of_getElem? (i := 86) rfl)) rfl
theorem lcX19_218 : Cond.constantLong RX19 218 (-1 : Int64) ∈ mTB := mTB_of (sg20 (List.mem_of_getElem? (i := 87) rfl)) rfl
theorem lmX19_228 : Cond.methodLink RX19 228 yX19_tell ∈ mTB := mTB_of (sg20 (List.mem_of_getElem? (i := 88) rfl)) rfl
theorem lv_X19_tell_i : Cond.instanceMethod yX19_tell ∈ mTB := mTB_of (sg20 (List.mem_of_getElem? (i := 90) rfl)) rfl
theorem lo_X19_tell : Cond.code yX19_tell cX19_tell 3 (some .long) ∈ mTB := mTB_of (sg20 (List.mem_of_getElem? (i := 91) rfl)) rfl
theorem lmX19_123 : Cond.methodLink RX19 123 yX19_reduce ∈ mTB := mTB_of (sg20 (List.mem_of_getElem? (i := 92) rfl)) rfl
theorem lv_X19_reduce_i : Cond.instanceMethod yX19_reduce ∈ mTB := mTB_of (sg20 (List.mem_of_getElem? (i := 94) rfl)) rfl
theorem lo_X19_reduce : Cond.code yX19_reduce cX19_reduce 3 none ∈ mTB := mTB_of (sg20 (List.mem_of_getElem? (i := 95) rfl)) rfl
theorem lmX19_114 : Cond.methodLink RX19 114 yX19_divisorOf ∈ mTB := mTB_of (sg20 (List.mem_of_getElem? (i := 96) rfl)) rfl
theorem lv_X19_divisorOf_i : Cond.instanceMethod yX19_divisorOf ∈ mTB := mTB_of (sg20 (List.mem_of_getElem? (i := 98) rfl)) rfl
theorem lo_X19_divisorOf : Cond.code yX19_divisorOf cX19_divisorOf 5 none ∈ mTB := mTB_of (sg20 (List.mem_of_getElem? (i := 99) rfl)) rfl
theorem lmX19_102 : Cond.methodLink RX19 102 yX19_isEven ∈ mTB := mTB_of (sg20 (List.mem_of_getElem? (i := 100) rfl)) rfl
theorem lv_X19_isEven_i : Cond.instanceMethod yX19_isEven ∈ mTB := mTB_of (sg20 (List.mem_of_getElem? (i := 102) rfl)) rfl
theorem lo_X19_isEven : Cond.code yX19_isEven cX19_isEven 2 (some .boolean) ∈ mTB := mTB_of (sg20 (List.mem_of_getElem? (i := 103) rfl)) rfl
theorem lmX19_106 : Cond.methodLink RX19 106 yX19_halve ∈ mTB := mTB_of (sg20 (List.mem_of_getElem? (i := 104) rfl)) rfl
theorem lv_X19_halve_i : Cond.instanceMethod yX19_halve ∈ mTB := mTB_of (sg20 (List.mem_of_getElem? (i := 106) rfl)) rfl
theorem lo_X19_halve : Cond.code yX19_halve cX19_halve 4 none ∈ mTB := mTB_of (sg20 (List.mem_of_getElem? (i := 107) rfl)) rfl
theorem lmX19_117 : Cond.methodLink RX19 117 yX19_exact ∈ mTB := mTB_of (sg20 (List.mem_of_getElem? (i := 108) rfl)) rfl
theorem lv_X19_exact_i : Cond.instanceMethod yX19_exact ∈ mTB := mTB_of (sg20 (List.mem_of_getElem? (i := 110) rfl)) rfl
theorem lo_X19_exact : Cond.code yX19_exact cX19_exact 5 none ∈ mTB := mTB_of (sg20 (List.mem_of_getElem? (i := 111) rfl)) rfl
theorem lmX19_110 : Cond.methodLink RX19 110 yX19_bits ∈ mTB := mTB_of (sg20 (List.mem_of_getElem? (i := 112) rfl)) rfl
theorem lv_X19_bits_i : Cond.instanceMethod yX19_bits ∈ mTB := mTB_of (sg20 (List.mem_of_getElem? (i := 114) rfl)) rfl
theorem lo_X19_bits : Cond.code yX19_bits cX19_bits 5 (some .int) ∈ mTB := mTB_of (sg20 (List.mem_of_getElem? (i := 115) rfl)) rfl
theorem lmX19_220 : Cond.methodLink RX19 220 yX19_told ∈ mTB := mTB_of (sg20 (List.mem_of_getElem? (i := 116) rfl)) rfl
theorem lv_X19_told_i : Cond.instanceMethod yX19_told ∈ mTB := mTB_of (sg20 (List.mem_of_getElem? (i := 118) rfl)) rfl
theorem lo_X19_told : Cond.code yX19_told cX19_told 7 (some .long) ∈ mTB := mTB_of (sg20 (List.mem_of_getElem? (i := 119) rfl)) rfl
theorem lcX19_126 : Cond.constantLong RX19 126 (1000000000 : Int64) ∈ mTB := mTB_of (sg20 (List.mem_of_getElem? (i := 120) rfl)) rfl
theorem lmX20_428 : Cond.methodLink RX20 428 yX19_place ∈ mTB := mTB_of (sg20 (List.mem_of_getElem? (i := 121) rfl)) rfl
theorem lv_X19_place_i : Cond.instanceMethod yX19_place ∈ mTB := mTB_of (sg20 (List.mem_of_getElem? (i := 122) rfl)) rfl
theorem ls_X19_place : Cond.selects yX19_place.cls yX19_place yX19_place ∈ mTB := mTB_of (sg20 (List.mem_of_getElem? (i := 123) rfl)) rfl
theorem lo_X19_place : Cond.code yX19_place cX19_place 2 (some .long) ∈ mTB := mTB_of (sg20 (List.mem_of_getElem? (i := 124) rfl)) rfl
theorem lmX20_431 : Cond.methodLink RX20 431 yX19_lane ∈ mTB := mTB_of (sg20 (List.mem_of_getElem? (i := 125) rfl)) rfl
theorem lv_X19_lane_i : Cond.instanceMethod yX19_lane ∈ mTB := mTB_of (sg20 (List.mem_of_getElem? (i := 126) rfl)) rfl
theorem ls_X19_lane : Cond.selects yX19_lane.cls yX19_lane yX19_lane ∈ mTB := mTB_of (sg20 (List.mem_of_getElem? (i := 127) rfl)) rfl
theorem lo_X19_lane : Cond.code yX19_lane cX19_lane 5 (some .int) ∈ mTB := mTB_of (sg20 (List.mem_of_getElem? (i := 128) rfl)) rfl
theorem lmX20_434 : Cond.methodLink RX20 434 yX19_lanes ∈ mTB := mTB_of (sg20 (List.mem_of_getElem? (i := 129) rfl)) rfl
theorem lv_X19_lanes_i : Cond.instanceMethod yX19_lanes ∈ mTB := mTB_of (sg20 (List.mem_of_getElem? (i := 130) rfl)) rfl
theorem ls_X19_lanes : Cond.selects yX19_lanes.cls yX19_lanes yX19_lanes ∈ mTB := mTB_of (sg20 (List.mem_of_getElem? (i := 131) rfl)) rfl
theorem lo_X19_lanes : Cond.code yX19_lanes cX19_lanes 3 (some .long) ∈ mTB := mTB_of (sg20 (List.mem_of_getElem? (i := 132) rfl)) rfl
theorem lmX19_238 : Cond.methodLink RX19 238 yX19_laneSum ∈ mTB := mTB_of (sg20 (List.mem_of_getElem? (i := 133) rfl)) rfl
theorem lv_X19_laneSum_i : Cond.instanceMethod yX19_laneSum ∈ mTB := mTB_of (sg20 (List.mem_of_getElem? (i := 135) rfl)) rfl
theorem lo_X19_laneSum : Cond.code yX19_laneSum cX19_laneSum 7 none ∈ mTB := mTB_of (sg20 (List.mem_of_getElem? (i := 136) rfl)) rfl
theorem lmX20_437 : Cond.methodLink RX20 437 yX19_patch ∈ mTB := mTB_of (sg20 (List.mem_of_getElem? (i := 137) rfl)) rfl
theorem lv_X19_patch_i : Cond.instanceMethod yX19_patch ∈ mTB := mTB_of (sg20 (List.mem_of_getElem? (i := 138) rfl)) rfl
theorem ls_X19_patch : Cond.selects yX19_patch.cls yX19_patch yX19_patch ∈ mTB := mTB_of (sg20 (List.mem_of_getElem? (i := 139) rfl)) rfl
theorem lo_X19_patch : Cond.code yX19_patch cX19_patch 4 (some .long) ∈ mTB := mTB_of (sg20 (List.mem_of_getElem? (i := 140) rfl)) rfl
theorem lmX19_251 : Cond.methodLink RX19 251 yX19_area ∈ mTB := mTB_of (sg20 (List.mem_of_getElem? (i := 141) rfl)) rfl
theorem lv_X19_area_i : Cond.instanceMethod yX19_area ∈ mTB := mTB_of (sg20 (List.mem_of_getElem? (i := 143) rfl)) rfl
theorem lo_X19_area : Cond.code yX19_area cX19_area 14 none ∈ mTB := mTB_of (sg20 (List.mem_of_getElem? (i := 144) rfl)) rfl
theorem lmX19_241 : Cond.methodLink RX19 241 yX19_plain ∈ mTB := mTB_of (sg20 (List.mem_of_getElem? (i := 145) rfl)) rfl
theorem lv_X19_plain_s : Cond.static yX19_plain ∈ mTB := mTB_of (sg20 (List.mem_of_getElem? (i := 146) rfl)) rfl
theorem lo_X19_plain : Cond.code yX19_plain cX19_plain 2 (some .long) ∈ mTB := mTB_of (sg20 (List.mem_of_getElem? (i := 147) rfl)) rfl
theorem lcX19_245 : Cond.constantLong RX19 245 (2 : Int64) ∈ mTB := mTB_of (sg20 (List.mem_of_getElem? (i := 148) rfl)) rfl
theorem lmX19_247 : Cond.methodLink RX19 247 yX19_addFraction ∈ mTB := mTB_of (sg20 (List.mem_of_getElem? (i := 149) rfl)) rfl
theorem lv_X19_addFraction_i : Cond.instanceMethod yX19_addFraction ∈ mTB := mTB_of (sg20 (List.mem_of_getElem? (i := 151) rfl)) rfl
theorem lo_X19_addFraction : Cond.code yX19_addFraction cX19_addFraction 5 none ∈ mTB := mTB_of (sg20 (List.mem_of_getElem? (i := 152) rfl)) rfl
theorem lmX20_440 : Cond.methodLink RX20 440 yX19_covered ∈ mTB := mTB_of (sg20 (List.mem_of_getElem? (i := 153) rfl)) rfl
theorem lv_X19_covered_i : Cond.instanceMethod yX19_covered ∈ mTB := mTB_of (sg20 (List.mem_of_getElem? (i := 154) rfl)) rfl
theorem ls_X19_covered : Cond.selects yX19_covered.cls yX19_covered yX19_covered ∈ mTB := mTB_of (sg20 (List.mem_of_getElem? (i := 155) rfl)) rfl
theorem lo_X19_covered : Cond.code yX19_covered cX19_covered 5 (some .long) ∈ mTB := mTB_of (sg20 (List.mem_of_getElem? (i := 156) rfl)) rfl
theorem lmX19_254 : Cond.methodLink RX19 254 yX19_stretch ∈ mTB := mTB_of (sg20 (List.mem_of_getElem? (i := 157) rfl)) rfl
theorem lv_X19_stretch_i : Cond.instanceMethod yX19_stretch ∈ mTB := mTB_of (sg20 (List.mem_of_getElem? (i := 159) rfl)) rfl
theorem lo_X19_stretch : Cond.code yX19_stretch cX19_stretch 5 (some .int) ∈ mTB := mTB_of (sg20 (List.mem_of_getElem? (i := 160) rfl)) rfl
theorem lmX19_257 : Cond.methodLink RX19 257 yX19_meets ∈ mTB := mTB_of (sg20 (List.mem_of_getElem? (i := 161) rfl)) rfl
theorem lv_X19_meets_i : Cond.instanceMethod yX19_meets ∈ mTB := mTB_of (sg20 (List.mem_of_getElem? (i := 163) rfl)) rfl
theorem lo_X19_meets : Cond.code yX19_meets cX19_meets 6 (some .long) ∈ mTB := mTB_of (sg20 (List.mem_of_getElem? (i := 164) rfl)) rfl
theorem lmX20_443 : Cond.methodLink RX20 443 yX19_vehicles ∈ mTB := mTB_of (sg20 (List.mem_of_getElem? (i := 165) rfl)) rfl
theorem lv_X19_vehicles_i : Cond.instanceMethod yX19_vehicles ∈ mTB := mTB_of (sg20 (List.mem_of_getElem? (i := 166) rfl)) rfl
theorem ls_X19_vehicles : Cond.selects yX19_vehicles.cls yX19_vehicles yX19_vehicles ∈ mTB := mTB_of (sg20 (List.mem_of_getElem? (i := 167) rfl)) rfl
theorem lo_X19_vehicles : Cond.code yX19_vehicles cX19_vehicles 3 (some .int) ∈ mTB := mTB_of (sg20 (List.mem_of_getElem? (i := 168) rfl)) rfl
theorem lmX20_446 : Cond.methodLink RX20 446 yX19_unit ∈ mTB := mTB_of (sg20 (List.mem_of_getElem? (i := 169) rfl)) rfl
theorem lv_X19_unit_i : Cond.instanceMethod yX19_unit ∈ mTB := mTB_of (sg20 (List.mem_of_getElem? (i := 170) rfl)) rfl
theorem ls_X19_unit : Cond.selects yX19_unit.cls yX19_unit yX19_unit ∈ mTB := mTB_of (sg20 (List.mem_of_getElem? (i := 171) rfl)) rfl
theorem lo_X19_unit : Cond.code yX19_unit cX19_unit 2 (some .boolean) ∈ mTB := mTB_of (sg20 (List.mem_of_getElem? (i := 172) rfl)) rfl
theorem lmX20_447 : Cond.methodLink RX20 447 yX19_rules ∈ mTB := mTB_of (sg20 (List.mem_of_getElem? (i := 173) rfl)) rfl
theorem lv_X19_rules_i : Cond.instanceMethod yX19_rules ∈ mTB := mTB_of (sg20 (List.mem_of_getElem? (i := 174) rfl)) rfl
theorem ls_X19_rules : Cond.selects yX19_rules.cls yX19_rules yX19_rules ∈ mTB := mTB_of (sg20 (List.mem_of_getElem? (i := 175) rfl)) rfl
theorem lo_X19_rules : Cond.code yX19_rules cX19_rules 12 (some .int) ∈ mTB := mTB_of (sg20 (List.mem_of_getElem? (i := 176) rfl)) rfl
theorem lmX19_263 : Cond.methodLink RX19 263 yX19_sign ∈ mTB := mTB_of (sg20 (List.mem_of_getElem? (i := 177) rfl)) rfl
theorem lv_X19_sign_i : Cond.instanceMethod yX19_sign ∈ mTB := mTB_of (sg20 (List.mem_of_getElem? (i := 179) rfl)) rfl
theorem lo_X19_sign : Cond.code yX19_sign cX19_sign 2 (some .int) ∈ mTB := mTB_of (sg20 (List.mem_of_getElem? (i := 180) rfl)) rfl
theorem lmX20_450 : Cond.methodLink RX20 450 yX19_cases ∈ mTB := mTB_of (sg20 (List.mem_of_getElem? (i := 181) rfl)) rfl
theorem lv_X19_cases_i : Cond.instanceMethod yX19_cases ∈ mTB := mTB_of (sg20 (List.mem_of_getElem? (i := 182) rfl)) rfl
theorem ls_X19_cases : Cond.selects yX19_cases.cls yX19_cases yX19_cases ∈ mTB := mTB_of (sg20 (List.mem_of_getElem? (i := 183) rfl)) rfl
theorem lo_X19_cases : Cond.code yX19_cases cX19_cases 1 (some .int) ∈ mTB := mTB_of (sg20 (List.mem_of_getElem? (i := 184) rfl)) rfl
theorem lmX20_453 : Cond.methodLink RX20 453 yX19_caseOf ∈ mTB := mTB_of (sg20 (List.mem_of_getElem? (i := 185) rfl)) rfl
theorem lv_X19_caseOf_i : Cond.instanceMethod yX19_caseOf ∈ mTB := mTB_of (sg20 (List.mem_of_getElem? (i := 186) rfl)) rfl
theorem ls_X19_caseOf : Cond.selects yX19_caseOf.cls yX19_caseOf yX19_caseOf ∈ mTB := mTB_of (sg20 (List.mem_of_getElem? (i := 187) rfl)) rfl
theorem lo_X19_caseOf : Cond.code yX19_caseOf cX19_caseOf 3 (some .long) ∈ mTB := mTB_of (sg20 (List.mem_of_getElem? (i := 188) rfl)) rfl
theorem lmX19_271 : Cond.methodLink RX19 271 yX19_work ∈ mTB := mTB_of (sg20 (List.mem_of_getElem? (i := 189) rfl)) rfl
theorem lv_X19_work_i : Cond.instanceMethod yX19_work ∈ mTB := mTB_of (sg20 (List.mem_of_getElem? (i := 191) rfl)) rfl
theorem lo_X19_work : Cond.code yX19_work cX19_work 4 none ∈ mTB := mTB_of (sg20 (List.mem_of_getElem? (i := 192) rfl)) rfl
theorem lcX19_269 : Cond.constantLong RX19 269 (100 : Int64) ∈ mTB := mTB_of (sg20 (List.mem_of_getElem? (i := 193) rfl)) rfl
theorem lmX20_456 : Cond.methodLink RX20 456 yX19_by ∈ mTB := mTB_of (sg20 (List.mem_of_getElem? (i := 194) rfl)) rfl
theorem lv_X19_by_i : Cond.instanceMethod yX19_by ∈ mTB := mTB_of (sg20 (List.mem_of_getElem? (i := 195) rfl)) rfl
theorem ls_X19_by : Cond.selects yX19_by.cls yX19_by yX19_by ∈ mTB := mTB_of (sg20 (List.mem_of_getElem? (i := 196) rfl)) rfl
theorem lo_X19_by : Cond.code yX19_by cX19_by 6 (some .int) ∈ mTB := mTB_of (sg20 (List.mem_of_getElem? (i := 197) rfl)) rfl
theorem lmX20_459 : Cond.methodLink RX20 459 yX19_between ∈ mTB := mTB_of (sg20 (List.mem_of_getElem? (i := 198) rfl)) rfl
theorem lv_X19_between_i : Cond.instanceMethod yX19_between ∈ mTB := mTB_of (sg20 (List.mem_of_getElem? (i := 199) rfl)) rfl
theorem ls_X19_between : Cond.selects yX19_between.cls yX19_between yX19_between ∈ mTB := mTB_of (sg20 (List.mem_of_getElem? (i := 200) rfl)) rfl
theorem lo_X19_between : Cond.code yX19_between cX19_between 11 (some .int) ∈ mTB := mTB_of (sg20 (List.mem_of_getElem? (i := 201) rfl)) rfl
theorem lmX20_216 : Cond.methodLink RX20 216 yX19_fatigue ∈ mTB := mTB_of (sg20 (List.mem_of_getElem? (i := 202) rfl)) rfl
theorem lv_X19_fatigue_i : Cond.instanceMethod yX19_fatigue ∈ mTB := mTB_of (sg20 (List.mem_of_getElem? (i := 203) rfl)) rfl
theorem ls_X19_fatigue : Cond.selects yX19_fatigue.cls yX19_fatigue yX19_fatigue ∈ mTB := mTB_of (sg20 (List.mem_of_getElem? (i := 204) rfl)) rfl
theorem lo_X19_fatigue : Cond.code yX19_fatigue cX19_fatigue 4 (some .long) ∈ mTB := mTB_of (sg20 (List.mem_of_getElem? (i := 205) rfl)) rfl
theorem lmX20_212 : Cond.methodLink RX20 212 yX19_brake ∈ mTB := mTB_of (sg20 (List.mem_of_getElem? (i := 206) rfl)) rfl
theorem lv_X19_brake_i : Cond.instanceMethod yX19_brake ∈ mTB := mTB_of (sg20 (List.mem_of_getElem? (i := 207) rfl)) rfl
theorem ls_X19_brake : Cond.selects yX19_brake.cls yX19_brake yX19_brake ∈ mTB := mTB_of (sg20 (List.mem_of_getElem? (i := 208) rfl)) rfl
theorem lo_X19_brake : Cond.code yX19_brake cX19_brake 5 (some .long) ∈ mTB := mTB_of (sg20 (List.mem_of_getElem? (i := 209) rfl)) rfl
theorem lcX19_274 : Cond.constantLong RX19 274 (4 : Int64) ∈ mTB := mTB_of (sg20 (List.mem_of_getElem? (i := 210) rfl)) rfl
theorem lmX20_462 : Cond.methodLink RX20 462 yX19_tried ∈ mTB := mTB_of (sg20 (List.mem_of_getElem? (i := 211) rfl)) rfl
theorem lv_X19_tried_i : Cond.instanceMethod yX19_tried ∈ mTB := mTB_of (sg20 (List.mem_of_getElem? (i := 212) rfl)) rfl
theorem ls_X19_tried : Cond.selects yX19_tried.cls yX19_tried yX19_tried ∈ mTB := mTB_of (sg20 (List.mem_of_getElem? (i := 213) rfl)) rfl
theorem lo_X19_tried : Cond.code yX19_tried cX19_tried 1 (some .long) ∈ mTB := mTB_of (sg20 (List.mem_of_getElem? (i := 214) rfl)) rfl
theorem lmX20_276 : Cond.methodLink RX20 276 yX19_corners ∈ mTB := mTB_of (sg20 (List.mem_of_getElem? (i := 215) rfl)) rfl
theorem lv_X19_corners_i : Cond.instanceMethod yX19_corners ∈ mTB := mTB_of (sg20 (List.mem_of_getElem? (i := 216) rfl)) rfl
theorem ls_X19_corners : Cond.selects yX19_corners.cls yX19_corners yX19_corners ∈ mTB := mTB_of (sg20 (List.mem_of_getElem? (i := 217) rfl)) rfl
theorem lo_X19_corners : Cond.code yX19_corners cX19_corners 3 (some .boolean) ∈ mTB := mTB_of (sg20 (List.mem_of_getElem? (i := 218) rfl)) rfl
theorem lmX20_204 : Cond.methodLink RX20 204 yX19_clearRow ∈ mTB := mTB_of (sg20 (List.mem_of_getElem? (i := 219) rfl)) rfl
theorem lv_X19_clearRow_i : Cond.instanceMethod yX19_clearRow ∈ mTB := mTB_of (sg20 (List.mem_of_getElem? (i := 220) rfl)) rfl
theorem ls_X19_clearRow : Cond.selects yX19_clearRow.cls yX19_clearRow yX19_clearRow ∈ mTB := mTB_of (sg20 (List.mem_of_getElem? (i := 221) rfl)) rfl
theorem lo_X19_clearRow : Cond.code yX19_clearRow cX19_clearRow 1 none ∈ mTB := mTB_of (sg20 (List.mem_of_getElem? (i := 222) rfl)) rfl
theorem lmX20_124 : Cond.methodLink RX20 124 yX20_stressCall ∈ mTB := mTB_of (sg20 (List.mem_of_getElem? (i := 223) rfl)) rfl
theorem lv_X20_stressCall_i : Cond.instanceMethod yX20_stressCall ∈ mTB := mTB_of (sg20 (List.mem_of_getElem? (i := 225) rfl)) rfl
theorem lo_X20_stressCall : Cond.code yX20_stressCall cX20_stressCall 7 (some .long) ∈ mTB := mTB_of (sg20 (List.mem_of_getElem? (i := 226) rfl)) rfl
theorem lmX20_222 : Cond.methodLink RX20 222 yX18_value ∈ mTB := mTB_of (sg20 (List.mem_of_getElem? (i := 227) rfl)) rfl
theorem lv_X18_value_i : Cond.instanceMethod yX18_value ∈ mTB := mTB_of (sg20 (List.mem_of_getElem? (i := 228) rfl)) rfl
theorem ls_X18_value : Cond.selects yX18_value.cls yX18_value yX18_value ∈ mTB := mTB_of (sg20 (List.mem_of_getElem? (i := 229) rfl)) rfl
theorem lo_X18_value : Cond.code yX18_value cX18_value 3 (some .boolean) ∈ mTB := mTB_of (sg20 (List.mem_of_getElem? (i := 230) rfl)) rfl
theorem lcX18_83 : Cond.constantLong RX18 83 (-1000000 : Int64) ∈ mTB := mTB_of (sg20 (List.mem_of_getElem? (i := 231) rfl)) rfl
theorem lcX18_85 : Cond.constantLong RX18 85 (1000000 : Int64) ∈ mTB := mTB_of (sg20 (List.mem_of_getElem? (i := 232) rfl)) rfl
theorem lmX18_87 : Cond.methodLink RX18 87 yX18_feed ∈ mTB := mTB_of (sg20 (List.mem_of_getElem? (i := 233) rfl)) rfl
theorem lv_X18_feed_i : Cond.instanceMethod yX18_feed ∈ mTB := mTB_of (sg20 (List.mem_of_getElem? (i := 235) rfl)) rfl
theorem lo_X18_feed : Cond.code yX18_feed cX18_feed 7 none ∈ mTB := mTB_of (sg20 (List.mem_of_getElem? (i := 236) rfl)) rfl
theorem lmX18_73 : Cond.methodLink RX18 73 yX18_apart ∈ mTB := mTB_of (sg20 (List.mem_of_getElem? (i := 237) rfl)) rfl
theorem lv_X18_apart_s : Cond.static yX18_apart ∈ mTB := mTB_of (sg20 (List.mem_of_getElem? (i := 238) rfl)) rfl
theorem lo_X18_apart : Cond.code yX18_apart cX18_apart 2 (some .int) ∈ mTB := mTB_of (sg20 (List.mem_of_getElem? (i := 239) rfl)) rfl
theorem lmX20_465 : Cond.methodLink RX20 465 yX18_turns ∈ mTB := mTB_of (sg21 (List.mem_of_getElem? (i := 0) rfl)) rfl
theorem lv_X18_turns_i : Cond.instanceMethod yX18_turns ∈ mTB := mTB_of (sg21 (List.mem_of_getElem? (i := 1) rfl)) rfl
theorem ls_X18_turns : Cond.selects yX18_turns.cls yX18_turns yX18_turns ∈ mTB := mTB_of (sg21 (List.mem_of_getElem? (i := 2) rfl)) rfl
theorem lo_X18_turns : Cond.code yX18_turns cX18_turns 1 (some .int) ∈ mTB := mTB_of (sg21 (List.mem_of_getElem? (i := 3) rfl)) rfl
theorem lmX20_466 : Cond.methodLink RX20 466 yX18_turn ∈ mTB := mTB_of (sg21 (List.mem_of_getElem? (i := 4) rfl)) rfl
theorem lv_X18_turn_i : Cond.instanceMethod yX18_turn ∈ mTB := mTB_of (sg21 (List.mem_of_getElem? (i := 5) rfl)) rfl
theorem ls_X18_turn : Cond.selects yX18_turn.cls yX18_turn yX18_turn ∈ mTB := mTB_of (sg21 (List.mem_of_getElem? (i := 6) rfl)) rfl
theorem lo_X18_turn : Cond.code yX18_turn cX18_turn 4 (some .long) ∈ mTB := mTB_of (sg21 (List.mem_of_getElem? (i := 7) rfl)) rfl
theorem lcX18_91 : Cond.constantLong RX18 91 (-1 : Int64) ∈ mTB := mTB_of (sg21 (List.mem_of_getElem? (i := 8) rfl)) rfl
theorem lmX18_93 : Cond.methodLink RX18 93 yX18_rangeOf ∈ mTB := mTB_of (sg21 (List.mem_of_getElem? (i := 9) rfl)) rfl
theorem lv_X18_rangeOf_i : Cond.instanceMethod yX18_rangeOf ∈ mTB := mTB_of (sg21 (List.mem_of_getElem? (i := 11) rfl)) rfl
theorem lo_X18_rangeOf : Cond.code yX18_rangeOf cX18_rangeOf 2 (some .int) ∈ mTB := mTB_of (sg21 (List.mem_of_getElem? (i := 12) rfl)) rfl
theorem lmX20_469 : Cond.methodLink RX20 469 yX18_rest ∈ mTB := mTB_of (sg21 (List.mem_of_getElem? (i := 13) rfl)) rfl
theorem lv_X18_rest_i : Cond.instanceMethod yX18_rest ∈ mTB := mTB_of (sg21 (List.mem_of_getElem? (i := 14) rfl)) rfl
theorem ls_X18_rest : Cond.selects yX18_rest.cls yX18_rest yX18_rest ∈ mTB := mTB_of (sg21 (List.mem_of_getElem? (i := 15) rfl)) rfl
theorem lo_X18_rest : Cond.code yX18_rest cX18_rest 2 (some .int) ∈ mTB := mTB_of (sg21 (List.mem_of_getElem? (i := 16) rfl)) rfl
theorem lmX20_472 : Cond.methodLink RX20 472 yX18_rests ∈ mTB := mTB_of (sg21 (List.mem_of_getElem? (i := 17) rfl)) rfl
theorem lv_X18_rests_i : Cond.instanceMethod yX18_rests ∈ mTB := mTB_of (sg21 (List.mem_of_getElem? (i := 18) rfl)) rfl
theorem ls_X18_rests : Cond.selects yX18_rests.cls yX18_rests yX18_rests ∈ mTB := mTB_of (sg21 (List.mem_of_getElem? (i := 19) rfl)) rfl
theorem lo_X18_rests : Cond.code yX18_rests cX18_rests 1 (some .int) ∈ mTB := mTB_of (sg21 (List.mem_of_getElem? (i := 20) rfl)) rfl
theorem lmX20_278 : Cond.methodLink RX20 278 yX18_pieces ∈ mTB := mTB_of (sg21 (List.mem_of_getElem? (i := 21) rfl)) rfl
theorem lv_X18_pieces_i : Cond.instanceMethod yX18_pieces ∈ mTB := mTB_of (sg21 (List.mem_of_getElem? (i := 22) rfl)) rfl
theorem ls_X18_pieces : Cond.selects yX18_pieces.cls yX18_pieces yX18_pieces ∈ mTB := mTB_of (sg21 (List.mem_of_getElem? (i := 23) rfl)) rfl
theorem lo_X18_pieces : Cond.code yX18_pieces cX18_pieces 1 (some .boolean) ∈ mTB := mTB_of (sg21 (List.mem_of_getElem? (i := 24) rfl)) rfl
theorem lmX20_475 : Cond.methodLink RX20 475 yX18_row ∈ mTB := mTB_of (sg21 (List.mem_of_getElem? (i := 25) rfl)) rfl
theorem lv_X18_row_i : Cond.instanceMethod yX18_row ∈ mTB := mTB_of (sg21 (List.mem_of_getElem? (i := 26) rfl)) rfl
theorem ls_X18_row : Cond.selects yX18_row.cls yX18_row yX18_row ∈ mTB := mTB_of (sg21 (List.mem_of_getElem? (i := 27) rfl)) rfl
theorem lo_X18_row : Cond.code yX18_row cX18_row 7 (some .boolean) ∈ mTB := mTB_of (sg21 (List.mem_of_getElem? (i := 28) rfl)) rfl
theorem lmX18_97 : Cond.methodLink RX18 97 yX18_noClass ∈ mTB := mTB_of (sg21 (List.mem_of_getElem? (i := 29) rfl)) rfl
theorem lv_X18_noClass_s : Cond.static yX18_noClass ∈ mTB := mTB_of (sg21 (List.mem_of_getElem? (i := 30) rfl)) rfl
theorem lo_X18_noClass : Cond.code yX18_noClass cX18_noClass 1 (some .boolean) ∈ mTB := mTB_of (sg21 (List.mem_of_getElem? (i := 31) rfl)) rfl
theorem lcX18_101 : Cond.constantLong RX18 101 (2000000 : Int64) ∈ mTB := mTB_of (sg21 (List.mem_of_getElem? (i := 32) rfl)) rfl
theorem lmX20_477 : Cond.methodLink RX20 477 yX18_cutOff ∈ mTB := mTB_of (sg21 (List.mem_of_getElem? (i := 33) rfl)) rfl
theorem lv_X18_cutOff_i : Cond.instanceMethod yX18_cutOff ∈ mTB := mTB_of (sg21 (List.mem_of_getElem? (i := 34) rfl)) rfl
theorem ls_X18_cutOff : Cond.selects yX18_cutOff.cls yX18_cutOff yX18_cutOff ∈ mTB := mTB_of (sg21 (List.mem_of_getElem? (i := 35) rfl)) rfl
theorem lo_X18_cutOff : Cond.code yX18_cutOff cX18_cutOff 4 (some .boolean) ∈ mTB := mTB_of (sg21 (List.mem_of_getElem? (i := 36) rfl)) rfl
theorem lmX20_480 : Cond.methodLink RX20 480 yX18_hot ∈ mTB := mTB_of (sg21 (List.mem_of_getElem? (i := 37) rfl)) rfl
theorem lv_X18_hot_i : Cond.instanceMethod yX18_hot ∈ mTB := mTB_of (sg21 (List.mem_of_getElem? (i := 38) rfl)) rfl
theorem ls_X18_hot : Cond.selects yX18_hot.cls yX18_hot yX18_hot ∈ mTB := mTB_of (sg21 (List.mem_of_getElem? (i := 39) rfl)) rfl
theorem lo_X18_hot : Cond.code yX18_hot cX18_hot 5 (some .boolean) ∈ mTB := mTB_of (sg21 (List.mem_of_getElem? (i := 40) rfl)) rfl
theorem lcX18_103 : Cond.constantLong RX18 103 (1000 : Int64) ∈ mTB := mTB_of (sg21 (List.mem_of_getElem? (i := 41) rfl)) rfl
theorem lmX20_484 : Cond.methodLink RX20 484 yX18_share ∈ mTB := mTB_of (sg21 (List.mem_of_getElem? (i := 42) rfl)) rfl
theorem lv_X18_share_i : Cond.instanceMethod yX18_share ∈ mTB := mTB_of (sg21 (List.mem_of_getElem? (i := 43) rfl)) rfl
theorem ls_X18_share : Cond.selects yX18_share.cls yX18_share yX18_share ∈ mTB := mTB_of (sg21 (List.mem_of_getElem? (i := 44) rfl)) rfl
theorem lo_X18_share : Cond.code yX18_share cX18_share 3 (some .long) ∈ mTB := mTB_of (sg21 (List.mem_of_getElem? (i := 45) rfl)) rfl
theorem lmX18_159 : Cond.methodLink RX18 159 yX18_noPart ∈ mTB := mTB_of (sg21 (List.mem_of_getElem? (i := 46) rfl)) rfl
theorem lv_X18_noPart_s : Cond.static yX18_noPart ∈ mTB := mTB_of (sg21 (List.mem_of_getElem? (i := 47) rfl)) rfl
theorem lo_X18_noPart : Cond.code yX18_noPart cX18_noPart 1 (some .boolean) ∈ mTB := mTB_of (sg21 (List.mem_of_getElem? (i := 48) rfl)) rfl
theorem lmX18_162 : Cond.methodLink RX18 162 yX18_shareTold ∈ mTB := mTB_of (sg21 (List.mem_of_getElem? (i := 49) rfl)) rfl
theorem lv_X18_shareTold_i : Cond.instanceMethod yX18_shareTold ∈ mTB := mTB_of (sg21 (List.mem_of_getElem? (i := 51) rfl)) rfl
theorem lo_X18_shareTold : Cond.code yX18_shareTold cX18_shareTold 6 (some .long) ∈ mTB := mTB_of (sg21 (List.mem_of_getElem? (i := 52) rfl)) rfl
theorem lmX18_151 : Cond.methodLink RX18 151 yX18_shareOf ∈ mTB := mTB_of (sg21 (List.mem_of_getElem? (i := 53) rfl)) rfl
theorem lv_X18_shareOf_i : Cond.instanceMethod yX18_shareOf ∈ mTB := mTB_of (sg21 (List.mem_of_getElem? (i := 55) rfl)) rfl
theorem lo_X18_shareOf : Cond.code yX18_shareOf cX18_shareOf 8 none ∈ mTB := mTB_of (sg21 (List.mem_of_getElem? (i := 56) rfl)) rfl
theorem lmX18_114 : Cond.methodLink RX18 114 yX18_countHalves ∈ mTB := mTB_of (sg21 (List.mem_of_getElem? (i := 57) rfl)) rfl
theorem lv_X18_countHalves_i : Cond.instanceMethod yX18_countHalves ∈ mTB := mTB_of (sg21 (List.mem_of_getElem? (i := 59) rfl)) rfl
theorem lo_X18_countHalves : Cond.code yX18_countHalves cX18_countHalves 6 none ∈ mTB := mTB_of (sg21 (List.mem_of_getElem? (i := 60) rfl)) rfl
theorem lmX18_105 : Cond.methodLink RX18 105 yX18_lineOf ∈ mTB := mTB_of (sg21 (List.mem_of_getElem? (i := 61) rfl)) rfl
theorem lv_X18_lineOf_i : Cond.instanceMethod yX18_lineOf ∈ mTB := mTB_of (sg21 (List.mem_of_getElem? (i := 63) rfl)) rfl
theorem lo_X18_lineOf : Cond.code yX18_lineOf cX18_lineOf 8 (some .int) ∈ mTB := mTB_of (sg21 (List.mem_of_getElem? (i := 64) rfl)) rfl
theorem lmX18_118 : Cond.methodLink RX18 118 yX18_set ∈ mTB := mTB_of (sg21 (List.mem_of_getElem? (i := 65) rfl)) rfl
theorem lv_X18_set_s : Cond.static yX18_set ∈ mTB := mTB_of (sg21 (List.mem_of_getElem? (i := 66) rfl)) rfl
theorem lo_X18_set : Cond.code yX18_set cX18_set 3 none ∈ mTB := mTB_of (sg21 (List.mem_of_getElem? (i := 67) rfl)) rfl
theorem lcX18_109 : Cond.constant RX18 109 (65535 : Int32) ∈ mTB := mTB_of (sg21 (List.mem_of_getElem? (i := 68) rfl)) rfl
theorem lcX18_122 : Cond.constantLong RX18 122 (2 : Int64) ∈ mTB := mTB_of (sg21 (List.mem_of_getElem? (i := 69) rfl)) rfl
theorem lmX18_124 : Cond.methodLink RX18 124 yX18_restBy ∈ mTB := mTB_of (sg21 (List.mem_of_getElem? (i := 70) rfl)) rfl
theorem lv_X18_restBy_s : Cond.static yX18_restBy ∈ mTB := mTB_of (sg21 (List.mem_of_getElem? (i := 71) rfl)) rfl
theorem lo_X18_restBy : Cond.code yX18_restBy cX18_restBy 6 (some .long) ∈ mTB := mTB_of (sg21 (List.mem_of_getElem? (i := 72) rfl)) rfl
theorem lcX18_112 : Cond.constantLong RX18 112 (65536 : Int64) ∈ mTB := mTB_of (sg21 (List.mem_of_getElem? (i := 73) rfl)) rfl
theorem lmX18_128 : Cond.methodLink RX18 128 yX18_divisor ∈ mTB := mTB_of (sg21 (List.mem_of_getElem? (i := 74) rfl)) rfl
theorem lv_X18_divisor_s : Cond.static yX18_divisor ∈ mTB := mTB_of (sg21 (List.mem_of_getElem? (i := 75) rfl)) rfl
theorem lo_X18_divisor : Cond.code yX18_divisor cX18_divisor 10 (some .long) ∈ mTB := mTB_of (sg21 (List.mem_of_getElem? (i := 76) rfl)) rfl
theorem lmX18_132 : Cond.methodLink RX18 132 yX18_times ∈ mTB := mTB_of (sg21 (List.mem_of_getElem? (i := 77) rfl)) rfl
theorem lv_X18_times_s : Cond.static yX18_times ∈ mTB := mTB_of (sg21 (List.mem_of_getElem? (i := 78) rfl)) rfl
theorem lo_X18_times : Cond.code yX18_times cX18_times 6 none ∈ mTB := mTB_of (sg21 (List.mem_of_getElem? (i := 79) rfl)) rfl
theorem lcX18_110 : Cond.constantLong RX18 110 (65535 : Int64) ∈ mTB := mTB_of (sg21 (List.mem_of_getElem? (i := 80) rfl)) rfl
theorem lmX18_136 : Cond.methodLink RX18 136 yX18_divide ∈ mTB := mTB_of (sg21 (List.mem_of_getElem? (i := 81) rfl)) rfl
theorem lv_X18_divide_s : Cond.static yX18_divide ∈ mTB := mTB_of (sg21 (List.mem_of_getElem? (i := 82) rfl)) rfl
theorem lo_X18_divide : Cond.code yX18_divide cX18_divide 8 none ∈ mTB := mTB_of (sg21 (List.mem_of_getElem? (i := 83) rfl)) rfl
theorem lmX18_139 : Cond.methodLink RX18 139 yX18_add ∈ mTB := mTB_of (sg21 (List.mem_of_getElem? (i := 84) rfl)) rfl
theorem lv_X18_add_s : Cond.static yX18_add ∈ mTB := mTB_of (sg21 (List.mem_of_getElem? (i := 85) rfl)) rfl
theorem lo_X18_add : Cond.code yX18_add cX18_add 5 none ∈ mTB := mTB_of (sg21 (List.mem_of_getElem? (i := 86) rfl)) rfl
theorem lmX18_143 : Cond.methodLink RX18 143 yX18_takePrimes ∈ mTB := mTB_of (sg21 (List.mem_of_getElem? (i := 87) rfl)) rfl
theorem lv_X18_takePrimes_i : Cond.instanceMethod yX18_takePrimes ∈ mTB := mTB_of (sg21 (List.mem_of_getElem? (i := 89) rfl)) rfl
theorem lo_X18_takePrimes : Cond.code yX18_takePrimes cX18_takePrimes 7 none ∈ mTB := mTB_of (sg21 (List.mem_of_getElem? (i := 90) rfl)) rfl
theorem lmX18_155 : Cond.methodLink RX18 155 yX18_told ∈ mTB := mTB_of (sg21 (List.mem_of_getElem? (i := 91) rfl)) rfl
theorem lv_X18_told_i : Cond.instanceMethod yX18_told ∈ mTB := mTB_of (sg21 (List.mem_of_getElem? (i := 93) rfl)) rfl
theorem lo_X18_told : Cond.code yX18_told cX18_told 2 (some .long) ∈ mTB := mTB_of (sg21 (List.mem_of_getElem? (i := 94) rfl)) rfl
theorem lmX18_147 : Cond.methodLink RX18 147 yX18_limbs ∈ mTB := mTB_of (sg21 (List.mem_of_getElem? (i := 95) rfl)) rfl
theorem lv_X18_limbs_s : Cond.static yX18_limbs ∈ mTB := mTB_of (sg21 (List.mem_of_getElem? (i := 96) rfl)) rfl
theorem lo_X18_limbs : Cond.code yX18_limbs cX18_limbs 2 (some .long) ∈ mTB := mTB_of (sg21 (List.mem_of_getElem? (i := 97) rfl)) rfl
theorem lmX20_487 : Cond.methodLink RX20 487 yX18_joined ∈ mTB := mTB_of (sg21 (List.mem_of_getElem? (i := 98) rfl)) rfl
theorem lv_X18_joined_i : Cond.instanceMethod yX18_joined ∈ mTB := mTB_of (sg21 (List.mem_of_getElem? (i := 99) rfl)) rfl
theorem ls_X18_joined : Cond.selects yX18_joined.cls yX18_joined yX18_joined ∈ mTB := mTB_of (sg21 (List.mem_of_getElem? (i := 100) rfl)) rfl
theorem lo_X18_joined : Cond.code yX18_joined cX18_joined 3 (some .long) ∈ mTB := mTB_of (sg21 (List.mem_of_getElem? (i := 101) rfl)) rfl
theorem lmX20_490 : Cond.methodLink RX20 490 yX18_repeats ∈ mTB := mTB_of (sg21 (List.mem_of_getElem? (i := 102) rfl)) rfl
theorem lv_X18_repeats_i : Cond.instanceMethod yX18_repeats ∈ mTB := mTB_of (sg21 (List.mem_of_getElem? (i := 103) rfl)) rfl
theorem ls_X18_repeats : Cond.selects yX18_repeats.cls yX18_repeats yX18_repeats ∈ mTB := mTB_of (sg21 (List.mem_of_getElem? (i := 104) rfl)) rfl
theorem lo_X18_repeats : Cond.code yX18_repeats cX18_repeats 3 (some .boolean) ∈ mTB := mTB_of (sg21 (List.mem_of_getElem? (i := 105) rfl)) rfl
theorem lmX20_493 : Cond.methodLink RX20 493 yX18_total ∈ mTB := mTB_of (sg21 (List.mem_of_getElem? (i := 106) rfl)) rfl
theorem lv_X18_total_i : Cond.instanceMethod yX18_total ∈ mTB := mTB_of (sg21 (List.mem_of_getElem? (i := 107) rfl)) rfl
theorem ls_X18_total : Cond.selects yX18_total.cls yX18_total yX18_total ∈ mTB := mTB_of (sg21 (List.mem_of_getElem? (i := 108) rfl)) rfl
theorem lo_X18_total : Cond.code yX18_total cX18_total 2 (some .long) ∈ mTB := mTB_of (sg21 (List.mem_of_getElem? (i := 109) rfl)) rfl
theorem lmX20_496 : Cond.methodLink RX20 496 yX18_years ∈ mTB := mTB_of (sg21 (List.mem_of_getElem? (i := 110) rfl)) rfl
theorem lv_X18_years_i : Cond.instanceMethod yX18_years ∈ mTB := mTB_of (sg21 (List.mem_of_getElem? (i := 111) rfl)) rfl
theorem ls_X18_years : Cond.selects yX18_years.cls yX18_years yX18_years ∈ mTB := mTB_of (sg21 (List.mem_of_getElem? (i := 112) rfl)) rfl
theorem lo_X18_years : Cond.code yX18_years cX18_years 6 (some .int) ∈ mTB := mTB_of (sg21 (List.mem_of_getElem? (i := 113) rfl)) rfl
theorem lcX18_166 : Cond.constantLong RX18 166 (1000000000 : Int64) ∈ mTB := mTB_of (sg21 (List.mem_of_getElem? (i := 114) rfl)) rfl
theorem lcX18_168 : Cond.constant RX18 168 (65536 : Int32) ∈ mTB := mTB_of (sg21 (List.mem_of_getElem? (i := 115) rfl)) rfl
theorem lcX18_169 : Cond.constant RX18 169 (100000 : Int32) ∈ mTB := mTB_of (sg21 (List.mem_of_getElem? (i := 116) rfl)) rfl
theorem lmX18_170 : Cond.methodLink RX18 170 yX18_isBelow ∈ mTB := mTB_of (sg21 (List.mem_of_getElem? (i := 117) rfl)) rfl
theorem lv_X18_isBelow_i : Cond.instanceMethod yX18_isBelow ∈ mTB := mTB_of (sg21 (List.mem_of_getElem? (i := 119) rfl)) rfl
theorem lo_X18_isBelow : Cond.code yX18_isBelow cX18_isBelow 6 (some .boolean) ∈ mTB := mTB_of (sg21 (List.mem_of_getElem? (i := 120) rfl)) rfl
theorem lmX20_500 : Cond.methodLink RX20 500 yX18_span ∈ mTB := mTB_of (sg21 (List.mem_of_getElem? (i := 121) rfl)) rfl
theorem lv_X18_span_i : Cond.instanceMethod yX18_span ∈ mTB := mTB_of (sg21 (List.mem_of_getElem? (i := 122) rfl)) rfl
theorem ls_X18_span : Cond.selects yX18_span.cls yX18_span yX18_span ∈ mTB := mTB_of (sg21 (List.mem_of_getElem? (i := 123) rfl)) rfl
theorem lo_X18_span : Cond.code yX18_span cX18_span 4 (some .long) ∈ mTB := mTB_of (sg21 (List.mem_of_getElem? (i := 124) rfl)) rfl
theorem lcX18_174 : Cond.constantLong RX18 174 (-2 : Int64) ∈ mTB := mTB_of (sg21 (List.mem_of_getElem? (i := 125) rfl)) rfl
theorem lmX20_502 : Cond.methodLink RX20 502 yX18_bolt ∈ mTB := mTB_of (sg21 (List.mem_of_getElem? (i := 126) rfl)) rfl
theorem lv_X18_bolt_i : Cond.instanceMethod yX18_bolt ∈ mTB := mTB_of (sg21 (List.mem_of_getElem? (i := 127) rfl)) rfl
theorem ls_X18_bolt : Cond.selects yX18_bolt.cls yX18_bolt yX18_bolt ∈ mTB := mTB_of (sg21 (List.mem_of_getElem? (i := 128) rfl)) rfl
theorem lo_X18_bolt : Cond.code yX18_bolt cX18_bolt 4 (some .int) ∈ mTB := mTB_of (sg21 (List.mem_of_getElem? (i := 129) rfl)) rfl
theorem lmX20_505 : Cond.methodLink RX20 505 yX18_cost ∈ mTB := mTB_of (sg21 (List.mem_of_getElem? (i := 130) rfl)) rfl
theorem lv_X18_cost_i : Cond.instanceMethod yX18_cost ∈ mTB := mTB_of (sg21 (List.mem_of_getElem? (i := 131) rfl)) rfl
theorem ls_X18_cost : Cond.selects yX18_cost.cls yX18_cost yX18_cost ∈ mTB := mTB_of (sg21 (List.mem_of_getElem? (i := 132) rfl)) rfl
theorem lo_X18_cost : Cond.code yX18_cost cX18_cost 4 (some .boolean) ∈ mTB := mTB_of (sg21 (List.mem_of_getElem? (i := 133) rfl)) rfl
theorem lmX20_507 : Cond.methodLink RX20 507 yX18_inspect ∈ mTB := mTB_of (sg21 (List.mem_of_getElem? (i := 134) rfl)) rfl
theorem lv_X18_inspect_i : Cond.instanceMethod yX18_inspect ∈ mTB := mTB_of (sg21 (List.mem_of_getElem? (i := 135) rfl)) rfl
theorem ls_X18_inspect : Cond.selects yX18_inspect.cls yX18_inspect yX18_inspect ∈ mTB := mTB_of (sg21 (List.mem_of_getElem? (i := 136) rfl)) rfl
theorem lo_X18_inspect : Cond.code yX18_inspect cX18_inspect 7 (some .int) ∈ mTB := mTB_of (sg21 (List.mem_of_getElem? (i := 137) rfl)) rfl
theorem lmX18_197 : Cond.methodLink RX18 197 yX18_planAll ∈ mTB := mTB_of (sg21 (List.mem_of_getElem? (i := 138) rfl)) rfl
theorem lv_X18_planAll_i : Cond.instanceMethod yX18_planAll ∈ mTB := mTB_of (sg21 (List.mem_of_getElem? (i := 140) rfl)) rfl
theorem lo_X18_planAll : Cond.code yX18_planAll cX18_planAll 11 none ∈ mTB := mTB_of (sg21 (List.mem_of_getElem? (i := 141) rfl)) rfl
theorem lmX20_510 : Cond.methodLink RX20 510 yX18_mend ∈ mTB := mTB_of (sg21 (List.mem_of_getElem? (i := 142) rfl)) rfl
theorem lv_X18_mend_i : Cond.instanceMethod yX18_mend ∈ mTB := mTB_of (sg21 (List.mem_of_getElem? (i := 143) rfl)) rfl
theorem ls_X18_mend : Cond.selects yX18_mend.cls yX18_mend yX18_mend ∈ mTB := mTB_of (sg21 (List.mem_of_getElem? (i := 144) rfl)) rfl
theorem lo_X18_mend : Cond.code yX18_mend cX18_mend 4 (some .boolean) ∈ mTB := mTB_of (sg21 (List.mem_of_getElem? (i := 145) rfl)) rfl
theorem lmX20_513 : Cond.methodLink RX20 513 yX18_history ∈ mTB := mTB_of (sg21 (List.mem_of_getElem? (i := 146) rfl)) rfl
theorem lv_X18_history_i : Cond.instanceMethod yX18_history ∈ mTB := mTB_of (sg21 (List.mem_of_getElem? (i := 147) rfl)) rfl
theorem ls_X18_history : Cond.selects yX18_history.cls yX18_history yX18_history ∈ mTB := mTB_of (sg21 (List.mem_of_getElem? (i := 148) rfl)) rfl
theorem lo_X18_history : Cond.code yX18_history cX18_history 3 (some .int) ∈ mTB := mTB_of (sg21 (List.mem_of_getElem? (i := 149) rfl)) rfl
theorem lmX20_127 : Cond.methodLink RX20 127 yX20_signalsCall ∈ mTB := mTB_of (sg21 (List.mem_of_getElem? (i := 150) rfl)) rfl
theorem lv_X20_signalsCall_i : Cond.instanceMethod yX20_signalsCall ∈ mTB := mTB_of (sg21 (List.mem_of_getElem? (i := 152) rfl)) rfl
theorem lo_X20_signalsCall : Cond.code yX20_signalsCall cX20_signalsCall 7 (some .long) ∈ mTB := mTB_of (sg21 (List.mem_of_getElem? (i := 153) rfl)) rfl
theorem lmX20_516 : Cond.methodLink RX20 516 yX16_begin ∈ mTB := mTB_of (sg21 (List.mem_of_getElem? (i := 154) rfl)) rfl
theorem lmX20_519 : Cond.methodLink RX20 519 yX16_clash ∈ mTB := mTB_of (sg21 (List.mem_of_getElem? (i := 155) rfl)) rfl
theorem lv_X16_clash_i : Cond.instanceMethod yX16_clash ∈ mTB := mTB_of (sg21 (List.mem_of_getElem? (i := 156) rfl)) rfl
theorem ls_X16_clash : Cond.selects yX16_clash.cls yX16_clash yX16_clash ∈ mTB := mTB_of (sg21 (List.mem_of_getElem? (i := 157) rfl)) rfl
theorem lo_X16_clash : Cond.code yX16_clash cX16_clash 4 (some .boolean) ∈ mTB := mTB_of (sg21 (List.mem_of_getElem? (i := 158) rfl)) rfl
theorem lmX16_104 : Cond.methodLink RX16 104 yX16_thrownAt ∈ mTB := mTB_of (sg21 (List.mem_of_getElem? (i := 159) rfl)) rfl
theorem lv_X16_thrownAt_i : Cond.instanceMethod yX16_thrownAt ∈ mTB := mTB_of (sg21 (List.mem_of_getElem? (i := 161) rfl)) rfl
theorem lo_X16_thrownAt : Cond.code yX16_thrownAt cX16_thrownAt 2 (some .boolean) ∈ mTB := mTB_of (sg21 (List.mem_of_getElem? (i := 162) rfl)) rfl
theorem lmX20_521 : Cond.methodLink RX20 521 yX16_least ∈ mTB := mTB_of (sg21 (List.mem_of_getElem? (i := 163) rfl)) rfl
theorem lv_X16_least_i : Cond.instanceMethod yX16_least ∈ mTB := mTB_of (sg21 (List.mem_of_getElem? (i := 164) rfl)) rfl
theorem ls_X16_least : Cond.selects yX16_least.cls yX16_least yX16_least ∈ mTB := mTB_of (sg21 (List.mem_of_getElem? (i := 165) rfl)) rfl
theorem lo_X16_least : Cond.code yX16_least cX16_least 3 (some .boolean) ∈ mTB := mTB_of (sg21 (List.mem_of_getElem? (i := 166) rfl)) rfl
theorem lmX20_524 : Cond.methodLink RX20 524 yX16_most ∈ mTB := mTB_of (sg21 (List.mem_of_getElem? (i := 167) rfl)) rfl
theorem lv_X16_most_i : Cond.instanceMethod yX16_most ∈ mTB := mTB_of (sg21 (List.mem_of_getElem? (i := 168) rfl)) rfl
theorem ls_X16_most : Cond.selects yX16_most.cls yX16_most yX16_most ∈ mTB := mTB_of (sg21 (List.mem_of_getElem? (i := 169) rfl)) rfl
theorem lo_X16_most : Cond.code yX16_most cX16_most 3 (some .boolean) ∈ mTB := mTB_of (sg21 (List.mem_of_getElem? (i := 170) rfl)) rfl
theorem lmX20_526 : Cond.methodLink RX20 526 yX16_unit ∈ mTB := mTB_of (sg21 (List.mem_of_getElem? (i := 171) rfl)) rfl
theorem lv_X16_unit_i : Cond.instanceMethod yX16_unit ∈ mTB := mTB_of (sg21 (List.mem_of_getElem? (i := 172) rfl)) rfl
theorem ls_X16_unit : Cond.selects yX16_unit.cls yX16_unit yX16_unit ∈ mTB := mTB_of (sg21 (List.mem_of_getElem? (i := 173) rfl)) rfl
theorem lo_X16_unit : Cond.code yX16_unit cX16_unit 2 (some .boolean) ∈ mTB := mTB_of (sg21 (List.mem_of_getElem? (i := 174) rfl)) rfl
theorem lmX20_527 : Cond.methodLink RX20 527 yX16_read ∈ mTB := mTB_of (sg21 (List.mem_of_getElem? (i := 175) rfl)) rfl
theorem lv_X16_read_i : Cond.instanceMethod yX16_read ∈ mTB := mTB_of (sg21 (List.mem_of_getElem? (i := 176) rfl)) rfl
theorem ls_X16_read : Cond.selects yX16_read.cls yX16_read yX16_read ∈ mTB := mTB_of (sg21 (List.mem_of_getElem? (i := 177) rfl)) rfl
theorem lo_X16_read : Cond.code yX16_read cX16_read 9 (some .int) ∈ mTB := mTB_of (sg21 (List.mem_of_getElem? (i := 178) rfl)) rfl
theorem lmX16_108 : Cond.methodLink RX16 108 yX16_sign ∈ mTB := mTB_of (sg21 (List.mem_of_getElem? (i := 179) rfl)) rfl
theorem lv_X16_sign_i : Cond.instanceMethod yX16_sign ∈ mTB := mTB_of (sg21 (List.mem_of_getElem? (i := 181) rfl)) rfl
theorem lo_X16_sign : Cond.code yX16_sign cX16_sign 2 (some .int) ∈ mTB := mTB_of (sg21 (List.mem_of_getElem? (i := 182) rfl)) rfl
theorem lmX16_112 : Cond.methodLink RX16 112 yX16_number ∈ mTB := mTB_of (sg21 (List.mem_of_getElem? (i := 183) rfl)) rfl
theorem lv_X16_number_i : Cond.instanceMethod yX16_number ∈ mTB := mTB_of (sg21 (List.mem_of_getElem? (i := 185) rfl)) rfl
theorem lo_X16_number : Cond.code yX16_number cX16_number 6 (some .int) ∈ mTB := mTB_of (sg21 (List.mem_of_getElem? (i := 186) rfl)) rfl
theorem lmX16_116 : Cond.methodLink RX16 116 yX16_digits ∈ mTB := mTB_of (sg21 (List.mem_of_getElem? (i := 187) rfl)) rfl
theorem lv_X16_digits_s : Cond.static yX16_digits ∈ mTB := mTB_of (sg21 (List.mem_of_getElem? (i := 188) rfl)) rfl
theorem lo_X16_digits : Cond.code yX16_digits cX16_digits 1 (some .int) ∈ mTB := mTB_of (sg21 (List.mem_of_getElem? (i := 189) rfl)) rfl
theorem lmX20_226 : Cond.methodLink RX20 226 yX16_program ∈ mTB := mTB_of (sg21 (List.mem_of_getElem? (i := 190) rfl)) rfl
theorem lv_X16_program_i : Cond.instanceMethod yX16_program ∈ mTB := mTB_of (sg21 (List.mem_of_getElem? (i := 191) rfl)) rfl
theorem ls_X16_program : Cond.selects yX16_program.cls yX16_program yX16_program ∈ mTB := mTB_of (sg21 (List.mem_of_getElem? (i := 192) rfl)) rfl
theorem lo_X16_program : Cond.code yX16_program cX16_program 1 (some .int) ∈ mTB := mTB_of (sg21 (List.mem_of_getElem? (i := 193) rfl)) rfl
theorem lmX20_528 : Cond.methodLink RX20 528 yX16_call ∈ mTB := mTB_of (sg21 (List.mem_of_getElem? (i := 194) rfl)) rfl
theorem lv_X16_call_i : Cond.instanceMethod yX16_call ∈ mTB := mTB_of (sg21 (List.mem_of_getElem? (i := 195) rfl)) rfl
theorem ls_X16_call : Cond.selects yX16_call.cls yX16_call yX16_call ∈ mTB := mTB_of (sg21 (List.mem_of_getElem? (i := 196) rfl)) rfl
theorem lo_X16_call : Cond.code yX16_call cX16_call 3 (some .boolean) ∈ mTB := mTB_of (sg21 (List.mem_of_getElem? (i := 197) rfl)) rfl
theorem lmX16_159 : Cond.methodLink RX16 159 yX16_tell ∈ mTB := mTB_of (sg21 (List.mem_of_getElem? (i := 198) rfl)) rfl
theorem lv_X16_tell_i : Cond.instanceMethod yX16_tell ∈ mTB := mTB_of (sg21 (List.mem_of_getElem? (i := 200) rfl)) rfl
theorem lo_X16_tell : Cond.code yX16_tell cX16_tell 3 (some .boolean) ∈ mTB := mTB_of (sg21 (List.mem_of_getElem? (i := 201) rfl)) rfl
theorem lmX16_156 : Cond.methodLink RX16 156 yX16_eventAt ∈ mTB := mTB_of (sg21 (List.mem_of_getElem? (i := 202) rfl)) rfl
theorem lv_X16_eventAt_i : Cond.instanceMethod yX16_eventAt ∈ mTB := mTB_of (sg21 (List.mem_of_getElem? (i := 204) rfl)) rfl
theorem lo_X16_eventAt : Cond.code yX16_eventAt cX16_eventAt 4 (some .int) ∈ mTB := mTB_of (sg21 (List.mem_of_getElem? (i := 205) rfl)) rfl
theorem lmX20_531 : Cond.methodLink RX20 531 yX16_plan ∈ mTB := mTB_of (sg21 (List.mem_of_getElem? (i := 206) rfl)) rfl
theorem lv_X16_plan_i : Cond.instanceMethod yX16_plan ∈ mTB := mTB_of (sg21 (List.mem_of_getElem? (i := 207) rfl)) rfl
theorem ls_X16_plan : Cond.selects yX16_plan.cls yX16_plan yX16_plan ∈ mTB := mTB_of (sg21 (List.mem_of_getElem? (i := 208) rfl)) rfl
theorem lo_X16_plan : Cond.code yX16_plan cX16_plan 3 (some .boolean) ∈ mTB := mTB_of (sg21 (List.mem_of_getElem? (i := 209) rfl)) rfl
theorem lmX20_232 : Cond.methodLink RX20 232 yX16_second ∈ mTB := mTB_of (sg21 (List.mem_of_getElem? (i := 210) rfl)) rfl
theorem lv_X16_second_i : Cond.instanceMethod yX16_second ∈ mTB := mTB_of (sg21 (List.mem_of_getElem? (i := 211) rfl)) rfl
theorem ls_X16_second : Cond.selects yX16_second.cls yX16_second yX16_second ∈ mTB := mTB_of (sg21 (List.mem_of_getElem? (i := 212) rfl)) rfl
theorem lo_X16_second : Cond.code yX16_second cX16_second 2 (some .int) ∈ mTB := mTB_of (sg21 (List.mem_of_getElem? (i := 213) rfl)) rfl
theorem lmX16_162 : Cond.methodLink RX16 162 yX16_copyFrom ∈ mTB := mTB_of (sg21 (List.mem_of_getElem? (i := 214) rfl)) rfl
theorem lv_X16_copyFrom_i : Cond.instanceMethod yX16_copyFrom ∈ mTB := mTB_of (sg21 (List.mem_of_getElem? (i := 216) rfl)) rfl
theorem lo_X16_copyFrom : Cond.code yX16_copyFrom cX16_copyFrom 3 none ∈ mTB := mTB_of (sg21 (List.mem_of_getElem? (i := 217) rfl)) rfl
theorem lmX16_165 : Cond.methodLink RX16 165 yX16_pass ∈ mTB := mTB_of (sg21 (List.mem_of_getElem? (i := 218) rfl)) rfl
theorem lv_X16_pass_i : Cond.instanceMethod yX16_pass ∈ mTB := mTB_of (sg21 (List.mem_of_getElem? (i := 220) rfl)) rfl
theorem lo_X16_pass : Cond.code yX16_pass cX16_pass 5 (some .int) ∈ mTB := mTB_of (sg21 (List.mem_of_getElem? (i := 221) rfl)) rfl
theorem lmX16_140 : Cond.methodLink RX16 140 yX16_shownNow ∈ mTB := mTB_of (sg21 (List.mem_of_getElem? (i := 222) rfl)) rfl
theorem lv_X16_shownNow_i : Cond.instanceMethod yX16_shownNow ∈ mTB := mTB_of (sg21 (List.mem_of_getElem? (i := 224) rfl)) rfl
theorem lo_X16_shownNow : Cond.code yX16_shownNow cX16_shownNow 1 (some .int) ∈ mTB := mTB_of (sg21 (List.mem_of_getElem? (i := 225) rfl)) rfl
theorem lmX16_126 : Cond.methodLink RX16 126 yX16_groupsNext ∈ mTB := mTB_of (sg21 (List.mem_of_getElem? (i := 226) rfl)) rfl
theorem lv_X16_groupsNext_i : Cond.instanceMethod yX16_groupsNext ∈ mTB := mTB_of (sg21 (List.mem_of_getElem? (i := 228) rfl)) rfl
theorem lo_X16_groupsNext : Cond.code yX16_groupsNext cX16_groupsNext 1 (some .int) ∈ mTB := mTB_of (sg21 (List.mem_of_getElem? (i := 229) rfl)) rfl
theorem lmX16_143 : Cond.methodLink RX16 143 yX16_enter ∈ mTB := mTB_of (sg21 (List.mem_of_getElem? (i := 230) rfl)) rfl
theorem lv_X16_enter_i : Cond.instanceMethod yX16_enter ∈ mTB := mTB_of (sg21 (List.mem_of_getElem? (i := 232) rfl)) rfl
theorem lo_X16_enter : Cond.code yX16_enter cX16_enter 6 none ∈ mTB := mTB_of (sg21 (List.mem_of_getElem? (i := 233) rfl)) rfl
theorem lmX16_146 : Cond.methodLink RX16 146 yX16_ends ∈ mTB := mTB_of (sg21 (List.mem_of_getElem? (i := 234) rfl)) rfl
theorem lv_X16_ends_i : Cond.instanceMethod yX16_ends ∈ mTB := mTB_of (sg21 (List.mem_of_getElem? (i := 236) rfl)) rfl
theorem lo_X16_ends : Cond.code yX16_ends cX16_ends 9 (some .boolean) ∈ mTB := mTB_of (sg21 (List.mem_of_getElem? (i := 237) rfl)) rfl
theorem lmX16_150 : Cond.methodLink RX16 150 yX16_leave ∈ mTB := mTB_of (sg21 (List.mem_of_getElem? (i := 238) rfl)) rfl
theorem lv_X16_leave_i : Cond.instanceMethod yX16_leave ∈ mTB := mTB_of (sg22 (List.mem_of_getElem? (i := 0) rfl)) rfl
theorem lo_X16_leave : Cond.code yX16_leave cX16_leave 5 none ∈ mTB := mTB_of (sg22 (List.mem_of_getElem? (i := 1) rfl)) rfl
theorem lmX16_153 : Cond.methodLink RX16 153 yX16_faultNow ∈ mTB := mTB_of (sg22 (List.mem_of_getElem? (i := 2) rfl)) rfl
theorem lv_X16_faultNow_i : Cond.instanceMethod yX16_faultNow ∈ mTB := mTB_of (sg22 (List.mem_of_getElem? (i := 4) rfl)) rfl
theorem lo_X16_faultNow : Cond.code yX16_faultNow cX16_faultNow 7 (some .int) ∈ mTB := mTB_of (sg22 (List.mem_of_getElem? (i := 5) rfl)) rfl
theorem lmX20_534 : Cond.methodLink RX20 534 yX16_told ∈ mTB := mTB_of (sg22 (List.mem_of_getElem? (i := 6) rfl)) rfl
theorem lv_X16_told_i : Cond.instanceMethod yX16_told ∈ mTB := mTB_of (sg22 (List.mem_of_getElem? (i := 7) rfl)) rfl
theorem ls_X16_told : Cond.selects yX16_told.cls yX16_told yX16_told ∈ mTB := mTB_of (sg22 (List.mem_of_getElem? (i := 8) rfl)) rfl
theorem lo_X16_told : Cond.code yX16_told cX16_told 2 (some .int) ∈ mTB := mTB_of (sg22 (List.mem_of_getElem? (i := 9) rfl)) rfl
theorem lmX16_168 : Cond.methodLink RX16 168 yX16_find ∈ mTB := mTB_of (sg22 (List.mem_of_getElem? (i := 10) rfl)) rfl
theorem lv_X16_find_i : Cond.instanceMethod yX16_find ∈ mTB := mTB_of (sg22 (List.mem_of_getElem? (i := 12) rfl)) rfl
theorem lo_X16_find : Cond.code yX16_find cX16_find 5 (some .int) ∈ mTB := mTB_of (sg22 (List.mem_of_getElem? (i := 13) rfl)) rfl
theorem lmX16_171 : Cond.methodLink RX16 171 yX16_key ∈ mTB := mTB_of (sg22 (List.mem_of_getElem? (i := 14) rfl)) rfl
theorem lv_X16_key_i : Cond.instanceMethod yX16_key ∈ mTB := mTB_of (sg22 (List.mem_of_getElem? (i := 16) rfl)) rfl
theorem lo_X16_key : Cond.code yX16_key cX16_key 3 (some .int) ∈ mTB := mTB_of (sg22 (List.mem_of_getElem? (i := 17) rfl)) rfl
theorem lmX20_235 : Cond.methodLink RX20 235 yX16_shown ∈ mTB := mTB_of (sg22 (List.mem_of_getElem? (i := 18) rfl)) rfl
theorem lv_X16_shown_i : Cond.instanceMethod yX16_shown ∈ mTB := mTB_of (sg22 (List.mem_of_getElem? (i := 19) rfl)) rfl
theorem ls_X16_shown : Cond.selects yX16_shown.cls yX16_shown yX16_shown ∈ mTB := mTB_of (sg22 (List.mem_of_getElem? (i := 20) rfl)) rfl
theorem lo_X16_shown : Cond.code yX16_shown cX16_shown 2 (some .int) ∈ mTB := mTB_of (sg22 (List.mem_of_getElem? (i := 21) rfl)) rfl
theorem lmX20_537 : Cond.methodLink RX20 537 yX16_prove ∈ mTB := mTB_of (sg22 (List.mem_of_getElem? (i := 22) rfl)) rfl
theorem lv_X16_prove_i : Cond.instanceMethod yX16_prove ∈ mTB := mTB_of (sg22 (List.mem_of_getElem? (i := 23) rfl)) rfl
theorem ls_X16_prove : Cond.selects yX16_prove.cls yX16_prove yX16_prove ∈ mTB := mTB_of (sg22 (List.mem_of_getElem? (i := 24) rfl)) rfl
theorem lo_X16_prove : Cond.code yX16_prove cX16_prove 5 (some .int) ∈ mTB := mTB_of (sg22 (List.mem_of_getElem? (i := 25) rfl)) rfl
theorem lmX16_174 : Cond.methodLink RX16 174 yX16_add ∈ mTB := mTB_of (sg22 (List.mem_of_getElem? (i := 26) rfl)) rfl
theorem lv_X16_add_i : Cond.instanceMethod yX16_add ∈ mTB := mTB_of (sg22 (List.mem_of_getElem? (i := 28) rfl)) rfl
theorem lo_X16_add : Cond.code yX16_add cX16_add 4 none ∈ mTB := mTB_of (sg22 (List.mem_of_getElem? (i := 29) rfl)) rfl
theorem lmX16_178 : Cond.methodLink RX16 178 yX16_load ∈ mTB := mTB_of (sg22 (List.mem_of_getElem? (i := 30) rfl)) rfl
theorem lv_X16_load_i : Cond.instanceMethod yX16_load ∈ mTB := mTB_of (sg22 (List.mem_of_getElem? (i := 32) rfl)) rfl
theorem lo_X16_load : Cond.code yX16_load cX16_load 3 none ∈ mTB := mTB_of (sg22 (List.mem_of_getElem? (i := 33) rfl)) rfl
theorem lmX20_540 : Cond.methodLink RX20 540 yX16_states ∈ mTB := mTB_of (sg22 (List.mem_of_getElem? (i := 34) rfl)) rfl
theorem lv_X16_states_i : Cond.instanceMethod yX16_states ∈ mTB := mTB_of (sg22 (List.mem_of_getElem? (i := 35) rfl)) rfl
theorem ls_X16_states : Cond.selects yX16_states.cls yX16_states yX16_states ∈ mTB := mTB_of (sg22 (List.mem_of_getElem? (i := 36) rfl)) rfl
theorem lo_X16_states : Cond.code yX16_states cX16_states 1 (some .int) ∈ mTB := mTB_of (sg22 (List.mem_of_getElem? (i := 37) rfl)) rfl
theorem lmX20_543 : Cond.methodLink RX20 543 yX16_row ∈ mTB := mTB_of (sg22 (List.mem_of_getElem? (i := 38) rfl)) rfl
theorem lv_X16_row_i : Cond.instanceMethod yX16_row ∈ mTB := mTB_of (sg22 (List.mem_of_getElem? (i := 39) rfl)) rfl
theorem ls_X16_row : Cond.selects yX16_row.cls yX16_row yX16_row ∈ mTB := mTB_of (sg22 (List.mem_of_getElem? (i := 40) rfl)) rfl
theorem lo_X16_row : Cond.code yX16_row cX16_row 7 (some .int) ∈ mTB := mTB_of (sg22 (List.mem_of_getElem? (i := 41) rfl)) rfl
theorem lmX20_545 : Cond.methodLink RX20 545 yX16_longest ∈ mTB := mTB_of (sg22 (List.mem_of_getElem? (i := 42) rfl)) rfl
theorem lv_X16_longest_i : Cond.instanceMethod yX16_longest ∈ mTB := mTB_of (sg22 (List.mem_of_getElem? (i := 43) rfl)) rfl
theorem ls_X16_longest : Cond.selects yX16_longest.cls yX16_longest yX16_longest ∈ mTB := mTB_of (sg22 (List.mem_of_getElem? (i := 44) rfl)) rfl
theorem lo_X16_longest : Cond.code yX16_longest cX16_longest 2 (some .int) ∈ mTB := mTB_of (sg22 (List.mem_of_getElem? (i := 45) rfl)) rfl
theorem lmX16_190 : Cond.methodLink RX16 190 yX16_longestOf ∈ mTB := mTB_of (sg22 (List.mem_of_getElem? (i := 46) rfl)) rfl
theorem lv_X16_longestOf_i : Cond.instanceMethod yX16_longestOf ∈ mTB := mTB_of (sg22 (List.mem_of_getElem? (i := 48) rfl)) rfl
theorem lo_X16_longestOf : Cond.code yX16_longestOf cX16_longestOf 10 (some .int) ∈ mTB := mTB_of (sg22 (List.mem_of_getElem? (i := 49) rfl)) rfl
theorem lmX16_187 : Cond.methodLink RX16 187 yX16_waitsAt ∈ mTB := mTB_of (sg22 (List.mem_of_getElem? (i := 50) rfl)) rfl
theorem lv_X16_waitsAt_i : Cond.instanceMethod yX16_waitsAt ∈ mTB := mTB_of (sg22 (List.mem_of_getElem? (i := 52) rfl)) rfl
theorem lo_X16_waitsAt : Cond.code yX16_waitsAt cX16_waitsAt 3 (some .boolean) ∈ mTB := mTB_of (sg22 (List.mem_of_getElem? (i := 53) rfl)) rfl
theorem lmX20_548 : Cond.methodLink RX20 548 yX16_ring ∈ mTB := mTB_of (sg22 (List.mem_of_getElem? (i := 54) rfl)) rfl
theorem lv_X16_ring_i : Cond.instanceMethod yX16_ring ∈ mTB := mTB_of (sg22 (List.mem_of_getElem? (i := 55) rfl)) rfl
theorem ls_X16_ring : Cond.selects yX16_ring.cls yX16_ring yX16_ring ∈ mTB := mTB_of (sg22 (List.mem_of_getElem? (i := 56) rfl)) rfl
theorem lo_X16_ring : Cond.code yX16_ring cX16_ring 5 (some .int) ∈ mTB := mTB_of (sg22 (List.mem_of_getElem? (i := 57) rfl)) rfl
theorem lmX20_281 : Cond.methodLink RX20 281 yX16_answered ∈ mTB := mTB_of (sg22 (List.mem_of_getElem? (i := 58) rfl)) rfl
theorem lv_X16_answered_i : Cond.instanceMethod yX16_answered ∈ mTB := mTB_of (sg22 (List.mem_of_getElem? (i := 59) rfl)) rfl
theorem ls_X16_answered : Cond.selects yX16_answered.cls yX16_answered yX16_answered ∈ mTB := mTB_of (sg22 (List.mem_of_getElem? (i := 60) rfl)) rfl
theorem lo_X16_answered : Cond.code yX16_answered cX16_answered 3 (some .boolean) ∈ mTB := mTB_of (sg22 (List.mem_of_getElem? (i := 61) rfl)) rfl
theorem lmX20_551 : Cond.methodLink RX20 551 yX16_same ∈ mTB := mTB_of (sg22 (List.mem_of_getElem? (i := 62) rfl)) rfl
theorem lv_X16_same_i : Cond.instanceMethod yX16_same ∈ mTB := mTB_of (sg22 (List.mem_of_getElem? (i := 63) rfl)) rfl
theorem ls_X16_same : Cond.selects yX16_same.cls yX16_same yX16_same ∈ mTB := mTB_of (sg22 (List.mem_of_getElem? (i := 64) rfl)) rfl
theorem lo_X16_same : Cond.code yX16_same cX16_same 4 (some .boolean) ∈ mTB := mTB_of (sg22 (List.mem_of_getElem? (i := 65) rfl)) rfl
theorem lmX20_554 : Cond.methodLink RX20 554 yX16_from ∈ mTB := mTB_of (sg22 (List.mem_of_getElem? (i := 66) rfl)) rfl
theorem lv_X16_from_i : Cond.instanceMethod yX16_from ∈ mTB := mTB_of (sg22 (List.mem_of_getElem? (i := 67) rfl)) rfl
theorem ls_X16_from : Cond.selects yX16_from.cls yX16_from yX16_from ∈ mTB := mTB_of (sg22 (List.mem_of_getElem? (i := 68) rfl)) rfl
theorem lo_X16_from : Cond.code yX16_from cX16_from 10 (some .int) ∈ mTB := mTB_of (sg22 (List.mem_of_getElem? (i := 69) rfl)) rfl
theorem lcX16_193 : Cond.constantLong RX16 193 (1000 : Int64) ∈ mTB := mTB_of (sg22 (List.mem_of_getElem? (i := 70) rfl)) rfl
theorem lmX20_130 : Cond.methodLink RX20 130 yX16_thrown ∈ mTB := mTB_of (sg22 (List.mem_of_getElem? (i := 71) rfl)) rfl
theorem lv_X16_thrown_i : Cond.instanceMethod yX16_thrown ∈ mTB := mTB_of (sg22 (List.mem_of_getElem? (i := 72) rfl)) rfl
theorem ls_X16_thrown : Cond.selects yX16_thrown.cls yX16_thrown yX16_thrown ∈ mTB := mTB_of (sg22 (List.mem_of_getElem? (i := 73) rfl)) rfl
theorem lo_X16_thrown : Cond.code yX16_thrown cX16_thrown 1 (some .int) ∈ mTB := mTB_of (sg22 (List.mem_of_getElem? (i := 74) rfl)) rfl
theorem lmX20_131 : Cond.methodLink RX20 131 yX20_carsCall ∈ mTB := mTB_of (sg22 (List.mem_of_getElem? (i := 75) rfl)) rfl
theorem lv_X20_carsCall_i : Cond.instanceMethod yX20_carsCall ∈ mTB := mTB_of (sg22 (List.mem_of_getElem? (i := 77) rfl)) rfl
theorem lo_X20_carsCall : Cond.code yX20_carsCall cX20_carsCall 7 (some .long) ∈ mTB := mTB_of (sg22 (List.mem_of_getElem? (i := 78) rfl)) rfl
theorem lmX20_558 : Cond.methodLink RX20 558 yX17_cell ∈ mTB := mTB_of (sg22 (List.mem_of_getElem? (i := 79) rfl)) rfl
theorem lv_X17_cell_i : Cond.instanceMethod yX17_cell ∈ mTB := mTB_of (sg22 (List.mem_of_getElem? (i := 80) rfl)) rfl
theorem ls_X17_cell : Cond.selects yX17_cell.cls yX17_cell yX17_cell ∈ mTB := mTB_of (sg22 (List.mem_of_getElem? (i := 81) rfl)) rfl
theorem lo_X17_cell : Cond.code yX17_cell cX17_cell 6 (some .boolean) ∈ mTB := mTB_of (sg22 (List.mem_of_getElem? (i := 82) rfl)) rfl
theorem lmX17_92 : Cond.methodLink RX17 92 yX17_noCell ∈ mTB := mTB_of (sg22 (List.mem_of_getElem? (i := 83) rfl)) rfl
theorem lv_X17_noCell_i : Cond.instanceMethod yX17_noCell ∈ mTB := mTB_of (sg22 (List.mem_of_getElem? (i := 85) rfl)) rfl
theorem lo_X17_noCell : Cond.code yX17_noCell cX17_noCell 2 (some .boolean) ∈ mTB := mTB_of (sg22 (List.mem_of_getElem? (i := 86) rfl)) rfl
theorem lcX17_96 : Cond.constantLong RX17 96 (100000 : Int64) ∈ mTB := mTB_of (sg22 (List.mem_of_getElem? (i := 87) rfl)) rfl
theorem lmX17_98 : Cond.methodLink RX17 98 yX17_isOut ∈ mTB := mTB_of (sg22 (List.mem_of_getElem? (i := 88) rfl)) rfl
theorem lv_X17_isOut_s : Cond.static yX17_isOut ∈ mTB := mTB_of (sg22 (List.mem_of_getElem? (i := 89) rfl)) rfl
theorem lo_X17_isOut : Cond.code yX17_isOut cX17_isOut 6 (some .boolean) ∈ mTB := mTB_of (sg22 (List.mem_of_getElem? (i := 90) rfl)) rfl
theorem lcX17_102 : Cond.constantLong RX17 102 (100 : Int64) ∈ mTB := mTB_of (sg22 (List.mem_of_getElem? (i := 91) rfl)) rfl
theorem lmX20_559 : Cond.methodLink RX20 559 yX17_joinCells ∈ mTB := mTB_of (sg22 (List.mem_of_getElem? (i := 92) rfl)) rfl
theorem lv_X17_joinCells_i : Cond.instanceMethod yX17_joinCells ∈ mTB := mTB_of (sg22 (List.mem_of_getElem? (i := 93) rfl)) rfl
theorem ls_X17_joinCells : Cond.selects yX17_joinCells.cls yX17_joinCells yX17_joinCells ∈ mTB := mTB_of (sg22 (List.mem_of_getElem? (i := 94) rfl)) rfl
theorem lo_X17_joinCells : Cond.code yX17_joinCells cX17_joinCells 3 (some .boolean) ∈ mTB := mTB_of (sg22 (List.mem_of_getElem? (i := 95) rfl)) rfl
theorem lmX17_110 : Cond.methodLink RX17 110 yX17_find ∈ mTB := mTB_of (sg22 (List.mem_of_getElem? (i := 96) rfl)) rfl
theorem lv_X17_find_i : Cond.instanceMethod yX17_find ∈ mTB := mTB_of (sg22 (List.mem_of_getElem? (i := 98) rfl)) rfl
theorem lo_X17_find : Cond.code yX17_find cX17_find 4 (some .int) ∈ mTB := mTB_of (sg22 (List.mem_of_getElem? (i := 99) rfl)) rfl
theorem lmX17_114 : Cond.methodLink RX17 114 yX17_many ∈ mTB := mTB_of (sg22 (List.mem_of_getElem? (i := 100) rfl)) rfl
theorem lv_X17_many_i : Cond.instanceMethod yX17_many ∈ mTB := mTB_of (sg22 (List.mem_of_getElem? (i := 102) rfl)) rfl
theorem lo_X17_many : Cond.code yX17_many cX17_many 5 (some .int) ∈ mTB := mTB_of (sg22 (List.mem_of_getElem? (i := 103) rfl)) rfl
theorem lmX20_562 : Cond.methodLink RX20 562 yX17_share ∈ mTB := mTB_of (sg22 (List.mem_of_getElem? (i := 104) rfl)) rfl
theorem lv_X17_share_i : Cond.instanceMethod yX17_share ∈ mTB := mTB_of (sg22 (List.mem_of_getElem? (i := 105) rfl)) rfl
theorem ls_X17_share : Cond.selects yX17_share.cls yX17_share yX17_share ∈ mTB := mTB_of (sg22 (List.mem_of_getElem? (i := 106) rfl)) rfl
theorem lo_X17_share : Cond.code yX17_share cX17_share 9 (some .boolean) ∈ mTB := mTB_of (sg22 (List.mem_of_getElem? (i := 107) rfl)) rfl
theorem lmX17_120 : Cond.methodLink RX17 120 yX17_noPart ∈ mTB := mTB_of (sg22 (List.mem_of_getElem? (i := 108) rfl)) rfl
theorem lv_X17_noPart_s : Cond.static yX17_noPart ∈ mTB := mTB_of (sg22 (List.mem_of_getElem? (i := 109) rfl)) rfl
theorem lo_X17_noPart : Cond.code yX17_noPart cX17_noPart 4 (some .boolean) ∈ mTB := mTB_of (sg22 (List.mem_of_getElem? (i := 110) rfl)) rfl
theorem lcX17_118 : Cond.constantLong RX17 118 (1000 : Int64) ∈ mTB := mTB_of (sg22 (List.mem_of_getElem? (i := 111) rfl)) rfl
theorem lmX20_565 : Cond.methodLink RX20 565 yX17_rank ∈ mTB := mTB_of (sg22 (List.mem_of_getElem? (i := 112) rfl)) rfl
theorem lv_X17_rank_i : Cond.instanceMethod yX17_rank ∈ mTB := mTB_of (sg22 (List.mem_of_getElem? (i := 113) rfl)) rfl
theorem ls_X17_rank : Cond.selects yX17_rank.cls yX17_rank yX17_rank ∈ mTB := mTB_of (sg22 (List.mem_of_getElem? (i := 114) rfl)) rfl
theorem lo_X17_rank : Cond.code yX17_rank cX17_rank 5 (some .boolean) ∈ mTB := mTB_of (sg22 (List.mem_of_getElem? (i := 115) rfl)) rfl
theorem lcX17_124 : Cond.constantLong RX17 124 (9 : Int64) ∈ mTB := mTB_of (sg22 (List.mem_of_getElem? (i := 116) rfl)) rfl
theorem lmX20_568 : Cond.methodLink RX20 568 yX17_put ∈ mTB := mTB_of (sg22 (List.mem_of_getElem? (i := 117) rfl)) rfl
theorem lv_X17_put_i : Cond.instanceMethod yX17_put ∈ mTB := mTB_of (sg22 (List.mem_of_getElem? (i := 118) rfl)) rfl
theorem ls_X17_put : Cond.selects yX17_put.cls yX17_put yX17_put ∈ mTB := mTB_of (sg22 (List.mem_of_getElem? (i := 119) rfl)) rfl
theorem lo_X17_put : Cond.code yX17_put cX17_put 3 (some .boolean) ∈ mTB := mTB_of (sg22 (List.mem_of_getElem? (i := 120) rfl)) rfl
theorem lmX20_571 : Cond.methodLink RX20 571 yX17_enters ∈ mTB := mTB_of (sg22 (List.mem_of_getElem? (i := 121) rfl)) rfl
theorem lv_X17_enters_i : Cond.instanceMethod yX17_enters ∈ mTB := mTB_of (sg22 (List.mem_of_getElem? (i := 122) rfl)) rfl
theorem ls_X17_enters : Cond.selects yX17_enters.cls yX17_enters yX17_enters ∈ mTB := mTB_of (sg22 (List.mem_of_getElem? (i := 123) rfl)) rfl
theorem lo_X17_enters : Cond.code yX17_enters cX17_enters 4 (some .boolean) ∈ mTB := mTB_of (sg22 (List.mem_of_getElem? (i := 124) rfl)) rfl
theorem lmX17_126 : Cond.methodLink RX17 126 yX17_isPast ∈ mTB := mTB_of (sg22 (List.mem_of_getElem? (i := 125) rfl)) rfl
theorem lv_X17_isPast_i : Cond.instanceMethod yX17_isPast ∈ mTB := mTB_of (sg22 (List.mem_of_getElem? (i := 127) rfl)) rfl
theorem lo_X17_isPast : Cond.code yX17_isPast cX17_isPast 3 (some .boolean) ∈ mTB := mTB_of (sg22 (List.mem_of_getElem? (i := 128) rfl)) rfl
theorem lmX20_238 : Cond.methodLink RX20 238 yX17_signal ∈ mTB := mTB_of (sg22 (List.mem_of_getElem? (i := 129) rfl)) rfl
theorem lv_X17_signal_i : Cond.instanceMethod yX17_signal ∈ mTB := mTB_of (sg22 (List.mem_of_getElem? (i := 130) rfl)) rfl
theorem ls_X17_signal : Cond.selects yX17_signal.cls yX17_signal yX17_signal ∈ mTB := mTB_of (sg22 (List.mem_of_getElem? (i := 131) rfl)) rfl
theorem lo_X17_signal : Cond.code yX17_signal cX17_signal 4 (some .boolean) ∈ mTB := mTB_of (sg22 (List.mem_of_getElem? (i := 132) rfl)) rfl
theorem lmX17_136 : Cond.methodLink RX17 136 yX17_set ∈ mTB := mTB_of (sg22 (List.mem_of_getElem? (i := 133) rfl)) rfl
theorem lv_X17_set_i : Cond.instanceMethod yX17_set ∈ mTB := mTB_of (sg22 (List.mem_of_getElem? (i := 135) rfl)) rfl
theorem lo_X17_set : Cond.code yX17_set cX17_set 8 (some .boolean) ∈ mTB := mTB_of (sg22 (List.mem_of_getElem? (i := 136) rfl)) rfl
theorem lmX20_229 : Cond.methodLink RX20 229 yX17_run ∈ mTB := mTB_of (sg22 (List.mem_of_getElem? (i := 137) rfl)) rfl
theorem lv_X17_run_i : Cond.instanceMethod yX17_run ∈ mTB := mTB_of (sg22 (List.mem_of_getElem? (i := 138) rfl)) rfl
theorem ls_X17_run : Cond.selects yX17_run.cls yX17_run yX17_run ∈ mTB := mTB_of (sg22 (List.mem_of_getElem? (i := 139) rfl)) rfl
theorem lo_X17_run : Cond.code yX17_run cX17_run 3 (some .int) ∈ mTB := mTB_of (sg22 (List.mem_of_getElem? (i := 140) rfl)) rfl
theorem lcX17_166 : Cond.constantLong RX17 166 (200 : Int64) ∈ mTB := mTB_of (sg22 (List.mem_of_getElem? (i := 141) rfl)) rfl
theorem lmX17_168 : Cond.methodLink RX17 168 yX17_step ∈ mTB := mTB_of (sg22 (List.mem_of_getElem? (i := 142) rfl)) rfl
theorem lv_X17_step_i : Cond.instanceMethod yX17_step ∈ mTB := mTB_of (sg22 (List.mem_of_getElem? (i := 144) rfl)) rfl
theorem lo_X17_step : Cond.code yX17_step cX17_step 5 none ∈ mTB := mTB_of (sg22 (List.mem_of_getElem? (i := 145) rfl)) rfl
theorem lmX17_154 : Cond.methodLink RX17 154 yX17_comes ∈ mTB := mTB_of (sg22 (List.mem_of_getElem? (i := 146) rfl)) rfl
theorem lv_X17_comes_i : Cond.instanceMethod yX17_comes ∈ mTB := mTB_of (sg22 (List.mem_of_getElem? (i := 148) rfl)) rfl
theorem lo_X17_comes : Cond.code yX17_comes cX17_comes 2 none ∈ mTB := mTB_of (sg22 (List.mem_of_getElem? (i := 149) rfl)) rfl
theorem lmX17_157 : Cond.methodLink RX17 157 yX17_bounds ∈ mTB := mTB_of (sg22 (List.mem_of_getElem? (i := 150) rfl)) rfl
theorem lv_X17_bounds_i : Cond.instanceMethod yX17_bounds ∈ mTB := mTB_of (sg22 (List.mem_of_getElem? (i := 152) rfl)) rfl
theorem lo_X17_bounds : Cond.code yX17_bounds cX17_bounds 5 none ∈ mTB := mTB_of (sg22 (List.mem_of_getElem? (i := 153) rfl)) rfl
theorem lmX17_145 : Cond.methodLink RX17 145 yX17_holds ∈ mTB := mTB_of (sg22 (List.mem_of_getElem? (i := 154) rfl)) rfl
theorem lv_X17_holds_i : Cond.instanceMethod yX17_holds ∈ mTB := mTB_of (sg22 (List.mem_of_getElem? (i := 156) rfl)) rfl
theorem lo_X17_holds : Cond.code yX17_holds cX17_holds 6 (some .int) ∈ mTB := mTB_of (sg22 (List.mem_of_getElem? (i := 157) rfl)) rfl
theorem lmX17_148 : Cond.methodLink RX17 148 yX17_lesser ∈ mTB := mTB_of (sg22 (List.mem_of_getElem? (i := 158) rfl)) rfl
theorem lv_X17_lesser_s : Cond.static yX17_lesser ∈ mTB := mTB_of (sg22 (List.mem_of_getElem? (i := 159) rfl)) rfl
theorem lo_X17_lesser : Cond.code yX17_lesser cX17_lesser 4 (some .int) ∈ mTB := mTB_of (sg22 (List.mem_of_getElem? (i := 160) rfl)) rfl
theorem lcX17_152 : Cond.constantLong RX17 152 (300 : Int64) ∈ mTB := mTB_of (sg22 (List.mem_of_getElem? (i := 161) rfl)) rfl
theorem lmX17_160 : Cond.methodLink RX17 160 yX17_wants ∈ mTB := mTB_of (sg22 (List.mem_of_getElem? (i := 162) rfl)) rfl
theorem lv_X17_wants_i : Cond.instanceMethod yX17_wants ∈ mTB := mTB_of (sg22 (List.mem_of_getElem? (i := 164) rfl)) rfl
theorem lo_X17_wants : Cond.code yX17_wants cX17_wants 8 none ∈ mTB := mTB_of (sg22 (List.mem_of_getElem? (i := 165) rfl)) rfl
theorem lmX17_163 : Cond.methodLink RX17 163 yX17_take ∈ mTB := mTB_of (sg22 (List.mem_of_getElem? (i := 166) rfl)) rfl
theorem lv_X17_take_i : Cond.instanceMethod yX17_take ∈ mTB := mTB_of (sg22 (List.mem_of_getElem? (i := 168) rfl)) rfl
theorem lo_X17_take : Cond.code yX17_take cX17_take 6 none ∈ mTB := mTB_of (sg22 (List.mem_of_getElem? (i := 169) rfl)) rfl
theorem lmX20_574 : Cond.methodLink RX20 574 yX17_in ∈ mTB := mTB_of (sg22 (List.mem_of_getElem? (i := 170) rfl)) rfl
theorem lv_X17_in_i : Cond.instanceMethod yX17_in ∈ mTB := mTB_of (sg22 (List.mem_of_getElem? (i := 171) rfl)) rfl
theorem ls_X17_in : Cond.selects yX17_in.cls yX17_in yX17_in ∈ mTB := mTB_of (sg22 (List.mem_of_getElem? (i := 172) rfl)) rfl
theorem lo_X17_in : Cond.code yX17_in cX17_in 2 (some .int) ∈ mTB := mTB_of (sg22 (List.mem_of_getElem? (i := 173) rfl)) rfl
theorem lmX20_577 : Cond.methodLink RX20 577 yX17_out ∈ mTB := mTB_of (sg22 (List.mem_of_getElem? (i := 174) rfl)) rfl
theorem lv_X17_out_i : Cond.instanceMethod yX17_out ∈ mTB := mTB_of (sg22 (List.mem_of_getElem? (i := 175) rfl)) rfl
theorem ls_X17_out : Cond.selects yX17_out.cls yX17_out yX17_out ∈ mTB := mTB_of (sg22 (List.mem_of_getElem? (i := 176) rfl)) rfl
theorem lo_X17_out : Cond.code yX17_out cX17_out 1 (some .long) ∈ mTB := mTB_of (sg22 (List.mem_of_getElem? (i := 177) rfl)) rfl
theorem lmX20_284 : Cond.methodLink RX20 284 yX17_kept ∈ mTB := mTB_of (sg22 (List.mem_of_getElem? (i := 178) rfl)) rfl
theorem lv_X17_kept_i : Cond.instanceMethod yX17_kept ∈ mTB := mTB_of (sg22 (List.mem_of_getElem? (i := 179) rfl)) rfl
theorem ls_X17_kept : Cond.selects yX17_kept.cls yX17_kept yX17_kept ∈ mTB := mTB_of (sg22 (List.mem_of_getElem? (i := 180) rfl)) rfl
theorem lo_X17_kept : Cond.code yX17_kept cX17_kept 4 (some .boolean) ∈ mTB := mTB_of (sg22 (List.mem_of_getElem? (i := 181) rfl)) rfl
theorem lmX20_580 : Cond.methodLink RX20 580 yX17_delay ∈ mTB := mTB_of (sg22 (List.mem_of_getElem? (i := 182) rfl)) rfl
theorem lv_X17_delay_i : Cond.instanceMethod yX17_delay ∈ mTB := mTB_of (sg22 (List.mem_of_getElem? (i := 183) rfl)) rfl
theorem ls_X17_delay : Cond.selects yX17_delay.cls yX17_delay yX17_delay ∈ mTB := mTB_of (sg22 (List.mem_of_getElem? (i := 184) rfl)) rfl
theorem lo_X17_delay : Cond.code yX17_delay cX17_delay 2 (some .long) ∈ mTB := mTB_of (sg22 (List.mem_of_getElem? (i := 185) rfl)) rfl
theorem lcX17_171 : Cond.constantLong RX17 171 (-1 : Int64) ∈ mTB := mTB_of (sg22 (List.mem_of_getElem? (i := 186) rfl)) rfl
theorem lmX20_583 : Cond.methodLink RX20 583 yX17_moved ∈ mTB := mTB_of (sg22 (List.mem_of_getElem? (i := 187) rfl)) rfl
theorem lv_X17_moved_i : Cond.instanceMethod yX17_moved ∈ mTB := mTB_of (sg22 (List.mem_of_getElem? (i := 188) rfl)) rfl
theorem ls_X17_moved : Cond.selects yX17_moved.cls yX17_moved yX17_moved ∈ mTB := mTB_of (sg22 (List.mem_of_getElem? (i := 189) rfl)) rfl
theorem lo_X17_moved : Cond.code yX17_moved cX17_moved 4 (some .int) ∈ mTB := mTB_of (sg22 (List.mem_of_getElem? (i := 190) rfl)) rfl
theorem lmX20_585 : Cond.methodLink RX20 585 yX17_rest ∈ mTB := mTB_of (sg22 (List.mem_of_getElem? (i := 191) rfl)) rfl
theorem lv_X17_rest_i : Cond.instanceMethod yX17_rest ∈ mTB := mTB_of (sg22 (List.mem_of_getElem? (i := 192) rfl)) rfl
theorem ls_X17_rest : Cond.selects yX17_rest.cls yX17_rest yX17_rest ∈ mTB := mTB_of (sg22 (List.mem_of_getElem? (i := 193) rfl)) rfl
theorem lo_X17_rest : Cond.code yX17_rest cX17_rest 5 (some .long) ∈ mTB := mTB_of (sg22 (List.mem_of_getElem? (i := 194) rfl)) rfl
theorem lmX20_587 : Cond.methodLink RX20 587 yX17_close ∈ mTB := mTB_of (sg22 (List.mem_of_getElem? (i := 195) rfl)) rfl
theorem lv_X17_close_i : Cond.instanceMethod yX17_close ∈ mTB := mTB_of (sg22 (List.mem_of_getElem? (i := 196) rfl)) rfl
theorem ls_X17_close : Cond.selects yX17_close.cls yX17_close yX17_close ∈ mTB := mTB_of (sg22 (List.mem_of_getElem? (i := 197) rfl)) rfl
theorem lo_X17_close : Cond.code yX17_close cX17_close 7 (some .boolean) ∈ mTB := mTB_of (sg22 (List.mem_of_getElem? (i := 198) rfl)) rfl
theorem lmX20_590 : Cond.methodLink RX20 590 yX17_meter ∈ mTB := mTB_of (sg22 (List.mem_of_getElem? (i := 199) rfl)) rfl
theorem lv_X17_meter_i : Cond.instanceMethod yX17_meter ∈ mTB := mTB_of (sg22 (List.mem_of_getElem? (i := 200) rfl)) rfl
theorem ls_X17_meter : Cond.selects yX17_meter.cls yX17_meter yX17_meter ∈ mTB := mTB_of (sg22 (List.mem_of_getElem? (i := 201) rfl)) rfl
theorem lo_X17_meter : Cond.code yX17_meter cX17_meter 4 (some .int) ∈ mTB := mTB_of (sg22 (List.mem_of_getElem? (i := 202) rfl)) rfl
theorem lcX17_140 : Cond.constantLong RX17 140 (20 : Int64) ∈ mTB := mTB_of (sg22 (List.mem_of_getElem? (i := 203) rfl)) rfl
theorem lmX20_593 : Cond.methodLink RX20 593 yX17_lane ∈ mTB := mTB_of (sg22 (List.mem_of_getElem? (i := 204) rfl)) rfl
theorem lv_X17_lane_i : Cond.instanceMethod yX17_lane ∈ mTB := mTB_of (sg22 (List.mem_of_getElem? (i := 205) rfl)) rfl
theorem ls_X17_lane : Cond.selects yX17_lane.cls yX17_lane yX17_lane ∈ mTB := mTB_of (sg22 (List.mem_of_getElem? (i := 206) rfl)) rfl
theorem lo_X17_lane : Cond.code yX17_lane cX17_lane 5 (some .int) ∈ mTB := mTB_of (sg22 (List.mem_of_getElem? (i := 207) rfl)) rfl
theorem lmX20_595 : Cond.methodLink RX20 595 yX17_read ∈ mTB := mTB_of (sg22 (List.mem_of_getElem? (i := 208) rfl)) rfl
theorem lv_X17_read_i : Cond.instanceMethod yX17_read ∈ mTB := mTB_of (sg22 (List.mem_of_getElem? (i := 209) rfl)) rfl
theorem ls_X17_read : Cond.selects yX17_read.cls yX17_read yX17_read ∈ mTB := mTB_of (sg22 (List.mem_of_getElem? (i := 210) rfl)) rfl
theorem lo_X17_read : Cond.code yX17_read cX17_read 4 (some .boolean) ∈ mTB := mTB_of (sg22 (List.mem_of_getElem? (i := 211) rfl)) rfl
theorem lmX20_597 : Cond.methodLink RX20 597 yX17_differs ∈ mTB := mTB_of (sg22 (List.mem_of_getElem? (i := 212) rfl)) rfl
theorem lv_X17_differs_i : Cond.instanceMethod yX17_differs ∈ mTB := mTB_of (sg22 (List.mem_of_getElem? (i := 213) rfl)) rfl
theorem ls_X17_differs : Cond.selects yX17_differs.cls yX17_differs yX17_differs ∈ mTB := mTB_of (sg22 (List.mem_of_getElem? (i := 214) rfl)) rfl
theorem lo_X17_differs : Cond.code yX17_differs cX17_differs 9 (some .int) ∈ mTB := mTB_of (sg22 (List.mem_of_getElem? (i := 215) rfl)) rfl
theorem lcX17_176 : Cond.constantLong RX17 176 (2 : Int64) ∈ mTB := mTB_of (sg22 (List.mem_of_getElem? (i := 216) rfl)) rfl
theorem lmX20_600 : Cond.methodLink RX20 600 yX17_rule ∈ mTB := mTB_of (sg22 (List.mem_of_getElem? (i := 217) rfl)) rfl
theorem lv_X17_rule_i : Cond.instanceMethod yX17_rule ∈ mTB := mTB_of (sg22 (List.mem_of_getElem? (i := 218) rfl)) rfl
theorem ls_X17_rule : Cond.selects yX17_rule.cls yX17_rule yX17_rule ∈ mTB := mTB_of (sg22 (List.mem_of_getElem? (i := 219) rfl)) rfl
theorem lo_X17_rule : Cond.code yX17_rule cX17_rule 4 (some .boolean) ∈ mTB := mTB_of (sg22 (List.mem_of_getElem? (i := 220) rfl)) rfl
theorem lmX20_603 : Cond.methodLink RX20 603 yX17_acted ∈ mTB := mTB_of (sg22 (List.mem_of_getElem? (i := 221) rfl)) rfl
theorem lv_X17_acted_i : Cond.instanceMethod yX17_acted ∈ mTB := mTB_of (sg22 (List.mem_of_getElem? (i := 222) rfl)) rfl
theorem ls_X17_acted : Cond.selects yX17_acted.cls yX17_acted yX17_acted ∈ mTB := mTB_of (sg22 (List.mem_of_getElem? (i := 223) rfl)) rfl
theorem lo_X17_acted : Cond.code yX17_acted cX17_acted 2 (some .int) ∈ mTB := mTB_of (sg22 (List.mem_of_getElem? (i := 224) rfl)) rfl
theorem lmX20_606 : Cond.methodLink RX20 606 yX17_save ∈ mTB := mTB_of (sg22 (List.mem_of_getElem? (i := 225) rfl)) rfl
theorem lv_X17_save_i : Cond.instanceMethod yX17_save ∈ mTB := mTB_of (sg22 (List.mem_of_getElem? (i := 226) rfl)) rfl
theorem ls_X17_save : Cond.selects yX17_save.cls yX17_save yX17_save ∈ mTB := mTB_of (sg22 (List.mem_of_getElem? (i := 227) rfl)) rfl
theorem lo_X17_save : Cond.code yX17_save cX17_save 2 (some .int) ∈ mTB := mTB_of (sg22 (List.mem_of_getElem? (i := 228) rfl)) rfl
theorem lmX20_609 : Cond.methodLink RX20 609 yX17_back ∈ mTB := mTB_of (sg22 (List.mem_of_getElem? (i := 229) rfl)) rfl
theorem lv_X17_back_i : Cond.instanceMethod yX17_back ∈ mTB := mTB_of (sg22 (List.mem_of_getElem? (i := 230) rfl)) rfl
theorem ls_X17_back : Cond.selects yX17_back.cls yX17_back yX17_back ∈ mTB := mTB_of (sg22 (List.mem_of_getElem? (i := 231) rfl)) rfl
theorem lo_X17_back : Cond.code yX17_back cX17_back 3 (some .boolean) ∈ mTB := mTB_of (sg22 (List.mem_of_getElem? (i := 232) rfl)) rfl
theorem lmX20_612 : Cond.methodLink RX20 612 yX17_over ∈ mTB := mTB_of (sg22 (List.mem_of_getElem? (i := 233) rfl)) rfl
theorem lv_X17_over_i : Cond.instanceMethod yX17_over ∈ mTB := mTB_of (sg22 (List.mem_of_getElem? (i := 234) rfl)) rfl
theorem ls_X17_over : Cond.selects yX17_over.cls yX17_over yX17_over ∈ mTB := mTB_of (sg22 (List.mem_of_getElem? (i := 235) rfl)) rfl
theorem lo_X17_over : Cond.code yX17_over cX17_over 4 (some .int) ∈ mTB := mTB_of (sg22 (List.mem_of_getElem? (i := 236) rfl)) rfl
theorem lmX20_615 : Cond.methodLink RX20 615 yX17_toll ∈ mTB := mTB_of (sg22 (List.mem_of_getElem? (i := 237) rfl)) rfl
theorem lv_X17_toll_i : Cond.instanceMethod yX17_toll ∈ mTB := mTB_of (sg22 (List.mem_of_getElem? (i := 238) rfl)) rfl
theorem ls_X17_toll : Cond.selects yX17_toll.cls yX17_toll yX17_toll ∈ mTB := mTB_of (sg22 (List.mem_of_getElem? (i := 239) rfl)) rfl
theorem lo_X17_toll : Cond.code yX17_toll cX17_toll 3 (some .long) ∈ mTB := mTB_of (sg23 (List.mem_of_getElem? (i := 0) rfl)) rfl
theorem lcX17_178 : Cond.constantLong RX17 178 (10 : Int64) ∈ mTB := mTB_of (sg23 (List.mem_of_getElem? (i := 1) rfl)) rfl
theorem lcX17_180 : Cond.constantLong RX17 180 (4 : Int64) ∈ mTB := mTB_of (sg23 (List.mem_of_getElem? (i := 2) rfl)) rfl
theorem lmX20_134 : Cond.methodLink RX20 134 yX20_contractCall ∈ mTB := mTB_of (sg23 (List.mem_of_getElem? (i := 3) rfl)) rfl
theorem lv_X20_contractCall_i : Cond.instanceMethod yX20_contractCall ∈ mTB := mTB_of (sg23 (List.mem_of_getElem? (i := 5) rfl)) rfl
theorem lo_X20_contractCall : Cond.code yX20_contractCall cX20_contractCall 7 (some .long) ∈ mTB := mTB_of (sg23 (List.mem_of_getElem? (i := 6) rfl)) rfl
theorem lmX20_618 : Cond.methodLink RX20 618 yX15_unit ∈ mTB := mTB_of (sg23 (List.mem_of_getElem? (i := 7) rfl)) rfl
theorem lv_X15_unit_i : Cond.instanceMethod yX15_unit ∈ mTB := mTB_of (sg23 (List.mem_of_getElem? (i := 8) rfl)) rfl
theorem ls_X15_unit : Cond.selects yX15_unit.cls yX15_unit yX15_unit ∈ mTB := mTB_of (sg23 (List.mem_of_getElem? (i := 9) rfl)) rfl
theorem lo_X15_unit : Cond.code yX15_unit cX15_unit 2 (some .boolean) ∈ mTB := mTB_of (sg23 (List.mem_of_getElem? (i := 10) rfl)) rfl
theorem lmX20_619 : Cond.methodLink RX20 619 yX15_read ∈ mTB := mTB_of (sg23 (List.mem_of_getElem? (i := 11) rfl)) rfl
theorem lv_X15_read_i : Cond.instanceMethod yX15_read ∈ mTB := mTB_of (sg23 (List.mem_of_getElem? (i := 12) rfl)) rfl
theorem ls_X15_read : Cond.selects yX15_read.cls yX15_read yX15_read ∈ mTB := mTB_of (sg23 (List.mem_of_getElem? (i := 13) rfl)) rfl
theorem lo_X15_read : Cond.code yX15_read cX15_read 3 (some .int) ∈ mTB := mTB_of (sg23 (List.mem_of_getElem? (i := 14) rfl)) rfl
theorem lmX15_139 : Cond.methodLink RX15 139 yX15_split ∈ mTB := mTB_of (sg23 (List.mem_of_getElem? (i := 15) rfl)) rfl
theorem lv_X15_split_i : Cond.instanceMethod yX15_split ∈ mTB := mTB_of (sg23 (List.mem_of_getElem? (i := 17) rfl)) rfl
theorem lo_X15_split : Cond.code yX15_split cX15_split 3 none ∈ mTB := mTB_of (sg23 (List.mem_of_getElem? (i := 18) rfl)) rfl
theorem lmX15_97 : Cond.methodLink RX15 97 yX15_sort ∈ mTB := mTB_of (sg23 (List.mem_of_getElem? (i := 19) rfl)) rfl
theorem lv_X15_sort_s : Cond.static yX15_sort ∈ mTB := mTB_of (sg23 (List.mem_of_getElem? (i := 20) rfl)) rfl
theorem lo_X15_sort : Cond.code yX15_sort cX15_sort 1 (some .int) ∈ mTB := mTB_of (sg23 (List.mem_of_getElem? (i := 21) rfl)) rfl
theorem lmX15_142 : Cond.methodLink RX15 142 yX15_readItem ∈ mTB := mTB_of (sg23 (List.mem_of_getElem? (i := 22) rfl)) rfl
theorem lv_X15_readItem_i : Cond.instanceMethod yX15_readItem ∈ mTB := mTB_of (sg23 (List.mem_of_getElem? (i := 24) rfl)) rfl
theorem lo_X15_readItem : Cond.code yX15_readItem cX15_readItem 4 (some .boolean) ∈ mTB := mTB_of (sg23 (List.mem_of_getElem? (i := 25) rfl)) rfl
theorem lmX15_125 : Cond.methodLink RX15 125 yX15_isName ∈ mTB := mTB_of (sg23 (List.mem_of_getElem? (i := 26) rfl)) rfl
theorem lv_X15_isName_i : Cond.instanceMethod yX15_isName ∈ mTB := mTB_of (sg23 (List.mem_of_getElem? (i := 28) rfl)) rfl
theorem lo_X15_isName : Cond.code yX15_isName cX15_isName 5 (some .boolean) ∈ mTB := mTB_of (sg23 (List.mem_of_getElem? (i := 29) rfl)) rfl
theorem lmX15_104 : Cond.methodLink RX15 104 yX15_sortOf ∈ mTB := mTB_of (sg23 (List.mem_of_getElem? (i := 30) rfl)) rfl
theorem lv_X15_sortOf_i : Cond.instanceMethod yX15_sortOf ∈ mTB := mTB_of (sg23 (List.mem_of_getElem? (i := 32) rfl)) rfl
theorem lo_X15_sortOf : Cond.code yX15_sortOf cX15_sortOf 2 (some .int) ∈ mTB := mTB_of (sg23 (List.mem_of_getElem? (i := 33) rfl)) rfl
theorem lmX15_101 : Cond.methodLink RX15 101 yX15_length ∈ mTB := mTB_of (sg23 (List.mem_of_getElem? (i := 34) rfl)) rfl
theorem lv_X15_length_i : Cond.instanceMethod yX15_length ∈ mTB := mTB_of (sg23 (List.mem_of_getElem? (i := 36) rfl)) rfl
theorem lo_X15_length : Cond.code yX15_length cX15_length 2 (some .int) ∈ mTB := mTB_of (sg23 (List.mem_of_getElem? (i := 37) rfl)) rfl
theorem lmX15_110 : Cond.methodLink RX15 110 yX15_is ∈ mTB := mTB_of (sg23 (List.mem_of_getElem? (i := 38) rfl)) rfl
theorem lv_X15_is_i : Cond.instanceMethod yX15_is ∈ mTB := mTB_of (sg23 (List.mem_of_getElem? (i := 40) rfl)) rfl
theorem lo_X15_is : Cond.code yX15_is cX15_is 4 (some .boolean) ∈ mTB := mTB_of (sg23 (List.mem_of_getElem? (i := 41) rfl)) rfl
theorem lmX15_129 : Cond.methodLink RX15 129 yX15_readExpression ∈ mTB := mTB_of (sg23 (List.mem_of_getElem? (i := 42) rfl)) rfl
theorem lv_X15_readExpression_i : Cond.instanceMethod yX15_readExpression ∈ mTB := mTB_of (sg23 (List.mem_of_getElem? (i := 44) rfl)) rfl
theorem lo_X15_readExpression : Cond.code yX15_readExpression cX15_readExpression 6 (some .boolean) ∈ mTB := mTB_of (sg23 (List.mem_of_getElem? (i := 45) rfl)) rfl
theorem lmX15_117 : Cond.methodLink RX15 117 yX15_variable ∈ mTB := mTB_of (sg23 (List.mem_of_getElem? (i := 46) rfl)) rfl
theorem lv_X15_variable_i : Cond.instanceMethod yX15_variable ∈ mTB := mTB_of (sg23 (List.mem_of_getElem? (i := 48) rfl)) rfl
theorem lo_X15_variable : Cond.code yX15_variable cX15_variable 3 (some .int) ∈ mTB := mTB_of (sg23 (List.mem_of_getElem? (i := 49) rfl)) rfl
theorem lmX15_121 : Cond.methodLink RX15 121 yX15_isSign ∈ mTB := mTB_of (sg23 (List.mem_of_getElem? (i := 50) rfl)) rfl
theorem lv_X15_isSign_i : Cond.instanceMethod yX15_isSign ∈ mTB := mTB_of (sg23 (List.mem_of_getElem? (i := 52) rfl)) rfl
theorem lo_X15_isSign : Cond.code yX15_isSign cX15_isSign 3 (some .boolean) ∈ mTB := mTB_of (sg23 (List.mem_of_getElem? (i := 53) rfl)) rfl
theorem lmX15_136 : Cond.methodLink RX15 136 yX15_numberOf ∈ mTB := mTB_of (sg23 (List.mem_of_getElem? (i := 54) rfl)) rfl
theorem lv_X15_numberOf_i : Cond.instanceMethod yX15_numberOf ∈ mTB := mTB_of (sg23 (List.mem_of_getElem? (i := 56) rfl)) rfl
theorem lo_X15_numberOf : Cond.code yX15_numberOf cX15_numberOf 5 (some .int) ∈ mTB := mTB_of (sg23 (List.mem_of_getElem? (i := 57) rfl)) rfl
theorem lmX20_620 : Cond.methodLink RX20 620 yX15_rate ∈ mTB := mTB_of (sg23 (List.mem_of_getElem? (i := 58) rfl)) rfl
theorem lv_X15_rate_i : Cond.instanceMethod yX15_rate ∈ mTB := mTB_of (sg23 (List.mem_of_getElem? (i := 59) rfl)) rfl
theorem ls_X15_rate : Cond.selects yX15_rate.cls yX15_rate yX15_rate ∈ mTB := mTB_of (sg23 (List.mem_of_getElem? (i := 60) rfl)) rfl
theorem lo_X15_rate : Cond.code yX15_rate cX15_rate 4 (some .int) ∈ mTB := mTB_of (sg23 (List.mem_of_getElem? (i := 61) rfl)) rfl
theorem lcX15_167 : Cond.constantLong RX15 167 (-1000000 : Int64) ∈ mTB := mTB_of (sg23 (List.mem_of_getElem? (i := 62) rfl)) rfl
theorem lcX15_169 : Cond.constantLong RX15 169 (1000000 : Int64) ∈ mTB := mTB_of (sg23 (List.mem_of_getElem? (i := 63) rfl)) rfl
theorem lmX15_171 : Cond.methodLink RX15 171 yX15_isOut ∈ mTB := mTB_of (sg23 (List.mem_of_getElem? (i := 64) rfl)) rfl
theorem lv_X15_isOut_s : Cond.static yX15_isOut ∈ mTB := mTB_of (sg23 (List.mem_of_getElem? (i := 65) rfl)) rfl
theorem lo_X15_isOut : Cond.code yX15_isOut cX15_isOut 6 (some .boolean) ∈ mTB := mTB_of (sg23 (List.mem_of_getElem? (i := 66) rfl)) rfl
theorem lmX15_175 : Cond.methodLink RX15 175 yX15_noItem ∈ mTB := mTB_of (sg23 (List.mem_of_getElem? (i := 67) rfl)) rfl
theorem lv_X15_noItem_i : Cond.instanceMethod yX15_noItem ∈ mTB := mTB_of (sg23 (List.mem_of_getElem? (i := 69) rfl)) rfl
theorem lo_X15_noItem : Cond.code yX15_noItem cX15_noItem 2 (some .boolean) ∈ mTB := mTB_of (sg23 (List.mem_of_getElem? (i := 70) rfl)) rfl
theorem lmX15_178 : Cond.methodLink RX15 178 yX15_tellTrouble ∈ mTB := mTB_of (sg23 (List.mem_of_getElem? (i := 71) rfl)) rfl
theorem lv_X15_tellTrouble_i : Cond.instanceMethod yX15_tellTrouble ∈ mTB := mTB_of (sg23 (List.mem_of_getElem? (i := 73) rfl)) rfl
theorem lo_X15_tellTrouble : Cond.code yX15_tellTrouble cX15_tellTrouble 4 none ∈ mTB := mTB_of (sg23 (List.mem_of_getElem? (i := 74) rfl)) rfl
theorem lmX20_255 : Cond.methodLink RX20 255 yX15_shape ∈ mTB := mTB_of (sg23 (List.mem_of_getElem? (i := 75) rfl)) rfl
theorem lv_X15_shape_i : Cond.instanceMethod yX15_shape ∈ mTB := mTB_of (sg23 (List.mem_of_getElem? (i := 76) rfl)) rfl
theorem ls_X15_shape : Cond.selects yX15_shape.cls yX15_shape yX15_shape ∈ mTB := mTB_of (sg23 (List.mem_of_getElem? (i := 77) rfl)) rfl
theorem lo_X15_shape : Cond.code yX15_shape cX15_shape 8 (some .int) ∈ mTB := mTB_of (sg23 (List.mem_of_getElem? (i := 78) rfl)) rfl
theorem lcX15_182 : Cond.constantLong RX15 182 (3 : Int64) ∈ mTB := mTB_of (sg23 (List.mem_of_getElem? (i := 79) rfl)) rfl
theorem lcX15_184 : Cond.constantLong RX15 184 (-9999 : Int64) ∈ mTB := mTB_of (sg23 (List.mem_of_getElem? (i := 80) rfl)) rfl
theorem lcX15_186 : Cond.constantLong RX15 186 (9999 : Int64) ∈ mTB := mTB_of (sg23 (List.mem_of_getElem? (i := 81) rfl)) rfl
theorem lmX20_259 : Cond.methodLink RX20 259 yX15_into ∈ mTB := mTB_of (sg23 (List.mem_of_getElem? (i := 82) rfl)) rfl
theorem lv_X15_into_i : Cond.instanceMethod yX15_into ∈ mTB := mTB_of (sg23 (List.mem_of_getElem? (i := 83) rfl)) rfl
theorem ls_X15_into : Cond.selects yX15_into.cls yX15_into yX15_into ∈ mTB := mTB_of (sg23 (List.mem_of_getElem? (i := 84) rfl)) rfl
theorem lo_X15_into : Cond.code yX15_into cX15_into 4 (some .boolean) ∈ mTB := mTB_of (sg23 (List.mem_of_getElem? (i := 85) rfl)) rfl
theorem lmX15_195 : Cond.methodLink RX15 195 yX15_noShape ∈ mTB := mTB_of (sg23 (List.mem_of_getElem? (i := 86) rfl)) rfl
theorem lv_X15_noShape_i : Cond.instanceMethod yX15_noShape ∈ mTB := mTB_of (sg23 (List.mem_of_getElem? (i := 88) rfl)) rfl
theorem lo_X15_noShape : Cond.code yX15_noShape cX15_noShape 2 (some .boolean) ∈ mTB := mTB_of (sg23 (List.mem_of_getElem? (i := 89) rfl)) rfl
theorem lmX15_198 : Cond.methodLink RX15 198 yX15_noMonth ∈ mTB := mTB_of (sg23 (List.mem_of_getElem? (i := 90) rfl)) rfl
theorem lv_X15_noMonth_s : Cond.static yX15_noMonth ∈ mTB := mTB_of (sg23 (List.mem_of_getElem? (i := 91) rfl)) rfl
theorem lo_X15_noMonth : Cond.code yX15_noMonth cX15_noMonth 1 (some .boolean) ∈ mTB := mTB_of (sg23 (List.mem_of_getElem? (i := 92) rfl)) rfl
theorem lmX15_201 : Cond.methodLink RX15 201 yX15_add ∈ mTB := mTB_of (sg23 (List.mem_of_getElem? (i := 93) rfl)) rfl
theorem lv_X15_add_i : Cond.instanceMethod yX15_add ∈ mTB := mTB_of (sg23 (List.mem_of_getElem? (i := 95) rfl)) rfl
theorem lo_X15_add : Cond.code yX15_add cX15_add 7 none ∈ mTB := mTB_of (sg23 (List.mem_of_getElem? (i := 96) rfl)) rfl
theorem lmX15_191 : Cond.methodLink RX15 191 yX15_measure ∈ mTB := mTB_of (sg23 (List.mem_of_getElem? (i := 97) rfl)) rfl
theorem lv_X15_measure_i : Cond.instanceMethod yX15_measure ∈ mTB := mTB_of (sg23 (List.mem_of_getElem? (i := 99) rfl)) rfl
theorem lo_X15_measure : Cond.code yX15_measure cX15_measure 11 (some .long) ∈ mTB := mTB_of (sg23 (List.mem_of_getElem? (i := 100) rfl)) rfl
theorem lmX15_152 : Cond.methodLink RX15 152 yX15_join ∈ mTB := mTB_of (sg23 (List.mem_of_getElem? (i := 101) rfl)) rfl
theorem lv_X15_join_i : Cond.instanceMethod yX15_join ∈ mTB := mTB_of (sg23 (List.mem_of_getElem? (i := 103) rfl)) rfl
theorem lo_X15_join : Cond.code yX15_join cX15_join 6 none ∈ mTB := mTB_of (sg23 (List.mem_of_getElem? (i := 104) rfl)) rfl
theorem lmX15_156 : Cond.methodLink RX15 156 yX15_rank ∈ mTB := mTB_of (sg23 (List.mem_of_getElem? (i := 105) rfl)) rfl
theorem lv_X15_rank_s : Cond.static yX15_rank ∈ mTB := mTB_of (sg23 (List.mem_of_getElem? (i := 106) rfl)) rfl
theorem lo_X15_rank : Cond.code yX15_rank cX15_rank 1 (some .int) ∈ mTB := mTB_of (sg23 (List.mem_of_getElem? (i := 107) rfl)) rfl
theorem lcX15_159 : Cond.constantLong RX15 159 (2 : Int64) ∈ mTB := mTB_of (sg23 (List.mem_of_getElem? (i := 108) rfl)) rfl
theorem lmX20_245 : Cond.methodLink RX20 245 yX15_quantity ∈ mTB := mTB_of (sg23 (List.mem_of_getElem? (i := 109) rfl)) rfl
theorem lv_X15_quantity_i : Cond.instanceMethod yX15_quantity ∈ mTB := mTB_of (sg23 (List.mem_of_getElem? (i := 110) rfl)) rfl
theorem ls_X15_quantity : Cond.selects yX15_quantity.cls yX15_quantity yX15_quantity ∈ mTB := mTB_of (sg23 (List.mem_of_getElem? (i := 111) rfl)) rfl
theorem lo_X15_quantity : Cond.code yX15_quantity cX15_quantity 4 (some .long) ∈ mTB := mTB_of (sg23 (List.mem_of_getElem? (i := 112) rfl)) rfl
theorem lcX15_208 : Cond.constantLong RX15 208 (-1 : Int64) ∈ mTB := mTB_of (sg23 (List.mem_of_getElem? (i := 113) rfl)) rfl
theorem lmX15_210 : Cond.methodLink RX15 210 yX15_sum ∈ mTB := mTB_of (sg23 (List.mem_of_getElem? (i := 114) rfl)) rfl
theorem lv_X15_sum_i : Cond.instanceMethod yX15_sum ∈ mTB := mTB_of (sg23 (List.mem_of_getElem? (i := 116) rfl)) rfl
theorem lo_X15_sum : Cond.code yX15_sum cX15_sum 9 (some .long) ∈ mTB := mTB_of (sg23 (List.mem_of_getElem? (i := 117) rfl)) rfl
theorem lmX15_205 : Cond.methodLink RX15 205 yX15_isPlain ∈ mTB := mTB_of (sg23 (List.mem_of_getElem? (i := 118) rfl)) rfl
theorem lv_X15_isPlain_i : Cond.instanceMethod yX15_isPlain ∈ mTB := mTB_of (sg23 (List.mem_of_getElem? (i := 120) rfl)) rfl
theorem lo_X15_isPlain : Cond.code yX15_isPlain cX15_isPlain 2 (some .boolean) ∈ mTB := mTB_of (sg23 (List.mem_of_getElem? (i := 121) rfl)) rfl
theorem lmX20_287 : Cond.methodLink RX20 287 yX15_walked ∈ mTB := mTB_of (sg23 (List.mem_of_getElem? (i := 122) rfl)) rfl
theorem lv_X15_walked_i : Cond.instanceMethod yX15_walked ∈ mTB := mTB_of (sg23 (List.mem_of_getElem? (i := 123) rfl)) rfl
theorem ls_X15_walked : Cond.selects yX15_walked.cls yX15_walked yX15_walked ∈ mTB := mTB_of (sg23 (List.mem_of_getElem? (i := 124) rfl)) rfl
theorem lo_X15_walked : Cond.code yX15_walked cX15_walked 4 (some .long) ∈ mTB := mTB_of (sg23 (List.mem_of_getElem? (i := 125) rfl)) rfl
theorem lmX15_214 : Cond.methodLink RX15 214 yX15_quantity ∈ mTB := mTB_of (sg23 (List.mem_of_getElem? (i := 126) rfl)) rfl
theorem lmX20_623 : Cond.methodLink RX20 623 yX15_pay ∈ mTB := mTB_of (sg23 (List.mem_of_getElem? (i := 127) rfl)) rfl
theorem lv_X15_pay_i : Cond.instanceMethod yX15_pay ∈ mTB := mTB_of (sg23 (List.mem_of_getElem? (i := 128) rfl)) rfl
theorem ls_X15_pay : Cond.selects yX15_pay.cls yX15_pay yX15_pay ∈ mTB := mTB_of (sg23 (List.mem_of_getElem? (i := 129) rfl)) rfl
theorem lo_X15_pay : Cond.code yX15_pay cX15_pay 3 (some .long) ∈ mTB := mTB_of (sg23 (List.mem_of_getElem? (i := 130) rfl)) rfl
theorem lcX15_243 : Cond.constantLong RX15 243 (4 : Int64) ∈ mTB := mTB_of (sg23 (List.mem_of_getElem? (i := 131) rfl)) rfl
theorem lmX15_245 : Cond.methodLink RX15 245 yX15_told ∈ mTB := mTB_of (sg23 (List.mem_of_getElem? (i := 132) rfl)) rfl
theorem lv_X15_told_i : Cond.instanceMethod yX15_told ∈ mTB := mTB_of (sg23 (List.mem_of_getElem? (i := 134) rfl)) rfl
theorem lo_X15_told : Cond.code yX15_told cX15_told 6 (some .long) ∈ mTB := mTB_of (sg23 (List.mem_of_getElem? (i := 135) rfl)) rfl
theorem lmX15_224 : Cond.methodLink RX15 224 yX15_gross ∈ mTB := mTB_of (sg23 (List.mem_of_getElem? (i := 136) rfl)) rfl
theorem lv_X15_gross_i : Cond.instanceMethod yX15_gross ∈ mTB := mTB_of (sg23 (List.mem_of_getElem? (i := 138) rfl)) rfl
theorem lo_X15_gross : Cond.code yX15_gross cX15_gross 5 (some .long) ∈ mTB := mTB_of (sg23 (List.mem_of_getElem? (i := 139) rfl)) rfl
theorem lmX15_220 : Cond.methodLink RX15 220 yX15_rateIn ∈ mTB := mTB_of (sg23 (List.mem_of_getElem? (i := 140) rfl)) rfl
theorem lv_X15_rateIn_i : Cond.instanceMethod yX15_rateIn ∈ mTB := mTB_of (sg23 (List.mem_of_getElem? (i := 142) rfl)) rfl
theorem lo_X15_rateIn : Cond.code yX15_rateIn cX15_rateIn 6 (some .long) ∈ mTB := mTB_of (sg23 (List.mem_of_getElem? (i := 143) rfl)) rfl
theorem lmX15_231 : Cond.methodLink RX15 231 yX15_keptIn ∈ mTB := mTB_of (sg23 (List.mem_of_getElem? (i := 144) rfl)) rfl
theorem lv_X15_keptIn_i : Cond.instanceMethod yX15_keptIn ∈ mTB := mTB_of (sg23 (List.mem_of_getElem? (i := 146) rfl)) rfl
theorem lo_X15_keptIn : Cond.code yX15_keptIn cX15_keptIn 4 (some .long) ∈ mTB := mTB_of (sg23 (List.mem_of_getElem? (i := 147) rfl)) rfl
theorem lmX15_237 : Cond.methodLink RX15 237 yX15_keptTo ∈ mTB := mTB_of (sg23 (List.mem_of_getElem? (i := 148) rfl)) rfl
theorem lv_X15_keptTo_i : Cond.instanceMethod yX15_keptTo ∈ mTB := mTB_of (sg23 (List.mem_of_getElem? (i := 150) rfl)) rfl
theorem lo_X15_keptTo : Cond.code yX15_keptTo cX15_keptTo 5 (some .long) ∈ mTB := mTB_of (sg23 (List.mem_of_getElem? (i := 151) rfl)) rfl
theorem lmX15_240 : Cond.methodLink RX15 240 yX15_told2 ∈ mTB := mTB_of (sg23 (List.mem_of_getElem? (i := 152) rfl)) rfl
theorem lv_X15_told2_i : Cond.instanceMethod yX15_told2 ∈ mTB := mTB_of (sg23 (List.mem_of_getElem? (i := 154) rfl)) rfl
theorem lo_X15_told2 : Cond.code yX15_told2 cX15_told2 7 (some .long) ∈ mTB := mTB_of (sg23 (List.mem_of_getElem? (i := 155) rfl)) rfl
theorem lmX20_626 : Cond.methodLink RX20 626 yX15_twice ∈ mTB := mTB_of (sg23 (List.mem_of_getElem? (i := 156) rfl)) rfl
theorem lv_X15_twice_i : Cond.instanceMethod yX15_twice ∈ mTB := mTB_of (sg23 (List.mem_of_getElem? (i := 157) rfl)) rfl
theorem ls_X15_twice : Cond.selects yX15_twice.cls yX15_twice yX15_twice ∈ mTB := mTB_of (sg23 (List.mem_of_getElem? (i := 158) rfl)) rfl
theorem lo_X15_twice : Cond.code yX15_twice cX15_twice 6 (some .int) ∈ mTB := mTB_of (sg23 (List.mem_of_getElem? (i := 159) rfl)) rfl
theorem lmX20_629 : Cond.methodLink RX20 629 yX15_open ∈ mTB := mTB_of (sg23 (List.mem_of_getElem? (i := 160) rfl)) rfl
theorem lv_X15_open_i : Cond.instanceMethod yX15_open ∈ mTB := mTB_of (sg23 (List.mem_of_getElem? (i := 161) rfl)) rfl
theorem ls_X15_open : Cond.selects yX15_open.cls yX15_open yX15_open ∈ mTB := mTB_of (sg23 (List.mem_of_getElem? (i := 162) rfl)) rfl
theorem lo_X15_open : Cond.code yX15_open cX15_open 3 (some .int) ∈ mTB := mTB_of (sg23 (List.mem_of_getElem? (i := 163) rfl)) rfl
theorem lmX20_632 : Cond.methodLink RX20 632 yX15_change ∈ mTB := mTB_of (sg23 (List.mem_of_getElem? (i := 164) rfl)) rfl
theorem lv_X15_change_i : Cond.instanceMethod yX15_change ∈ mTB := mTB_of (sg23 (List.mem_of_getElem? (i := 165) rfl)) rfl
theorem ls_X15_change : Cond.selects yX15_change.cls yX15_change yX15_change ∈ mTB := mTB_of (sg23 (List.mem_of_getElem? (i := 166) rfl)) rfl
theorem lo_X15_change : Cond.code yX15_change cX15_change 7 (some .int) ∈ mTB := mTB_of (sg23 (List.mem_of_getElem? (i := 167) rfl)) rfl
theorem lcX15_248 : Cond.constantLong RX15 248 (1000 : Int64) ∈ mTB := mTB_of (sg23 (List.mem_of_getElem? (i := 168) rfl)) rfl
theorem lmX20_636 : Cond.methodLink RX20 636 yX15_index ∈ mTB := mTB_of (sg23 (List.mem_of_getElem? (i := 169) rfl)) rfl
theorem lv_X15_index_i : Cond.instanceMethod yX15_index ∈ mTB := mTB_of (sg23 (List.mem_of_getElem? (i := 170) rfl)) rfl
theorem ls_X15_index : Cond.selects yX15_index.cls yX15_index yX15_index ∈ mTB := mTB_of (sg23 (List.mem_of_getElem? (i := 171) rfl)) rfl
theorem lo_X15_index : Cond.code yX15_index cX15_index 6 (some .boolean) ∈ mTB := mTB_of (sg23 (List.mem_of_getElem? (i := 172) rfl)) rfl
theorem lmX20_639 : Cond.methodLink RX20 639 yX15_keep ∈ mTB := mTB_of (sg23 (List.mem_of_getElem? (i := 173) rfl)) rfl
theorem lv_X15_keep_i : Cond.instanceMethod yX15_keep ∈ mTB := mTB_of (sg23 (List.mem_of_getElem? (i := 174) rfl)) rfl
theorem ls_X15_keep : Cond.selects yX15_keep.cls yX15_keep yX15_keep ∈ mTB := mTB_of (sg23 (List.mem_of_getElem? (i := 175) rfl)) rfl
theorem lo_X15_keep : Cond.code yX15_keep cX15_keep 5 (some .boolean) ∈ mTB := mTB_of (sg23 (List.mem_of_getElem? (i := 176) rfl)) rfl
theorem lmX20_642 : Cond.methodLink RX20 642 yX15_kept ∈ mTB := mTB_of (sg23 (List.mem_of_getElem? (i := 177) rfl)) rfl
theorem lv_X15_kept_i : Cond.instanceMethod yX15_kept ∈ mTB := mTB_of (sg23 (List.mem_of_getElem? (i := 178) rfl)) rfl
theorem ls_X15_kept : Cond.selects yX15_kept.cls yX15_kept yX15_kept ∈ mTB := mTB_of (sg23 (List.mem_of_getElem? (i := 179) rfl)) rfl
theorem lo_X15_kept : Cond.code yX15_kept cX15_kept 4 (some .long) ∈ mTB := mTB_of (sg23 (List.mem_of_getElem? (i := 180) rfl)) rfl
theorem lmX20_644 : Cond.methodLink RX20 644 yX15_back ∈ mTB := mTB_of (sg23 (List.mem_of_getElem? (i := 181) rfl)) rfl
theorem lv_X15_back_i : Cond.instanceMethod yX15_back ∈ mTB := mTB_of (sg23 (List.mem_of_getElem? (i := 182) rfl)) rfl
theorem ls_X15_back : Cond.selects yX15_back.cls yX15_back yX15_back ∈ mTB := mTB_of (sg23 (List.mem_of_getElem? (i := 183) rfl)) rfl
theorem lo_X15_back : Cond.code yX15_back cX15_back 2 (some .long) ∈ mTB := mTB_of (sg23 (List.mem_of_getElem? (i := 184) rfl)) rfl
theorem lmX20_646 : Cond.methodLink RX20 646 yX15_penalty ∈ mTB := mTB_of (sg23 (List.mem_of_getElem? (i := 185) rfl)) rfl
theorem lv_X15_penalty_i : Cond.instanceMethod yX15_penalty ∈ mTB := mTB_of (sg23 (List.mem_of_getElem? (i := 186) rfl)) rfl
theorem ls_X15_penalty : Cond.selects yX15_penalty.cls yX15_penalty yX15_penalty ∈ mTB := mTB_of (sg23 (List.mem_of_getElem? (i := 187) rfl)) rfl
theorem lo_X15_penalty : Cond.code yX15_penalty cX15_penalty 5 (some .boolean) ∈ mTB := mTB_of (sg23 (List.mem_of_getElem? (i := 188) rfl)) rfl
theorem lmX20_650 : Cond.methodLink RX20 650 yX15_advance ∈ mTB := mTB_of (sg23 (List.mem_of_getElem? (i := 189) rfl)) rfl
theorem lv_X15_advance_i : Cond.instanceMethod yX15_advance ∈ mTB := mTB_of (sg23 (List.mem_of_getElem? (i := 190) rfl)) rfl
theorem ls_X15_advance : Cond.selects yX15_advance.cls yX15_advance yX15_advance ∈ mTB := mTB_of (sg23 (List.mem_of_getElem? (i := 191) rfl)) rfl
theorem lo_X15_advance : Cond.code yX15_advance cX15_advance 5 (some .long) ∈ mTB := mTB_of (sg23 (List.mem_of_getElem? (i := 192) rfl)) rfl
theorem lmX20_653 : Cond.methodLink RX20 653 yX15_firm ∈ mTB := mTB_of (sg23 (List.mem_of_getElem? (i := 193) rfl)) rfl
theorem lv_X15_firm_i : Cond.instanceMethod yX15_firm ∈ mTB := mTB_of (sg23 (List.mem_of_getElem? (i := 194) rfl)) rfl
theorem ls_X15_firm : Cond.selects yX15_firm.cls yX15_firm yX15_firm ∈ mTB := mTB_of (sg23 (List.mem_of_getElem? (i := 195) rfl)) rfl
theorem lo_X15_firm : Cond.code yX15_firm cX15_firm 4 (some .boolean) ∈ mTB := mTB_of (sg23 (List.mem_of_getElem? (i := 196) rfl)) rfl
theorem lmX20_656 : Cond.methodLink RX20 656 yX15_share ∈ mTB := mTB_of (sg23 (List.mem_of_getElem? (i := 197) rfl)) rfl
theorem lv_X15_share_i : Cond.instanceMethod yX15_share ∈ mTB := mTB_of (sg23 (List.mem_of_getElem? (i := 198) rfl)) rfl
theorem ls_X15_share : Cond.selects yX15_share.cls yX15_share yX15_share ∈ mTB := mTB_of (sg23 (List.mem_of_getElem? (i := 199) rfl)) rfl
theorem lo_X15_share : Cond.code yX15_share cX15_share 21 (some .long) ∈ mTB := mTB_of (sg23 (List.mem_of_getElem? (i := 200) rfl)) rfl
theorem lmX20_657 : Cond.methodLink RX20 657 yX15_correct ∈ mTB := mTB_of (sg23 (List.mem_of_getElem? (i := 201) rfl)) rfl
theorem lv_X15_correct_i : Cond.instanceMethod yX15_correct ∈ mTB := mTB_of (sg23 (List.mem_of_getElem? (i := 202) rfl)) rfl
theorem ls_X15_correct : Cond.selects yX15_correct.cls yX15_correct yX15_correct ∈ mTB := mTB_of (sg23 (List.mem_of_getElem? (i := 203) rfl)) rfl
theorem lo_X15_correct : Cond.code yX15_correct cX15_correct 10 (some .int) ∈ mTB := mTB_of (sg23 (List.mem_of_getElem? (i := 204) rfl)) rfl
theorem lmX15_250 : Cond.methodLink RX15 250 yX15_plainOf ∈ mTB := mTB_of (sg23 (List.mem_of_getElem? (i := 205) rfl)) rfl
theorem lv_X15_plainOf_i : Cond.instanceMethod yX15_plainOf ∈ mTB := mTB_of (sg23 (List.mem_of_getElem? (i := 207) rfl)) rfl
theorem lo_X15_plainOf : Cond.code yX15_plainOf cX15_plainOf 4 (some .int) ∈ mTB := mTB_of (sg23 (List.mem_of_getElem? (i := 208) rfl)) rfl
theorem lmX20_661 : Cond.methodLink RX20 661 yX15_final2 ∈ mTB := mTB_of (sg23 (List.mem_of_getElem? (i := 209) rfl)) rfl
theorem lv_X15_final2_i : Cond.instanceMethod yX15_final2 ∈ mTB := mTB_of (sg23 (List.mem_of_getElem? (i := 210) rfl)) rfl
theorem ls_X15_final2 : Cond.selects yX15_final2.cls yX15_final2 yX15_final2 ∈ mTB := mTB_of (sg23 (List.mem_of_getElem? (i := 211) rfl)) rfl
theorem lo_X15_final2 : Cond.code yX15_final2 cX15_final2 5 (some .long) ∈ mTB := mTB_of (sg23 (List.mem_of_getElem? (i := 212) rfl)) rfl
theorem lmX20_664 : Cond.methodLink RX20 664 yX15_dispute ∈ mTB := mTB_of (sg23 (List.mem_of_getElem? (i := 213) rfl)) rfl
theorem lv_X15_dispute_i : Cond.instanceMethod yX15_dispute ∈ mTB := mTB_of (sg23 (List.mem_of_getElem? (i := 214) rfl)) rfl
theorem ls_X15_dispute : Cond.selects yX15_dispute.cls yX15_dispute yX15_dispute ∈ mTB := mTB_of (sg23 (List.mem_of_getElem? (i := 215) rfl)) rfl
theorem lo_X15_dispute : Cond.code yX15_dispute cX15_dispute 5 (some .int) ∈ mTB := mTB_of (sg23 (List.mem_of_getElem? (i := 216) rfl)) rfl
theorem lmX20_667 : Cond.methodLink RX20 667 yX15_item ∈ mTB := mTB_of (sg23 (List.mem_of_getElem? (i := 217) rfl)) rfl
theorem lv_X15_item_i : Cond.instanceMethod yX15_item ∈ mTB := mTB_of (sg23 (List.mem_of_getElem? (i := 218) rfl)) rfl
theorem ls_X15_item : Cond.selects yX15_item.cls yX15_item yX15_item ∈ mTB := mTB_of (sg23 (List.mem_of_getElem? (i := 219) rfl)) rfl
theorem lo_X15_item : Cond.code yX15_item cX15_item 2 (some .int) ∈ mTB := mTB_of (sg23 (List.mem_of_getElem? (i := 220) rfl)) rfl
theorem lmX20_670 : Cond.methodLink RX20 670 yX15_write ∈ mTB := mTB_of (sg23 (List.mem_of_getElem? (i := 221) rfl)) rfl
theorem lv_X15_write_i : Cond.instanceMethod yX15_write ∈ mTB := mTB_of (sg23 (List.mem_of_getElem? (i := 222) rfl)) rfl
theorem ls_X15_write : Cond.selects yX15_write.cls yX15_write yX15_write ∈ mTB := mTB_of (sg23 (List.mem_of_getElem? (i := 223) rfl)) rfl
theorem lo_X15_write : Cond.code yX15_write cX15_write 10 (some .int) ∈ mTB := mTB_of (sg23 (List.mem_of_getElem? (i := 224) rfl)) rfl
theorem lmX15_256 : Cond.methodLink RX15 256 yX15_put ∈ mTB := mTB_of (sg23 (List.mem_of_getElem? (i := 225) rfl)) rfl
theorem lv_X15_put_i : Cond.instanceMethod yX15_put ∈ mTB := mTB_of (sg23 (List.mem_of_getElem? (i := 227) rfl)) rfl
theorem lo_X15_put : Cond.code yX15_put cX15_put 2 none ∈ mTB := mTB_of (sg23 (List.mem_of_getElem? (i := 228) rfl)) rfl
theorem lmX15_263 : Cond.methodLink RX15 263 yX15_putNumber ∈ mTB := mTB_of (sg23 (List.mem_of_getElem? (i := 229) rfl)) rfl
theorem lv_X15_putNumber_i : Cond.instanceMethod yX15_putNumber ∈ mTB := mTB_of (sg23 (List.mem_of_getElem? (i := 231) rfl)) rfl
theorem lo_X15_putNumber : Cond.code yX15_putNumber cX15_putNumber 10 none ∈ mTB := mTB_of (sg23 (List.mem_of_getElem? (i := 232) rfl)) rfl
theorem lcX15_259 : Cond.constantLong RX15 259 (10 : Int64) ∈ mTB := mTB_of (sg23 (List.mem_of_getElem? (i := 233) rfl)) rfl
theorem lcX15_261 : Cond.constantLong RX15 261 (48 : Int64) ∈ mTB := mTB_of (sg23 (List.mem_of_getElem? (i := 234) rfl)) rfl
theorem lmX20_137 : Cond.methodLink RX20 137 yX15_thrown ∈ mTB := mTB_of (sg23 (List.mem_of_getElem? (i := 235) rfl)) rfl
theorem lv_X15_thrown_i : Cond.instanceMethod yX15_thrown ∈ mTB := mTB_of (sg23 (List.mem_of_getElem? (i := 236) rfl)) rfl
theorem ls_X15_thrown : Cond.selects yX15_thrown.cls yX15_thrown yX15_thrown ∈ mTB := mTB_of (sg23 (List.mem_of_getElem? (i := 237) rfl)) rfl
theorem lo_X15_thrown : Cond.code yX15_thrown cX15_thrown 1 (some .int) ∈ mTB := mTB_of (sg23 (List.mem_of_getElem? (i := 238) rfl)) rfl
theorem lmL_37 : Cond.methodLink RL 37 yX20_logJoin ∈ mTB := mTB_of (sg23 (List.mem_of_getElem? (i := 239) rfl)) rfl
theorem lv_X20_logJoin_i : Cond.instanceMethod yX20_logJoin ∈ mTB := mTB_of (sg24 (List.mem_of_getElem? (i := 0) rfl)) rfl
theorem ls_X20_logJoin : Cond.selects yX20_logJoin.cls yX20_logJoin yX20_logJoin ∈ mTB := mTB_of (sg24 (List.mem_of_getElem? (i := 1) rfl)) rfl
theorem lo_X20_logJoin : Cond.code yX20_logJoin cX20_logJoin 4 (some .double) ∈ mTB := mTB_of (sg24 (List.mem_of_getElem? (i := 2) rfl)) rfl
theorem lmX20_138 : Cond.methodLink RX20 138 yX18_logJoin ∈ mTB := mTB_of (sg24 (List.mem_of_getElem? (i := 3) rfl)) rfl
theorem lv_X18_logJoin_i : Cond.instanceMethod yX18_logJoin ∈ mTB := mTB_of (sg24 (List.mem_of_getElem? (i := 4) rfl)) rfl
theorem ls_X18_logJoin : Cond.selects yX18_logJoin.cls yX18_logJoin yX18_logJoin ∈ mTB := mTB_of (sg24 (List.mem_of_getElem? (i := 5) rfl)) rfl
theorem lo_X18_logJoin : Cond.code yX18_logJoin cX18_logJoin 9 (some .double) ∈ mTB := mTB_of (sg24 (List.mem_of_getElem? (i := 6) rfl)) rfl
theorem lcX18_176 : Cond.constantDouble RX18 176 (13830554455654793216 : UInt64) ∈ mTB := mTB_of (sg24 (List.mem_of_getElem? (i := 7) rfl)) rfl
theorem lmL_42 : Cond.methodLink RL 42 yX20_crack ∈ mTB := mTB_of (sg24 (List.mem_of_getElem? (i := 8) rfl)) rfl
theorem lv_X20_crack_i : Cond.instanceMethod yX20_crack ∈ mTB := mTB_of (sg24 (List.mem_of_getElem? (i := 9) rfl)) rfl
theorem ls_X20_crack : Cond.selects yX20_crack.cls yX20_crack yX20_crack ∈ mTB := mTB_of (sg24 (List.mem_of_getElem? (i := 10) rfl)) rfl
theorem lo_X20_crack : Cond.code yX20_crack cX20_crack 6 (some .int) ∈ mTB := mTB_of (sg24 (List.mem_of_getElem? (i := 11) rfl)) rfl
theorem lmX20_142 : Cond.methodLink RX20 142 yX18_crack ∈ mTB := mTB_of (sg24 (List.mem_of_getElem? (i := 12) rfl)) rfl
theorem lv_X18_crack_i : Cond.instanceMethod yX18_crack ∈ mTB := mTB_of (sg24 (List.mem_of_getElem? (i := 13) rfl)) rfl
theorem ls_X18_crack : Cond.selects yX18_crack.cls yX18_crack yX18_crack ∈ mTB := mTB_of (sg24 (List.mem_of_getElem? (i := 14) rfl)) rfl
theorem lo_X18_crack : Cond.code yX18_crack cX18_crack 12 (some .int) ∈ mTB := mTB_of (sg24 (List.mem_of_getElem? (i := 15) rfl)) rfl
theorem lcX18_178 : Cond.constantDouble RX18 178 (4696837146684686336 : UInt64) ∈ mTB := mTB_of (sg24 (List.mem_of_getElem? (i := 16) rfl)) rfl
theorem lmX18_189 : Cond.methodLink RX18 189 yX18_rate ∈ mTB := mTB_of (sg24 (List.mem_of_getElem? (i := 17) rfl)) rfl
theorem lv_X18_rate_i : Cond.instanceMethod yX18_rate ∈ mTB := mTB_of (sg24 (List.mem_of_getElem? (i := 19) rfl)) rfl
theorem lo_X18_rate : Cond.code yX18_rate cX18_rate 6 (some .double) ∈ mTB := mTB_of (sg24 (List.mem_of_getElem? (i := 20) rfl)) rfl
theorem lcX18_180 : Cond.constantDouble RX18 180 (4602678819172646912 : UInt64) ∈ mTB := mTB_of (sg24 (List.mem_of_getElem? (i := 21) rfl)) rfl
theorem lmX18_193 : Cond.methodLink RX18 193 yX18_grown ∈ mTB := mTB_of (sg24 (List.mem_of_getElem? (i := 22) rfl)) rfl
theorem lv_X18_grown_s : Cond.static yX18_grown ∈ mTB := mTB_of (sg24 (List.mem_of_getElem? (i := 23) rfl)) rfl
theorem lo_X18_grown : Cond.code yX18_grown cX18_grown 10 (some .double) ∈ mTB := mTB_of (sg24 (List.mem_of_getElem? (i := 24) rfl)) rfl
theorem lmL_47 : Cond.methodLink RL 47 yX20_crackAt ∈ mTB := mTB_of (sg24 (List.mem_of_getElem? (i := 25) rfl)) rfl
theorem lv_X20_crackAt_i : Cond.instanceMethod yX20_crackAt ∈ mTB := mTB_of (sg24 (List.mem_of_getElem? (i := 26) rfl)) rfl
theorem ls_X20_crackAt : Cond.selects yX20_crackAt.cls yX20_crackAt yX20_crackAt ∈ mTB := mTB_of (sg24 (List.mem_of_getElem? (i := 27) rfl)) rfl
theorem lo_X20_crackAt : Cond.code yX20_crackAt cX20_crackAt 2 (some .double) ∈ mTB := mTB_of (sg24 (List.mem_of_getElem? (i := 28) rfl)) rfl
theorem lmX20_146 : Cond.methodLink RX20 146 yX18_crackAt ∈ mTB := mTB_of (sg24 (List.mem_of_getElem? (i := 29) rfl)) rfl
theorem lv_X18_crackAt_i : Cond.instanceMethod yX18_crackAt ∈ mTB := mTB_of (sg24 (List.mem_of_getElem? (i := 30) rfl)) rfl
theorem ls_X18_crackAt : Cond.selects yX18_crackAt.cls yX18_crackAt yX18_crackAt ∈ mTB := mTB_of (sg24 (List.mem_of_getElem? (i := 31) rfl)) rfl
theorem lo_X18_crackAt : Cond.code yX18_crackAt cX18_crackAt 7 (some .double) ∈ mTB := mTB_of (sg24 (List.mem_of_getElem? (i := 32) rfl)) rfl
theorem lmL_52 : Cond.methodLink RL 52 yX20_earth ∈ mTB := mTB_of (sg24 (List.mem_of_getElem? (i := 33) rfl)) rfl
theorem lv_X20_earth_i : Cond.instanceMethod yX20_earth ∈ mTB := mTB_of (sg24 (List.mem_of_getElem? (i := 34) rfl)) rfl
theorem ls_X20_earth : Cond.selects yX20_earth.cls yX20_earth yX20_earth ∈ mTB := mTB_of (sg24 (List.mem_of_getElem? (i := 35) rfl)) rfl
theorem lo_X20_earth : Cond.code yX20_earth cX20_earth 19 (some .int) ∈ mTB := mTB_of (sg24 (List.mem_of_getElem? (i := 36) rfl)) rfl
theorem lmX20_157 : Cond.methodLink RX20 157 yX20_readWay ∈ mTB := mTB_of (sg24 (List.mem_of_getElem? (i := 37) rfl)) rfl
theorem lv_X20_readWay_i : Cond.instanceMethod yX20_readWay ∈ mTB := mTB_of (sg24 (List.mem_of_getElem? (i := 39) rfl)) rfl
theorem lo_X20_readWay : Cond.code yX20_readWay cX20_readWay 2 (some .boolean) ∈ mTB := mTB_of (sg24 (List.mem_of_getElem? (i := 40) rfl)) rfl
theorem lmX20_161 : Cond.methodLink RX20 161 yX20_isBridged ∈ mTB := mTB_of (sg24 (List.mem_of_getElem? (i := 41) rfl)) rfl
theorem lv_X20_isBridged_i : Cond.instanceMethod yX20_isBridged ∈ mTB := mTB_of (sg24 (List.mem_of_getElem? (i := 43) rfl)) rfl
theorem lo_X20_isBridged : Cond.code yX20_isBridged cX20_isBridged 2 (some .boolean) ∈ mTB := mTB_of (sg24 (List.mem_of_getElem? (i := 44) rfl)) rfl
theorem lcX20_165 : Cond.constantLong RX20 165 (10 : Int64) ∈ mTB := mTB_of (sg24 (List.mem_of_getElem? (i := 45) rfl)) rfl
theorem lcX20_171 : Cond.constantLong RX20 171 (-10 : Int64) ∈ mTB := mTB_of (sg24 (List.mem_of_getElem? (i := 46) rfl)) rfl
theorem lmL_56 : Cond.methodLink RL 56 yX20_bridge ∈ mTB := mTB_of (sg24 (List.mem_of_getElem? (i := 47) rfl)) rfl
theorem lv_X20_bridge_i : Cond.instanceMethod yX20_bridge ∈ mTB := mTB_of (sg24 (List.mem_of_getElem? (i := 48) rfl)) rfl
theorem ls_X20_bridge : Cond.selects yX20_bridge.cls yX20_bridge yX20_bridge ∈ mTB := mTB_of (sg24 (List.mem_of_getElem? (i := 49) rfl)) rfl
theorem lo_X20_bridge : Cond.code yX20_bridge cX20_bridge 9 (some .int) ∈ mTB := mTB_of (sg24 (List.mem_of_getElem? (i := 50) rfl)) rfl
theorem lmX20_186 : Cond.methodLink RX20 186 yX20_writeNumber ∈ mTB := mTB_of (sg24 (List.mem_of_getElem? (i := 51) rfl)) rfl
theorem lv_X20_writeNumber_i : Cond.instanceMethod yX20_writeNumber ∈ mTB := mTB_of (sg24 (List.mem_of_getElem? (i := 53) rfl)) rfl
theorem lo_X20_writeNumber : Cond.code yX20_writeNumber cX20_writeNumber 3 none ∈ mTB := mTB_of (sg24 (List.mem_of_getElem? (i := 54) rfl)) rfl
theorem lmL_61 : Cond.methodLink RL 61 yX20_rowOf ∈ mTB := mTB_of (sg24 (List.mem_of_getElem? (i := 55) rfl)) rfl
theorem lv_X20_rowOf_i : Cond.instanceMethod yX20_rowOf ∈ mTB := mTB_of (sg24 (List.mem_of_getElem? (i := 56) rfl)) rfl
theorem ls_X20_rowOf : Cond.selects yX20_rowOf.cls yX20_rowOf yX20_rowOf ∈ mTB := mTB_of (sg24 (List.mem_of_getElem? (i := 57) rfl)) rfl
theorem lo_X20_rowOf : Cond.code yX20_rowOf cX20_rowOf 16 (some .int) ∈ mTB := mTB_of (sg24 (List.mem_of_getElem? (i := 58) rfl)) rfl
theorem lcX20_196 : Cond.constantLong RX20 196 (-2 : Int64) ∈ mTB := mTB_of (sg24 (List.mem_of_getElem? (i := 59) rfl)) rfl
theorem lcX20_198 : Cond.constantLong RX20 198 (999999999999999 : Int64) ∈ mTB := mTB_of (sg24 (List.mem_of_getElem? (i := 60) rfl)) rfl
theorem lcX20_200 : Cond.constantLong RX20 200 (1000 : Int64) ∈ mTB := mTB_of (sg24 (List.mem_of_getElem? (i := 61) rfl)) rfl
theorem lcX20_202 : Cond.constantLong RX20 202 (1000000 : Int64) ∈ mTB := mTB_of (sg24 (List.mem_of_getElem? (i := 62) rfl)) rfl
theorem lmL_65 : Cond.methodLink RL 65 yX20_pass ∈ mTB := mTB_of (sg24 (List.mem_of_getElem? (i := 63) rfl)) rfl
theorem lv_X20_pass_i : Cond.instanceMethod yX20_pass ∈ mTB := mTB_of (sg24 (List.mem_of_getElem? (i := 64) rfl)) rfl
theorem ls_X20_pass : Cond.selects yX20_pass.cls yX20_pass yX20_pass ∈ mTB := mTB_of (sg24 (List.mem_of_getElem? (i := 65) rfl)) rfl
theorem lo_X20_pass : Cond.code yX20_pass cX20_pass 7 (some .int) ∈ mTB := mTB_of (sg24 (List.mem_of_getElem? (i := 66) rfl)) rfl
theorem lcX20_220 : Cond.constantLong RX20 220 (-1 : Int64) ∈ mTB := mTB_of (sg24 (List.mem_of_getElem? (i := 67) rfl)) rfl
theorem lmL_69 : Cond.methodLink RL 69 yX20_drive ∈ mTB := mTB_of (sg24 (List.mem_of_getElem? (i := 68) rfl)) rfl
theorem lv_X20_drive_i : Cond.instanceMethod yX20_drive ∈ mTB := mTB_of (sg24 (List.mem_of_getElem? (i := 69) rfl)) rfl
theorem ls_X20_drive : Cond.selects yX20_drive.cls yX20_drive yX20_drive ∈ mTB := mTB_of (sg24 (List.mem_of_getElem? (i := 70) rfl)) rfl
theorem lo_X20_drive : Cond.code yX20_drive cX20_drive 6 (some .int) ∈ mTB := mTB_of (sg24 (List.mem_of_getElem? (i := 71) rfl)) rfl
theorem lmL_73 : Cond.methodLink RL 73 yX20_bill ∈ mTB := mTB_of (sg24 (List.mem_of_getElem? (i := 72) rfl)) rfl
theorem lv_X20_bill_i : Cond.instanceMethod yX20_bill ∈ mTB := mTB_of (sg24 (List.mem_of_getElem? (i := 73) rfl)) rfl
theorem ls_X20_bill : Cond.selects yX20_bill.cls yX20_bill yX20_bill ∈ mTB := mTB_of (sg24 (List.mem_of_getElem? (i := 74) rfl)) rfl
theorem lo_X20_bill : Cond.code yX20_bill cX20_bill 10 (some .int) ∈ mTB := mTB_of (sg24 (List.mem_of_getElem? (i := 75) rfl)) rfl
theorem lcX20_251 : Cond.constantLong RX20 251 (10000000 : Int64) ∈ mTB := mTB_of (sg24 (List.mem_of_getElem? (i := 76) rfl)) rfl
theorem lcX20_253 : Cond.constantLong RX20 253 (9999 : Int64) ∈ mTB := mTB_of (sg24 (List.mem_of_getElem? (i := 77) rfl)) rfl
theorem lmL_77 : Cond.methodLink RL 77 yX20_whole ∈ mTB := mTB_of (sg24 (List.mem_of_getElem? (i := 78) rfl)) rfl
theorem lv_X20_whole_i : Cond.instanceMethod yX20_whole ∈ mTB := mTB_of (sg24 (List.mem_of_getElem? (i := 79) rfl)) rfl
theorem ls_X20_whole : Cond.selects yX20_whole.cls yX20_whole yX20_whole ∈ mTB := mTB_of (sg24 (List.mem_of_getElem? (i := 80) rfl)) rfl
theorem lo_X20_whole : Cond.code yX20_whole cX20_whole 6 (some .int) ∈ mTB := mTB_of (sg24 (List.mem_of_getElem? (i := 81) rfl)) rfl
theorem lcL_31 : Cond.constantDouble RL 31 (4593671619917905920 : UInt64) ∈ mTB := mTB_of (sg24 (List.mem_of_getElem? (i := 82) rfl)) rfl
theorem ls_X9_forgetRun : Cond.selects yX9_forgetRun.cls yX9_forgetRun yX9_forgetRun ∈ mTB := mTB_priv (i := 0) (n := 22) rfl
theorem ls_X7_clearAll : Cond.selects yX7_clearAll.cls yX7_clearAll yX7_clearAll ∈ mTB := mTB_priv (i := 1) (n := 22) rfl
theorem ls_X7_restart : Cond.selects yX7_restart.cls yX7_restart yX7_restart ∈ mTB := mTB_priv (i := 2) (n := 22) rfl
theorem ls_X7_forgetProof : Cond.selects yX7_forgetProof.cls yX7_forgetProof yX7_forgetProof ∈ mTB := mTB_priv (i := 3) (n := 22) rfl
theorem ls_X7_setFirst : Cond.selects yX7_setFirst.cls yX7_setFirst yX7_setFirst ∈ mTB := mTB_priv (i := 4) (n := 22) rfl
theorem ls_X8_rate : Cond.selects yX8_rate.cls yX8_rate yX8_rate ∈ mTB := mTB_priv (i := 5) (n := 22) rfl
theorem ls_X8_turnRange : Cond.selects yX8_turnRange.cls yX8_turnRange yX8_turnRange ∈ mTB := mTB_priv (i := 6) (n := 22) rfl
theorem ls_X8_halfRange : Cond.selects yX8_halfRange.cls yX8_halfRange yX8_halfRange ∈ mTB := mTB_priv (i := 7) (n := 22) rfl
theorem ls_X10_hand : Cond.selects yX10_hand.cls yX10_hand yX10_hand ∈ mTB := mTB_priv (i := 8) (n := 19) rfl
theorem ls_X4_cuts : Cond.selects yX4_cuts.cls yX4_cuts yX4_cuts ∈ mTB := mTB_priv (i := 9) (n := 20) rfl
theorem ls_X11_collectNumber : Cond.selects yX11_collectNumber.cls yX11_collectNumber yX11_collectNumber ∈ mTB := mTB_priv (i := 10) (n := 10) rfl
theorem ls_X0_wrongSign : Cond.selects yX0_wrongSign.cls yX0_wrongSign yX0_wrongSign ∈ mTB := mTB_priv (i := 11) (n := 22) rfl
theorem ls_X0_signAt : Cond.selects yX0_signAt.cls yX0_signAt yX0_signAt ∈ mTB := mTB_priv (i := 12) (n := 22) rfl
theorem ls_X0_numberAt : Cond.selects yX0_numberAt.cls yX0_numberAt yX0_numberAt ∈ mTB := mTB_priv (i := 13) (n := 22) rfl
theorem ls_X0_take : Cond.selects yX0_take.cls yX0_take yX0_take ∈ mTB := mTB_priv (i := 14) (n := 22) rfl
theorem ls_X0_takeNode : Cond.selects yX0_takeNode.cls yX0_takeNode yX0_takeNode ∈ mTB := mTB_priv (i := 15) (n := 22) rfl
theorem ls_X0_prepare : Cond.selects yX0_prepare.cls yX0_prepare yX0_prepare ∈ mTB := mTB_priv (i := 16) (n := 22) rfl
theorem ls_X0_gatherForces : Cond.selects yX0_gatherForces.cls yX0_gatherForces yX0_gatherForces ∈ mTB := mTB_priv (i := 17) (n := 22) rfl
theorem ls_X0_endForce : Cond.selects yX0_endForce.cls yX0_endForce yX0_endForce ∈ mTB := mTB_priv (i := 18) (n := 22) rfl
theorem ls_X0_shearShare : Cond.selects yX0_shearShare.cls yX0_shearShare yX0_shearShare ∈ mTB := mTB_priv (i := 19) (n := 22) rfl
theorem ls_X0_hasStiffEnd : Cond.selects yX0_hasStiffEnd.cls yX0_hasStiffEnd yX0_hasStiffEnd ∈ mTB := mTB_priv (i := 20) (n := 22) rfl
theorem ls_X0_cell : Cond.selects yX0_cell.cls yX0_cell yX0_cell ∈ mTB := mTB_priv (i := 21) (n := 22) rfl
theorem ls_X0_invert : Cond.selects yX0_invert.cls yX0_invert yX0_invert ∈ mTB := mTB_priv (i := 22) (n := 22) rfl
theorem ls_X0_eliminate : Cond.selects yX0_eliminate.cls yX0_eliminate yX0_eliminate ∈ mTB := mTB_priv (i := 23) (n := 22) rfl
theorem ls_X1_addRow : Cond.selects yX1_addRow.cls yX1_addRow yX1_addRow ∈ mTB := mTB_priv (i := 25) (n := 3) rfl
theorem ls_X1_trim : Cond.selects yX1_trim.cls yX1_trim yX1_trim ∈ mTB := mTB_priv (i := 26) (n := 3) rfl
theorem ls_X1_shifted : Cond.selects yX1_shifted.cls yX1_shifted yX1_shifted ∈ mTB := mTB_priv (i := 27) (n := 3) rfl
theorem ls_X1_quotientLimb : Cond.selects yX1_quotientLimb.cls yX1_quotientLimb yX1_quotientLimb ∈ mTB := mTB_priv (i := 28) (n := 3) rfl
theorem ls_X0_isTold : Cond.selects yX0_isTold.cls yX0_isTold yX0_isTold ∈ mTB := mTB_priv (i := 29) (n := 22) rfl
theorem ls_X0_heldInHeight : Cond.selects yX0_heldInHeight.cls yX0_heldInHeight yX0_heldInHeight ∈ mTB := mTB_priv (i := 30) (n := 22) rfl
theorem ls_X0_value : Cond.selects yX0_value.cls yX0_value yX0_value ∈ mTB := mTB_priv (i := 31) (n := 22) rfl
theorem ls_X0_setLoad : Cond.selects yX0_setLoad.cls yX0_setLoad yX0_setLoad ∈ mTB := mTB_priv (i := 32) (n := 22) rfl
theorem ls_X0_fixedForce : Cond.selects yX0_fixedForce.cls yX0_fixedForce yX0_fixedForce ∈ mTB := mTB_priv (i := 33) (n := 22) rfl
theorem ls_X0_setCounts : Cond.selects yX0_setCounts.cls yX0_setCounts yX0_setCounts ∈ mTB := mTB_priv (i := 34) (n := 22) rfl
theorem ls_X0_addShear : Cond.selects yX0_addShear.cls yX0_addShear yX0_addShear ∈ mTB := mTB_priv (i := 35) (n := 22) rfl
theorem ls_X0_addMoment : Cond.selects yX0_addMoment.cls yX0_addMoment yX0_addMoment ∈ mTB := mTB_priv (i := 36) (n := 22) rfl
theorem ls_X0_lowerPart : Cond.selects yX0_lowerPart.cls yX0_lowerPart yX0_lowerPart ∈ mTB := mTB_priv (i := 37) (n := 22) rfl
theorem ls_X9_isTrain : Cond.selects yX9_isTrain.cls yX9_isTrain yX9_isTrain ∈ mTB := mTB_priv (i := 38) (n := 22) rfl
theorem ls_X9_listPlaces : Cond.selects yX9_listPlaces.cls yX9_listPlaces yX9_listPlaces ∈ mTB := mTB_priv (i := 39) (n := 22) rfl
theorem ls_X9_listOnce : Cond.selects yX9_listOnce.cls yX9_listOnce yX9_listOnce ∈ mTB := mTB_priv (i := 40) (n := 22) rfl
theorem ls_X9_tellEffect : Cond.selects yX9_tellEffect.cls yX9_tellEffect yX9_tellEffect ∈ mTB := mTB_priv (i := 41) (n := 22) rfl
theorem ls_X9_prepare : Cond.selects yX9_prepare.cls yX9_prepare yX9_prepare ∈ mTB := mTB_priv (i := 42) (n := 22) rfl
theorem ls_X9_divisor : Cond.selects yX9_divisor.cls yX9_divisor yX9_divisor ∈ mTB := mTB_priv (i := 43) (n := 22) rfl
theorem ls_X9_pieceDivisor : Cond.selects yX9_pieceDivisor.cls yX9_pieceDivisor yX9_pieceDivisor ∈ mTB := mTB_priv (i := 44) (n := 22) rfl
theorem ls_X9_effect : Cond.selects yX9_effect.cls yX9_effect yX9_effect ∈ mTB := mTB_priv (i := 45) (n := 22) rfl
theorem ls_X9_effectNumber : Cond.selects yX9_effectNumber.cls yX9_effectNumber yX9_effectNumber ∈ mTB := mTB_priv (i := 46) (n := 22) rfl
theorem ls_X9_addEffect : Cond.selects yX9_addEffect.cls yX9_addEffect yX9_addEffect ∈ mTB := mTB_priv (i := 47) (n := 22) rfl
theorem ls_X7_eventOf : Cond.selects yX7_eventOf.cls yX7_eventOf yX7_eventOf ∈ mTB := mTB_priv (i := 48) (n := 22) rfl
theorem ls_X7_goOn : Cond.selects yX7_goOn.cls yX7_goOn yX7_goOn ∈ mTB := mTB_priv (i := 49) (n := 22) rfl
theorem ls_X7_shownBy : Cond.selects yX7_shownBy.cls yX7_shownBy yX7_shownBy ∈ mTB := mTB_priv (i := 50) (n := 22) rfl
theorem ls_X7_bitsOf : Cond.selects yX7_bitsOf.cls yX7_bitsOf yX7_bitsOf ∈ mTB := mTB_priv (i := 51) (n := 22) rfl
theorem ls_X7_beginPhase : Cond.selects yX7_beginPhase.cls yX7_beginPhase yX7_beginPhase ∈ mTB := mTB_priv (i := 52) (n := 22) rfl
theorem ls_X7_endsNow : Cond.selects yX7_endsNow.cls yX7_endsNow yX7_endsNow ∈ mTB := mTB_priv (i := 53) (n := 22) rfl
theorem ls_X7_endPhase : Cond.selects yX7_endPhase.cls yX7_endPhase yX7_endPhase ∈ mTB := mTB_priv (i := 54) (n := 22) rfl
theorem ls_X7_faultOf : Cond.selects yX7_faultOf.cls yX7_faultOf yX7_faultOf ∈ mTB := mTB_priv (i := 55) (n := 22) rfl
theorem ls_X11_tellCells : Cond.selects yX11_tellCells.cls yX11_tellCells yX11_tellCells ∈ mTB := mTB_priv (i := 56) (n := 10) rfl
theorem ls_X2_set : Cond.selects yX2_set.cls yX2_set yX2_set ∈ mTB := mTB_priv (i := 57) (n := 22) rfl
theorem ls_X2_isToCome : Cond.selects yX2_isToCome.cls yX2_isToCome yX2_isToCome ∈ mTB := mTB_priv (i := 58) (n := 22) rfl
theorem ls_X2_findSettings : Cond.selects yX2_findSettings.cls yX2_findSettings yX2_findSettings ∈ mTB := mTB_priv (i := 59) (n := 22) rfl
theorem ls_X2_sends : Cond.selects yX2_sends.cls yX2_sends yX2_sends ∈ mTB := mTB_priv (i := 60) (n := 22) rfl
theorem ls_X2_holdCells : Cond.selects yX2_holdCells.cls yX2_holdCells yX2_holdCells ∈ mTB := mTB_priv (i := 61) (n := 22) rfl
theorem ls_X2_shareOut : Cond.selects yX2_shareOut.cls yX2_shareOut yX2_shareOut ∈ mTB := mTB_priv (i := 62) (n := 22) rfl
theorem ls_X2_cellOf : Cond.selects yX2_cellOf.cls yX2_cellOf yX2_cellOf ∈ mTB := mTB_priv (i := 63) (n := 22) rfl
theorem ls_X2_moveInto : Cond.selects yX2_moveInto.cls yX2_moveInto yX2_moveInto ∈ mTB := mTB_priv (i := 64) (n := 22) rfl
theorem ls_X2_finish : Cond.selects yX2_finish.cls yX2_finish yX2_finish ∈ mTB := mTB_priv (i := 65) (n := 22) rfl
theorem ls_X4_metreOf : Cond.selects yX4_metreOf.cls yX4_metreOf yX4_metreOf ∈ mTB := mTB_priv (i := 66) (n := 20) rfl
theorem ls_X3_isShape : Cond.selects yX3_isShape.cls yX3_isShape yX3_isShape ∈ mTB := mTB_priv (i := 67) (n := 23) rfl
theorem ls_X3_addEntry : Cond.selects yX3_addEntry.cls yX3_addEntry yX3_addEntry ∈ mTB := mTB_priv (i := 68) (n := 23) rfl
theorem ls_X3_measure : Cond.selects yX3_measure.cls yX3_measure yX3_measure ∈ mTB := mTB_priv (i := 69) (n := 23) rfl
theorem ls_X3_joined : Cond.selects yX3_joined.cls yX3_joined yX3_joined ∈ mTB := mTB_priv (i := 70) (n := 23) rfl
theorem ls_X3_tellOpen : Cond.selects yX3_tellOpen.cls yX3_tellOpen yX3_tellOpen ∈ mTB := mTB_priv (i := 71) (n := 23) rfl
theorem ls_X4_serves : Cond.selects yX4_serves.cls yX4_serves yX4_serves ∈ mTB := mTB_priv (i := 72) (n := 20) rfl
theorem ls_X4_gives : Cond.selects yX4_gives.cls yX4_gives yX4_gives ∈ mTB := mTB_priv (i := 73) (n := 20) rfl
theorem ls_X4_checkWeeks : Cond.selects yX4_checkWeeks.cls yX4_checkWeeks yX4_checkWeeks ∈ mTB := mTB_priv (i := 74) (n := 20) rfl
theorem ls_X0_asked : Cond.selects yX0_asked.cls yX0_asked yX0_asked ∈ mTB := mTB_priv (i := 75) (n := 22) rfl
theorem ls_X9_worstNumber : Cond.selects yX9_worstNumber.cls yX9_worstNumber yX9_worstNumber ∈ mTB := mTB_priv (i := 76) (n := 22) rfl
theorem ls_X7_ring : Cond.selects yX7_ring.cls yX7_ring yX7_ring ∈ mTB := mTB_priv (i := 77) (n := 22) rfl
theorem ls_X7_longest : Cond.selects yX7_longest.cls yX7_longest yX7_longest ∈ mTB := mTB_priv (i := 78) (n := 22) rfl
theorem ls_X7_waitsIn : Cond.selects yX7_waitsIn.cls yX7_waitsIn yX7_waitsIn ∈ mTB := mTB_priv (i := 79) (n := 22) rfl
theorem ls_X7_longestBehind : Cond.selects yX7_longestBehind.cls yX7_longestBehind yX7_longestBehind ∈ mTB := mTB_priv (i := 80) (n := 22) rfl
theorem ls_X3_quantity : Cond.selects yX3_quantity.cls yX3_quantity yX3_quantity ∈ mTB := mTB_priv (i := 81) (n := 23) rfl
theorem ls_X3_walked : Cond.selects yX3_walked.cls yX3_walked yX3_walked ∈ mTB := mTB_priv (i := 82) (n := 23) rfl
theorem ls_X3_isOf : Cond.selects yX3_isOf.cls yX3_isOf yX3_isOf ∈ mTB := mTB_priv (i := 83) (n := 23) rfl
theorem ls_X10_setCell : Cond.selects yX10_setCell.cls yX10_setCell yX10_setCell ∈ mTB := mTB_priv (i := 84) (n := 19) rfl
theorem ls_X10_setBarred : Cond.selects yX10_setBarred.cls yX10_setBarred yX10_setBarred ∈ mTB := mTB_priv (i := 85) (n := 19) rfl
theorem ls_X10_setMoves : Cond.selects yX10_setMoves.cls yX10_setMoves yX10_setMoves ∈ mTB := mTB_priv (i := 86) (n := 19) rfl
theorem ls_X10_setValue : Cond.selects yX10_setValue.cls yX10_setValue yX10_setValue ∈ mTB := mTB_priv (i := 87) (n := 19) rfl
theorem ls_X10_setWeight : Cond.selects yX10_setWeight.cls yX10_setWeight yX10_setWeight ∈ mTB := mTB_priv (i := 88) (n := 19) rfl
theorem ls_X10_find : Cond.selects yX10_find.cls yX10_find yX10_find ∈ mTB := mTB_priv (i := 89) (n := 19) rfl
theorem ls_X10_searchWay : Cond.selects yX10_searchWay.cls yX10_searchWay yX10_searchWay ∈ mTB := mTB_priv (i := 90) (n := 19) rfl
theorem ls_X6_makeRoom : Cond.selects yX6_makeRoom.cls yX6_makeRoom yX6_makeRoom ∈ mTB := mTB_priv (i := 91) (n := 11) rfl
theorem ls_X10_aimValue : Cond.selects yX10_aimValue.cls yX10_aimValue yX10_aimValue ∈ mTB := mTB_priv (i := 92) (n := 19) rfl
theorem ls_X6_label : Cond.selects yX6_label.cls yX6_label yX6_label ∈ mTB := mTB_priv (i := 93) (n := 11) rfl
theorem ls_X6_offer : Cond.selects yX6_offer.cls yX6_offer yX6_offer ∈ mTB := mTB_priv (i := 94) (n := 11) rfl
theorem ls_X6_before : Cond.selects yX6_before.cls yX6_before yX6_before ∈ mTB := mTB_priv (i := 95) (n := 11) rfl
theorem ls_X6_closeFirst : Cond.selects yX6_closeFirst.cls yX6_closeFirst yX6_closeFirst ∈ mTB := mTB_priv (i := 96) (n := 11) rfl
theorem ls_X6_sink : Cond.selects yX6_sink.cls yX6_sink yX6_sink ∈ mTB := mTB_priv (i := 97) (n := 11) rfl
theorem ls_X6_offerBefore : Cond.selects yX6_offerBefore.cls yX6_offerBefore yX6_offerBefore ∈ mTB := mTB_priv (i := 98) (n := 11) rfl
theorem ls_X6_nextOf : Cond.selects yX6_nextOf.cls yX6_nextOf yX6_nextOf ∈ mTB := mTB_priv (i := 99) (n := 11) rfl
theorem ls_X10_placeOf : Cond.selects yX10_placeOf.cls yX10_placeOf yX10_placeOf ∈ mTB := mTB_priv (i := 100) (n := 19) rfl
theorem ls_X10_costPart : Cond.selects yX10_costPart.cls yX10_costPart yX10_costPart ∈ mTB := mTB_priv (i := 101) (n := 19) rfl
theorem ls_X10_costOf : Cond.selects yX10_costOf.cls yX10_costOf yX10_costOf ∈ mTB := mTB_priv (i := 102) (n := 19) rfl
theorem ls_X10_findUnlike : Cond.selects yX10_findUnlike.cls yX10_findUnlike yX10_findUnlike ∈ mTB := mTB_priv (i := 103) (n := 19) rfl
theorem ls_X10_spanOf : Cond.selects yX10_spanOf.cls yX10_spanOf yX10_spanOf ∈ mTB := mTB_priv (i := 104) (n := 19) rfl
theorem ls_X10_aimOf : Cond.selects yX10_aimOf.cls yX10_aimOf yX10_aimOf ∈ mTB := mTB_priv (i := 105) (n := 19) rfl
theorem ls_X10_setBridge : Cond.selects yX10_setBridge.cls yX10_setBridge yX10_setBridge ∈ mTB := mTB_priv (i := 106) (n := 19) rfl
theorem ls_X10_mark : Cond.selects yX10_mark.cls yX10_mark yX10_mark ∈ mTB := mTB_priv (i := 107) (n := 19) rfl
theorem ls_X10_setZone : Cond.selects yX10_setZone.cls yX10_setZone yX10_setZone ∈ mTB := mTB_priv (i := 108) (n := 19) rfl
theorem ls_X10_zoneSum : Cond.selects yX10_zoneSum.cls yX10_zoneSum yX10_zoneSum ∈ mTB := mTB_priv (i := 109) (n := 19) rfl
theorem ls_X10_turnsOf : Cond.selects yX10_turnsOf.cls yX10_turnsOf yX10_turnsOf ∈ mTB := mTB_priv (i := 110) (n := 19) rfl
theorem ls_X4_setSwell : Cond.selects yX4_setSwell.cls yX4_setSwell yX4_setSwell ∈ mTB := mTB_priv (i := 111) (n := 20) rfl
theorem ls_X4_setFit : Cond.selects yX4_setFit.cls yX4_setFit yX4_setFit ∈ mTB := mTB_priv (i := 112) (n := 20) rfl
theorem ls_X4_addWay : Cond.selects yX4_addWay.cls yX4_addWay yX4_addWay ∈ mTB := mTB_priv (i := 113) (n := 20) rfl
theorem ls_X4_barWay : Cond.selects yX4_barWay.cls yX4_barWay yX4_barWay ∈ mTB := mTB_priv (i := 114) (n := 20) rfl
theorem ls_X4_addPit : Cond.selects yX4_addPit.cls yX4_addPit yX4_addPit ∈ mTB := mTB_priv (i := 115) (n := 20) rfl
theorem ls_X4_pits : Cond.selects yX4_pits.cls yX4_pits yX4_pits ∈ mTB := mTB_priv (i := 116) (n := 20) rfl
theorem ls_X4_setMost : Cond.selects yX4_setMost.cls yX4_setMost yX4_setMost ∈ mTB := mTB_priv (i := 117) (n := 20) rfl
theorem ls_X4_run : Cond.selects yX4_run.cls yX4_run yX4_run ∈ mTB := mTB_priv (i := 118) (n := 20) rfl
theorem ls_X4_priceUnits : Cond.selects yX4_priceUnits.cls yX4_priceUnits yX4_priceUnits ∈ mTB := mTB_priv (i := 119) (n := 20) rfl
theorem ls_X4_weeksSuffice : Cond.selects yX4_weeksSuffice.cls yX4_weeksSuffice yX4_weeksSuffice ∈ mTB := mTB_priv (i := 120) (n := 20) rfl
theorem ls_X4_planFlow : Cond.selects yX4_planFlow.cls yX4_planFlow yX4_planFlow ∈ mTB := mTB_priv (i := 121) (n := 20) rfl
theorem ls_X4_cheapest : Cond.selects yX4_cheapest.cls yX4_cheapest yX4_cheapest ∈ mTB := mTB_priv (i := 122) (n := 20) rfl
theorem ls_X4_shorten : Cond.selects yX4_shorten.cls yX4_shorten yX4_shorten ∈ mTB := mTB_priv (i := 123) (n := 20) rfl
theorem ls_X4_push : Cond.selects yX4_push.cls yX4_push yX4_push ∈ mTB := mTB_priv (i := 124) (n := 20) rfl
theorem ls_X4_room : Cond.selects yX4_room.cls yX4_room yX4_room ∈ mTB := mTB_priv (i := 125) (n := 20) rfl
theorem ls_X4_change : Cond.selects yX4_change.cls yX4_change yX4_change ∈ mTB := mTB_priv (i := 126) (n := 20) rfl
theorem ls_X4_findClashes : Cond.selects yX4_findClashes.cls yX4_findClashes yX4_findClashes ∈ mTB := mTB_priv (i := 127) (n := 20) rfl
theorem ls_X4_reaches : Cond.selects yX4_reaches.cls yX4_reaches yX4_reaches ∈ mTB := mTB_priv (i := 128) (n := 20) rfl
theorem ls_X4_fillPipes : Cond.selects yX4_fillPipes.cls yX4_fillPipes yX4_fillPipes ∈ mTB := mTB_priv (i := 129) (n := 20) rfl
theorem ls_X4_preferFirst : Cond.selects yX4_preferFirst.cls yX4_preferFirst yX4_preferFirst ∈ mTB := mTB_priv (i := 130) (n := 20) rfl
theorem ls_X4_movedPart : Cond.selects yX4_movedPart.cls yX4_movedPart yX4_movedPart ∈ mTB := mTB_priv (i := 131) (n := 20) rfl
theorem ls_X4_costPart : Cond.selects yX4_costPart.cls yX4_costPart yX4_costPart ∈ mTB := mTB_priv (i := 132) (n := 20) rfl
theorem ls_X4_dual : Cond.selects yX4_dual.cls yX4_dual yX4_dual ∈ mTB := mTB_priv (i := 133) (n := 20) rfl
theorem ls_X4_takeUpPlan : Cond.selects yX4_takeUpPlan.cls yX4_takeUpPlan yX4_takeUpPlan ∈ mTB := mTB_priv (i := 134) (n := 20) rfl
theorem ls_X4_clash : Cond.selects yX4_clash.cls yX4_clash yX4_clash ∈ mTB := mTB_priv (i := 135) (n := 20) rfl
theorem ls_X4_closure : Cond.selects yX4_closure.cls yX4_closure yX4_closure ∈ mTB := mTB_priv (i := 136) (n := 20) rfl
theorem ls_X4_listed : Cond.selects yX4_listed.cls yX4_listed yX4_listed ∈ mTB := mTB_priv (i := 137) (n := 20) rfl
theorem ls_X4_mass : Cond.selects yX4_mass.cls yX4_mass yX4_mass ∈ mTB := mTB_priv (i := 138) (n := 20) rfl
theorem ls_X4_levelOf : Cond.selects yX4_levelOf.cls yX4_levelOf yX4_levelOf ∈ mTB := mTB_priv (i := 139) (n := 20) rfl
theorem ls_X0_setMember : Cond.selects yX0_setMember.cls yX0_setMember yX0_setMember ∈ mTB := mTB_priv (i := 140) (n := 22) rfl
theorem ls_X0_setSupport : Cond.selects yX0_setSupport.cls yX0_setSupport yX0_setSupport ∈ mTB := mTB_priv (i := 141) (n := 22) rfl
theorem ls_X0_setHinge : Cond.selects yX0_setHinge.cls yX0_setHinge yX0_setHinge ∈ mTB := mTB_priv (i := 142) (n := 22) rfl
theorem ls_X0_solve : Cond.selects yX0_solve.cls yX0_solve yX0_solve ∈ mTB := mTB_priv (i := 143) (n := 22) rfl
theorem ls_X0_isLoose : Cond.selects yX0_isLoose.cls yX0_isLoose yX0_isLoose ∈ mTB := mTB_priv (i := 144) (n := 22) rfl
theorem ls_X0_looseNode : Cond.selects yX0_looseNode.cls yX0_looseNode yX0_looseNode ∈ mTB := mTB_priv (i := 145) (n := 22) rfl
theorem ls_X0_tellRow : Cond.selects yX0_tellRow.cls yX0_tellRow yX0_tellRow ∈ mTB := mTB_priv (i := 146) (n := 22) rfl
theorem ls_X0_valueAt : Cond.selects yX0_valueAt.cls yX0_valueAt yX0_valueAt ∈ mTB := mTB_priv (i := 147) (n := 22) rfl
theorem ls_X0_area : Cond.selects yX0_area.cls yX0_area yX0_area ∈ mTB := mTB_priv (i := 148) (n := 22) rfl
theorem ls_X0_shrinkPoints : Cond.selects yX0_shrinkPoints.cls yX0_shrinkPoints yX0_shrinkPoints ∈ mTB := mTB_priv (i := 149) (n := 22) rfl
theorem ls_X0_addPiece : Cond.selects yX0_addPiece.cls yX0_addPiece yX0_addPiece ∈ mTB := mTB_priv (i := 150) (n := 22) rfl
theorem ls_X0_turned : Cond.selects yX0_turned.cls yX0_turned yX0_turned ∈ mTB := mTB_priv (i := 151) (n := 22) rfl
theorem ls_X0_settle : Cond.selects yX0_settle.cls yX0_settle yX0_settle ∈ mTB := mTB_priv (i := 152) (n := 22) rfl
theorem ls_X0_settledMove : Cond.selects yX0_settledMove.cls yX0_settledMove yX0_settledMove ∈ mTB := mTB_priv (i := 153) (n := 22) rfl
theorem ls_X0_moveBySettling : Cond.selects yX0_moveBySettling.cls yX0_moveBySettling yX0_moveBySettling ∈ mTB := mTB_priv (i := 154) (n := 22) rfl
theorem ls_X0_count : Cond.selects yX0_count.cls yX0_count yX0_count ∈ mTB := mTB_priv (i := 155) (n := 22) rfl
theorem ls_X9_addTrain : Cond.selects yX9_addTrain.cls yX9_addTrain yX9_addTrain ∈ mTB := mTB_priv (i := 156) (n := 22) rfl
theorem ls_X9_addAxle : Cond.selects yX9_addAxle.cls yX9_addAxle yX9_addAxle ∈ mTB := mTB_priv (i := 157) (n := 22) rfl
theorem ls_X9_setGap : Cond.selects yX9_setGap.cls yX9_setGap yX9_setGap ∈ mTB := mTB_priv (i := 158) (n := 22) rfl
theorem ls_X9_run : Cond.selects yX9_run.cls yX9_run yX9_run ∈ mTB := mTB_priv (i := 159) (n := 22) rfl
theorem ls_X9_worse : Cond.selects yX9_worse.cls yX9_worse yX9_worse ∈ mTB := mTB_priv (i := 160) (n := 22) rfl
theorem ls_X9_worst : Cond.selects yX9_worst.cls yX9_worst yX9_worst ∈ mTB := mTB_priv (i := 161) (n := 22) rfl
theorem ls_X9_placePart : Cond.selects yX9_placePart.cls yX9_placePart yX9_placePart ∈ mTB := mTB_priv (i := 162) (n := 22) rfl
theorem ls_X9_addLane : Cond.selects yX9_addLane.cls yX9_addLane yX9_addLane ∈ mTB := mTB_priv (i := 163) (n := 22) rfl
theorem ls_X9_worstOnLanes : Cond.selects yX9_worstOnLanes.cls yX9_worstOnLanes yX9_worstOnLanes ∈ mTB := mTB_priv (i := 164) (n := 22) rfl
theorem ls_X9_laneSum : Cond.selects yX9_laneSum.cls yX9_laneSum yX9_laneSum ∈ mTB := mTB_priv (i := 165) (n := 22) rfl
theorem ls_X9_patch : Cond.selects yX9_patch.cls yX9_patch yX9_patch ∈ mTB := mTB_priv (i := 166) (n := 22) rfl
theorem ls_X9_prepareArea : Cond.selects yX9_prepareArea.cls yX9_prepareArea yX9_prepareArea ∈ mTB := mTB_priv (i := 167) (n := 22) rfl
theorem ls_X9_addPiece : Cond.selects yX9_addPiece.cls yX9_addPiece yX9_addPiece ∈ mTB := mTB_priv (i := 168) (n := 22) rfl
theorem ls_X9_stretch : Cond.selects yX9_stretch.cls yX9_stretch yX9_stretch ∈ mTB := mTB_priv (i := 169) (n := 22) rfl
theorem ls_X9_crossing : Cond.selects yX9_crossing.cls yX9_crossing yX9_crossing ∈ mTB := mTB_priv (i := 170) (n := 22) rfl
theorem ls_X9_collect : Cond.selects yX9_collect.cls yX9_collect yX9_collect ∈ mTB := mTB_priv (i := 171) (n := 22) rfl
theorem ls_X9_readCases : Cond.selects yX9_readCases.cls yX9_readCases yX9_readCases ∈ mTB := mTB_priv (i := 172) (n := 22) rfl
theorem ls_X9_wrongSign : Cond.selects yX9_wrongSign.cls yX9_wrongSign yX9_wrongSign ∈ mTB := mTB_priv (i := 173) (n := 22) rfl
theorem ls_X9_signAt : Cond.selects yX9_signAt.cls yX9_signAt yX9_signAt ∈ mTB := mTB_priv (i := 174) (n := 22) rfl
theorem ls_X9_takeCases : Cond.selects yX9_takeCases.cls yX9_takeCases yX9_takeCases ∈ mTB := mTB_priv (i := 175) (n := 22) rfl
theorem ls_X9_caseOf : Cond.selects yX9_caseOf.cls yX9_caseOf yX9_caseOf ∈ mTB := mTB_priv (i := 176) (n := 22) rfl
theorem ls_X9_caseNumber : Cond.selects yX9_caseNumber.cls yX9_caseNumber yX9_caseNumber ∈ mTB := mTB_priv (i := 177) (n := 22) rfl
theorem ls_X9_caseDivisor : Cond.selects yX9_caseDivisor.cls yX9_caseDivisor yX9_caseDivisor ∈ mTB := mTB_priv (i := 178) (n := 22) rfl
theorem ls_X9_caseByRank : Cond.selects yX9_caseByRank.cls yX9_caseByRank yX9_caseByRank ∈ mTB := mTB_priv (i := 179) (n := 22) rfl
theorem ls_X9_between : Cond.selects yX9_between.cls yX9_between yX9_between ∈ mTB := mTB_priv (i := 180) (n := 22) rfl
theorem ls_X9_listGaps : Cond.selects yX9_listGaps.cls yX9_listGaps yX9_listGaps ∈ mTB := mTB_priv (i := 181) (n := 22) rfl
theorem ls_X9_fatigue : Cond.selects yX9_fatigue.cls yX9_fatigue yX9_fatigue ∈ mTB := mTB_priv (i := 182) (n := 22) rfl
theorem ls_X9_brake : Cond.selects yX9_brake.cls yX9_brake yX9_brake ∈ mTB := mTB_priv (i := 183) (n := 22) rfl
theorem ls_X8_turnPart : Cond.selects yX8_turnPart.cls yX8_turnPart yX8_turnPart ∈ mTB := mTB_priv (i := 184) (n := 22) rfl
theorem ls_X8_addLine : Cond.selects yX8_addLine.cls yX8_addLine yX8_addLine ∈ mTB := mTB_priv (i := 185) (n := 22) rfl
theorem ls_X8_setCutOff : Cond.selects yX8_setCutOff.cls yX8_setCutOff yX8_setCutOff ∈ mTB := mTB_priv (i := 186) (n := 22) rfl
theorem ls_X8_setHot : Cond.selects yX8_setHot.cls yX8_setHot yX8_setHot ∈ mTB := mTB_priv (i := 187) (n := 22) rfl
theorem ls_X8_shares : Cond.selects yX8_shares.cls yX8_shares yX8_shares ∈ mTB := mTB_priv (i := 188) (n := 22) rfl
theorem ls_X8_sumShares : Cond.selects yX8_sumShares.cls yX8_sumShares yX8_sumShares ∈ mTB := mTB_priv (i := 189) (n := 22) rfl
theorem ls_X8_bears : Cond.selects yX8_bears.cls yX8_bears yX8_bears ∈ mTB := mTB_priv (i := 190) (n := 22) rfl
theorem ls_X8_setRepeats : Cond.selects yX8_setRepeats.cls yX8_setRepeats yX8_setRepeats ∈ mTB := mTB_priv (i := 191) (n := 22) rfl
theorem ls_X8_years : Cond.selects yX8_years.cls yX8_years yX8_years ∈ mTB := mTB_priv (i := 192) (n := 22) rfl
theorem ls_X8_span : Cond.selects yX8_span.cls yX8_span yX8_span ∈ mTB := mTB_priv (i := 193) (n := 22) rfl
theorem ls_X8_bolt : Cond.selects yX8_bolt.cls yX8_bolt yX8_bolt ∈ mTB := mTB_priv (i := 194) (n := 22) rfl
theorem ls_X8_setCost : Cond.selects yX8_setCost.cls yX8_setCost yX8_setCost ∈ mTB := mTB_priv (i := 195) (n := 22) rfl
theorem ls_X8_inspect : Cond.selects yX8_inspect.cls yX8_inspect yX8_inspect ∈ mTB := mTB_priv (i := 196) (n := 22) rfl
theorem ls_X8_squared : Cond.selects yX8_squared.cls yX8_squared yX8_squared ∈ mTB := mTB_priv (i := 197) (n := 22) rfl
theorem ls_X8_mend : Cond.selects yX8_mend.cls yX8_mend yX8_mend ∈ mTB := mTB_priv (i := 198) (n := 22) rfl
theorem ls_X7_begin : Cond.selects yX7_begin.cls yX7_begin yX7_begin ∈ mTB := mTB_priv (i := 199) (n := 22) rfl
theorem ls_X7_setClash : Cond.selects yX7_setClash.cls yX7_setClash yX7_setClash ∈ mTB := mTB_priv (i := 200) (n := 22) rfl
theorem ls_X7_testGroup : Cond.selects yX7_testGroup.cls yX7_testGroup yX7_testGroup ∈ mTB := mTB_priv (i := 201) (n := 22) rfl
theorem ls_X7_setTime : Cond.selects yX7_setTime.cls yX7_setTime yX7_setTime ∈ mTB := mTB_priv (i := 202) (n := 22) rfl
theorem ls_X7_collect : Cond.selects yX7_collect.cls yX7_collect yX7_collect ∈ mTB := mTB_priv (i := 203) (n := 22) rfl
theorem ls_X7_read : Cond.selects yX7_read.cls yX7_read yX7_read ∈ mTB := mTB_priv (i := 204) (n := 22) rfl
theorem ls_X7_takePlan : Cond.selects yX7_takePlan.cls yX7_takePlan yX7_takePlan ∈ mTB := mTB_priv (i := 205) (n := 22) rfl
theorem ls_X7_signAt : Cond.selects yX7_signAt.cls yX7_signAt yX7_signAt ∈ mTB := mTB_priv (i := 206) (n := 22) rfl
theorem ls_X7_numberAt : Cond.selects yX7_numberAt.cls yX7_numberAt yX7_numberAt ∈ mTB := mTB_priv (i := 207) (n := 22) rfl
theorem ls_X7_digitsAt : Cond.selects yX7_digitsAt.cls yX7_digitsAt yX7_digitsAt ∈ mTB := mTB_priv (i := 208) (n := 22) rfl
theorem ls_X7_tell : Cond.selects yX7_tell.cls yX7_tell yX7_tell ∈ mTB := mTB_priv (i := 209) (n := 22) rfl
theorem ls_X7_toldOf : Cond.selects yX7_toldOf.cls yX7_toldOf yX7_toldOf ∈ mTB := mTB_priv (i := 210) (n := 22) rfl
theorem ls_X7_numberOf : Cond.selects yX7_numberOf.cls yX7_numberOf yX7_numberOf ∈ mTB := mTB_priv (i := 211) (n := 22) rfl
theorem ls_X7_prove : Cond.selects yX7_prove.cls yX7_prove yX7_prove ∈ mTB := mTB_priv (i := 212) (n := 22) rfl
theorem ls_X7_addState : Cond.selects yX7_addState.cls yX7_addState yX7_addState ∈ mTB := mTB_priv (i := 213) (n := 22) rfl
theorem ls_X7_noteFault : Cond.selects yX7_noteFault.cls yX7_noteFault yX7_noteFault ∈ mTB := mTB_priv (i := 214) (n := 22) rfl
theorem ls_X7_rowOfFault : Cond.selects yX7_rowOfFault.cls yX7_rowOfFault yX7_rowOfFault ∈ mTB := mTB_priv (i := 215) (n := 22) rfl
theorem ls_X7_same : Cond.selects yX7_same.cls yX7_same yX7_same ∈ mTB := mTB_priv (i := 216) (n := 22) rfl
theorem ls_X2_setCell : Cond.selects yX2_setCell.cls yX2_setCell yX2_setCell ∈ mTB := mTB_priv (i := 217) (n := 22) rfl
theorem ls_X2_joinCells : Cond.selects yX2_joinCells.cls yX2_joinCells yX2_joinCells ∈ mTB := mTB_priv (i := 218) (n := 22) rfl
theorem ls_X2_joinOf : Cond.selects yX2_joinOf.cls yX2_joinOf yX2_joinOf ∈ mTB := mTB_priv (i := 219) (n := 22) rfl
theorem ls_X2_sortJoins : Cond.selects yX2_sortJoins.cls yX2_sortJoins yX2_sortJoins ∈ mTB := mTB_priv (i := 220) (n := 22) rfl
theorem ls_X2_goesBefore : Cond.selects yX2_goesBefore.cls yX2_goesBefore yX2_goesBefore ∈ mTB := mTB_priv (i := 221) (n := 22) rfl
theorem ls_X2_setShare : Cond.selects yX2_setShare.cls yX2_setShare yX2_setShare ∈ mTB := mTB_priv (i := 222) (n := 22) rfl
theorem ls_X2_setRank : Cond.selects yX2_setRank.cls yX2_setRank yX2_setRank ∈ mTB := mTB_priv (i := 223) (n := 22) rfl
theorem ls_X2_put : Cond.selects yX2_put.cls yX2_put yX2_put ∈ mTB := mTB_priv (i := 224) (n := 22) rfl
theorem ls_X2_tellComing : Cond.selects yX2_tellComing.cls yX2_tellComing yX2_tellComing ∈ mTB := mTB_priv (i := 225) (n := 22) rfl
theorem ls_X2_run : Cond.selects yX2_run.cls yX2_run yX2_run ∈ mTB := mTB_priv (i := 226) (n := 22) rfl
theorem ls_X2_restOf : Cond.selects yX2_restOf.cls yX2_restOf yX2_restOf ∈ mTB := mTB_priv (i := 227) (n := 22) rfl
theorem ls_X2_setMeter : Cond.selects yX2_setMeter.cls yX2_setMeter yX2_setMeter ∈ mTB := mTB_priv (i := 228) (n := 22) rfl
theorem ls_X2_setLane : Cond.selects yX2_setLane.cls yX2_setLane yX2_setLane ∈ mTB := mTB_priv (i := 229) (n := 22) rfl
theorem ls_X2_tellRead : Cond.selects yX2_tellRead.cls yX2_tellRead yX2_tellRead ∈ mTB := mTB_priv (i := 230) (n := 22) rfl
theorem ls_X2_differs : Cond.selects yX2_differs.cls yX2_differs yX2_differs ∈ mTB := mTB_priv (i := 231) (n := 22) rfl
theorem ls_X2_addRule : Cond.selects yX2_addRule.cls yX2_addRule yX2_addRule ∈ mTB := mTB_priv (i := 232) (n := 22) rfl
theorem ls_X2_save : Cond.selects yX2_save.cls yX2_save yX2_save ∈ mTB := mTB_priv (i := 233) (n := 22) rfl
theorem ls_X2_goBack : Cond.selects yX2_goBack.cls yX2_goBack yX2_goBack ∈ mTB := mTB_priv (i := 234) (n := 22) rfl
theorem ls_X2_over : Cond.selects yX2_over.cls yX2_over yX2_over ∈ mTB := mTB_priv (i := 235) (n := 22) rfl
theorem ls_X2_wasDone : Cond.selects yX2_wasDone.cls yX2_wasDone yX2_wasDone ∈ mTB := mTB_priv (i := 236) (n := 22) rfl
theorem ls_X2_toll : Cond.selects yX2_toll.cls yX2_toll yX2_toll ∈ mTB := mTB_priv (i := 237) (n := 22) rfl
theorem ls_X3_collect : Cond.selects yX3_collect.cls yX3_collect yX3_collect ∈ mTB := mTB_priv (i := 238) (n := 23) rfl
theorem ls_X3_read : Cond.selects yX3_read.cls yX3_read yX3_read ∈ mTB := mTB_priv (i := 239) (n := 23) rfl
theorem ls_X3_findWords : Cond.selects yX3_findWords.cls yX3_findWords yX3_findWords ∈ mTB := mTB_priv (i := 240) (n := 23) rfl
theorem ls_X3_takeItem : Cond.selects yX3_takeItem.cls yX3_takeItem yX3_takeItem ∈ mTB := mTB_priv (i := 241) (n := 23) rfl
theorem ls_X3_takeName : Cond.selects yX3_takeName.cls yX3_takeName yX3_takeName ∈ mTB := mTB_priv (i := 242) (n := 23) rfl
theorem ls_X3_lengthOf : Cond.selects yX3_lengthOf.cls yX3_lengthOf yX3_lengthOf ∈ mTB := mTB_priv (i := 243) (n := 23) rfl
theorem ls_X3_kindOf : Cond.selects yX3_kindOf.cls yX3_kindOf yX3_kindOf ∈ mTB := mTB_priv (i := 244) (n := 23) rfl
theorem ls_X3_signOf : Cond.selects yX3_signOf.cls yX3_signOf yX3_signOf ∈ mTB := mTB_priv (i := 245) (n := 23) rfl
theorem ls_X3_takeExpression : Cond.selects yX3_takeExpression.cls yX3_takeExpression yX3_takeExpression ∈ mTB := mTB_priv (i := 246) (n := 23) rfl
theorem ls_X3_thing : Cond.selects yX3_thing.cls yX3_thing yX3_thing ∈ mTB := mTB_priv (i := 247) (n := 23) rfl
theorem ls_X3_numberOf : Cond.selects yX3_numberOf.cls yX3_numberOf yX3_numberOf ∈ mTB := mTB_priv (i := 248) (n := 23) rfl
theorem ls_X3_takeWaiting : Cond.selects yX3_takeWaiting.cls yX3_takeWaiting yX3_takeWaiting ∈ mTB := mTB_priv (i := 249) (n := 23) rfl
theorem ls_X3_setRate : Cond.selects yX3_setRate.cls yX3_setRate yX3_setRate ∈ mTB := mTB_priv (i := 250) (n := 23) rfl
theorem ls_X3_quantityPart : Cond.selects yX3_quantityPart.cls yX3_quantityPart yX3_quantityPart ∈ mTB := mTB_priv (i := 251) (n := 23) rfl
theorem ls_X3_pay : Cond.selects yX3_pay.cls yX3_pay yX3_pay ∈ mTB := mTB_priv (i := 252) (n := 23) rfl
theorem ls_X3_gross : Cond.selects yX3_gross.cls yX3_gross yX3_gross ∈ mTB := mTB_priv (i := 253) (n := 23) rfl
theorem ls_X3_rateOf : Cond.selects yX3_rateOf.cls yX3_rateOf yX3_rateOf ∈ mTB := mTB_priv (i := 254) (n := 23) rfl
theorem ls_X3_kept : Cond.selects yX3_kept.cls yX3_kept yX3_kept ∈ mTB := mTB_priv (i := 255) (n := 23) rfl
theorem ls_X3_penaltiesOf : Cond.selects yX3_penaltiesOf.cls yX3_penaltiesOf yX3_penaltiesOf ∈ mTB := mTB_priv (i := 256) (n := 23) rfl
theorem ls_X3_keptUpTo : Cond.selects yX3_keptUpTo.cls yX3_keptUpTo yX3_keptUpTo ∈ mTB := mTB_priv (i := 257) (n := 23) rfl
theorem ls_X3_twice : Cond.selects yX3_twice.cls yX3_twice yX3_twice ∈ mTB := mTB_priv (i := 258) (n := 23) rfl
theorem ls_X3_addChange : Cond.selects yX3_addChange.cls yX3_addChange yX3_addChange ∈ mTB := mTB_priv (i := 259) (n := 23) rfl
theorem ls_X3_setIndex : Cond.selects yX3_setIndex.cls yX3_setIndex yX3_setIndex ∈ mTB := mTB_priv (i := 260) (n := 23) rfl
theorem ls_X3_setKeep : Cond.selects yX3_setKeep.cls yX3_setKeep yX3_setKeep ∈ mTB := mTB_priv (i := 261) (n := 23) rfl
theorem ls_X3_stillKept : Cond.selects yX3_stillKept.cls yX3_stillKept yX3_stillKept ∈ mTB := mTB_priv (i := 262) (n := 23) rfl
theorem ls_X3_setBack : Cond.selects yX3_setBack.cls yX3_setBack yX3_setBack ∈ mTB := mTB_priv (i := 263) (n := 23) rfl
theorem ls_X3_addPenalty : Cond.selects yX3_addPenalty.cls yX3_addPenalty yX3_addPenalty ∈ mTB := mTB_priv (i := 264) (n := 23) rfl
theorem ls_X3_sumOfPay : Cond.selects yX3_sumOfPay.cls yX3_sumOfPay yX3_sumOfPay ∈ mTB := mTB_priv (i := 265) (n := 23) rfl
theorem ls_X3_setFirm : Cond.selects yX3_setFirm.cls yX3_setFirm yX3_setFirm ∈ mTB := mTB_priv (i := 266) (n := 23) rfl
theorem ls_X3_shareOf : Cond.selects yX3_shareOf.cls yX3_shareOf yX3_shareOf ∈ mTB := mTB_priv (i := 267) (n := 23) rfl
theorem ls_X3_correct : Cond.selects yX3_correct.cls yX3_correct yX3_correct ∈ mTB := mTB_priv (i := 268) (n := 23) rfl
theorem ls_X3_addDifference : Cond.selects yX3_addDifference.cls yX3_addDifference yX3_addDifference ∈ mTB := mTB_priv (i := 269) (n := 23) rfl
theorem ls_X3_dispute : Cond.selects yX3_dispute.cls yX3_dispute yX3_dispute ∈ mTB := mTB_priv (i := 270) (n := 23) rfl
theorem ls_X3_hasOther : Cond.selects yX3_hasOther.cls yX3_hasOther yX3_hasOther ∈ mTB := mTB_priv (i := 271) (n := 23) rfl
theorem ls_X3_plainEntries : Cond.selects yX3_plainEntries.cls yX3_plainEntries yX3_plainEntries ∈ mTB := mTB_priv (i := 272) (n := 23) rfl
theorem ls_X3_sign : Cond.selects yX3_sign.cls yX3_sign yX3_sign ∈ mTB := mTB_priv (i := 273) (n := 23) rfl
theorem ls_X3_write : Cond.selects yX3_write.cls yX3_write yX3_write ∈ mTB := mTB_priv (i := 274) (n := 23) rfl
theorem ls_X3_writeNumber : Cond.selects yX3_writeNumber.cls yX3_writeNumber yX3_writeNumber ∈ mTB := mTB_priv (i := 275) (n := 23) rfl
theorem ls_X16_forget : Cond.selects yX16_forget.cls yX16_forget yX16_forget ∈ mTB := mTB_priv (i := 276) (n := 30) rfl
theorem ls_X16_first : Cond.selects yX16_first.cls yX16_first yX16_first ∈ mTB := mTB_priv (i := 277) (n := 30) rfl
theorem ls_X16_groupsNow : Cond.selects yX16_groupsNow.cls yX16_groupsNow yX16_groupsNow ∈ mTB := mTB_priv (i := 278) (n := 30) rfl
theorem ls_X16_part : Cond.selects yX16_part.cls yX16_part yX16_part ∈ mTB := mTB_priv (i := 279) (n := 30) rfl
theorem ls_X16_copyTo : Cond.selects yX16_copyTo.cls yX16_copyTo yX16_copyTo ∈ mTB := mTB_priv (i := 280) (n := 30) rfl
theorem ls_X20_wayCall : Cond.selects yX20_wayCall.cls yX20_wayCall yX20_wayCall ∈ mTB := mTB_priv (i := 281) (n := 19) rfl
theorem ls_X12_noCell : Cond.selects yX12_noCell.cls yX12_noCell yX12_noCell ∈ mTB := mTB_priv (i := 282) (n := 32) rfl
theorem ls_X12_noEnd : Cond.selects yX12_noEnd.cls yX12_noEnd yX12_noEnd ∈ mTB := mTB_priv (i := 283) (n := 32) rfl
theorem ls_X12_search : Cond.selects yX12_search.cls yX12_search yX12_search ∈ mTB := mTB_priv (i := 284) (n := 32) rfl
theorem ls_X12_findAll : Cond.selects yX12_findAll.cls yX12_findAll yX12_findAll ∈ mTB := mTB_priv (i := 285) (n := 32) rfl
theorem ls_X12_isHeading : Cond.selects yX12_isHeading.cls yX12_isHeading yX12_isHeading ∈ mTB := mTB_priv (i := 286) (n := 32) rfl
theorem ls_X12_isRun : Cond.selects yX12_isRun.cls yX12_isRun yX12_isRun ∈ mTB := mTB_priv (i := 287) (n := 32) rfl
theorem ls_X12_isBridged : Cond.selects yX12_isBridged.cls yX12_isBridged yX12_isBridged ∈ mTB := mTB_priv (i := 288) (n := 32) rfl
theorem ls_X12_look : Cond.selects yX12_look.cls yX12_look yX12_look ∈ mTB := mTB_priv (i := 289) (n := 32) rfl
theorem ls_X12_onward : Cond.selects yX12_onward.cls yX12_onward yX12_onward ∈ mTB := mTB_priv (i := 290) (n := 32) rfl
theorem ls_X12_step : Cond.selects yX12_step.cls yX12_step yX12_step ∈ mTB := mTB_priv (i := 291) (n := 32) rfl
theorem ls_X12_may : Cond.selects yX12_may.cls yX12_may yX12_may ∈ mTB := mTB_priv (i := 292) (n := 32) rfl
theorem ls_X12_isClosed : Cond.selects yX12_isClosed.cls yX12_isClosed yX12_isClosed ∈ mTB := mTB_priv (i := 293) (n := 32) rfl
theorem ls_X12_mayTurn : Cond.selects yX12_mayTurn.cls yX12_mayTurn yX12_mayTurn ∈ mTB := mTB_priv (i := 294) (n := 32) rfl
theorem ls_X12_shares : Cond.selects yX12_shares.cls yX12_shares yX12_shares ∈ mTB := mTB_priv (i := 295) (n := 32) rfl
theorem ls_X12_price : Cond.selects yX12_price.cls yX12_price yX12_price ∈ mTB := mTB_priv (i := 296) (n := 32) rfl
theorem ls_X12_valueOf : Cond.selects yX12_valueOf.cls yX12_valueOf yX12_valueOf ∈ mTB := mTB_priv (i := 297) (n := 32) rfl
theorem ls_X12_isBefore : Cond.selects yX12_isBefore.cls yX12_isBefore yX12_isBefore ∈ mTB := mTB_priv (i := 298) (n := 32) rfl
theorem ls_X12_walk : Cond.selects yX12_walk.cls yX12_walk yX12_walk ∈ mTB := mTB_priv (i := 299) (n := 32) rfl
theorem ls_X12_costUpTo : Cond.selects yX12_costUpTo.cls yX12_costUpTo yX12_costUpTo ∈ mTB := mTB_priv (i := 300) (n := 32) rfl
theorem ls_X12_cellOf : Cond.selects yX12_cellOf.cls yX12_cellOf yX12_cellOf ∈ mTB := mTB_priv (i := 301) (n := 32) rfl
theorem ls_X12_priceOf : Cond.selects yX12_priceOf.cls yX12_priceOf yX12_priceOf ∈ mTB := mTB_priv (i := 302) (n := 32) rfl
theorem ls_X12_aimOf : Cond.selects yX12_aimOf.cls yX12_aimOf yX12_aimOf ∈ mTB := mTB_priv (i := 303) (n := 32) rfl
theorem ls_X20_noteCell : Cond.selects yX20_noteCell.cls yX20_noteCell yX20_noteCell ∈ mTB := mTB_priv (i := 304) (n := 19) rfl
theorem ls_X20_earthCall : Cond.selects yX20_earthCall.cls yX20_earthCall yX20_earthCall ∈ mTB := mTB_priv (i := 305) (n := 19) rfl
theorem ls_X13_drop : Cond.selects yX13_drop.cls yX13_drop yX13_drop ∈ mTB := mTB_priv (i := 306) (n := 38) rfl
theorem ls_X13_noFill : Cond.selects yX13_noFill.cls yX13_noFill yX13_noFill ∈ mTB := mTB_priv (i := 307) (n := 38) rfl
theorem ls_X13_noWay : Cond.selects yX13_noWay.cls yX13_noWay yX13_noWay ∈ mTB := mTB_priv (i := 308) (n := 38) rfl
theorem ls_X13_sources : Cond.selects yX13_sources.cls yX13_sources yX13_sources ∈ mTB := mTB_priv (i := 309) (n := 38) rfl
theorem ls_X13_lay : Cond.selects yX13_lay.cls yX13_lay yX13_lay ∈ mTB := mTB_priv (i := 310) (n := 38) rfl
theorem ls_X13_gives : Cond.selects yX13_gives.cls yX13_gives yX13_gives ∈ mTB := mTB_priv (i := 311) (n := 38) rfl
theorem ls_X13_arc : Cond.selects yX13_arc.cls yX13_arc yX13_arc ∈ mTB := mTB_priv (i := 312) (n := 38) rfl
theorem ls_X13_serves : Cond.selects yX13_serves.cls yX13_serves yX13_serves ∈ mTB := mTB_priv (i := 313) (n := 38) rfl
theorem ls_X13_priceOf : Cond.selects yX13_priceOf.cls yX13_priceOf yX13_priceOf ∈ mTB := mTB_priv (i := 314) (n := 38) rfl
theorem ls_X13_metreOf : Cond.selects yX13_metreOf.cls yX13_metreOf yX13_metreOf ∈ mTB := mTB_priv (i := 315) (n := 38) rfl
theorem ls_X13_sendAll : Cond.selects yX13_sendAll.cls yX13_sendAll yX13_sendAll ∈ mTB := mTB_priv (i := 316) (n := 38) rfl
theorem ls_X13_walk : Cond.selects yX13_walk.cls yX13_walk yX13_walk ∈ mTB := mTB_priv (i := 317) (n := 38) rfl
theorem ls_X13_go : Cond.selects yX13_go.cls yX13_go yX13_go ∈ mTB := mTB_priv (i := 318) (n := 38) rfl
theorem ls_X13_wanted : Cond.selects yX13_wanted.cls yX13_wanted yX13_wanted ∈ mTB := mTB_priv (i := 319) (n := 38) rfl
theorem ls_X13_firstOfAll : Cond.selects yX13_firstOfAll.cls yX13_firstOfAll yX13_firstOfAll ∈ mTB := mTB_priv (i := 320) (n := 38) rfl
theorem ls_X13_noSource : Cond.selects yX13_noSource.cls yX13_noSource yX13_noSource ∈ mTB := mTB_priv (i := 321) (n := 38) rfl
theorem ls_X13_more : Cond.selects yX13_more.cls yX13_more yX13_more ∈ mTB := mTB_priv (i := 322) (n := 38) rfl
theorem ls_X20_beamsCall : Cond.selects yX20_beamsCall.cls yX20_beamsCall yX20_beamsCall ∈ mTB := mTB_priv (i := 323) (n := 19) rfl
theorem ls_X14_readNode : Cond.selects yX14_readNode.cls yX14_readNode yX14_readNode ∈ mTB := mTB_priv (i := 324) (n := 26) rfl
theorem ls_X14_sign : Cond.selects yX14_sign.cls yX14_sign yX14_sign ∈ mTB := mTB_priv (i := 325) (n := 26) rfl
theorem ls_X14_readBeam : Cond.selects yX14_readBeam.cls yX14_readBeam yX14_readBeam ∈ mTB := mTB_priv (i := 326) (n := 26) rfl
theorem ls_X14_readNumber : Cond.selects yX14_readNumber.cls yX14_readNumber yX14_readNumber ∈ mTB := mTB_priv (i := 327) (n := 26) rfl
theorem ls_X14_isDigit : Cond.selects yX14_isDigit.cls yX14_isDigit yX14_isDigit ∈ mTB := mTB_priv (i := 328) (n := 26) rfl
theorem ls_X14_thrownAt : Cond.selects yX14_thrownAt.cls yX14_thrownAt yX14_thrownAt ∈ mTB := mTB_priv (i := 329) (n := 26) rfl
theorem ls_X14_isFirm : Cond.selects yX14_isFirm.cls yX14_isFirm yX14_isFirm ∈ mTB := mTB_priv (i := 330) (n := 26) rfl
theorem ls_X14_solveAll : Cond.selects yX14_solveAll.cls yX14_solveAll yX14_solveAll ∈ mTB := mTB_priv (i := 331) (n := 26) rfl
theorem ls_X14_small : Cond.selects yX14_small.cls yX14_small yX14_small ∈ mTB := mTB_priv (i := 332) (n := 26) rfl
theorem ls_X14_heights : Cond.selects yX14_heights.cls yX14_heights yX14_heights ∈ mTB := mTB_priv (i := 333) (n := 26) rfl
theorem ls_X14_put : Cond.selects yX14_put.cls yX14_put yX14_put ∈ mTB := mTB_priv (i := 334) (n := 26) rfl
theorem ls_X14_coefficient : Cond.selects yX14_coefficient.cls yX14_coefficient yX14_coefficient ∈ mTB := mTB_priv (i := 335) (n := 26) rfl
theorem ls_X14_fraction : Cond.selects yX14_fraction.cls yX14_fraction yX14_fraction ∈ mTB := mTB_priv (i := 336) (n := 26) rfl
theorem ls_X14_reduce : Cond.selects yX14_reduce.cls yX14_reduce yX14_reduce ∈ mTB := mTB_priv (i := 337) (n := 26) rfl
theorem ls_X14_divisorOf : Cond.selects yX14_divisorOf.cls yX14_divisorOf yX14_divisorOf ∈ mTB := mTB_priv (i := 338) (n := 26) rfl
theorem ls_X14_copy : Cond.selects yX14_copy.cls yX14_copy yX14_copy ∈ mTB := mTB_priv (i := 339) (n := 26) rfl
theorem ls_X14_isEven : Cond.selects yX14_isEven.cls yX14_isEven yX14_isEven ∈ mTB := mTB_priv (i := 340) (n := 26) rfl
theorem ls_X14_limb : Cond.selects yX14_limb.cls yX14_limb yX14_limb ∈ mTB := mTB_priv (i := 341) (n := 26) rfl
theorem ls_X14_halve : Cond.selects yX14_halve.cls yX14_halve yX14_halve ∈ mTB := mTB_priv (i := 342) (n := 26) rfl
theorem ls_X14_trim : Cond.selects yX14_trim.cls yX14_trim yX14_trim ∈ mTB := mTB_priv (i := 343) (n := 26) rfl
theorem ls_X14_compare : Cond.selects yX14_compare.cls yX14_compare yX14_compare ∈ mTB := mTB_priv (i := 344) (n := 26) rfl
theorem ls_X14_longer : Cond.selects yX14_longer.cls yX14_longer yX14_longer ∈ mTB := mTB_priv (i := 345) (n := 26) rfl
theorem ls_X14_takePlain : Cond.selects yX14_takePlain.cls yX14_takePlain yX14_takePlain ∈ mTB := mTB_priv (i := 346) (n := 26) rfl
theorem ls_X14_addPlain : Cond.selects yX14_addPlain.cls yX14_addPlain yX14_addPlain ∈ mTB := mTB_priv (i := 347) (n := 26) rfl
theorem ls_X14_exact : Cond.selects yX14_exact.cls yX14_exact yX14_exact ∈ mTB := mTB_priv (i := 348) (n := 26) rfl
theorem ls_X14_bits : Cond.selects yX14_bits.cls yX14_bits yX14_bits ∈ mTB := mTB_priv (i := 349) (n := 26) rfl
theorem ls_X14_addFraction : Cond.selects yX14_addFraction.cls yX14_addFraction yX14_addFraction ∈ mTB := mTB_priv (i := 350) (n := 26) rfl
theorem ls_X14_product : Cond.selects yX14_product.cls yX14_product yX14_product ∈ mTB := mTB_priv (i := 351) (n := 26) rfl
theorem ls_X14_add : Cond.selects yX14_add.cls yX14_add yX14_add ∈ mTB := mTB_priv (i := 352) (n := 26) rfl
theorem ls_X14_own : Cond.selects yX14_own.cls yX14_own yX14_own ∈ mTB := mTB_priv (i := 353) (n := 26) rfl
theorem ls_X14_grow : Cond.selects yX14_grow.cls yX14_grow yX14_grow ∈ mTB := mTB_priv (i := 354) (n := 26) rfl
theorem ls_X14_next : Cond.selects yX14_next.cls yX14_next yX14_next ∈ mTB := mTB_priv (i := 355) (n := 26) rfl
theorem ls_X14_turns : Cond.selects yX14_turns.cls yX14_turns yX14_turns ∈ mTB := mTB_priv (i := 356) (n := 26) rfl
theorem ls_X14_exchange : Cond.selects yX14_exchange.cls yX14_exchange yX14_exchange ∈ mTB := mTB_priv (i := 357) (n := 26) rfl
theorem ls_X14_divideFraction : Cond.selects yX14_divideFraction.cls yX14_divideFraction yX14_divideFraction ∈ mTB := mTB_priv (i := 358) (n := 26) rfl
theorem ls_X14_takeRow : Cond.selects yX14_takeRow.cls yX14_takeRow yX14_takeRow ∈ mTB := mTB_priv (i := 359) (n := 26) rfl
theorem ls_X14_timesFraction : Cond.selects yX14_timesFraction.cls yX14_timesFraction yX14_timesFraction ∈ mTB := mTB_priv (i := 360) (n := 26) rfl
theorem ls_X14_isLoose : Cond.selects yX14_isLoose.cls yX14_isLoose yX14_isLoose ∈ mTB := mTB_priv (i := 361) (n := 26) rfl
theorem ls_X14_moves : Cond.selects yX14_moves.cls yX14_moves yX14_moves ∈ mTB := mTB_priv (i := 362) (n := 26) rfl
theorem ls_X14_noNode : Cond.selects yX14_noNode.cls yX14_noNode yX14_noNode ∈ mTB := mTB_priv (i := 363) (n := 26) rfl
theorem ls_X14_noBeam : Cond.selects yX14_noBeam.cls yX14_noBeam yX14_noBeam ∈ mTB := mTB_priv (i := 364) (n := 26) rfl
theorem ls_X14_noRow : Cond.selects yX14_noRow.cls yX14_noRow yX14_noRow ∈ mTB := mTB_priv (i := 365) (n := 26) rfl
theorem ls_X14_value : Cond.selects yX14_value.cls yX14_value yX14_value ∈ mTB := mTB_priv (i := 366) (n := 26) rfl
theorem ls_X14_has : Cond.selects yX14_has.cls yX14_has yX14_has ∈ mTB := mTB_priv (i := 367) (n := 26) rfl
theorem ls_X14_told : Cond.selects yX14_told.cls yX14_told yX14_told ∈ mTB := mTB_priv (i := 368) (n := 26) rfl
theorem ls_X14_divide : Cond.selects yX14_divide.cls yX14_divide yX14_divide ∈ mTB := mTB_priv (i := 369) (n := 26) rfl
theorem ls_X14_addPiece : Cond.selects yX14_addPiece.cls yX14_addPiece yX14_addPiece ∈ mTB := mTB_priv (i := 370) (n := 26) rfl
theorem ls_X20_trainsCall : Cond.selects yX20_trainsCall.cls yX20_trainsCall yX20_trainsCall ∈ mTB := mTB_priv (i := 371) (n := 19) rfl
theorem ls_X19_forget : Cond.selects yX19_forget.cls yX19_forget yX19_forget ∈ mTB := mTB_priv (i := 372) (n := 35) rfl
theorem ls_X19_noTrain : Cond.selects yX19_noTrain.cls yX19_noTrain yX19_noTrain ∈ mTB := mTB_priv (i := 373) (n := 35) rfl
theorem ls_X19_prepare : Cond.selects yX19_prepare.cls yX19_prepare yX19_prepare ∈ mTB := mTB_priv (i := 374) (n := 35) rfl
theorem ls_X19_small : Cond.selects yX19_small.cls yX19_small yX19_small ∈ mTB := mTB_priv (i := 375) (n := 35) rfl
theorem ls_X19_rest : Cond.selects yX19_rest.cls yX19_rest yX19_rest ∈ mTB := mTB_priv (i := 376) (n := 35) rfl
theorem ls_X19_times : Cond.selects yX19_times.cls yX19_times yX19_times ∈ mTB := mTB_priv (i := 377) (n := 35) rfl
theorem ls_X19_product : Cond.selects yX19_product.cls yX19_product yX19_product ∈ mTB := mTB_priv (i := 378) (n := 35) rfl
theorem ls_X19_trim : Cond.selects yX19_trim.cls yX19_trim yX19_trim ∈ mTB := mTB_priv (i := 379) (n := 35) rfl
theorem ls_X19_copy : Cond.selects yX19_copy.cls yX19_copy yX19_copy ∈ mTB := mTB_priv (i := 380) (n := 35) rfl
theorem ls_X19_divide : Cond.selects yX19_divide.cls yX19_divide yX19_divide ∈ mTB := mTB_priv (i := 381) (n := 35) rfl
theorem ls_X19_gather : Cond.selects yX19_gather.cls yX19_gather yX19_gather ∈ mTB := mTB_priv (i := 382) (n := 35) rfl
theorem ls_X19_addEffect : Cond.selects yX19_addEffect.cls yX19_addEffect yX19_addEffect ∈ mTB := mTB_priv (i := 383) (n := 35) rfl
theorem ls_X19_addValue : Cond.selects yX19_addValue.cls yX19_addValue yX19_addValue ∈ mTB := mTB_priv (i := 384) (n := 35) rfl
theorem ls_X19_add : Cond.selects yX19_add.cls yX19_add yX19_add ∈ mTB := mTB_priv (i := 385) (n := 35) rfl
theorem ls_X19_addPlain : Cond.selects yX19_addPlain.cls yX19_addPlain yX19_addPlain ∈ mTB := mTB_priv (i := 386) (n := 35) rfl
theorem ls_X19_longer : Cond.selects yX19_longer.cls yX19_longer yX19_longer ∈ mTB := mTB_priv (i := 387) (n := 35) rfl
theorem ls_X19_limb : Cond.selects yX19_limb.cls yX19_limb yX19_limb ∈ mTB := mTB_priv (i := 388) (n := 35) rfl
theorem ls_X19_compare : Cond.selects yX19_compare.cls yX19_compare yX19_compare ∈ mTB := mTB_priv (i := 389) (n := 35) rfl
theorem ls_X19_takePlain : Cond.selects yX19_takePlain.cls yX19_takePlain yX19_takePlain ∈ mTB := mTB_priv (i := 390) (n := 35) rfl
theorem ls_X19_order : Cond.selects yX19_order.cls yX19_order yX19_order ∈ mTB := mTB_priv (i := 391) (n := 35) rfl
theorem ls_X19_keep : Cond.selects yX19_keep.cls yX19_keep yX19_keep ∈ mTB := mTB_priv (i := 392) (n := 35) rfl
theorem ls_X19_tell : Cond.selects yX19_tell.cls yX19_tell yX19_tell ∈ mTB := mTB_priv (i := 393) (n := 35) rfl
theorem ls_X19_reduce : Cond.selects yX19_reduce.cls yX19_reduce yX19_reduce ∈ mTB := mTB_priv (i := 394) (n := 35) rfl
theorem ls_X19_divisorOf : Cond.selects yX19_divisorOf.cls yX19_divisorOf yX19_divisorOf ∈ mTB := mTB_priv (i := 395) (n := 35) rfl
theorem ls_X19_isEven : Cond.selects yX19_isEven.cls yX19_isEven yX19_isEven ∈ mTB := mTB_priv (i := 396) (n := 35) rfl
theorem ls_X19_halve : Cond.selects yX19_halve.cls yX19_halve yX19_halve ∈ mTB := mTB_priv (i := 397) (n := 35) rfl
theorem ls_X19_exact : Cond.selects yX19_exact.cls yX19_exact yX19_exact ∈ mTB := mTB_priv (i := 398) (n := 35) rfl
theorem ls_X19_bits : Cond.selects yX19_bits.cls yX19_bits yX19_bits ∈ mTB := mTB_priv (i := 399) (n := 35) rfl
theorem ls_X19_told : Cond.selects yX19_told.cls yX19_told yX19_told ∈ mTB := mTB_priv (i := 400) (n := 35) rfl
theorem ls_X19_laneSum : Cond.selects yX19_laneSum.cls yX19_laneSum yX19_laneSum ∈ mTB := mTB_priv (i := 401) (n := 35) rfl
theorem ls_X19_area : Cond.selects yX19_area.cls yX19_area yX19_area ∈ mTB := mTB_priv (i := 402) (n := 35) rfl
theorem ls_X19_addFraction : Cond.selects yX19_addFraction.cls yX19_addFraction yX19_addFraction ∈ mTB := mTB_priv (i := 403) (n := 35) rfl
theorem ls_X19_stretch : Cond.selects yX19_stretch.cls yX19_stretch yX19_stretch ∈ mTB := mTB_priv (i := 404) (n := 35) rfl
theorem ls_X19_meets : Cond.selects yX19_meets.cls yX19_meets yX19_meets ∈ mTB := mTB_priv (i := 405) (n := 35) rfl
theorem ls_X19_sign : Cond.selects yX19_sign.cls yX19_sign yX19_sign ∈ mTB := mTB_priv (i := 406) (n := 35) rfl
theorem ls_X19_work : Cond.selects yX19_work.cls yX19_work yX19_work ∈ mTB := mTB_priv (i := 407) (n := 35) rfl
theorem ls_X20_stressCall : Cond.selects yX20_stressCall.cls yX20_stressCall yX20_stressCall ∈ mTB := mTB_priv (i := 408) (n := 19) rfl
theorem ls_X18_feed : Cond.selects yX18_feed.cls yX18_feed yX18_feed ∈ mTB := mTB_priv (i := 409) (n := 25) rfl
theorem ls_X18_rangeOf : Cond.selects yX18_rangeOf.cls yX18_rangeOf yX18_rangeOf ∈ mTB := mTB_priv (i := 410) (n := 25) rfl
theorem ls_X18_shareTold : Cond.selects yX18_shareTold.cls yX18_shareTold yX18_shareTold ∈ mTB := mTB_priv (i := 411) (n := 25) rfl
theorem ls_X18_shareOf : Cond.selects yX18_shareOf.cls yX18_shareOf yX18_shareOf ∈ mTB := mTB_priv (i := 412) (n := 25) rfl
theorem ls_X18_countHalves : Cond.selects yX18_countHalves.cls yX18_countHalves yX18_countHalves ∈ mTB := mTB_priv (i := 413) (n := 25) rfl
theorem ls_X18_lineOf : Cond.selects yX18_lineOf.cls yX18_lineOf yX18_lineOf ∈ mTB := mTB_priv (i := 414) (n := 25) rfl
theorem ls_X18_takePrimes : Cond.selects yX18_takePrimes.cls yX18_takePrimes yX18_takePrimes ∈ mTB := mTB_priv (i := 415) (n := 25) rfl
theorem ls_X18_told : Cond.selects yX18_told.cls yX18_told yX18_told ∈ mTB := mTB_priv (i := 416) (n := 25) rfl
theorem ls_X18_isBelow : Cond.selects yX18_isBelow.cls yX18_isBelow yX18_isBelow ∈ mTB := mTB_priv (i := 417) (n := 25) rfl
theorem ls_X18_planAll : Cond.selects yX18_planAll.cls yX18_planAll yX18_planAll ∈ mTB := mTB_priv (i := 418) (n := 25) rfl
theorem ls_X20_signalsCall : Cond.selects yX20_signalsCall.cls yX20_signalsCall yX20_signalsCall ∈ mTB := mTB_priv (i := 419) (n := 19) rfl
theorem ls_X16_thrownAt : Cond.selects yX16_thrownAt.cls yX16_thrownAt yX16_thrownAt ∈ mTB := mTB_priv (i := 420) (n := 30) rfl
theorem ls_X16_sign : Cond.selects yX16_sign.cls yX16_sign yX16_sign ∈ mTB := mTB_priv (i := 421) (n := 30) rfl
theorem ls_X16_number : Cond.selects yX16_number.cls yX16_number yX16_number ∈ mTB := mTB_priv (i := 422) (n := 30) rfl
theorem ls_X16_tell : Cond.selects yX16_tell.cls yX16_tell yX16_tell ∈ mTB := mTB_priv (i := 423) (n := 30) rfl
theorem ls_X16_eventAt : Cond.selects yX16_eventAt.cls yX16_eventAt yX16_eventAt ∈ mTB := mTB_priv (i := 424) (n := 30) rfl
theorem ls_X16_copyFrom : Cond.selects yX16_copyFrom.cls yX16_copyFrom yX16_copyFrom ∈ mTB := mTB_priv (i := 425) (n := 30) rfl
theorem ls_X16_pass : Cond.selects yX16_pass.cls yX16_pass yX16_pass ∈ mTB := mTB_priv (i := 426) (n := 30) rfl
theorem ls_X16_shownNow : Cond.selects yX16_shownNow.cls yX16_shownNow yX16_shownNow ∈ mTB := mTB_priv (i := 427) (n := 30) rfl
theorem ls_X16_groupsNext : Cond.selects yX16_groupsNext.cls yX16_groupsNext yX16_groupsNext ∈ mTB := mTB_priv (i := 428) (n := 30) rfl
theorem ls_X16_enter : Cond.selects yX16_enter.cls yX16_enter yX16_enter ∈ mTB := mTB_priv (i := 429) (n := 30) rfl
theorem ls_X16_ends : Cond.selects yX16_ends.cls yX16_ends yX16_ends ∈ mTB := mTB_priv (i := 430) (n := 30) rfl
theorem ls_X16_leave : Cond.selects yX16_leave.cls yX16_leave yX16_leave ∈ mTB := mTB_priv (i := 431) (n := 30) rfl
theorem ls_X16_faultNow : Cond.selects yX16_faultNow.cls yX16_faultNow yX16_faultNow ∈ mTB := mTB_priv (i := 432) (n := 30) rfl
theorem ls_X16_find : Cond.selects yX16_find.cls yX16_find yX16_find ∈ mTB := mTB_priv (i := 433) (n := 30) rfl
theorem ls_X16_key : Cond.selects yX16_key.cls yX16_key yX16_key ∈ mTB := mTB_priv (i := 434) (n := 30) rfl
theorem ls_X16_add : Cond.selects yX16_add.cls yX16_add yX16_add ∈ mTB := mTB_priv (i := 435) (n := 30) rfl
theorem ls_X16_load : Cond.selects yX16_load.cls yX16_load yX16_load ∈ mTB := mTB_priv (i := 436) (n := 30) rfl
theorem ls_X16_longestOf : Cond.selects yX16_longestOf.cls yX16_longestOf yX16_longestOf ∈ mTB := mTB_priv (i := 437) (n := 30) rfl
theorem ls_X16_waitsAt : Cond.selects yX16_waitsAt.cls yX16_waitsAt yX16_waitsAt ∈ mTB := mTB_priv (i := 438) (n := 30) rfl
theorem ls_X20_carsCall : Cond.selects yX20_carsCall.cls yX20_carsCall yX20_carsCall ∈ mTB := mTB_priv (i := 439) (n := 19) rfl
theorem ls_X17_noCell : Cond.selects yX17_noCell.cls yX17_noCell yX17_noCell ∈ mTB := mTB_priv (i := 440) (n := 32) rfl
theorem ls_X17_find : Cond.selects yX17_find.cls yX17_find yX17_find ∈ mTB := mTB_priv (i := 441) (n := 32) rfl
theorem ls_X17_many : Cond.selects yX17_many.cls yX17_many yX17_many ∈ mTB := mTB_priv (i := 442) (n := 32) rfl
theorem ls_X17_isPast : Cond.selects yX17_isPast.cls yX17_isPast yX17_isPast ∈ mTB := mTB_priv (i := 443) (n := 32) rfl
theorem ls_X17_set : Cond.selects yX17_set.cls yX17_set yX17_set ∈ mTB := mTB_priv (i := 444) (n := 32) rfl
theorem ls_X17_step : Cond.selects yX17_step.cls yX17_step yX17_step ∈ mTB := mTB_priv (i := 445) (n := 32) rfl
theorem ls_X17_comes : Cond.selects yX17_comes.cls yX17_comes yX17_comes ∈ mTB := mTB_priv (i := 446) (n := 32) rfl
theorem ls_X17_bounds : Cond.selects yX17_bounds.cls yX17_bounds yX17_bounds ∈ mTB := mTB_priv (i := 447) (n := 32) rfl
theorem ls_X17_holds : Cond.selects yX17_holds.cls yX17_holds yX17_holds ∈ mTB := mTB_priv (i := 448) (n := 32) rfl
theorem ls_X17_wants : Cond.selects yX17_wants.cls yX17_wants yX17_wants ∈ mTB := mTB_priv (i := 449) (n := 32) rfl
theorem ls_X17_take : Cond.selects yX17_take.cls yX17_take yX17_take ∈ mTB := mTB_priv (i := 450) (n := 32) rfl
theorem ls_X20_contractCall : Cond.selects yX20_contractCall.cls yX20_contractCall yX20_contractCall ∈ mTB := mTB_priv (i := 451) (n := 19) rfl
theorem ls_X15_split : Cond.selects yX15_split.cls yX15_split yX15_split ∈ mTB := mTB_priv (i := 452) (n := 40) rfl
theorem ls_X15_readItem : Cond.selects yX15_readItem.cls yX15_readItem yX15_readItem ∈ mTB := mTB_priv (i := 453) (n := 40) rfl
theorem ls_X15_isName : Cond.selects yX15_isName.cls yX15_isName yX15_isName ∈ mTB := mTB_priv (i := 454) (n := 40) rfl
theorem ls_X15_sortOf : Cond.selects yX15_sortOf.cls yX15_sortOf yX15_sortOf ∈ mTB := mTB_priv (i := 455) (n := 40) rfl
theorem ls_X15_length : Cond.selects yX15_length.cls yX15_length yX15_length ∈ mTB := mTB_priv (i := 456) (n := 40) rfl
theorem ls_X15_is : Cond.selects yX15_is.cls yX15_is yX15_is ∈ mTB := mTB_priv (i := 457) (n := 40) rfl
theorem ls_X15_readExpression : Cond.selects yX15_readExpression.cls yX15_readExpression yX15_readExpression ∈ mTB := mTB_priv (i := 458) (n := 40) rfl
theorem ls_X15_variable : Cond.selects yX15_variable.cls yX15_variable yX15_variable ∈ mTB := mTB_priv (i := 459) (n := 40) rfl
theorem ls_X15_isSign : Cond.selects yX15_isSign.cls yX15_isSign yX15_isSign ∈ mTB := mTB_priv (i := 460) (n := 40) rfl
theorem ls_X15_numberOf : Cond.selects yX15_numberOf.cls yX15_numberOf yX15_numberOf ∈ mTB := mTB_priv (i := 461) (n := 40) rfl
theorem ls_X15_noItem : Cond.selects yX15_noItem.cls yX15_noItem yX15_noItem ∈ mTB := mTB_priv (i := 462) (n := 40) rfl
theorem ls_X15_tellTrouble : Cond.selects yX15_tellTrouble.cls yX15_tellTrouble yX15_tellTrouble ∈ mTB := mTB_priv (i := 463) (n := 40) rfl
theorem ls_X15_noShape : Cond.selects yX15_noShape.cls yX15_noShape yX15_noShape ∈ mTB := mTB_priv (i := 464) (n := 40) rfl
theorem ls_X15_add : Cond.selects yX15_add.cls yX15_add yX15_add ∈ mTB := mTB_priv (i := 465) (n := 40) rfl
theorem ls_X15_measure : Cond.selects yX15_measure.cls yX15_measure yX15_measure ∈ mTB := mTB_priv (i := 466) (n := 40) rfl
theorem ls_X15_join : Cond.selects yX15_join.cls yX15_join yX15_join ∈ mTB := mTB_priv (i := 467) (n := 40) rfl
theorem ls_X15_sum : Cond.selects yX15_sum.cls yX15_sum yX15_sum ∈ mTB := mTB_priv (i := 468) (n := 40) rfl
theorem ls_X15_isPlain : Cond.selects yX15_isPlain.cls yX15_isPlain yX15_isPlain ∈ mTB := mTB_priv (i := 469) (n := 40) rfl
theorem ls_X15_told : Cond.selects yX15_told.cls yX15_told yX15_told ∈ mTB := mTB_priv (i := 470) (n := 40) rfl
theorem ls_X15_gross : Cond.selects yX15_gross.cls yX15_gross yX15_gross ∈ mTB := mTB_priv (i := 471) (n := 40) rfl
theorem ls_X15_rateIn : Cond.selects yX15_rateIn.cls yX15_rateIn yX15_rateIn ∈ mTB := mTB_priv (i := 472) (n := 40) rfl
theorem ls_X15_keptIn : Cond.selects yX15_keptIn.cls yX15_keptIn yX15_keptIn ∈ mTB := mTB_priv (i := 473) (n := 40) rfl
theorem ls_X15_keptTo : Cond.selects yX15_keptTo.cls yX15_keptTo yX15_keptTo ∈ mTB := mTB_priv (i := 474) (n := 40) rfl
theorem ls_X15_told2 : Cond.selects yX15_told2.cls yX15_told2 yX15_told2 ∈ mTB := mTB_priv (i := 475) (n := 40) rfl
theorem ls_X15_plainOf : Cond.selects yX15_plainOf.cls yX15_plainOf yX15_plainOf ∈ mTB := mTB_priv (i := 476) (n := 40) rfl
theorem ls_X15_put : Cond.selects yX15_put.cls yX15_put yX15_put ∈ mTB := mTB_priv (i := 477) (n := 40) rfl
theorem ls_X15_putNumber : Cond.selects yX15_putNumber.cls yX15_putNumber yX15_putNumber ∈ mTB := mTB_priv (i := 478) (n := 40) rfl
theorem ls_X18_rate : Cond.selects yX18_rate.cls yX18_rate yX18_rate ∈ mTB := mTB_priv (i := 479) (n := 25) rfl
theorem ls_X20_readWay : Cond.selects yX20_readWay.cls yX20_readWay yX20_readWay ∈ mTB := mTB_priv (i := 480) (n := 19) rfl
theorem ls_X20_isBridged : Cond.selects yX20_isBridged.cls yX20_isBridged yX20_isBridged ∈ mTB := mTB_priv (i := 481) (n := 19) rfl
theorem ls_X20_writeNumber : Cond.selects yX20_writeNumber.cls yX20_writeNumber yX20_writeNumber ∈ mTB := mTB_priv (i := 482) (n := 19) rfl
set_option maxRecDepth 1000000 in
theorem lw_X0 : u_ws RX0 TX0 22 = [(Jvm.Cond.lays "RoadHouse$Beams" "RoadHouse$Beams" "beams" "I"), (Jvm.Cond.laysFinal "RoadHouse$Beams" "RoadHouse$Beams" "size" "[[I"), (Jvm.Cond.laysFinal "RoadHouse$Beams" "RoadHouse$Beams" "hinged" "[Z"), (Jvm.Cond.laysFinal "RoadHouse$Beams" "RoadHouse$Beams" "held" "[Z"), (Jvm.Cond.laysFinal "RoadHouse$Beams" "RoadHouse$Beams" "settled" "[I"), (Jvm.Cond.laysFinal "RoadHouse$Beams" "RoadHouse$Beams" "row" "[[I"), (Jvm.Cond.lays "RoadHouse$Beams" "RoadHouse$Beams" "rows" "I"), (Jvm.Cond.laysFinal "RoadHouse$Beams" "RoadHouse$Beams" "text" "[C"), (Jvm.Cond.lays "RoadHouse$Beams" "RoadHouse$Beams" "signs" "I"), (Jvm.Cond.lays "RoadHouse$Beams" "RoadHouse$Beams" "fresh" "Z"), (Jvm.Cond.lays "RoadHouse$Beams" "RoadHouse$Beams" "loose" "Z"), (Jvm.Cond.laysFinal "RoadHouse$Beams" "RoadHouse$Beams" "looseMove" "[Z"), (Jvm.Cond.lays "RoadHouse$Beams" "RoadHouse$Beams" "free" "I"), (Jvm.Cond.laysFinal "RoadHouse$Beams" "RoadHouse$Beams" "moveOf" "[I"), (Jvm.Cond.lays "RoadHouse$Beams" "RoadHouse$Beams" "scale" "J"), (Jvm.Cond.laysFinal "RoadHouse$Beams" "RoadHouse$Beams" "force" "[[J"), (Jvm.Cond.laysFinal "RoadHouse$Beams" "RoadHouse$Beams" "grid" "[LRoadHouse$Big;"), (Jvm.Cond.laysFinal "RoadHouse$Beams" "RoadHouse$Beams" "point" "[LRoadHouse$Big;"), (Jvm.Cond.laysFinal "RoadHouse$Beams" "RoadHouse$Beams" "aid" "[LRoadHouse$Big;"), (Jvm.Cond.laysFinal "RoadHouse$Beams" "RoadHouse$Beams" "load" "[J"), (Jvm.Cond.laysFinal "RoadHouse$Beams" "RoadHouse$Beams" "counts" "[J"), (Jvm.Cond.laysFinal "RoadHouse$Beams" "RoadHouse$Beams" "told" "LRoadHouse$Ratio;")] := by decide +kernel
theorem lu_X0 : ∀ w ∈ u_ws RX0 TX0 22, w ∈ mTB := by
  rw [lw_X0]
  exact List.forall_mem_cons.mpr ⟨mTB_of (sg2 (List.mem_of_getElem? (i := 87) rfl)) rfl, List.forall_mem_cons.mpr ⟨mTB_of (sg2 (List.mem_of_getElem? (i := 89) rfl)) rfl, List.forall_mem_cons.mpr ⟨mTB_of (sg2 (List.mem_of_getElem? (i := 91) rfl)) rfl, List.forall_mem_cons.mpr ⟨mTB_of (sg2 (List.mem_of_getElem? (i := 93) rfl)) rfl, List.forall_mem_cons.mpr ⟨mTB_of (sg2 (List.mem_of_getElem? (i := 95) rfl)) rfl, List.forall_mem_cons.mpr ⟨mTB_of (sg2 (List.mem_of_getElem? (i := 97) rfl)) rfl, List.forall_mem_cons.mpr ⟨mTB_of (sg2 (List.mem_of_getElem? (i := 99) rfl)) rfl, List.forall_mem_cons.mpr ⟨mTB_of (sg2 (List.mem_of_getElem? (i := 101) rfl)) rfl, List.forall_mem_cons.mpr ⟨mTB_of (sg2 (List.mem_of_getElem? (i := 103) rfl)) rfl, List.forall_mem_cons.mpr ⟨mTB_of (sg2 (List.mem_of_getElem? (i := 105) rfl)) rfl, List.forall_mem_cons.mpr ⟨mTB_of (sg2 (List.mem_of_getElem? (i := 107) rfl)) rfl, List.forall_mem_cons.mpr ⟨mTB_of (sg2 (List.mem_of_getElem? (i := 109) rfl)) rfl, List.forall_mem_cons.mpr ⟨mTB_of (sg2 (List.mem_of_getElem? (i := 111) rfl)) rfl, List.forall_mem_cons.mpr ⟨mTB_of (sg2 (List.mem_of_getElem? (i := 113) rfl)) rfl, List.forall_mem_cons.mpr ⟨mTB_of (sg2 (List.mem_of_getElem? (i := 115) rfl)) rfl, List.forall_mem_cons.mpr ⟨mTB_of (sg2 (List.mem_of_getElem? (i := 117) rfl)) rfl, List.forall_mem_cons.mpr ⟨mTB_of (sg2 (List.mem_of_getElem? (i := 119) rfl)) rfl, List.forall_mem_cons.mpr ⟨mTB_of (sg2 (List.mem_of_getElem? (i := 121) rfl)) rfl, List.forall_mem_cons.mpr ⟨mTB_of (sg2 (List.mem_of_getElem? (i := 123) rfl)) rfl, List.forall_mem_cons.mpr ⟨mTB_of (sg2 (List.mem_of_getElem? (i := 125) rfl)) rfl, List.forall_mem_cons.mpr ⟨mTB_of (sg2 (List.mem_of_getElem? (i := 127) rfl)) rfl, List.forall_mem_cons.mpr ⟨mTB_of (sg2 (List.mem_of_getElem? (i := 129) rfl)) rfl, fun _ h => absurd h List.not_mem_nil⟩⟩⟩⟩⟩⟩⟩⟩⟩⟩⟩⟩⟩⟩⟩⟩⟩⟩⟩⟩⟩⟩
set_option maxRecDepth 1000000 in
theorem lw_X1 : u_ws RX1 TX1 3 = [(Jvm.Cond.laysFinal "RoadHouse$Big" "RoadHouse$Big" "d" "[I"), (Jvm.Cond.lays "RoadHouse$Big" "RoadHouse$Big" "len" "I"), (Jvm.Cond.lays "RoadHouse$Big" "RoadHouse$Big" "sign" "I")] := by decide +kernel
theorem lu_X1 : ∀ w ∈ u_ws RX1 TX1 3, w ∈ mTB := by
  rw [lw_X1]
  exact List.forall_mem_cons.mpr ⟨mTB_of (sg2 (List.mem_of_getElem? (i := 26) rfl)) rfl, List.forall_mem_cons.mpr ⟨mTB_of (sg2 (List.mem_of_getElem? (i := 28) rfl)) rfl, List.forall_mem_cons.mpr ⟨mTB_of (sg2 (List.mem_of_getElem? (i := 30) rfl)) rfl, fun _ h => absurd h List.not_mem_nil⟩⟩⟩
set_option maxRecDepth 1000000 in
theorem lw_X2 : u_ws RX2 TX2 22 = [(Jvm.Cond.laysFinal "RoadHouse$Cars" "RoadHouse$Cars" "cell" "[[I"), (Jvm.Cond.laysFinal "RoadHouse$Cars" "RoadHouse$Cars" "join" "[[I"), (Jvm.Cond.lays "RoadHouse$Cars" "RoadHouse$Cars" "joins" "I"), (Jvm.Cond.laysFinal "RoadHouse$Cars" "RoadHouse$Cars" "joinsFrom" "[[I"), (Jvm.Cond.laysFinal "RoadHouse$Cars" "RoadHouse$Cars" "joinsTo" "[[I"), (Jvm.Cond.laysFinal "RoadHouse$Cars" "RoadHouse$Cars" "setting" "[[I"), (Jvm.Cond.lays "RoadHouse$Cars" "RoadHouse$Cars" "settings" "I"), (Jvm.Cond.laysFinal "RoadHouse$Cars" "RoadHouse$Cars" "coming" "[[I"), (Jvm.Cond.lays "RoadHouse$Cars" "RoadHouse$Cars" "comings" "I"), (Jvm.Cond.laysFinal "RoadHouse$Cars" "RoadHouse$Cars" "read" "[[I"), (Jvm.Cond.lays "RoadHouse$Cars" "RoadHouse$Cars" "reads" "I"), (Jvm.Cond.laysFinal "RoadHouse$Cars" "RoadHouse$Cars" "rule" "[[I"), (Jvm.Cond.lays "RoadHouse$Cars" "RoadHouse$Cars" "rules" "I"), (Jvm.Cond.laysFinal "RoadHouse$Cars" "RoadHouse$Cars" "now" "[J"), (Jvm.Cond.laysFinal "RoadHouse$Cars" "RoadHouse$Cars" "saved" "[[J"), (Jvm.Cond.lays "RoadHouse$Cars" "RoadHouse$Cars" "saves" "I"), (Jvm.Cond.laysFinal "RoadHouse$Cars" "RoadHouse$Cars" "cap" "[J"), (Jvm.Cond.laysFinal "RoadHouse$Cars" "RoadHouse$Cars" "can" "[J"), (Jvm.Cond.laysFinal "RoadHouse$Cars" "RoadHouse$Cars" "sent" "[J"), (Jvm.Cond.laysFinal "RoadHouse$Cars" "RoadHouse$Cars" "takes" "[J"), (Jvm.Cond.laysFinal "RoadHouse$Cars" "RoadHouse$Cars" "valid" "[[I"), (Jvm.Cond.laysFinal "RoadHouse$Cars" "RoadHouse$Cars" "wanted" "[J")] := by decide +kernel
theorem lu_X2 : ∀ w ∈ u_ws RX2 TX2 22, w ∈ mTB := by
  rw [lw_X2]
  exact List.forall_mem_cons.mpr ⟨mTB_of (sg3 (List.mem_of_getElem? (i := 176) rfl)) rfl, List.forall_mem_cons.mpr ⟨mTB_of (sg3 (List.mem_of_getElem? (i := 178) rfl)) rfl, List.forall_mem_cons.mpr ⟨mTB_of (sg3 (List.mem_of_getElem? (i := 180) rfl)) rfl, List.forall_mem_cons.mpr ⟨mTB_of (sg3 (List.mem_of_getElem? (i := 182) rfl)) rfl, List.forall_mem_cons.mpr ⟨mTB_of (sg3 (List.mem_of_getElem? (i := 184) rfl)) rfl, List.forall_mem_cons.mpr ⟨mTB_of (sg3 (List.mem_of_getElem? (i := 186) rfl)) rfl, List.forall_mem_cons.mpr ⟨mTB_of (sg3 (List.mem_of_getElem? (i := 188) rfl)) rfl, List.forall_mem_cons.mpr ⟨mTB_of (sg3 (List.mem_of_getElem? (i := 190) rfl)) rfl, List.forall_mem_cons.mpr ⟨mTB_of (sg3 (List.mem_of_getElem? (i := 192) rfl)) rfl, List.forall_mem_cons.mpr ⟨mTB_of (sg3 (List.mem_of_getElem? (i := 194) rfl)) rfl, List.forall_mem_cons.mpr ⟨mTB_of (sg3 (List.mem_of_getElem? (i := 196) rfl)) rfl, List.forall_mem_cons.mpr ⟨mTB_of (sg3 (List.mem_of_getElem? (i := 198) rfl)) rfl, List.forall_mem_cons.mpr ⟨mTB_of (sg3 (List.mem_of_getElem? (i := 200) rfl)) rfl, List.forall_mem_cons.mpr ⟨mTB_of (sg3 (List.mem_of_getElem? (i := 202) rfl)) rfl, List.forall_mem_cons.mpr ⟨mTB_of (sg3 (List.mem_of_getElem? (i := 204) rfl)) rfl, List.forall_mem_cons.mpr ⟨mTB_of (sg3 (List.mem_of_getElem? (i := 206) rfl)) rfl, List.forall_mem_cons.mpr ⟨mTB_of (sg3 (List.mem_of_getElem? (i := 208) rfl)) rfl, List.forall_mem_cons.mpr ⟨mTB_of (sg3 (List.mem_of_getElem? (i := 210) rfl)) rfl, List.forall_mem_cons.mpr ⟨mTB_of (sg3 (List.mem_of_getElem? (i := 212) rfl)) rfl, List.forall_mem_cons.mpr ⟨mTB_of (sg3 (List.mem_of_getElem? (i := 214) rfl)) rfl, List.forall_mem_cons.mpr ⟨mTB_of (sg3 (List.mem_of_getElem? (i := 216) rfl)) rfl, List.forall_mem_cons.mpr ⟨mTB_of (sg3 (List.mem_of_getElem? (i := 218) rfl)) rfl, fun _ h => absurd h List.not_mem_nil⟩⟩⟩⟩⟩⟩⟩⟩⟩⟩⟩⟩⟩⟩⟩⟩⟩⟩⟩⟩⟩⟩
set_option maxRecDepth 1000000 in
theorem lw_X3 : u_ws RX3 TX3 23 = [(Jvm.Cond.laysFinal "RoadHouse$Contract" "RoadHouse$Contract" "text" "[C"), (Jvm.Cond.lays "RoadHouse$Contract" "RoadHouse$Contract" "signs" "I"), (Jvm.Cond.laysFinal "RoadHouse$Contract" "RoadHouse$Contract" "word" "[[I"), (Jvm.Cond.lays "RoadHouse$Contract" "RoadHouse$Contract" "words" "I"), (Jvm.Cond.laysFinal "RoadHouse$Contract" "RoadHouse$Contract" "item" "[[I"), (Jvm.Cond.lays "RoadHouse$Contract" "RoadHouse$Contract" "items" "I"), (Jvm.Cond.laysFinal "RoadHouse$Contract" "RoadHouse$Contract" "shape" "[[I"), (Jvm.Cond.lays "RoadHouse$Contract" "RoadHouse$Contract" "shapes" "I"), (Jvm.Cond.laysFinal "RoadHouse$Contract" "RoadHouse$Contract" "entry" "[[I"), (Jvm.Cond.laysFinal "RoadHouse$Contract" "RoadHouse$Contract" "measured" "[J"), (Jvm.Cond.lays "RoadHouse$Contract" "RoadHouse$Contract" "entries" "I"), (Jvm.Cond.laysFinal "RoadHouse$Contract" "RoadHouse$Contract" "change" "[[I"), (Jvm.Cond.lays "RoadHouse$Contract" "RoadHouse$Contract" "changes" "I"), (Jvm.Cond.laysFinal "RoadHouse$Contract" "RoadHouse$Contract" "index" "[[I"), (Jvm.Cond.lays "RoadHouse$Contract" "RoadHouse$Contract" "backMonth" "I"), (Jvm.Cond.laysFinal "RoadHouse$Contract" "RoadHouse$Contract" "penalty" "[[I"), (Jvm.Cond.lays "RoadHouse$Contract" "RoadHouse$Contract" "penalties" "I"), (Jvm.Cond.laysFinal "RoadHouse$Contract" "RoadHouse$Contract" "weight" "[I"), (Jvm.Cond.laysFinal "RoadHouse$Contract" "RoadHouse$Contract" "open" "[[I"), (Jvm.Cond.lays "RoadHouse$Contract" "RoadHouse$Contract" "opens" "I"), (Jvm.Cond.lays "RoadHouse$Contract" "RoadHouse$Contract" "divided" "Z"), (Jvm.Cond.laysFinal "RoadHouse$Contract" "RoadHouse$Contract" "stack" "[J"), (Jvm.Cond.laysFinal "RoadHouse$Contract" "RoadHouse$Contract" "written" "[C")] := by decide +kernel
theorem lu_X3 : ∀ w ∈ u_ws RX3 TX3 23, w ∈ mTB := by
  rw [lw_X3]
  exact List.forall_mem_cons.mpr ⟨mTB_of (sg4 (List.mem_of_getElem? (i := 11) rfl)) rfl, List.forall_mem_cons.mpr ⟨mTB_of (sg4 (List.mem_of_getElem? (i := 13) rfl)) rfl, List.forall_mem_cons.mpr ⟨mTB_of (sg4 (List.mem_of_getElem? (i := 15) rfl)) rfl, List.forall_mem_cons.mpr ⟨mTB_of (sg4 (List.mem_of_getElem? (i := 17) rfl)) rfl, List.forall_mem_cons.mpr ⟨mTB_of (sg4 (List.mem_of_getElem? (i := 19) rfl)) rfl, List.forall_mem_cons.mpr ⟨mTB_of (sg4 (List.mem_of_getElem? (i := 21) rfl)) rfl, List.forall_mem_cons.mpr ⟨mTB_of (sg4 (List.mem_of_getElem? (i := 23) rfl)) rfl, List.forall_mem_cons.mpr ⟨mTB_of (sg4 (List.mem_of_getElem? (i := 25) rfl)) rfl, List.forall_mem_cons.mpr ⟨mTB_of (sg4 (List.mem_of_getElem? (i := 27) rfl)) rfl, List.forall_mem_cons.mpr ⟨mTB_of (sg4 (List.mem_of_getElem? (i := 29) rfl)) rfl, List.forall_mem_cons.mpr ⟨mTB_of (sg4 (List.mem_of_getElem? (i := 31) rfl)) rfl, List.forall_mem_cons.mpr ⟨mTB_of (sg4 (List.mem_of_getElem? (i := 33) rfl)) rfl, List.forall_mem_cons.mpr ⟨mTB_of (sg4 (List.mem_of_getElem? (i := 35) rfl)) rfl, List.forall_mem_cons.mpr ⟨mTB_of (sg4 (List.mem_of_getElem? (i := 37) rfl)) rfl, List.forall_mem_cons.mpr ⟨mTB_of (sg4 (List.mem_of_getElem? (i := 39) rfl)) rfl, List.forall_mem_cons.mpr ⟨mTB_of (sg4 (List.mem_of_getElem? (i := 41) rfl)) rfl, List.forall_mem_cons.mpr ⟨mTB_of (sg4 (List.mem_of_getElem? (i := 43) rfl)) rfl, List.forall_mem_cons.mpr ⟨mTB_of (sg4 (List.mem_of_getElem? (i := 45) rfl)) rfl, List.forall_mem_cons.mpr ⟨mTB_of (sg4 (List.mem_of_getElem? (i := 47) rfl)) rfl, List.forall_mem_cons.mpr ⟨mTB_of (sg4 (List.mem_of_getElem? (i := 49) rfl)) rfl, List.forall_mem_cons.mpr ⟨mTB_of (sg4 (List.mem_of_getElem? (i := 51) rfl)) rfl, List.forall_mem_cons.mpr ⟨mTB_of (sg4 (List.mem_of_getElem? (i := 53) rfl)) rfl, List.forall_mem_cons.mpr ⟨mTB_of (sg4 (List.mem_of_getElem? (i := 55) rfl)) rfl, fun _ h => absurd h List.not_mem_nil⟩⟩⟩⟩⟩⟩⟩⟩⟩⟩⟩⟩⟩⟩⟩⟩⟩⟩⟩⟩⟩⟩⟩
set_option maxRecDepth 1000000 in
theorem lw_X4 : u_ws RX4 TX4 20 = [(Jvm.Cond.laysFinal "RoadHouse$Earth" "RoadHouse$Earth" "size" "[I"), (Jvm.Cond.laysFinal "RoadHouse$Earth" "RoadHouse$Earth" "cut" "[[I"), (Jvm.Cond.laysFinal "RoadHouse$Earth" "RoadHouse$Earth" "pit" "[[I"), (Jvm.Cond.laysFinal "RoadHouse$Earth" "RoadHouse$Earth" "fill" "[[I"), (Jvm.Cond.laysFinal "RoadHouse$Earth" "RoadHouse$Earth" "way" "[[I"), (Jvm.Cond.laysFinal "RoadHouse$Earth" "RoadHouse$Earth" "swell" "[[I"), (Jvm.Cond.laysFinal "RoadHouse$Earth" "RoadHouse$Earth" "unfit" "[I"), (Jvm.Cond.laysFinal "RoadHouse$Earth" "RoadHouse$Earth" "most" "[I"), (Jvm.Cond.lays "RoadHouse$Earth" "RoadHouse$Earth" "state" "I"), (Jvm.Cond.lays "RoadHouse$Earth" "RoadHouse$Earth" "clashing" "I"), (Jvm.Cond.laysFinal "RoadHouse$Earth" "RoadHouse$Earth" "plan" "[[J"), (Jvm.Cond.laysFinal "RoadHouse$Earth" "RoadHouse$Earth" "flow" "[[J"), (Jvm.Cond.laysFinal "RoadHouse$Earth" "RoadHouse$Earth" "unit" "[[J"), (Jvm.Cond.laysFinal "RoadHouse$Earth" "RoadHouse$Earth" "used" "[J"), (Jvm.Cond.laysFinal "RoadHouse$Earth" "RoadHouse$Earth" "frozen" "[I"), (Jvm.Cond.laysFinal "RoadHouse$Earth" "RoadHouse$Earth" "far" "[J"), (Jvm.Cond.laysFinal "RoadHouse$Earth" "RoadHouse$Earth" "from" "[I"), (Jvm.Cond.laysFinal "RoadHouse$Earth" "RoadHouse$Earth" "pipe" "[[J"), (Jvm.Cond.laysFinal "RoadHouse$Earth" "RoadHouse$Earth" "queue" "[I"), (Jvm.Cond.laysFinal "RoadHouse$Earth" "RoadHouse$Earth" "reached" "[I")] := by decide +kernel
theorem lu_X4 : ∀ w ∈ u_ws RX4 TX4 20, w ∈ mTB := by
  rw [lw_X4]
  exact List.forall_mem_cons.mpr ⟨mTB_of (sg1 (List.mem_of_getElem? (i := 194) rfl)) rfl, List.forall_mem_cons.mpr ⟨mTB_of (sg1 (List.mem_of_getElem? (i := 196) rfl)) rfl, List.forall_mem_cons.mpr ⟨mTB_of (sg1 (List.mem_of_getElem? (i := 198) rfl)) rfl, List.forall_mem_cons.mpr ⟨mTB_of (sg1 (List.mem_of_getElem? (i := 200) rfl)) rfl, List.forall_mem_cons.mpr ⟨mTB_of (sg1 (List.mem_of_getElem? (i := 202) rfl)) rfl, List.forall_mem_cons.mpr ⟨mTB_of (sg1 (List.mem_of_getElem? (i := 204) rfl)) rfl, List.forall_mem_cons.mpr ⟨mTB_of (sg1 (List.mem_of_getElem? (i := 206) rfl)) rfl, List.forall_mem_cons.mpr ⟨mTB_of (sg1 (List.mem_of_getElem? (i := 208) rfl)) rfl, List.forall_mem_cons.mpr ⟨mTB_of (sg1 (List.mem_of_getElem? (i := 210) rfl)) rfl, List.forall_mem_cons.mpr ⟨mTB_of (sg1 (List.mem_of_getElem? (i := 212) rfl)) rfl, List.forall_mem_cons.mpr ⟨mTB_of (sg1 (List.mem_of_getElem? (i := 214) rfl)) rfl, List.forall_mem_cons.mpr ⟨mTB_of (sg1 (List.mem_of_getElem? (i := 216) rfl)) rfl, List.forall_mem_cons.mpr ⟨mTB_of (sg1 (List.mem_of_getElem? (i := 218) rfl)) rfl, List.forall_mem_cons.mpr ⟨mTB_of (sg1 (List.mem_of_getElem? (i := 220) rfl)) rfl, List.forall_mem_cons.mpr ⟨mTB_of (sg1 (List.mem_of_getElem? (i := 222) rfl)) rfl, List.forall_mem_cons.mpr ⟨mTB_of (sg1 (List.mem_of_getElem? (i := 224) rfl)) rfl, List.forall_mem_cons.mpr ⟨mTB_of (sg1 (List.mem_of_getElem? (i := 226) rfl)) rfl, List.forall_mem_cons.mpr ⟨mTB_of (sg1 (List.mem_of_getElem? (i := 228) rfl)) rfl, List.forall_mem_cons.mpr ⟨mTB_of (sg1 (List.mem_of_getElem? (i := 230) rfl)) rfl, List.forall_mem_cons.mpr ⟨mTB_of (sg1 (List.mem_of_getElem? (i := 232) rfl)) rfl, fun _ h => absurd h List.not_mem_nil⟩⟩⟩⟩⟩⟩⟩⟩⟩⟩⟩⟩⟩⟩⟩⟩⟩⟩⟩⟩
set_option maxRecDepth 1000000 in
theorem lw_X5 : u_ws RX5 TX5 6 = [(Jvm.Cond.laysFinal "RoadHouse$Ratio" "RoadHouse$Ratio" "up" "LRoadHouse$Big;"), (Jvm.Cond.laysFinal "RoadHouse$Ratio" "RoadHouse$Ratio" "low" "LRoadHouse$Big;"), (Jvm.Cond.laysFinal "RoadHouse$Ratio" "RoadHouse$Ratio" "x" "LRoadHouse$Big;"), (Jvm.Cond.laysFinal "RoadHouse$Ratio" "RoadHouse$Ratio" "y" "LRoadHouse$Big;"), (Jvm.Cond.laysFinal "RoadHouse$Ratio" "RoadHouse$Ratio" "q" "LRoadHouse$Big;"), (Jvm.Cond.laysFinal "RoadHouse$Ratio" "RoadHouse$Ratio" "s" "LRoadHouse$Big;")] := by decide +kernel
theorem lu_X5 : ∀ w ∈ u_ws RX5 TX5 6, w ∈ mTB := by
  rw [lw_X5]
  exact List.forall_mem_cons.mpr ⟨mTB_of (sg2 (List.mem_of_getElem? (i := 51) rfl)) rfl, List.forall_mem_cons.mpr ⟨mTB_of (sg2 (List.mem_of_getElem? (i := 53) rfl)) rfl, List.forall_mem_cons.mpr ⟨mTB_of (sg2 (List.mem_of_getElem? (i := 55) rfl)) rfl, List.forall_mem_cons.mpr ⟨mTB_of (sg2 (List.mem_of_getElem? (i := 57) rfl)) rfl, List.forall_mem_cons.mpr ⟨mTB_of (sg2 (List.mem_of_getElem? (i := 59) rfl)) rfl, List.forall_mem_cons.mpr ⟨mTB_of (sg2 (List.mem_of_getElem? (i := 61) rfl)) rfl, fun _ h => absurd h List.not_mem_nil⟩⟩⟩⟩⟩⟩
set_option maxRecDepth 1000000 in
theorem lw_X6 : u_ws RX6 TX6 11 = [(Jvm.Cond.laysFinal "RoadHouse$Search" "RoadHouse$Search" "shared" "[Z"), (Jvm.Cond.lays "RoadHouse$Search" "RoadHouse$Search" "lastCost" "J"), (Jvm.Cond.laysFinal "RoadHouse$Search" "RoadHouse$Search" "price" "[J"), (Jvm.Cond.lays "RoadHouse$Search" "RoadHouse$Search" "cost" "[J"), (Jvm.Cond.lays "RoadHouse$Search" "RoadHouse$Search" "count" "[J"), (Jvm.Cond.lays "RoadHouse$Search" "RoadHouse$Search" "heap" "[I"), (Jvm.Cond.lays "RoadHouse$Search" "RoadHouse$Search" "spot" "[I"), (Jvm.Cond.lays "RoadHouse$Search" "RoadHouse$Search" "open" "I"), (Jvm.Cond.lays "RoadHouse$Search" "RoadHouse$Search" "grid" "LRoadHouse$Way;"), (Jvm.Cond.lays "RoadHouse$Search" "RoadHouse$Search" "start" "I"), (Jvm.Cond.lays "RoadHouse$Search" "RoadHouse$Search" "kinds" "I")] := by decide +kernel
theorem lu_X6 : ∀ w ∈ u_ws RX6 TX6 11, w ∈ mTB := by
  rw [lw_X6]
  exact List.forall_mem_cons.mpr ⟨mTB_of (sg1 (List.mem_of_getElem? (i := 78) rfl)) rfl, List.forall_mem_cons.mpr ⟨mTB_of (sg1 (List.mem_of_getElem? (i := 80) rfl)) rfl, List.forall_mem_cons.mpr ⟨mTB_of (sg1 (List.mem_of_getElem? (i := 82) rfl)) rfl, List.forall_mem_cons.mpr ⟨mTB_of (sg1 (List.mem_of_getElem? (i := 84) rfl)) rfl, List.forall_mem_cons.mpr ⟨mTB_of (sg1 (List.mem_of_getElem? (i := 86) rfl)) rfl, List.forall_mem_cons.mpr ⟨mTB_of (sg1 (List.mem_of_getElem? (i := 88) rfl)) rfl, List.forall_mem_cons.mpr ⟨mTB_of (sg1 (List.mem_of_getElem? (i := 90) rfl)) rfl, List.forall_mem_cons.mpr ⟨mTB_of (sg1 (List.mem_of_getElem? (i := 92) rfl)) rfl, List.forall_mem_cons.mpr ⟨mTB_of (sg1 (List.mem_of_getElem? (i := 94) rfl)) rfl, List.forall_mem_cons.mpr ⟨mTB_of (sg1 (List.mem_of_getElem? (i := 96) rfl)) rfl, List.forall_mem_cons.mpr ⟨mTB_of (sg1 (List.mem_of_getElem? (i := 98) rfl)) rfl, fun _ h => absurd h List.not_mem_nil⟩⟩⟩⟩⟩⟩⟩⟩⟩⟩⟩
set_option maxRecDepth 1000000 in
theorem lw_X7 : u_ws RX7 TX7 22 = [(Jvm.Cond.lays "RoadHouse$Signals" "RoadHouse$Signals" "groups" "I"), (Jvm.Cond.laysFinal "RoadHouse$Signals" "RoadHouse$Signals" "clashes" "[I"), (Jvm.Cond.laysFinal "RoadHouse$Signals" "RoadHouse$Signals" "clear" "[[I"), (Jvm.Cond.laysFinal "RoadHouse$Signals" "RoadHouse$Signals" "least" "[I"), (Jvm.Cond.laysFinal "RoadHouse$Signals" "RoadHouse$Signals" "most" "[I"), (Jvm.Cond.lays "RoadHouse$Signals" "RoadHouse$Signals" "plans" "I"), (Jvm.Cond.laysFinal "RoadHouse$Signals" "RoadHouse$Signals" "phases" "[I"), (Jvm.Cond.laysFinal "RoadHouse$Signals" "RoadHouse$Signals" "phase" "[[I"), (Jvm.Cond.laysFinal "RoadHouse$Signals" "RoadHouse$Signals" "text" "[C"), (Jvm.Cond.lays "RoadHouse$Signals" "RoadHouse$Signals" "signs" "I"), (Jvm.Cond.laysFinal "RoadHouse$Signals" "RoadHouse$Signals" "told" "[[I"), (Jvm.Cond.lays "RoadHouse$Signals" "RoadHouse$Signals" "toldCount" "I"), (Jvm.Cond.laysFinal "RoadHouse$Signals" "RoadHouse$Signals" "machine" "[I"), (Jvm.Cond.laysFinal "RoadHouse$Signals" "RoadHouse$Signals" "probe" "[I"), (Jvm.Cond.lays "RoadHouse$Signals" "RoadHouse$Signals" "seconds" "I"), (Jvm.Cond.lays "RoadHouse$Signals" "RoadHouse$Signals" "proof" "I"), (Jvm.Cond.lays "RoadHouse$Signals" "RoadHouse$Signals" "states" "I"), (Jvm.Cond.laysFinal "RoadHouse$Signals" "RoadHouse$Signals" "state" "[J"), (Jvm.Cond.laysFinal "RoadHouse$Signals" "RoadHouse$Signals" "found" "[[I"), (Jvm.Cond.laysFinal "RoadHouse$Signals" "RoadHouse$Signals" "slot" "[I"), (Jvm.Cond.laysFinal "RoadHouse$Signals" "RoadHouse$Signals" "way" "[I"), (Jvm.Cond.laysFinal "RoadHouse$Signals" "RoadHouse$Signals" "last" "[I")] := by decide +kernel
theorem lu_X7 : ∀ w ∈ u_ws RX7 TX7 22, w ∈ mTB := by
  rw [lw_X7]
  exact List.forall_mem_cons.mpr ⟨mTB_of (sg3 (List.mem_of_getElem? (i := 101) rfl)) rfl, List.forall_mem_cons.mpr ⟨mTB_of (sg3 (List.mem_of_getElem? (i := 103) rfl)) rfl, List.forall_mem_cons.mpr ⟨mTB_of (sg3 (List.mem_of_getElem? (i := 105) rfl)) rfl, List.forall_mem_cons.mpr ⟨mTB_of (sg3 (List.mem_of_getElem? (i := 107) rfl)) rfl, List.forall_mem_cons.mpr ⟨mTB_of (sg3 (List.mem_of_getElem? (i := 109) rfl)) rfl, List.forall_mem_cons.mpr ⟨mTB_of (sg3 (List.mem_of_getElem? (i := 111) rfl)) rfl, List.forall_mem_cons.mpr ⟨mTB_of (sg3 (List.mem_of_getElem? (i := 113) rfl)) rfl, List.forall_mem_cons.mpr ⟨mTB_of (sg3 (List.mem_of_getElem? (i := 115) rfl)) rfl, List.forall_mem_cons.mpr ⟨mTB_of (sg3 (List.mem_of_getElem? (i := 117) rfl)) rfl, List.forall_mem_cons.mpr ⟨mTB_of (sg3 (List.mem_of_getElem? (i := 119) rfl)) rfl, List.forall_mem_cons.mpr ⟨mTB_of (sg3 (List.mem_of_getElem? (i := 121) rfl)) rfl, List.forall_mem_cons.mpr ⟨mTB_of (sg3 (List.mem_of_getElem? (i := 123) rfl)) rfl, List.forall_mem_cons.mpr ⟨mTB_of (sg3 (List.mem_of_getElem? (i := 125) rfl)) rfl, List.forall_mem_cons.mpr ⟨mTB_of (sg3 (List.mem_of_getElem? (i := 127) rfl)) rfl, List.forall_mem_cons.mpr ⟨mTB_of (sg3 (List.mem_of_getElem? (i := 129) rfl)) rfl, List.forall_mem_cons.mpr ⟨mTB_of (sg3 (List.mem_of_getElem? (i := 131) rfl)) rfl, List.forall_mem_cons.mpr ⟨mTB_of (sg3 (List.mem_of_getElem? (i := 133) rfl)) rfl, List.forall_mem_cons.mpr ⟨mTB_of (sg3 (List.mem_of_getElem? (i := 135) rfl)) rfl, List.forall_mem_cons.mpr ⟨mTB_of (sg3 (List.mem_of_getElem? (i := 137) rfl)) rfl, List.forall_mem_cons.mpr ⟨mTB_of (sg3 (List.mem_of_getElem? (i := 139) rfl)) rfl, List.forall_mem_cons.mpr ⟨mTB_of (sg3 (List.mem_of_getElem? (i := 141) rfl)) rfl, List.forall_mem_cons.mpr ⟨mTB_of (sg3 (List.mem_of_getElem? (i := 143) rfl)) rfl, fun _ h => absurd h List.not_mem_nil⟩⟩⟩⟩⟩⟩⟩⟩⟩⟩⟩⟩⟩⟩⟩⟩⟩⟩⟩⟩⟩⟩
set_option maxRecDepth 1000000 in
theorem lw_X8 : u_ws RX8 TX8 22 = [(Jvm.Cond.laysFinal "RoadHouse$Stress" "RoadHouse$Stress" "row" "[I"), (Jvm.Cond.lays "RoadHouse$Stress" "RoadHouse$Stress" "values" "I"), (Jvm.Cond.laysFinal "RoadHouse$Stress" "RoadHouse$Stress" "rest" "[I"), (Jvm.Cond.lays "RoadHouse$Stress" "RoadHouse$Stress" "rests" "I"), (Jvm.Cond.laysFinal "RoadHouse$Stress" "RoadHouse$Stress" "turn" "[[I"), (Jvm.Cond.lays "RoadHouse$Stress" "RoadHouse$Stress" "turns" "I"), (Jvm.Cond.laysFinal "RoadHouse$Stress" "RoadHouse$Stress" "anew" "[I"), (Jvm.Cond.laysFinal "RoadHouse$Stress" "RoadHouse$Stress" "range" "[[I"), (Jvm.Cond.laysFinal "RoadHouse$Stress" "RoadHouse$Stress" "cycles" "[[I"), (Jvm.Cond.laysFinal "RoadHouse$Stress" "RoadHouse$Stress" "lines" "[I"), (Jvm.Cond.laysFinal "RoadHouse$Stress" "RoadHouse$Stress" "cutOff" "[I"), (Jvm.Cond.laysFinal "RoadHouse$Stress" "RoadHouse$Stress" "hot" "[I"), (Jvm.Cond.laysFinal "RoadHouse$Stress" "RoadHouse$Stress" "cents" "[I"), (Jvm.Cond.lays "RoadHouse$Stress" "RoadHouse$Stress" "repeats" "I"), (Jvm.Cond.laysFinal "RoadHouse$Stress" "RoadHouse$Stress" "history" "[[I"), (Jvm.Cond.lays "RoadHouse$Stress" "RoadHouse$Stress" "mends" "I"), (Jvm.Cond.lays "RoadHouse$Stress" "RoadHouse$Stress" "crackFrom" "D"), (Jvm.Cond.lays "RoadHouse$Stress" "RoadHouse$Stress" "crackSteps" "I"), (Jvm.Cond.laysFinal "RoadHouse$Stress" "RoadHouse$Stress" "least" "[J"), (Jvm.Cond.laysFinal "RoadHouse$Stress" "RoadHouse$Stress" "fewest" "[I"), (Jvm.Cond.laysFinal "RoadHouse$Stress" "RoadHouse$Stress" "told" "LRoadHouse$Ratio;"), (Jvm.Cond.laysFinal "RoadHouse$Stress" "RoadHouse$Stress" "worn" "LRoadHouse$Big;")] := by decide +kernel
theorem lu_X8 : ∀ w ∈ u_ws RX8 TX8 22, w ∈ mTB := by
  rw [lw_X8]
  exact List.forall_mem_cons.mpr ⟨mTB_of (sg3 (List.mem_of_getElem? (i := 10) rfl)) rfl, List.forall_mem_cons.mpr ⟨mTB_of (sg3 (List.mem_of_getElem? (i := 12) rfl)) rfl, List.forall_mem_cons.mpr ⟨mTB_of (sg3 (List.mem_of_getElem? (i := 14) rfl)) rfl, List.forall_mem_cons.mpr ⟨mTB_of (sg3 (List.mem_of_getElem? (i := 16) rfl)) rfl, List.forall_mem_cons.mpr ⟨mTB_of (sg3 (List.mem_of_getElem? (i := 18) rfl)) rfl, List.forall_mem_cons.mpr ⟨mTB_of (sg3 (List.mem_of_getElem? (i := 20) rfl)) rfl, List.forall_mem_cons.mpr ⟨mTB_of (sg3 (List.mem_of_getElem? (i := 22) rfl)) rfl, List.forall_mem_cons.mpr ⟨mTB_of (sg3 (List.mem_of_getElem? (i := 24) rfl)) rfl, List.forall_mem_cons.mpr ⟨mTB_of (sg3 (List.mem_of_getElem? (i := 26) rfl)) rfl, List.forall_mem_cons.mpr ⟨mTB_of (sg3 (List.mem_of_getElem? (i := 28) rfl)) rfl, List.forall_mem_cons.mpr ⟨mTB_of (sg3 (List.mem_of_getElem? (i := 30) rfl)) rfl, List.forall_mem_cons.mpr ⟨mTB_of (sg3 (List.mem_of_getElem? (i := 32) rfl)) rfl, List.forall_mem_cons.mpr ⟨mTB_of (sg3 (List.mem_of_getElem? (i := 34) rfl)) rfl, List.forall_mem_cons.mpr ⟨mTB_of (sg3 (List.mem_of_getElem? (i := 36) rfl)) rfl, List.forall_mem_cons.mpr ⟨mTB_of (sg3 (List.mem_of_getElem? (i := 38) rfl)) rfl, List.forall_mem_cons.mpr ⟨mTB_of (sg3 (List.mem_of_getElem? (i := 40) rfl)) rfl, List.forall_mem_cons.mpr ⟨mTB_of (sg3 (List.mem_of_getElem? (i := 42) rfl)) rfl, List.forall_mem_cons.mpr ⟨mTB_of (sg3 (List.mem_of_getElem? (i := 44) rfl)) rfl, List.forall_mem_cons.mpr ⟨mTB_of (sg3 (List.mem_of_getElem? (i := 46) rfl)) rfl, List.forall_mem_cons.mpr ⟨mTB_of (sg3 (List.mem_of_getElem? (i := 48) rfl)) rfl, List.forall_mem_cons.mpr ⟨mTB_of (sg3 (List.mem_of_getElem? (i := 50) rfl)) rfl, List.forall_mem_cons.mpr ⟨mTB_of (sg3 (List.mem_of_getElem? (i := 52) rfl)) rfl, fun _ h => absurd h List.not_mem_nil⟩⟩⟩⟩⟩⟩⟩⟩⟩⟩⟩⟩⟩⟩⟩⟩⟩⟩⟩⟩⟩⟩
set_option maxRecDepth 1000000 in
theorem lw_X9 : u_ws RX9 TX9 22 = [(Jvm.Cond.lays "RoadHouse$Trains" "RoadHouse$Trains" "corners" "I"), (Jvm.Cond.laysFinal "RoadHouse$Trains" "RoadHouse$Trains" "corner" "[[I"), (Jvm.Cond.lays "RoadHouse$Trains" "RoadHouse$Trains" "trains" "I"), (Jvm.Cond.lays "RoadHouse$Trains" "RoadHouse$Trains" "lanes" "I"), (Jvm.Cond.lays "RoadHouse$Trains" "RoadHouse$Trains" "cases" "I"), (Jvm.Cond.lays "RoadHouse$Trains" "RoadHouse$Trains" "signs" "I"), (Jvm.Cond.lays "RoadHouse$Trains" "RoadHouse$Trains" "tried" "I"), (Jvm.Cond.laysFinal "RoadHouse$Trains" "RoadHouse$Trains" "axles" "[I"), (Jvm.Cond.laysFinal "RoadHouse$Trains" "RoadHouse$Trains" "behind" "[[I"), (Jvm.Cond.laysFinal "RoadHouse$Trains" "RoadHouse$Trains" "load" "[[I"), (Jvm.Cond.laysFinal "RoadHouse$Trains" "RoadHouse$Trains" "gap" "[[I"), (Jvm.Cond.laysFinal "RoadHouse$Trains" "RoadHouse$Trains" "lane" "[[I"), (Jvm.Cond.laysFinal "RoadHouse$Trains" "RoadHouse$Trains" "text" "[C"), (Jvm.Cond.laysFinal "RoadHouse$Trains" "RoadHouse$Trains" "counted" "[[I"), (Jvm.Cond.lays "RoadHouse$Trains" "RoadHouse$Trains" "some" "Z"), (Jvm.Cond.laysFinal "RoadHouse$Trains" "RoadHouse$Trains" "place" "[I"), (Jvm.Cond.laysFinal "RoadHouse$Trains" "RoadHouse$Trains" "list" "[I"), (Jvm.Cond.laysFinal "RoadHouse$Trains" "RoadHouse$Trains" "firstList" "[I"), (Jvm.Cond.lays "RoadHouse$Trains" "RoadHouse$Trains" "fresh" "Z"), (Jvm.Cond.laysFinal "RoadHouse$Trains" "RoadHouse$Trains" "number" "[LRoadHouse$Big;"), (Jvm.Cond.laysFinal "RoadHouse$Trains" "RoadHouse$Trains" "share" "[LRoadHouse$Big;"), (Jvm.Cond.laysFinal "RoadHouse$Trains" "RoadHouse$Trains" "told" "LRoadHouse$Ratio;")] := by decide +kernel
theorem lu_X9 : ∀ w ∈ u_ws RX9 TX9 22, w ∈ mTB := by
  rw [lw_X9]
  exact List.forall_mem_cons.mpr ⟨mTB_of (sg2 (List.mem_of_getElem? (i := 172) rfl)) rfl, List.forall_mem_cons.mpr ⟨mTB_of (sg2 (List.mem_of_getElem? (i := 174) rfl)) rfl, List.forall_mem_cons.mpr ⟨mTB_of (sg2 (List.mem_of_getElem? (i := 176) rfl)) rfl, List.forall_mem_cons.mpr ⟨mTB_of (sg2 (List.mem_of_getElem? (i := 178) rfl)) rfl, List.forall_mem_cons.mpr ⟨mTB_of (sg2 (List.mem_of_getElem? (i := 180) rfl)) rfl, List.forall_mem_cons.mpr ⟨mTB_of (sg2 (List.mem_of_getElem? (i := 182) rfl)) rfl, List.forall_mem_cons.mpr ⟨mTB_of (sg2 (List.mem_of_getElem? (i := 184) rfl)) rfl, List.forall_mem_cons.mpr ⟨mTB_of (sg2 (List.mem_of_getElem? (i := 186) rfl)) rfl, List.forall_mem_cons.mpr ⟨mTB_of (sg2 (List.mem_of_getElem? (i := 188) rfl)) rfl, List.forall_mem_cons.mpr ⟨mTB_of (sg2 (List.mem_of_getElem? (i := 190) rfl)) rfl, List.forall_mem_cons.mpr ⟨mTB_of (sg2 (List.mem_of_getElem? (i := 192) rfl)) rfl, List.forall_mem_cons.mpr ⟨mTB_of (sg2 (List.mem_of_getElem? (i := 194) rfl)) rfl, List.forall_mem_cons.mpr ⟨mTB_of (sg2 (List.mem_of_getElem? (i := 196) rfl)) rfl, List.forall_mem_cons.mpr ⟨mTB_of (sg2 (List.mem_of_getElem? (i := 198) rfl)) rfl, List.forall_mem_cons.mpr ⟨mTB_of (sg2 (List.mem_of_getElem? (i := 200) rfl)) rfl, List.forall_mem_cons.mpr ⟨mTB_of (sg2 (List.mem_of_getElem? (i := 202) rfl)) rfl, List.forall_mem_cons.mpr ⟨mTB_of (sg2 (List.mem_of_getElem? (i := 204) rfl)) rfl, List.forall_mem_cons.mpr ⟨mTB_of (sg2 (List.mem_of_getElem? (i := 206) rfl)) rfl, List.forall_mem_cons.mpr ⟨mTB_of (sg2 (List.mem_of_getElem? (i := 208) rfl)) rfl, List.forall_mem_cons.mpr ⟨mTB_of (sg2 (List.mem_of_getElem? (i := 210) rfl)) rfl, List.forall_mem_cons.mpr ⟨mTB_of (sg2 (List.mem_of_getElem? (i := 212) rfl)) rfl, List.forall_mem_cons.mpr ⟨mTB_of (sg2 (List.mem_of_getElem? (i := 214) rfl)) rfl, fun _ h => absurd h List.not_mem_nil⟩⟩⟩⟩⟩⟩⟩⟩⟩⟩⟩⟩⟩⟩⟩⟩⟩⟩⟩⟩⟩⟩
set_option maxRecDepth 1000000 in
theorem lw_X10 : u_ws RX10 TX10 19 = [(Jvm.Cond.laysFinal "RoadHouse$Way" "RoadHouse$Way" "cost" "[I"), (Jvm.Cond.laysFinal "RoadHouse$Way" "RoadHouse$Way" "level" "[I"), (Jvm.Cond.laysFinal "RoadHouse$Way" "RoadHouse$Way" "barred" "[Z"), (Jvm.Cond.laysFinal "RoadHouse$Way" "RoadHouse$Way" "most" "[I"), (Jvm.Cond.laysFinal "RoadHouse$Way" "RoadHouse$Way" "cents" "[I"), (Jvm.Cond.laysFinal "RoadHouse$Way" "RoadHouse$Way" "zone" "[I"), (Jvm.Cond.laysFinal "RoadHouse$Way" "RoadHouse$Way" "marks" "[I"), (Jvm.Cond.laysFinal "RoadHouse$Way" "RoadHouse$Way" "value" "[[I"), (Jvm.Cond.laysFinal "RoadHouse$Way" "RoadHouse$Way" "above" "[I"), (Jvm.Cond.laysFinal "RoadHouse$Way" "RoadHouse$Way" "below" "[I"), (Jvm.Cond.lays "RoadHouse$Way" "RoadHouse$Way" "reach" "I"), (Jvm.Cond.lays "RoadHouse$Way" "RoadHouse$Way" "slope" "I"), (Jvm.Cond.lays "RoadHouse$Way" "RoadHouse$Way" "turn" "I"), (Jvm.Cond.laysFinal "RoadHouse$Way" "RoadHouse$Way" "found" "[[I"), (Jvm.Cond.lays "RoadHouse$Way" "RoadHouse$Way" "foundCount" "I"), (Jvm.Cond.lays "RoadHouse$Way" "RoadHouse$Way" "nodes" "I"), (Jvm.Cond.lays "RoadHouse$Way" "RoadHouse$Way" "proved" "Z"), (Jvm.Cond.lays "RoadHouse$Way" "RoadHouse$Way" "bound" "J"), (Jvm.Cond.laysFinal "RoadHouse$Way" "RoadHouse$Way" "search" "LRoadHouse$Search;")] := by decide +kernel
theorem lu_X10 : ∀ w ∈ u_ws RX10 TX10 19, w ∈ mTB := by
  rw [lw_X10]
  exact List.forall_mem_cons.mpr ⟨mTB_of (sg1 (List.mem_of_getElem? (i := 125) rfl)) rfl, List.forall_mem_cons.mpr ⟨mTB_of (sg1 (List.mem_of_getElem? (i := 127) rfl)) rfl, List.forall_mem_cons.mpr ⟨mTB_of (sg1 (List.mem_of_getElem? (i := 129) rfl)) rfl, List.forall_mem_cons.mpr ⟨mTB_of (sg1 (List.mem_of_getElem? (i := 131) rfl)) rfl, List.forall_mem_cons.mpr ⟨mTB_of (sg1 (List.mem_of_getElem? (i := 133) rfl)) rfl, List.forall_mem_cons.mpr ⟨mTB_of (sg1 (List.mem_of_getElem? (i := 135) rfl)) rfl, List.forall_mem_cons.mpr ⟨mTB_of (sg1 (List.mem_of_getElem? (i := 137) rfl)) rfl, List.forall_mem_cons.mpr ⟨mTB_of (sg1 (List.mem_of_getElem? (i := 139) rfl)) rfl, List.forall_mem_cons.mpr ⟨mTB_of (sg1 (List.mem_of_getElem? (i := 141) rfl)) rfl, List.forall_mem_cons.mpr ⟨mTB_of (sg1 (List.mem_of_getElem? (i := 143) rfl)) rfl, List.forall_mem_cons.mpr ⟨mTB_of (sg1 (List.mem_of_getElem? (i := 145) rfl)) rfl, List.forall_mem_cons.mpr ⟨mTB_of (sg1 (List.mem_of_getElem? (i := 147) rfl)) rfl, List.forall_mem_cons.mpr ⟨mTB_of (sg1 (List.mem_of_getElem? (i := 149) rfl)) rfl, List.forall_mem_cons.mpr ⟨mTB_of (sg1 (List.mem_of_getElem? (i := 151) rfl)) rfl, List.forall_mem_cons.mpr ⟨mTB_of (sg1 (List.mem_of_getElem? (i := 153) rfl)) rfl, List.forall_mem_cons.mpr ⟨mTB_of (sg1 (List.mem_of_getElem? (i := 155) rfl)) rfl, List.forall_mem_cons.mpr ⟨mTB_of (sg1 (List.mem_of_getElem? (i := 157) rfl)) rfl, List.forall_mem_cons.mpr ⟨mTB_of (sg1 (List.mem_of_getElem? (i := 159) rfl)) rfl, List.forall_mem_cons.mpr ⟨mTB_of (sg1 (List.mem_of_getElem? (i := 161) rfl)) rfl, fun _ h => absurd h List.not_mem_nil⟩⟩⟩⟩⟩⟩⟩⟩⟩⟩⟩⟩⟩⟩⟩⟩⟩⟩⟩
set_option maxRecDepth 1000000 in
theorem lw_X11 : u_ws RX11 TX11 10 = [(Jvm.Cond.laysFinal "RoadHouse" "RoadHouse" "ways" "LRoadHouse$Way;"), (Jvm.Cond.laysFinal "RoadHouse" "RoadHouse" "soil" "LRoadHouse$Earth;"), (Jvm.Cond.laysFinal "RoadHouse" "RoadHouse" "beams" "LRoadHouse$Beams;"), (Jvm.Cond.laysFinal "RoadHouse" "RoadHouse" "trains" "LRoadHouse$Trains;"), (Jvm.Cond.laysFinal "RoadHouse" "RoadHouse" "stress" "LRoadHouse$Stress;"), (Jvm.Cond.laysFinal "RoadHouse" "RoadHouse" "signals" "LRoadHouse$Signals;"), (Jvm.Cond.laysFinal "RoadHouse" "RoadHouse" "cars" "LRoadHouse$Cars;"), (Jvm.Cond.laysFinal "RoadHouse" "RoadHouse" "contract" "LRoadHouse$Contract;"), (Jvm.Cond.laysFinal "RoadHouse" "RoadHouse" "cellGreen" "[Z"), (Jvm.Cond.lays "RoadHouse" "RoadHouse" "goodCalls" "I")] := by decide +kernel
theorem lu_X11 : ∀ w ∈ u_ws RX11 TX11 10, w ∈ mTB := by
  rw [lw_X11]
  exact List.forall_mem_cons.mpr ⟨mTB_of (sg4 (List.mem_of_getElem? (i := 68) rfl)) rfl, List.forall_mem_cons.mpr ⟨mTB_of (sg4 (List.mem_of_getElem? (i := 70) rfl)) rfl, List.forall_mem_cons.mpr ⟨mTB_of (sg4 (List.mem_of_getElem? (i := 72) rfl)) rfl, List.forall_mem_cons.mpr ⟨mTB_of (sg4 (List.mem_of_getElem? (i := 74) rfl)) rfl, List.forall_mem_cons.mpr ⟨mTB_of (sg4 (List.mem_of_getElem? (i := 76) rfl)) rfl, List.forall_mem_cons.mpr ⟨mTB_of (sg4 (List.mem_of_getElem? (i := 78) rfl)) rfl, List.forall_mem_cons.mpr ⟨mTB_of (sg4 (List.mem_of_getElem? (i := 80) rfl)) rfl, List.forall_mem_cons.mpr ⟨mTB_of (sg4 (List.mem_of_getElem? (i := 82) rfl)) rfl, List.forall_mem_cons.mpr ⟨mTB_of (sg4 (List.mem_of_getElem? (i := 84) rfl)) rfl, List.forall_mem_cons.mpr ⟨mTB_of (sg4 (List.mem_of_getElem? (i := 86) rfl)) rfl, fun _ h => absurd h List.not_mem_nil⟩⟩⟩⟩⟩⟩⟩⟩⟩⟩
set_option maxRecDepth 1000000 in
theorem lw_X12 : u_ws RX12 TX12 32 = [(Jvm.Cond.laysFinal "RoadHouseModel$CorridorCellsModel" "RoadHouseModel$CorridorCellsModel" "w" "I"), (Jvm.Cond.laysFinal "RoadHouseModel$CorridorCellsModel" "RoadHouseModel$CorridorCellsModel" "h" "I"), (Jvm.Cond.laysFinal "RoadHouseModel$CorridorCellsModel" "RoadHouseModel$CorridorCellsModel" "costs" "[I"), (Jvm.Cond.laysFinal "RoadHouseModel$CorridorCellsModel" "RoadHouseModel$CorridorCellsModel" "levels" "[I"), (Jvm.Cond.laysFinal "RoadHouseModel$CorridorCellsModel" "RoadHouseModel$CorridorCellsModel" "zones" "[I"), (Jvm.Cond.laysFinal "RoadHouseModel$CorridorCellsModel" "RoadHouseModel$CorridorCellsModel" "mosts" "[I"), (Jvm.Cond.laysFinal "RoadHouseModel$CorridorCellsModel" "RoadHouseModel$CorridorCellsModel" "cents" "[I"), (Jvm.Cond.laysFinal "RoadHouseModel$CorridorCellsModel" "RoadHouseModel$CorridorCellsModel" "barred" "[Z"), (Jvm.Cond.laysFinal "RoadHouseModel$CorridorCellsModel" "RoadHouseModel$CorridorCellsModel" "values" "[I"), (Jvm.Cond.laysFinal "RoadHouseModel$CorridorCellsModel" "RoadHouseModel$CorridorCellsModel" "marks" "[I"), (Jvm.Cond.laysFinal "RoadHouseModel$CorridorCellsModel" "RoadHouseModel$CorridorCellsModel" "aboves" "[I"), (Jvm.Cond.laysFinal "RoadHouseModel$CorridorCellsModel" "RoadHouseModel$CorridorCellsModel" "belows" "[I"), (Jvm.Cond.lays "RoadHouseModel$CorridorCellsModel" "RoadHouseModel$CorridorCellsModel" "reach" "I"), (Jvm.Cond.lays "RoadHouseModel$CorridorCellsModel" "RoadHouseModel$CorridorCellsModel" "slope" "I"), (Jvm.Cond.lays "RoadHouseModel$CorridorCellsModel" "RoadHouseModel$CorridorCellsModel" "turn" "I"), (Jvm.Cond.laysFinal "RoadHouseModel$CorridorCellsModel" "RoadHouseModel$CorridorCellsModel" "best" "[J"), (Jvm.Cond.laysFinal "RoadHouseModel$CorridorCellsModel" "RoadHouseModel$CorridorCellsModel" "bestTurns" "[I"), (Jvm.Cond.laysFinal "RoadHouseModel$CorridorCellsModel" "RoadHouseModel$CorridorCellsModel" "bestMoves" "[I"), (Jvm.Cond.laysFinal "RoadHouseModel$CorridorCellsModel" "RoadHouseModel$CorridorCellsModel" "known" "[Z"), (Jvm.Cond.laysFinal "RoadHouseModel$CorridorCellsModel" "RoadHouseModel$CorridorCellsModel" "shared" "[Z"), (Jvm.Cond.lays "RoadHouseModel$CorridorCellsModel" "RoadHouseModel$CorridorCellsModel" "first" "I"), (Jvm.Cond.lays "RoadHouseModel$CorridorCellsModel" "RoadHouseModel$CorridorCellsModel" "goal" "I"), (Jvm.Cond.lays "RoadHouseModel$CorridorCellsModel" "RoadHouseModel$CorridorCellsModel" "most" "I"), (Jvm.Cond.lays "RoadHouseModel$CorridorCellsModel" "RoadHouseModel$CorridorCellsModel" "found" "I"), (Jvm.Cond.laysFinal "RoadHouseModel$CorridorCellsModel" "RoadHouseModel$CorridorCellsModel" "firsts" "[I"), (Jvm.Cond.laysFinal "RoadHouseModel$CorridorCellsModel" "RoadHouseModel$CorridorCellsModel" "moves" "[I"), (Jvm.Cond.laysFinal "RoadHouseModel$CorridorCellsModel" "RoadHouseModel$CorridorCellsModel" "headings" "[B"), (Jvm.Cond.lays "RoadHouseModel$CorridorCellsModel" "RoadHouseModel$CorridorCellsModel" "hasRun" "Z"), (Jvm.Cond.lays "RoadHouseModel$CorridorCellsModel" "RoadHouseModel$CorridorCellsModel" "proved" "Z"), (Jvm.Cond.lays "RoadHouseModel$CorridorCellsModel" "RoadHouseModel$CorridorCellsModel" "bound" "J"), (Jvm.Cond.lays "RoadHouseModel$CorridorCellsModel" "RoadHouseModel$CorridorCellsModel" "nodes" "J"), (Jvm.Cond.lays "RoadHouseModel$CorridorCellsModel" "RoadHouseModel$CorridorCellsModel" "thrown" "I")] := by decide +kernel
theorem lu_X12 : ∀ w ∈ u_ws RX12 TX12 32, w ∈ mTB := by
  rw [lw_X12]
  exact List.forall_mem_cons.mpr ⟨mTB_of (sg13 (List.mem_of_getElem? (i := 116) rfl)) rfl, List.forall_mem_cons.mpr ⟨mTB_of (sg13 (List.mem_of_getElem? (i := 118) rfl)) rfl, List.forall_mem_cons.mpr ⟨mTB_of (sg13 (List.mem_of_getElem? (i := 120) rfl)) rfl, List.forall_mem_cons.mpr ⟨mTB_of (sg13 (List.mem_of_getElem? (i := 122) rfl)) rfl, List.forall_mem_cons.mpr ⟨mTB_of (sg13 (List.mem_of_getElem? (i := 124) rfl)) rfl, List.forall_mem_cons.mpr ⟨mTB_of (sg13 (List.mem_of_getElem? (i := 126) rfl)) rfl, List.forall_mem_cons.mpr ⟨mTB_of (sg13 (List.mem_of_getElem? (i := 128) rfl)) rfl, List.forall_mem_cons.mpr ⟨mTB_of (sg13 (List.mem_of_getElem? (i := 130) rfl)) rfl, List.forall_mem_cons.mpr ⟨mTB_of (sg13 (List.mem_of_getElem? (i := 132) rfl)) rfl, List.forall_mem_cons.mpr ⟨mTB_of (sg13 (List.mem_of_getElem? (i := 134) rfl)) rfl, List.forall_mem_cons.mpr ⟨mTB_of (sg13 (List.mem_of_getElem? (i := 136) rfl)) rfl, List.forall_mem_cons.mpr ⟨mTB_of (sg13 (List.mem_of_getElem? (i := 138) rfl)) rfl, List.forall_mem_cons.mpr ⟨mTB_of (sg13 (List.mem_of_getElem? (i := 140) rfl)) rfl, List.forall_mem_cons.mpr ⟨mTB_of (sg13 (List.mem_of_getElem? (i := 142) rfl)) rfl, List.forall_mem_cons.mpr ⟨mTB_of (sg13 (List.mem_of_getElem? (i := 144) rfl)) rfl, List.forall_mem_cons.mpr ⟨mTB_of (sg13 (List.mem_of_getElem? (i := 146) rfl)) rfl, List.forall_mem_cons.mpr ⟨mTB_of (sg13 (List.mem_of_getElem? (i := 148) rfl)) rfl, List.forall_mem_cons.mpr ⟨mTB_of (sg13 (List.mem_of_getElem? (i := 150) rfl)) rfl, List.forall_mem_cons.mpr ⟨mTB_of (sg13 (List.mem_of_getElem? (i := 152) rfl)) rfl, List.forall_mem_cons.mpr ⟨mTB_of (sg13 (List.mem_of_getElem? (i := 154) rfl)) rfl, List.forall_mem_cons.mpr ⟨mTB_of (sg13 (List.mem_of_getElem? (i := 156) rfl)) rfl, List.forall_mem_cons.mpr ⟨mTB_of (sg13 (List.mem_of_getElem? (i := 158) rfl)) rfl, List.forall_mem_cons.mpr ⟨mTB_of (sg13 (List.mem_of_getElem? (i := 160) rfl)) rfl, List.forall_mem_cons.mpr ⟨mTB_of (sg13 (List.mem_of_getElem? (i := 162) rfl)) rfl, List.forall_mem_cons.mpr ⟨mTB_of (sg13 (List.mem_of_getElem? (i := 164) rfl)) rfl, List.forall_mem_cons.mpr ⟨mTB_of (sg13 (List.mem_of_getElem? (i := 166) rfl)) rfl, List.forall_mem_cons.mpr ⟨mTB_of (sg13 (List.mem_of_getElem? (i := 168) rfl)) rfl, List.forall_mem_cons.mpr ⟨mTB_of (sg13 (List.mem_of_getElem? (i := 170) rfl)) rfl, List.forall_mem_cons.mpr ⟨mTB_of (sg13 (List.mem_of_getElem? (i := 172) rfl)) rfl, List.forall_mem_cons.mpr ⟨mTB_of (sg13 (List.mem_of_getElem? (i := 174) rfl)) rfl, List.forall_mem_cons.mpr ⟨mTB_of (sg13 (List.mem_of_getElem? (i := 176) rfl)) rfl, List.forall_mem_cons.mpr ⟨mTB_of (sg13 (List.mem_of_getElem? (i := 178) rfl)) rfl, fun _ h => absurd h List.not_mem_nil⟩⟩⟩⟩⟩⟩⟩⟩⟩⟩⟩⟩⟩⟩⟩⟩⟩⟩⟩⟩⟩⟩⟩⟩⟩⟩⟩⟩⟩⟩⟩⟩
set_option maxRecDepth 1000000 in
theorem lw_X13 : u_ws RX13 TX13 38 = [(Jvm.Cond.lays "RoadHouseModel$HaulFlowsModel" "RoadHouseModel$HaulFlowsModel" "fault" "I"), (Jvm.Cond.lays "RoadHouseModel$HaulFlowsModel" "RoadHouseModel$HaulFlowsModel" "cuts" "I"), (Jvm.Cond.laysFinal "RoadHouseModel$HaulFlowsModel" "RoadHouseModel$HaulFlowsModel" "cutVolume" "[I"), (Jvm.Cond.laysFinal "RoadHouseModel$HaulFlowsModel" "RoadHouseModel$HaulFlowsModel" "cutKind" "[I"), (Jvm.Cond.laysFinal "RoadHouseModel$HaulFlowsModel" "RoadHouseModel$HaulFlowsModel" "cutWeek" "[I"), (Jvm.Cond.laysFinal "RoadHouseModel$HaulFlowsModel" "RoadHouseModel$HaulFlowsModel" "cutMetre" "[I"), (Jvm.Cond.lays "RoadHouseModel$HaulFlowsModel" "RoadHouseModel$HaulFlowsModel" "pits" "I"), (Jvm.Cond.laysFinal "RoadHouseModel$HaulFlowsModel" "RoadHouseModel$HaulFlowsModel" "pitMetre" "[I"), (Jvm.Cond.laysFinal "RoadHouseModel$HaulFlowsModel" "RoadHouseModel$HaulFlowsModel" "pitCents" "[I"), (Jvm.Cond.lays "RoadHouseModel$HaulFlowsModel" "RoadHouseModel$HaulFlowsModel" "fills" "I"), (Jvm.Cond.laysFinal "RoadHouseModel$HaulFlowsModel" "RoadHouseModel$HaulFlowsModel" "fillVolume" "[I"), (Jvm.Cond.laysFinal "RoadHouseModel$HaulFlowsModel" "RoadHouseModel$HaulFlowsModel" "fillWeek" "[I"), (Jvm.Cond.laysFinal "RoadHouseModel$HaulFlowsModel" "RoadHouseModel$HaulFlowsModel" "fillMetre" "[I"), (Jvm.Cond.lays "RoadHouseModel$HaulFlowsModel" "RoadHouseModel$HaulFlowsModel" "ways" "I"), (Jvm.Cond.laysFinal "RoadHouseModel$HaulFlowsModel" "RoadHouseModel$HaulFlowsModel" "wayFrom" "[I"), (Jvm.Cond.laysFinal "RoadHouseModel$HaulFlowsModel" "RoadHouseModel$HaulFlowsModel" "wayTo" "[I"), (Jvm.Cond.laysFinal "RoadHouseModel$HaulFlowsModel" "RoadHouseModel$HaulFlowsModel" "wayCents" "[I"), (Jvm.Cond.laysFinal "RoadHouseModel$HaulFlowsModel" "RoadHouseModel$HaulFlowsModel" "barred" "[Z"), (Jvm.Cond.laysFinal "RoadHouseModel$HaulFlowsModel" "RoadHouseModel$HaulFlowsModel" "above" "[J"), (Jvm.Cond.laysFinal "RoadHouseModel$HaulFlowsModel" "RoadHouseModel$HaulFlowsModel" "below" "[J"), (Jvm.Cond.laysFinal "RoadHouseModel$HaulFlowsModel" "RoadHouseModel$HaulFlowsModel" "unfit" "[Z"), (Jvm.Cond.laysFinal "RoadHouseModel$HaulFlowsModel" "RoadHouseModel$HaulFlowsModel" "mosts" "[J"), (Jvm.Cond.lays "RoadHouseModel$HaulFlowsModel" "RoadHouseModel$HaulFlowsModel" "arcs" "I"), (Jvm.Cond.laysFinal "RoadHouseModel$HaulFlowsModel" "RoadHouseModel$HaulFlowsModel" "begin" "[I"), (Jvm.Cond.laysFinal "RoadHouseModel$HaulFlowsModel" "RoadHouseModel$HaulFlowsModel" "finish" "[I"), (Jvm.Cond.laysFinal "RoadHouseModel$HaulFlowsModel" "RoadHouseModel$HaulFlowsModel" "most" "[J"), (Jvm.Cond.laysFinal "RoadHouseModel$HaulFlowsModel" "RoadHouseModel$HaulFlowsModel" "price" "[J"), (Jvm.Cond.laysFinal "RoadHouseModel$HaulFlowsModel" "RoadHouseModel$HaulFlowsModel" "flow" "[J"), (Jvm.Cond.laysFinal "RoadHouseModel$HaulFlowsModel" "RoadHouseModel$HaulFlowsModel" "done" "[Z"), (Jvm.Cond.laysFinal "RoadHouseModel$HaulFlowsModel" "RoadHouseModel$HaulFlowsModel" "far" "[J"), (Jvm.Cond.laysFinal "RoadHouseModel$HaulFlowsModel" "RoadHouseModel$HaulFlowsModel" "by" "[I"), (Jvm.Cond.lays "RoadHouseModel$HaulFlowsModel" "RoadHouseModel$HaulFlowsModel" "sent" "J"), (Jvm.Cond.lays "RoadHouseModel$HaulFlowsModel" "RoadHouseModel$HaulFlowsModel" "spent" "J"), (Jvm.Cond.lays "RoadHouseModel$HaulFlowsModel" "RoadHouseModel$HaulFlowsModel" "planned" "Z"), (Jvm.Cond.lays "RoadHouseModel$HaulFlowsModel" "RoadHouseModel$HaulFlowsModel" "clashed" "Z"), (Jvm.Cond.lays "RoadHouseModel$HaulFlowsModel" "RoadHouseModel$HaulFlowsModel" "planCost" "J"), (Jvm.Cond.lays "RoadHouseModel$HaulFlowsModel" "RoadHouseModel$HaulFlowsModel" "planFlow" "J"), (Jvm.Cond.laysFinal "RoadHouseModel$HaulFlowsModel" "RoadHouseModel$HaulFlowsModel" "plan" "[J")] := by decide +kernel
theorem lu_X13 : ∀ w ∈ u_ws RX13 TX13 38, w ∈ mTB := by
  rw [lw_X13]
  exact List.forall_mem_cons.mpr ⟨mTB_of (sg13 (List.mem_of_getElem? (i := 226) rfl)) rfl, List.forall_mem_cons.mpr ⟨mTB_of (sg13 (List.mem_of_getElem? (i := 228) rfl)) rfl, List.forall_mem_cons.mpr ⟨mTB_of (sg13 (List.mem_of_getElem? (i := 230) rfl)) rfl, List.forall_mem_cons.mpr ⟨mTB_of (sg13 (List.mem_of_getElem? (i := 232) rfl)) rfl, List.forall_mem_cons.mpr ⟨mTB_of (sg13 (List.mem_of_getElem? (i := 234) rfl)) rfl, List.forall_mem_cons.mpr ⟨mTB_of (sg13 (List.mem_of_getElem? (i := 236) rfl)) rfl, List.forall_mem_cons.mpr ⟨mTB_of (sg13 (List.mem_of_getElem? (i := 238) rfl)) rfl, List.forall_mem_cons.mpr ⟨mTB_of (sg14 (List.mem_of_getElem? (i := 0) rfl)) rfl, List.forall_mem_cons.mpr ⟨mTB_of (sg14 (List.mem_of_getElem? (i := 2) rfl)) rfl, List.forall_mem_cons.mpr ⟨mTB_of (sg14 (List.mem_of_getElem? (i := 4) rfl)) rfl, List.forall_mem_cons.mpr ⟨mTB_of (sg14 (List.mem_of_getElem? (i := 6) rfl)) rfl, List.forall_mem_cons.mpr ⟨mTB_of (sg14 (List.mem_of_getElem? (i := 8) rfl)) rfl, List.forall_mem_cons.mpr ⟨mTB_of (sg14 (List.mem_of_getElem? (i := 10) rfl)) rfl, List.forall_mem_cons.mpr ⟨mTB_of (sg14 (List.mem_of_getElem? (i := 12) rfl)) rfl, List.forall_mem_cons.mpr ⟨mTB_of (sg14 (List.mem_of_getElem? (i := 14) rfl)) rfl, List.forall_mem_cons.mpr ⟨mTB_of (sg14 (List.mem_of_getElem? (i := 16) rfl)) rfl, List.forall_mem_cons.mpr ⟨mTB_of (sg14 (List.mem_of_getElem? (i := 18) rfl)) rfl, List.forall_mem_cons.mpr ⟨mTB_of (sg14 (List.mem_of_getElem? (i := 20) rfl)) rfl, List.forall_mem_cons.mpr ⟨mTB_of (sg14 (List.mem_of_getElem? (i := 22) rfl)) rfl, List.forall_mem_cons.mpr ⟨mTB_of (sg14 (List.mem_of_getElem? (i := 24) rfl)) rfl, List.forall_mem_cons.mpr ⟨mTB_of (sg14 (List.mem_of_getElem? (i := 26) rfl)) rfl, List.forall_mem_cons.mpr ⟨mTB_of (sg14 (List.mem_of_getElem? (i := 28) rfl)) rfl, List.forall_mem_cons.mpr ⟨mTB_of (sg14 (List.mem_of_getElem? (i := 30) rfl)) rfl, List.forall_mem_cons.mpr ⟨mTB_of (sg14 (List.mem_of_getElem? (i := 32) rfl)) rfl, List.forall_mem_cons.mpr ⟨mTB_of (sg14 (List.mem_of_getElem? (i := 34) rfl)) rfl, List.forall_mem_cons.mpr ⟨mTB_of (sg14 (List.mem_of_getElem? (i := 36) rfl)) rfl, List.forall_mem_cons.mpr ⟨mTB_of (sg14 (List.mem_of_getElem? (i := 38) rfl)) rfl, List.forall_mem_cons.mpr ⟨mTB_of (sg14 (List.mem_of_getElem? (i := 40) rfl)) rfl, List.forall_mem_cons.mpr ⟨mTB_of (sg14 (List.mem_of_getElem? (i := 42) rfl)) rfl, List.forall_mem_cons.mpr ⟨mTB_of (sg14 (List.mem_of_getElem? (i := 44) rfl)) rfl, List.forall_mem_cons.mpr ⟨mTB_of (sg14 (List.mem_of_getElem? (i := 46) rfl)) rfl, List.forall_mem_cons.mpr ⟨mTB_of (sg14 (List.mem_of_getElem? (i := 48) rfl)) rfl, List.forall_mem_cons.mpr ⟨mTB_of (sg14 (List.mem_of_getElem? (i := 50) rfl)) rfl, List.forall_mem_cons.mpr ⟨mTB_of (sg14 (List.mem_of_getElem? (i := 52) rfl)) rfl, List.forall_mem_cons.mpr ⟨mTB_of (sg14 (List.mem_of_getElem? (i := 54) rfl)) rfl, List.forall_mem_cons.mpr ⟨mTB_of (sg14 (List.mem_of_getElem? (i := 56) rfl)) rfl, List.forall_mem_cons.mpr ⟨mTB_of (sg14 (List.mem_of_getElem? (i := 58) rfl)) rfl, List.forall_mem_cons.mpr ⟨mTB_of (sg14 (List.mem_of_getElem? (i := 60) rfl)) rfl, fun _ h => absurd h List.not_mem_nil⟩⟩⟩⟩⟩⟩⟩⟩⟩⟩⟩⟩⟩⟩⟩⟩⟩⟩⟩⟩⟩⟩⟩⟩⟩⟩⟩⟩⟩⟩⟩⟩⟩⟩⟩⟩⟩⟩
set_option maxRecDepth 1000000 in
theorem lw_X14 : u_ws RX14 TX14 26 = [(Jvm.Cond.lays "RoadHouseModel$InfluenceRowsModel" "RoadHouseModel$InfluenceRowsModel" "fault" "I"), (Jvm.Cond.laysFinal "RoadHouseModel$InfluenceRowsModel" "RoadHouseModel$InfluenceRowsModel" "z" "[I"), (Jvm.Cond.laysFinal "RoadHouseModel$InfluenceRowsModel" "RoadHouseModel$InfluenceRowsModel" "signs" "[I"), (Jvm.Cond.lays "RoadHouseModel$InfluenceRowsModel" "RoadHouseModel$InfluenceRowsModel" "m" "I"), (Jvm.Cond.laysFinal "RoadHouseModel$InfluenceRowsModel" "RoadHouseModel$InfluenceRowsModel" "lengths" "[I"), (Jvm.Cond.laysFinal "RoadHouseModel$InfluenceRowsModel" "RoadHouseModel$InfluenceRowsModel" "stiffs" "[I"), (Jvm.Cond.laysFinal "RoadHouseModel$InfluenceRowsModel" "RoadHouseModel$InfluenceRowsModel" "high" "[Z"), (Jvm.Cond.laysFinal "RoadHouseModel$InfluenceRowsModel" "RoadHouseModel$InfluenceRowsModel" "turn" "[Z"), (Jvm.Cond.laysFinal "RoadHouseModel$InfluenceRowsModel" "RoadHouseModel$InfluenceRowsModel" "hinges" "[Z"), (Jvm.Cond.laysFinal "RoadHouseModel$InfluenceRowsModel" "RoadHouseModel$InfluenceRowsModel" "settles" "[I"), (Jvm.Cond.lays "RoadHouseModel$InfluenceRowsModel" "RoadHouseModel$InfluenceRowsModel" "size" "I"), (Jvm.Cond.laysFinal "RoadHouseModel$InfluenceRowsModel" "RoadHouseModel$InfluenceRowsModel" "text" "[I"), (Jvm.Cond.lays "RoadHouseModel$InfluenceRowsModel" "RoadHouseModel$InfluenceRowsModel" "rows" "I"), (Jvm.Cond.laysFinal "RoadHouseModel$InfluenceRowsModel" "RoadHouseModel$InfluenceRowsModel" "rowWhat" "[I"), (Jvm.Cond.laysFinal "RoadHouseModel$InfluenceRowsModel" "RoadHouseModel$InfluenceRowsModel" "rowMember" "[I"), (Jvm.Cond.laysFinal "RoadHouseModel$InfluenceRowsModel" "RoadHouseModel$InfluenceRowsModel" "rowPlace" "[I"), (Jvm.Cond.lays "RoadHouseModel$InfluenceRowsModel" "RoadHouseModel$InfluenceRowsModel" "solved" "Z"), (Jvm.Cond.lays "RoadHouseModel$InfluenceRowsModel" "RoadHouseModel$InfluenceRowsModel" "equations" "I"), (Jvm.Cond.lays "RoadHouseModel$InfluenceRowsModel" "RoadHouseModel$InfluenceRowsModel" "rank" "I"), (Jvm.Cond.laysFinal "RoadHouseModel$InfluenceRowsModel" "RoadHouseModel$InfluenceRowsModel" "tells" "[I"), (Jvm.Cond.lays "RoadHouseModel$InfluenceRowsModel" "RoadHouseModel$InfluenceRowsModel" "at" "I"), (Jvm.Cond.laysFinal "RoadHouseModel$InfluenceRowsModel" "RoadHouseModel$InfluenceRowsModel" "readLength" "[I"), (Jvm.Cond.laysFinal "RoadHouseModel$InfluenceRowsModel" "RoadHouseModel$InfluenceRowsModel" "readStiff" "[I"), (Jvm.Cond.laysFinal "RoadHouseModel$InfluenceRowsModel" "RoadHouseModel$InfluenceRowsModel" "readHigh" "[Z"), (Jvm.Cond.laysFinal "RoadHouseModel$InfluenceRowsModel" "RoadHouseModel$InfluenceRowsModel" "readTurn" "[Z"), (Jvm.Cond.laysFinal "RoadHouseModel$InfluenceRowsModel" "RoadHouseModel$InfluenceRowsModel" "readHinge" "[Z")] := by decide +kernel
theorem lu_X14 : ∀ w ∈ u_ws RX14 TX14 26, w ∈ mTB := by
  rw [lw_X14]
  exact List.forall_mem_cons.mpr ⟨mTB_of (sg14 (List.mem_of_getElem? (i := 97) rfl)) rfl, List.forall_mem_cons.mpr ⟨mTB_of (sg14 (List.mem_of_getElem? (i := 99) rfl)) rfl, List.forall_mem_cons.mpr ⟨mTB_of (sg14 (List.mem_of_getElem? (i := 101) rfl)) rfl, List.forall_mem_cons.mpr ⟨mTB_of (sg14 (List.mem_of_getElem? (i := 103) rfl)) rfl, List.forall_mem_cons.mpr ⟨mTB_of (sg14 (List.mem_of_getElem? (i := 105) rfl)) rfl, List.forall_mem_cons.mpr ⟨mTB_of (sg14 (List.mem_of_getElem? (i := 107) rfl)) rfl, List.forall_mem_cons.mpr ⟨mTB_of (sg14 (List.mem_of_getElem? (i := 109) rfl)) rfl, List.forall_mem_cons.mpr ⟨mTB_of (sg14 (List.mem_of_getElem? (i := 111) rfl)) rfl, List.forall_mem_cons.mpr ⟨mTB_of (sg14 (List.mem_of_getElem? (i := 113) rfl)) rfl, List.forall_mem_cons.mpr ⟨mTB_of (sg14 (List.mem_of_getElem? (i := 115) rfl)) rfl, List.forall_mem_cons.mpr ⟨mTB_of (sg14 (List.mem_of_getElem? (i := 117) rfl)) rfl, List.forall_mem_cons.mpr ⟨mTB_of (sg14 (List.mem_of_getElem? (i := 119) rfl)) rfl, List.forall_mem_cons.mpr ⟨mTB_of (sg14 (List.mem_of_getElem? (i := 121) rfl)) rfl, List.forall_mem_cons.mpr ⟨mTB_of (sg14 (List.mem_of_getElem? (i := 123) rfl)) rfl, List.forall_mem_cons.mpr ⟨mTB_of (sg14 (List.mem_of_getElem? (i := 125) rfl)) rfl, List.forall_mem_cons.mpr ⟨mTB_of (sg14 (List.mem_of_getElem? (i := 127) rfl)) rfl, List.forall_mem_cons.mpr ⟨mTB_of (sg14 (List.mem_of_getElem? (i := 129) rfl)) rfl, List.forall_mem_cons.mpr ⟨mTB_of (sg14 (List.mem_of_getElem? (i := 131) rfl)) rfl, List.forall_mem_cons.mpr ⟨mTB_of (sg14 (List.mem_of_getElem? (i := 133) rfl)) rfl, List.forall_mem_cons.mpr ⟨mTB_of (sg14 (List.mem_of_getElem? (i := 135) rfl)) rfl, List.forall_mem_cons.mpr ⟨mTB_of (sg14 (List.mem_of_getElem? (i := 137) rfl)) rfl, List.forall_mem_cons.mpr ⟨mTB_of (sg14 (List.mem_of_getElem? (i := 139) rfl)) rfl, List.forall_mem_cons.mpr ⟨mTB_of (sg14 (List.mem_of_getElem? (i := 141) rfl)) rfl, List.forall_mem_cons.mpr ⟨mTB_of (sg14 (List.mem_of_getElem? (i := 143) rfl)) rfl, List.forall_mem_cons.mpr ⟨mTB_of (sg14 (List.mem_of_getElem? (i := 145) rfl)) rfl, List.forall_mem_cons.mpr ⟨mTB_of (sg14 (List.mem_of_getElem? (i := 147) rfl)) rfl, fun _ h => absurd h List.not_mem_nil⟩⟩⟩⟩⟩⟩⟩⟩⟩⟩⟩⟩⟩⟩⟩⟩⟩⟩⟩⟩⟩⟩⟩⟩⟩⟩
set_option maxRecDepth 1000000 in
theorem lw_X15 : u_ws RX15 TX15 40 = [(Jvm.Cond.lays "RoadHouseModel$RateQuantitiesModel" "RoadHouseModel$RateQuantitiesModel" "fault" "I"), (Jvm.Cond.lays "RoadHouseModel$RateQuantitiesModel" "RoadHouseModel$RateQuantitiesModel" "letters" "I"), (Jvm.Cond.laysFinal "RoadHouseModel$RateQuantitiesModel" "RoadHouseModel$RateQuantitiesModel" "text" "[I"), (Jvm.Cond.laysFinal "RoadHouseModel$RateQuantitiesModel" "RoadHouseModel$RateQuantitiesModel" "kept" "[I"), (Jvm.Cond.lays "RoadHouseModel$RateQuantitiesModel" "RoadHouseModel$RateQuantitiesModel" "words" "I"), (Jvm.Cond.laysFinal "RoadHouseModel$RateQuantitiesModel" "RoadHouseModel$RateQuantitiesModel" "begins" "[I"), (Jvm.Cond.laysFinal "RoadHouseModel$RateQuantitiesModel" "RoadHouseModel$RateQuantitiesModel" "ends" "[I"), (Jvm.Cond.lays "RoadHouseModel$RateQuantitiesModel" "RoadHouseModel$RateQuantitiesModel" "items" "I"), (Jvm.Cond.laysFinal "RoadHouseModel$RateQuantitiesModel" "RoadHouseModel$RateQuantitiesModel" "names" "[I"), (Jvm.Cond.laysFinal "RoadHouseModel$RateQuantitiesModel" "RoadHouseModel$RateQuantitiesModel" "froms" "[I"), (Jvm.Cond.laysFinal "RoadHouseModel$RateQuantitiesModel" "RoadHouseModel$RateQuantitiesModel" "tos" "[I"), (Jvm.Cond.laysFinal "RoadHouseModel$RateQuantitiesModel" "RoadHouseModel$RateQuantitiesModel" "steps" "[I"), (Jvm.Cond.lays "RoadHouseModel$RateQuantitiesModel" "RoadHouseModel$RateQuantitiesModel" "at" "I"), (Jvm.Cond.lays "RoadHouseModel$RateQuantitiesModel" "RoadHouseModel$RateQuantitiesModel" "step" "I"), (Jvm.Cond.laysFinal "RoadHouseModel$RateQuantitiesModel" "RoadHouseModel$RateQuantitiesModel" "rates" "[J"), (Jvm.Cond.laysFinal "RoadHouseModel$RateQuantitiesModel" "RoadHouseModel$RateQuantitiesModel" "counts" "[I"), (Jvm.Cond.lays "RoadHouseModel$RateQuantitiesModel" "RoadHouseModel$RateQuantitiesModel" "shapes" "I"), (Jvm.Cond.laysFinal "RoadHouseModel$RateQuantitiesModel" "RoadHouseModel$RateQuantitiesModel" "numbers" "[I"), (Jvm.Cond.lays "RoadHouseModel$RateQuantitiesModel" "RoadHouseModel$RateQuantitiesModel" "entries" "I"), (Jvm.Cond.laysFinal "RoadHouseModel$RateQuantitiesModel" "RoadHouseModel$RateQuantitiesModel" "entry" "[I"), (Jvm.Cond.laysFinal "RoadHouseModel$RateQuantitiesModel" "RoadHouseModel$RateQuantitiesModel" "now" "[I"), (Jvm.Cond.laysFinal "RoadHouseModel$RateQuantitiesModel" "RoadHouseModel$RateQuantitiesModel" "before" "[I"), (Jvm.Cond.lays "RoadHouseModel$RateQuantitiesModel" "RoadHouseModel$RateQuantitiesModel" "changes" "I"), (Jvm.Cond.laysFinal "RoadHouseModel$RateQuantitiesModel" "RoadHouseModel$RateQuantitiesModel" "change" "[I"), (Jvm.Cond.lays "RoadHouseModel$RateQuantitiesModel" "RoadHouseModel$RateQuantitiesModel" "penalties" "I"), (Jvm.Cond.laysFinal "RoadHouseModel$RateQuantitiesModel" "RoadHouseModel$RateQuantitiesModel" "penalty" "[I"), (Jvm.Cond.lays "RoadHouseModel$RateQuantitiesModel" "RoadHouseModel$RateQuantitiesModel" "troubles" "I"), (Jvm.Cond.laysFinal "RoadHouseModel$RateQuantitiesModel" "RoadHouseModel$RateQuantitiesModel" "trouble" "[I"), (Jvm.Cond.laysFinal "RoadHouseModel$RateQuantitiesModel" "RoadHouseModel$RateQuantitiesModel" "above" "[J"), (Jvm.Cond.laysFinal "RoadHouseModel$RateQuantitiesModel" "RoadHouseModel$RateQuantitiesModel" "below" "[J"), (Jvm.Cond.laysFinal "RoadHouseModel$RateQuantitiesModel" "RoadHouseModel$RateQuantitiesModel" "weights" "[J"), (Jvm.Cond.lays "RoadHouseModel$RateQuantitiesModel" "RoadHouseModel$RateQuantitiesModel" "keptAbove" "J"), (Jvm.Cond.lays "RoadHouseModel$RateQuantitiesModel" "RoadHouseModel$RateQuantitiesModel" "keptBelow" "J"), (Jvm.Cond.lays "RoadHouseModel$RateQuantitiesModel" "RoadHouseModel$RateQuantitiesModel" "backMonth" "I"), (Jvm.Cond.laysFinal "RoadHouseModel$RateQuantitiesModel" "RoadHouseModel$RateQuantitiesModel" "values" "[J"), (Jvm.Cond.laysFinal "RoadHouseModel$RateQuantitiesModel" "RoadHouseModel$RateQuantitiesModel" "signs" "[I"), (Jvm.Cond.lays "RoadHouseModel$RateQuantitiesModel" "RoadHouseModel$RateQuantitiesModel" "byNothing" "Z"), (Jvm.Cond.lays "RoadHouseModel$RateQuantitiesModel" "RoadHouseModel$RateQuantitiesModel" "written" "I"), (Jvm.Cond.laysFinal "RoadHouseModel$RateQuantitiesModel" "RoadHouseModel$RateQuantitiesModel" "out" "[I"), (Jvm.Cond.lays "RoadHouseModel$RateQuantitiesModel" "RoadHouseModel$RateQuantitiesModel" "size" "I")] := by decide +kernel
theorem lu_X15 : ∀ w ∈ u_ws RX15 TX15 40, w ∈ mTB := by
  rw [lw_X15]
  exact List.forall_mem_cons.mpr ⟨mTB_of (sg16 (List.mem_of_getElem? (i := 136) rfl)) rfl, List.forall_mem_cons.mpr ⟨mTB_of (sg16 (List.mem_of_getElem? (i := 138) rfl)) rfl, List.forall_mem_cons.mpr ⟨mTB_of (sg16 (List.mem_of_getElem? (i := 140) rfl)) rfl, List.forall_mem_cons.mpr ⟨mTB_of (sg16 (List.mem_of_getElem? (i := 142) rfl)) rfl, List.forall_mem_cons.mpr ⟨mTB_of (sg16 (List.mem_of_getElem? (i := 144) rfl)) rfl, List.forall_mem_cons.mpr ⟨mTB_of (sg16 (List.mem_of_getElem? (i := 146) rfl)) rfl, List.forall_mem_cons.mpr ⟨mTB_of (sg16 (List.mem_of_getElem? (i := 148) rfl)) rfl, List.forall_mem_cons.mpr ⟨mTB_of (sg16 (List.mem_of_getElem? (i := 150) rfl)) rfl, List.forall_mem_cons.mpr ⟨mTB_of (sg16 (List.mem_of_getElem? (i := 152) rfl)) rfl, List.forall_mem_cons.mpr ⟨mTB_of (sg16 (List.mem_of_getElem? (i := 154) rfl)) rfl, List.forall_mem_cons.mpr ⟨mTB_of (sg16 (List.mem_of_getElem? (i := 156) rfl)) rfl, List.forall_mem_cons.mpr ⟨mTB_of (sg16 (List.mem_of_getElem? (i := 158) rfl)) rfl, List.forall_mem_cons.mpr ⟨mTB_of (sg16 (List.mem_of_getElem? (i := 160) rfl)) rfl, List.forall_mem_cons.mpr ⟨mTB_of (sg16 (List.mem_of_getElem? (i := 162) rfl)) rfl, List.forall_mem_cons.mpr ⟨mTB_of (sg16 (List.mem_of_getElem? (i := 164) rfl)) rfl, List.forall_mem_cons.mpr ⟨mTB_of (sg16 (List.mem_of_getElem? (i := 166) rfl)) rfl, List.forall_mem_cons.mpr ⟨mTB_of (sg16 (List.mem_of_getElem? (i := 168) rfl)) rfl, List.forall_mem_cons.mpr ⟨mTB_of (sg16 (List.mem_of_getElem? (i := 170) rfl)) rfl, List.forall_mem_cons.mpr ⟨mTB_of (sg16 (List.mem_of_getElem? (i := 172) rfl)) rfl, List.forall_mem_cons.mpr ⟨mTB_of (sg16 (List.mem_of_getElem? (i := 174) rfl)) rfl, List.forall_mem_cons.mpr ⟨mTB_of (sg16 (List.mem_of_getElem? (i := 176) rfl)) rfl, List.forall_mem_cons.mpr ⟨mTB_of (sg16 (List.mem_of_getElem? (i := 178) rfl)) rfl, List.forall_mem_cons.mpr ⟨mTB_of (sg16 (List.mem_of_getElem? (i := 180) rfl)) rfl, List.forall_mem_cons.mpr ⟨mTB_of (sg16 (List.mem_of_getElem? (i := 182) rfl)) rfl, List.forall_mem_cons.mpr ⟨mTB_of (sg16 (List.mem_of_getElem? (i := 184) rfl)) rfl, List.forall_mem_cons.mpr ⟨mTB_of (sg16 (List.mem_of_getElem? (i := 186) rfl)) rfl, List.forall_mem_cons.mpr ⟨mTB_of (sg16 (List.mem_of_getElem? (i := 188) rfl)) rfl, List.forall_mem_cons.mpr ⟨mTB_of (sg16 (List.mem_of_getElem? (i := 190) rfl)) rfl, List.forall_mem_cons.mpr ⟨mTB_of (sg16 (List.mem_of_getElem? (i := 192) rfl)) rfl, List.forall_mem_cons.mpr ⟨mTB_of (sg16 (List.mem_of_getElem? (i := 194) rfl)) rfl, List.forall_mem_cons.mpr ⟨mTB_of (sg16 (List.mem_of_getElem? (i := 196) rfl)) rfl, List.forall_mem_cons.mpr ⟨mTB_of (sg16 (List.mem_of_getElem? (i := 198) rfl)) rfl, List.forall_mem_cons.mpr ⟨mTB_of (sg16 (List.mem_of_getElem? (i := 200) rfl)) rfl, List.forall_mem_cons.mpr ⟨mTB_of (sg16 (List.mem_of_getElem? (i := 202) rfl)) rfl, List.forall_mem_cons.mpr ⟨mTB_of (sg16 (List.mem_of_getElem? (i := 204) rfl)) rfl, List.forall_mem_cons.mpr ⟨mTB_of (sg16 (List.mem_of_getElem? (i := 206) rfl)) rfl, List.forall_mem_cons.mpr ⟨mTB_of (sg16 (List.mem_of_getElem? (i := 208) rfl)) rfl, List.forall_mem_cons.mpr ⟨mTB_of (sg16 (List.mem_of_getElem? (i := 210) rfl)) rfl, List.forall_mem_cons.mpr ⟨mTB_of (sg16 (List.mem_of_getElem? (i := 212) rfl)) rfl, List.forall_mem_cons.mpr ⟨mTB_of (sg16 (List.mem_of_getElem? (i := 214) rfl)) rfl, fun _ h => absurd h List.not_mem_nil⟩⟩⟩⟩⟩⟩⟩⟩⟩⟩⟩⟩⟩⟩⟩⟩⟩⟩⟩⟩⟩⟩⟩⟩⟩⟩⟩⟩⟩⟩⟩⟩⟩⟩⟩⟩⟩⟩⟩⟩
set_option maxRecDepth 1000000 in
theorem lw_X16 : u_ws RX16 TX16 30 = [(Jvm.Cond.lays "RoadHouseModel$SignalProofsModel" "RoadHouseModel$SignalProofsModel" "fault" "I"), (Jvm.Cond.lays "RoadHouseModel$SignalProofsModel" "RoadHouseModel$SignalProofsModel" "n" "I"), (Jvm.Cond.laysFinal "RoadHouseModel$SignalProofsModel" "RoadHouseModel$SignalProofsModel" "least" "[I"), (Jvm.Cond.laysFinal "RoadHouseModel$SignalProofsModel" "RoadHouseModel$SignalProofsModel" "most" "[I"), (Jvm.Cond.laysFinal "RoadHouseModel$SignalProofsModel" "RoadHouseModel$SignalProofsModel" "clashes" "[Z"), (Jvm.Cond.laysFinal "RoadHouseModel$SignalProofsModel" "RoadHouseModel$SignalProofsModel" "clears" "[I"), (Jvm.Cond.lays "RoadHouseModel$SignalProofsModel" "RoadHouseModel$SignalProofsModel" "plans" "I"), (Jvm.Cond.laysFinal "RoadHouseModel$SignalProofsModel" "RoadHouseModel$SignalProofsModel" "phases" "[I"), (Jvm.Cond.laysFinal "RoadHouseModel$SignalProofsModel" "RoadHouseModel$SignalProofsModel" "told" "[I"), (Jvm.Cond.laysFinal "RoadHouseModel$SignalProofsModel" "RoadHouseModel$SignalProofsModel" "readPhase" "[I"), (Jvm.Cond.lays "RoadHouseModel$SignalProofsModel" "RoadHouseModel$SignalProofsModel" "size" "I"), (Jvm.Cond.laysFinal "RoadHouseModel$SignalProofsModel" "RoadHouseModel$SignalProofsModel" "text" "[I"), (Jvm.Cond.laysFinal "RoadHouseModel$SignalProofsModel" "RoadHouseModel$SignalProofsModel" "machine" "[I"), (Jvm.Cond.laysFinal "RoadHouseModel$SignalProofsModel" "RoadHouseModel$SignalProofsModel" "state" "[I"), (Jvm.Cond.lays "RoadHouseModel$SignalProofsModel" "RoadHouseModel$SignalProofsModel" "seconds" "I"), (Jvm.Cond.lays "RoadHouseModel$SignalProofsModel" "RoadHouseModel$SignalProofsModel" "many" "I"), (Jvm.Cond.laysFinal "RoadHouseModel$SignalProofsModel" "RoadHouseModel$SignalProofsModel" "when" "[I"), (Jvm.Cond.laysFinal "RoadHouseModel$SignalProofsModel" "RoadHouseModel$SignalProofsModel" "what" "[I"), (Jvm.Cond.lays "RoadHouseModel$SignalProofsModel" "RoadHouseModel$SignalProofsModel" "tooEarly" "Z"), (Jvm.Cond.lays "RoadHouseModel$SignalProofsModel" "RoadHouseModel$SignalProofsModel" "tooShort" "Z"), (Jvm.Cond.lays "RoadHouseModel$SignalProofsModel" "RoadHouseModel$SignalProofsModel" "proof" "I"), (Jvm.Cond.lays "RoadHouseModel$SignalProofsModel" "RoadHouseModel$SignalProofsModel" "found" "I"), (Jvm.Cond.laysFinal "RoadHouseModel$SignalProofsModel" "RoadHouseModel$SignalProofsModel" "rows" "[I"), (Jvm.Cond.laysFinal "RoadHouseModel$SignalProofsModel" "RoadHouseModel$SignalProofsModel" "keys" "[I"), (Jvm.Cond.laysFinal "RoadHouseModel$SignalProofsModel" "RoadHouseModel$SignalProofsModel" "from" "[I"), (Jvm.Cond.laysFinal "RoadHouseModel$SignalProofsModel" "RoadHouseModel$SignalProofsModel" "by" "[I"), (Jvm.Cond.laysFinal "RoadHouseModel$SignalProofsModel" "RoadHouseModel$SignalProofsModel" "leads" "[I"), (Jvm.Cond.lays "RoadHouseModel$SignalProofsModel" "RoadHouseModel$SignalProofsModel" "faultFrom" "I"), (Jvm.Cond.lays "RoadHouseModel$SignalProofsModel" "RoadHouseModel$SignalProofsModel" "faultBy" "I"), (Jvm.Cond.laysFinal "RoadHouseModel$SignalProofsModel" "RoadHouseModel$SignalProofsModel" "waits" "[I")] := by decide +kernel
theorem lu_X16 : ∀ w ∈ u_ws RX16 TX16 30, w ∈ mTB := by
  rw [lw_X16]
  exact List.forall_mem_cons.mpr ⟨mTB_of (sg15 (List.mem_of_getElem? (i := 166) rfl)) rfl, List.forall_mem_cons.mpr ⟨mTB_of (sg15 (List.mem_of_getElem? (i := 168) rfl)) rfl, List.forall_mem_cons.mpr ⟨mTB_of (sg15 (List.mem_of_getElem? (i := 170) rfl)) rfl, List.forall_mem_cons.mpr ⟨mTB_of (sg15 (List.mem_of_getElem? (i := 172) rfl)) rfl, List.forall_mem_cons.mpr ⟨mTB_of (sg15 (List.mem_of_getElem? (i := 174) rfl)) rfl, List.forall_mem_cons.mpr ⟨mTB_of (sg15 (List.mem_of_getElem? (i := 176) rfl)) rfl, List.forall_mem_cons.mpr ⟨mTB_of (sg15 (List.mem_of_getElem? (i := 178) rfl)) rfl, List.forall_mem_cons.mpr ⟨mTB_of (sg15 (List.mem_of_getElem? (i := 180) rfl)) rfl, List.forall_mem_cons.mpr ⟨mTB_of (sg15 (List.mem_of_getElem? (i := 182) rfl)) rfl, List.forall_mem_cons.mpr ⟨mTB_of (sg15 (List.mem_of_getElem? (i := 184) rfl)) rfl, List.forall_mem_cons.mpr ⟨mTB_of (sg15 (List.mem_of_getElem? (i := 186) rfl)) rfl, List.forall_mem_cons.mpr ⟨mTB_of (sg15 (List.mem_of_getElem? (i := 188) rfl)) rfl, List.forall_mem_cons.mpr ⟨mTB_of (sg15 (List.mem_of_getElem? (i := 190) rfl)) rfl, List.forall_mem_cons.mpr ⟨mTB_of (sg15 (List.mem_of_getElem? (i := 192) rfl)) rfl, List.forall_mem_cons.mpr ⟨mTB_of (sg15 (List.mem_of_getElem? (i := 194) rfl)) rfl, List.forall_mem_cons.mpr ⟨mTB_of (sg15 (List.mem_of_getElem? (i := 196) rfl)) rfl, List.forall_mem_cons.mpr ⟨mTB_of (sg15 (List.mem_of_getElem? (i := 198) rfl)) rfl, List.forall_mem_cons.mpr ⟨mTB_of (sg15 (List.mem_of_getElem? (i := 200) rfl)) rfl, List.forall_mem_cons.mpr ⟨mTB_of (sg15 (List.mem_of_getElem? (i := 202) rfl)) rfl, List.forall_mem_cons.mpr ⟨mTB_of (sg15 (List.mem_of_getElem? (i := 204) rfl)) rfl, List.forall_mem_cons.mpr ⟨mTB_of (sg15 (List.mem_of_getElem? (i := 206) rfl)) rfl, List.forall_mem_cons.mpr ⟨mTB_of (sg15 (List.mem_of_getElem? (i := 208) rfl)) rfl, List.forall_mem_cons.mpr ⟨mTB_of (sg15 (List.mem_of_getElem? (i := 210) rfl)) rfl, List.forall_mem_cons.mpr ⟨mTB_of (sg15 (List.mem_of_getElem? (i := 212) rfl)) rfl, List.forall_mem_cons.mpr ⟨mTB_of (sg15 (List.mem_of_getElem? (i := 214) rfl)) rfl, List.forall_mem_cons.mpr ⟨mTB_of (sg15 (List.mem_of_getElem? (i := 216) rfl)) rfl, List.forall_mem_cons.mpr ⟨mTB_of (sg15 (List.mem_of_getElem? (i := 218) rfl)) rfl, List.forall_mem_cons.mpr ⟨mTB_of (sg15 (List.mem_of_getElem? (i := 220) rfl)) rfl, List.forall_mem_cons.mpr ⟨mTB_of (sg15 (List.mem_of_getElem? (i := 222) rfl)) rfl, List.forall_mem_cons.mpr ⟨mTB_of (sg15 (List.mem_of_getElem? (i := 224) rfl)) rfl, fun _ h => absurd h List.not_mem_nil⟩⟩⟩⟩⟩⟩⟩⟩⟩⟩⟩⟩⟩⟩⟩⟩⟩⟩⟩⟩⟩⟩⟩⟩⟩⟩⟩⟩⟩⟩
set_option maxRecDepth 1000000 in
theorem lw_X17 : u_ws RX17 TX17 32 = [(Jvm.Cond.laysFinal "RoadHouseModel$StreetCellsModel" "RoadHouseModel$StreetCellsModel" "n" "I"), (Jvm.Cond.laysFinal "RoadHouseModel$StreetCellsModel" "RoadHouseModel$StreetCellsModel" "room" "[I"), (Jvm.Cond.laysFinal "RoadHouseModel$StreetCellsModel" "RoadHouseModel$StreetCellsModel" "most" "[I"), (Jvm.Cond.laysFinal "RoadHouseModel$StreetCellsModel" "RoadHouseModel$StreetCellsModel" "speed" "[I"), (Jvm.Cond.laysFinal "RoadHouseModel$StreetCellsModel" "RoadHouseModel$StreetCellsModel" "least" "[I"), (Jvm.Cond.laysFinal "RoadHouseModel$StreetCellsModel" "RoadHouseModel$StreetCellsModel" "lane" "[I"), (Jvm.Cond.lays "RoadHouseModel$StreetCellsModel" "RoadHouseModel$StreetCellsModel" "joins" "I"), (Jvm.Cond.laysFinal "RoadHouseModel$StreetCellsModel" "RoadHouseModel$StreetCellsModel" "from" "[I"), (Jvm.Cond.laysFinal "RoadHouseModel$StreetCellsModel" "RoadHouseModel$StreetCellsModel" "to" "[I"), (Jvm.Cond.laysFinal "RoadHouseModel$StreetCellsModel" "RoadHouseModel$StreetCellsModel" "above" "[I"), (Jvm.Cond.laysFinal "RoadHouseModel$StreetCellsModel" "RoadHouseModel$StreetCellsModel" "below" "[I"), (Jvm.Cond.laysFinal "RoadHouseModel$StreetCellsModel" "RoadHouseModel$StreetCellsModel" "rank" "[I"), (Jvm.Cond.laysFinal "RoadHouseModel$StreetCellsModel" "RoadHouseModel$StreetCellsModel" "wanted" "[I"), (Jvm.Cond.laysFinal "RoadHouseModel$StreetCellsModel" "RoadHouseModel$StreetCellsModel" "taken" "[I"), (Jvm.Cond.lays "RoadHouseModel$StreetCellsModel" "RoadHouseModel$StreetCellsModel" "settings" "I"), (Jvm.Cond.laysFinal "RoadHouseModel$StreetCellsModel" "RoadHouseModel$StreetCellsModel" "setting" "[I"), (Jvm.Cond.lays "RoadHouseModel$StreetCellsModel" "RoadHouseModel$StreetCellsModel" "entries" "I"), (Jvm.Cond.laysFinal "RoadHouseModel$StreetCellsModel" "RoadHouseModel$StreetCellsModel" "entry" "[I"), (Jvm.Cond.lays "RoadHouseModel$StreetCellsModel" "RoadHouseModel$StreetCellsModel" "measures" "I"), (Jvm.Cond.laysFinal "RoadHouseModel$StreetCellsModel" "RoadHouseModel$StreetCellsModel" "measure" "[I"), (Jvm.Cond.lays "RoadHouseModel$StreetCellsModel" "RoadHouseModel$StreetCellsModel" "rules" "I"), (Jvm.Cond.laysFinal "RoadHouseModel$StreetCellsModel" "RoadHouseModel$StreetCellsModel" "rule" "[I"), (Jvm.Cond.laysFinal "RoadHouseModel$StreetCellsModel" "RoadHouseModel$StreetCellsModel" "now" "[J"), (Jvm.Cond.laysFinal "RoadHouseModel$StreetCellsModel" "RoadHouseModel$StreetCellsModel" "kept" "[J"), (Jvm.Cond.lays "RoadHouseModel$StreetCellsModel" "RoadHouseModel$StreetCellsModel" "saves" "I"), (Jvm.Cond.laysFinal "RoadHouseModel$StreetCellsModel" "RoadHouseModel$StreetCellsModel" "cap" "[I"), (Jvm.Cond.laysFinal "RoadHouseModel$StreetCellsModel" "RoadHouseModel$StreetCellsModel" "can" "[I"), (Jvm.Cond.laysFinal "RoadHouseModel$StreetCellsModel" "RoadHouseModel$StreetCellsModel" "sends" "[I"), (Jvm.Cond.laysFinal "RoadHouseModel$StreetCellsModel" "RoadHouseModel$StreetCellsModel" "takes" "[I"), (Jvm.Cond.laysFinal "RoadHouseModel$StreetCellsModel" "RoadHouseModel$StreetCellsModel" "held" "[Z"), (Jvm.Cond.laysFinal "RoadHouseModel$StreetCellsModel" "RoadHouseModel$StreetCellsModel" "gains" "[I"), (Jvm.Cond.lays "RoadHouseModel$StreetCellsModel" "RoadHouseModel$StreetCellsModel" "thrown" "I")] := by decide +kernel
theorem lu_X17 : ∀ w ∈ u_ws RX17 TX17 32, w ∈ mTB := by
  rw [lw_X17]
  exact List.forall_mem_cons.mpr ⟨mTB_of (sg16 (List.mem_of_getElem? (i := 25) rfl)) rfl, List.forall_mem_cons.mpr ⟨mTB_of (sg16 (List.mem_of_getElem? (i := 27) rfl)) rfl, List.forall_mem_cons.mpr ⟨mTB_of (sg16 (List.mem_of_getElem? (i := 29) rfl)) rfl, List.forall_mem_cons.mpr ⟨mTB_of (sg16 (List.mem_of_getElem? (i := 31) rfl)) rfl, List.forall_mem_cons.mpr ⟨mTB_of (sg16 (List.mem_of_getElem? (i := 33) rfl)) rfl, List.forall_mem_cons.mpr ⟨mTB_of (sg16 (List.mem_of_getElem? (i := 35) rfl)) rfl, List.forall_mem_cons.mpr ⟨mTB_of (sg16 (List.mem_of_getElem? (i := 37) rfl)) rfl, List.forall_mem_cons.mpr ⟨mTB_of (sg16 (List.mem_of_getElem? (i := 39) rfl)) rfl, List.forall_mem_cons.mpr ⟨mTB_of (sg16 (List.mem_of_getElem? (i := 41) rfl)) rfl, List.forall_mem_cons.mpr ⟨mTB_of (sg16 (List.mem_of_getElem? (i := 43) rfl)) rfl, List.forall_mem_cons.mpr ⟨mTB_of (sg16 (List.mem_of_getElem? (i := 45) rfl)) rfl, List.forall_mem_cons.mpr ⟨mTB_of (sg16 (List.mem_of_getElem? (i := 47) rfl)) rfl, List.forall_mem_cons.mpr ⟨mTB_of (sg16 (List.mem_of_getElem? (i := 49) rfl)) rfl, List.forall_mem_cons.mpr ⟨mTB_of (sg16 (List.mem_of_getElem? (i := 51) rfl)) rfl, List.forall_mem_cons.mpr ⟨mTB_of (sg16 (List.mem_of_getElem? (i := 53) rfl)) rfl, List.forall_mem_cons.mpr ⟨mTB_of (sg16 (List.mem_of_getElem? (i := 55) rfl)) rfl, List.forall_mem_cons.mpr ⟨mTB_of (sg16 (List.mem_of_getElem? (i := 57) rfl)) rfl, List.forall_mem_cons.mpr ⟨mTB_of (sg16 (List.mem_of_getElem? (i := 59) rfl)) rfl, List.forall_mem_cons.mpr ⟨mTB_of (sg16 (List.mem_of_getElem? (i := 61) rfl)) rfl, List.forall_mem_cons.mpr ⟨mTB_of (sg16 (List.mem_of_getElem? (i := 63) rfl)) rfl, List.forall_mem_cons.mpr ⟨mTB_of (sg16 (List.mem_of_getElem? (i := 65) rfl)) rfl, List.forall_mem_cons.mpr ⟨mTB_of (sg16 (List.mem_of_getElem? (i := 67) rfl)) rfl, List.forall_mem_cons.mpr ⟨mTB_of (sg16 (List.mem_of_getElem? (i := 69) rfl)) rfl, List.forall_mem_cons.mpr ⟨mTB_of (sg16 (List.mem_of_getElem? (i := 71) rfl)) rfl, List.forall_mem_cons.mpr ⟨mTB_of (sg16 (List.mem_of_getElem? (i := 73) rfl)) rfl, List.forall_mem_cons.mpr ⟨mTB_of (sg16 (List.mem_of_getElem? (i := 75) rfl)) rfl, List.forall_mem_cons.mpr ⟨mTB_of (sg16 (List.mem_of_getElem? (i := 77) rfl)) rfl, List.forall_mem_cons.mpr ⟨mTB_of (sg16 (List.mem_of_getElem? (i := 79) rfl)) rfl, List.forall_mem_cons.mpr ⟨mTB_of (sg16 (List.mem_of_getElem? (i := 81) rfl)) rfl, List.forall_mem_cons.mpr ⟨mTB_of (sg16 (List.mem_of_getElem? (i := 83) rfl)) rfl, List.forall_mem_cons.mpr ⟨mTB_of (sg16 (List.mem_of_getElem? (i := 85) rfl)) rfl, List.forall_mem_cons.mpr ⟨mTB_of (sg16 (List.mem_of_getElem? (i := 87) rfl)) rfl, fun _ h => absurd h List.not_mem_nil⟩⟩⟩⟩⟩⟩⟩⟩⟩⟩⟩⟩⟩⟩⟩⟩⟩⟩⟩⟩⟩⟩⟩⟩⟩⟩⟩⟩⟩⟩⟩⟩
set_option maxRecDepth 1000000 in
theorem lw_X18 : u_ws RX18 TX18 25 = [(Jvm.Cond.lays "RoadHouseModel$StressTurnsModel" "RoadHouseModel$StressTurnsModel" "size" "I"), (Jvm.Cond.laysFinal "RoadHouseModel$StressTurnsModel" "RoadHouseModel$StressTurnsModel" "row" "[I"), (Jvm.Cond.lays "RoadHouseModel$StressTurnsModel" "RoadHouseModel$StressTurnsModel" "points" "I"), (Jvm.Cond.laysFinal "RoadHouseModel$StressTurnsModel" "RoadHouseModel$StressTurnsModel" "point" "[I"), (Jvm.Cond.lays "RoadHouseModel$StressTurnsModel" "RoadHouseModel$StressTurnsModel" "turns" "I"), (Jvm.Cond.laysFinal "RoadHouseModel$StressTurnsModel" "RoadHouseModel$StressTurnsModel" "from" "[I"), (Jvm.Cond.laysFinal "RoadHouseModel$StressTurnsModel" "RoadHouseModel$StressTurnsModel" "to" "[I"), (Jvm.Cond.laysFinal "RoadHouseModel$StressTurnsModel" "RoadHouseModel$StressTurnsModel" "when" "[I"), (Jvm.Cond.laysFinal "RoadHouseModel$StressTurnsModel" "RoadHouseModel$StressTurnsModel" "lines" "[I"), (Jvm.Cond.laysFinal "RoadHouseModel$StressTurnsModel" "RoadHouseModel$StressTurnsModel" "ranges" "[J"), (Jvm.Cond.laysFinal "RoadHouseModel$StressTurnsModel" "RoadHouseModel$StressTurnsModel" "cycles" "[J"), (Jvm.Cond.laysFinal "RoadHouseModel$StressTurnsModel" "RoadHouseModel$StressTurnsModel" "cutOffs" "[J"), (Jvm.Cond.lays "RoadHouseModel$StressTurnsModel" "RoadHouseModel$StressTurnsModel" "above" "J"), (Jvm.Cond.lays "RoadHouseModel$StressTurnsModel" "RoadHouseModel$StressTurnsModel" "below" "J"), (Jvm.Cond.lays "RoadHouseModel$StressTurnsModel" "RoadHouseModel$StressTurnsModel" "repeats" "J"), (Jvm.Cond.laysFinal "RoadHouseModel$StressTurnsModel" "RoadHouseModel$StressTurnsModel" "costs" "[J"), (Jvm.Cond.lays "RoadHouseModel$StressTurnsModel" "RoadHouseModel$StressTurnsModel" "mends" "I"), (Jvm.Cond.laysFinal "RoadHouseModel$StressTurnsModel" "RoadHouseModel$StressTurnsModel" "history" "[I"), (Jvm.Cond.lays "RoadHouseModel$StressTurnsModel" "RoadHouseModel$StressTurnsModel" "crackFrom" "D"), (Jvm.Cond.lays "RoadHouseModel$StressTurnsModel" "RoadHouseModel$StressTurnsModel" "crackSteps" "I"), (Jvm.Cond.laysFinal "RoadHouseModel$StressTurnsModel" "RoadHouseModel$StressTurnsModel" "halves" "[I"), (Jvm.Cond.laysFinal "RoadHouseModel$StressTurnsModel" "RoadHouseModel$StressTurnsModel" "upper" "[I"), (Jvm.Cond.laysFinal "RoadHouseModel$StressTurnsModel" "RoadHouseModel$StressTurnsModel" "lower" "[I"), (Jvm.Cond.laysFinal "RoadHouseModel$StressTurnsModel" "RoadHouseModel$StressTurnsModel" "other" "[I"), (Jvm.Cond.laysFinal "RoadHouseModel$StressTurnsModel" "RoadHouseModel$StressTurnsModel" "plans" "[J")] := by decide +kernel
theorem lu_X18 : ∀ w ∈ u_ws RX18 TX18 25, w ∈ mTB := by
  rw [lw_X18]
  exact List.forall_mem_cons.mpr ⟨mTB_of (sg15 (List.mem_of_getElem? (i := 52) rfl)) rfl, List.forall_mem_cons.mpr ⟨mTB_of (sg15 (List.mem_of_getElem? (i := 54) rfl)) rfl, List.forall_mem_cons.mpr ⟨mTB_of (sg15 (List.mem_of_getElem? (i := 56) rfl)) rfl, List.forall_mem_cons.mpr ⟨mTB_of (sg15 (List.mem_of_getElem? (i := 58) rfl)) rfl, List.forall_mem_cons.mpr ⟨mTB_of (sg15 (List.mem_of_getElem? (i := 60) rfl)) rfl, List.forall_mem_cons.mpr ⟨mTB_of (sg15 (List.mem_of_getElem? (i := 62) rfl)) rfl, List.forall_mem_cons.mpr ⟨mTB_of (sg15 (List.mem_of_getElem? (i := 64) rfl)) rfl, List.forall_mem_cons.mpr ⟨mTB_of (sg15 (List.mem_of_getElem? (i := 66) rfl)) rfl, List.forall_mem_cons.mpr ⟨mTB_of (sg15 (List.mem_of_getElem? (i := 68) rfl)) rfl, List.forall_mem_cons.mpr ⟨mTB_of (sg15 (List.mem_of_getElem? (i := 70) rfl)) rfl, List.forall_mem_cons.mpr ⟨mTB_of (sg15 (List.mem_of_getElem? (i := 72) rfl)) rfl, List.forall_mem_cons.mpr ⟨mTB_of (sg15 (List.mem_of_getElem? (i := 74) rfl)) rfl, List.forall_mem_cons.mpr ⟨mTB_of (sg15 (List.mem_of_getElem? (i := 76) rfl)) rfl, List.forall_mem_cons.mpr ⟨mTB_of (sg15 (List.mem_of_getElem? (i := 78) rfl)) rfl, List.forall_mem_cons.mpr ⟨mTB_of (sg15 (List.mem_of_getElem? (i := 80) rfl)) rfl, List.forall_mem_cons.mpr ⟨mTB_of (sg15 (List.mem_of_getElem? (i := 82) rfl)) rfl, List.forall_mem_cons.mpr ⟨mTB_of (sg15 (List.mem_of_getElem? (i := 84) rfl)) rfl, List.forall_mem_cons.mpr ⟨mTB_of (sg15 (List.mem_of_getElem? (i := 86) rfl)) rfl, List.forall_mem_cons.mpr ⟨mTB_of (sg15 (List.mem_of_getElem? (i := 88) rfl)) rfl, List.forall_mem_cons.mpr ⟨mTB_of (sg15 (List.mem_of_getElem? (i := 90) rfl)) rfl, List.forall_mem_cons.mpr ⟨mTB_of (sg15 (List.mem_of_getElem? (i := 92) rfl)) rfl, List.forall_mem_cons.mpr ⟨mTB_of (sg15 (List.mem_of_getElem? (i := 94) rfl)) rfl, List.forall_mem_cons.mpr ⟨mTB_of (sg15 (List.mem_of_getElem? (i := 96) rfl)) rfl, List.forall_mem_cons.mpr ⟨mTB_of (sg15 (List.mem_of_getElem? (i := 98) rfl)) rfl, List.forall_mem_cons.mpr ⟨mTB_of (sg15 (List.mem_of_getElem? (i := 100) rfl)) rfl, fun _ h => absurd h List.not_mem_nil⟩⟩⟩⟩⟩⟩⟩⟩⟩⟩⟩⟩⟩⟩⟩⟩⟩⟩⟩⟩⟩⟩⟩⟩⟩
set_option maxRecDepth 1000000 in
theorem lw_X19 : u_ws RX19 TX19 35 = [(Jvm.Cond.laysFinal "RoadHouseModel$TrainWorstModel" "RoadHouseModel$TrainWorstModel" "z" "[I"), (Jvm.Cond.laysFinal "RoadHouseModel$TrainWorstModel" "RoadHouseModel$TrainWorstModel" "signs" "[I"), (Jvm.Cond.lays "RoadHouseModel$TrainWorstModel" "RoadHouseModel$TrainWorstModel" "corners" "I"), (Jvm.Cond.laysFinal "RoadHouseModel$TrainWorstModel" "RoadHouseModel$TrainWorstModel" "at" "[I"), (Jvm.Cond.laysFinal "RoadHouseModel$TrainWorstModel" "RoadHouseModel$TrainWorstModel" "above" "[J"), (Jvm.Cond.laysFinal "RoadHouseModel$TrainWorstModel" "RoadHouseModel$TrainWorstModel" "below" "[J"), (Jvm.Cond.lays "RoadHouseModel$TrainWorstModel" "RoadHouseModel$TrainWorstModel" "prepared" "Z"), (Jvm.Cond.lays "RoadHouseModel$TrainWorstModel" "RoadHouseModel$TrainWorstModel" "trains" "I"), (Jvm.Cond.laysFinal "RoadHouseModel$TrainWorstModel" "RoadHouseModel$TrainWorstModel" "axles" "[I"), (Jvm.Cond.laysFinal "RoadHouseModel$TrainWorstModel" "RoadHouseModel$TrainWorstModel" "behind" "[I"), (Jvm.Cond.laysFinal "RoadHouseModel$TrainWorstModel" "RoadHouseModel$TrainWorstModel" "loads" "[I"), (Jvm.Cond.laysFinal "RoadHouseModel$TrainWorstModel" "RoadHouseModel$TrainWorstModel" "least" "[I"), (Jvm.Cond.laysFinal "RoadHouseModel$TrainWorstModel" "RoadHouseModel$TrainWorstModel" "most" "[I"), (Jvm.Cond.lays "RoadHouseModel$TrainWorstModel" "RoadHouseModel$TrainWorstModel" "has" "Z"), (Jvm.Cond.lays "RoadHouseModel$TrainWorstModel" "RoadHouseModel$TrainWorstModel" "worstTrain" "I"), (Jvm.Cond.lays "RoadHouseModel$TrainWorstModel" "RoadHouseModel$TrainWorstModel" "worstAt" "I"), (Jvm.Cond.lays "RoadHouseModel$TrainWorstModel" "RoadHouseModel$TrainWorstModel" "worstBack" "Z"), (Jvm.Cond.lays "RoadHouseModel$TrainWorstModel" "RoadHouseModel$TrainWorstModel" "second" "I"), (Jvm.Cond.lays "RoadHouseModel$TrainWorstModel" "RoadHouseModel$TrainWorstModel" "secondAt" "I"), (Jvm.Cond.lays "RoadHouseModel$TrainWorstModel" "RoadHouseModel$TrainWorstModel" "both" "Z"), (Jvm.Cond.lays "RoadHouseModel$TrainWorstModel" "RoadHouseModel$TrainWorstModel" "tried" "J"), (Jvm.Cond.lays "RoadHouseModel$TrainWorstModel" "RoadHouseModel$TrainWorstModel" "lanes" "I"), (Jvm.Cond.laysFinal "RoadHouseModel$TrainWorstModel" "RoadHouseModel$TrainWorstModel" "laneAbove" "[J"), (Jvm.Cond.laysFinal "RoadHouseModel$TrainWorstModel" "RoadHouseModel$TrainWorstModel" "laneBelow" "[J"), (Jvm.Cond.lays "RoadHouseModel$TrainWorstModel" "RoadHouseModel$TrainWorstModel" "size" "I"), (Jvm.Cond.laysFinal "RoadHouseModel$TrainWorstModel" "RoadHouseModel$TrainWorstModel" "text" "[I"), (Jvm.Cond.lays "RoadHouseModel$TrainWorstModel" "RoadHouseModel$TrainWorstModel" "cases" "I"), (Jvm.Cond.laysFinal "RoadHouseModel$TrainWorstModel" "RoadHouseModel$TrainWorstModel" "terms" "[I"), (Jvm.Cond.laysFinal "RoadHouseModel$TrainWorstModel" "RoadHouseModel$TrainWorstModel" "term" "[I"), (Jvm.Cond.laysFinal "RoadHouseModel$TrainWorstModel" "RoadHouseModel$TrainWorstModel" "readTerms" "[I"), (Jvm.Cond.laysFinal "RoadHouseModel$TrainWorstModel" "RoadHouseModel$TrainWorstModel" "read" "[I"), (Jvm.Cond.lays "RoadHouseModel$TrainWorstModel" "RoadHouseModel$TrainWorstModel" "many" "I"), (Jvm.Cond.laysFinal "RoadHouseModel$TrainWorstModel" "RoadHouseModel$TrainWorstModel" "places" "[I"), (Jvm.Cond.lays "RoadHouseModel$TrainWorstModel" "RoadHouseModel$TrainWorstModel" "gaps" "I"), (Jvm.Cond.laysFinal "RoadHouseModel$TrainWorstModel" "RoadHouseModel$TrainWorstModel" "gap" "[I")] := by decide +kernel
theorem lu_X19 : ∀ w ∈ u_ws RX19 TX19 35, w ∈ mTB := by
  rw [lw_X19]
  exact List.forall_mem_cons.mpr ⟨mTB_of (sg14 (List.mem_of_getElem? (i := 190) rfl)) rfl, List.forall_mem_cons.mpr ⟨mTB_of (sg14 (List.mem_of_getElem? (i := 192) rfl)) rfl, List.forall_mem_cons.mpr ⟨mTB_of (sg14 (List.mem_of_getElem? (i := 194) rfl)) rfl, List.forall_mem_cons.mpr ⟨mTB_of (sg14 (List.mem_of_getElem? (i := 196) rfl)) rfl, List.forall_mem_cons.mpr ⟨mTB_of (sg14 (List.mem_of_getElem? (i := 198) rfl)) rfl, List.forall_mem_cons.mpr ⟨mTB_of (sg14 (List.mem_of_getElem? (i := 200) rfl)) rfl, List.forall_mem_cons.mpr ⟨mTB_of (sg14 (List.mem_of_getElem? (i := 202) rfl)) rfl, List.forall_mem_cons.mpr ⟨mTB_of (sg14 (List.mem_of_getElem? (i := 204) rfl)) rfl, List.forall_mem_cons.mpr ⟨mTB_of (sg14 (List.mem_of_getElem? (i := 206) rfl)) rfl, List.forall_mem_cons.mpr ⟨mTB_of (sg14 (List.mem_of_getElem? (i := 208) rfl)) rfl, List.forall_mem_cons.mpr ⟨mTB_of (sg14 (List.mem_of_getElem? (i := 210) rfl)) rfl, List.forall_mem_cons.mpr ⟨mTB_of (sg14 (List.mem_of_getElem? (i := 212) rfl)) rfl, List.forall_mem_cons.mpr ⟨mTB_of (sg14 (List.mem_of_getElem? (i := 214) rfl)) rfl, List.forall_mem_cons.mpr ⟨mTB_of (sg14 (List.mem_of_getElem? (i := 216) rfl)) rfl, List.forall_mem_cons.mpr ⟨mTB_of (sg14 (List.mem_of_getElem? (i := 218) rfl)) rfl, List.forall_mem_cons.mpr ⟨mTB_of (sg14 (List.mem_of_getElem? (i := 220) rfl)) rfl, List.forall_mem_cons.mpr ⟨mTB_of (sg14 (List.mem_of_getElem? (i := 222) rfl)) rfl, List.forall_mem_cons.mpr ⟨mTB_of (sg14 (List.mem_of_getElem? (i := 224) rfl)) rfl, List.forall_mem_cons.mpr ⟨mTB_of (sg14 (List.mem_of_getElem? (i := 226) rfl)) rfl, List.forall_mem_cons.mpr ⟨mTB_of (sg14 (List.mem_of_getElem? (i := 228) rfl)) rfl, List.forall_mem_cons.mpr ⟨mTB_of (sg14 (List.mem_of_getElem? (i := 230) rfl)) rfl, List.forall_mem_cons.mpr ⟨mTB_of (sg14 (List.mem_of_getElem? (i := 232) rfl)) rfl, List.forall_mem_cons.mpr ⟨mTB_of (sg14 (List.mem_of_getElem? (i := 234) rfl)) rfl, List.forall_mem_cons.mpr ⟨mTB_of (sg14 (List.mem_of_getElem? (i := 236) rfl)) rfl, List.forall_mem_cons.mpr ⟨mTB_of (sg14 (List.mem_of_getElem? (i := 238) rfl)) rfl, List.forall_mem_cons.mpr ⟨mTB_of (sg15 (List.mem_of_getElem? (i := 0) rfl)) rfl, List.forall_mem_cons.mpr ⟨mTB_of (sg15 (List.mem_of_getElem? (i := 2) rfl)) rfl, List.forall_mem_cons.mpr ⟨mTB_of (sg15 (List.mem_of_getElem? (i := 4) rfl)) rfl, List.forall_mem_cons.mpr ⟨mTB_of (sg15 (List.mem_of_getElem? (i := 6) rfl)) rfl, List.forall_mem_cons.mpr ⟨mTB_of (sg15 (List.mem_of_getElem? (i := 8) rfl)) rfl, List.forall_mem_cons.mpr ⟨mTB_of (sg15 (List.mem_of_getElem? (i := 10) rfl)) rfl, List.forall_mem_cons.mpr ⟨mTB_of (sg15 (List.mem_of_getElem? (i := 12) rfl)) rfl, List.forall_mem_cons.mpr ⟨mTB_of (sg15 (List.mem_of_getElem? (i := 14) rfl)) rfl, List.forall_mem_cons.mpr ⟨mTB_of (sg15 (List.mem_of_getElem? (i := 16) rfl)) rfl, List.forall_mem_cons.mpr ⟨mTB_of (sg15 (List.mem_of_getElem? (i := 18) rfl)) rfl, fun _ h => absurd h List.not_mem_nil⟩⟩⟩⟩⟩⟩⟩⟩⟩⟩⟩⟩⟩⟩⟩⟩⟩⟩⟩⟩⟩⟩⟩⟩⟩⟩⟩⟩⟩⟩⟩⟩⟩⟩⟩
set_option maxRecDepth 1000000 in
theorem lw_X20 : u_ws RX20 TX20 19 = [(Jvm.Cond.lays "RoadHouseModel" "RoadHouseModel" "fault" "I"), (Jvm.Cond.laysFinal "RoadHouseModel" "RoadHouseModel" "way" "LRoadHouseModel$CorridorCellsModel;"), (Jvm.Cond.laysFinal "RoadHouseModel" "RoadHouseModel" "earth" "LRoadHouseModel$HaulFlowsModel;"), (Jvm.Cond.laysFinal "RoadHouseModel" "RoadHouseModel" "beams" "LRoadHouseModel$InfluenceRowsModel;"), (Jvm.Cond.laysFinal "RoadHouseModel" "RoadHouseModel" "trains" "LRoadHouseModel$TrainWorstModel;"), (Jvm.Cond.laysFinal "RoadHouseModel" "RoadHouseModel" "stress" "LRoadHouseModel$StressTurnsModel;"), (Jvm.Cond.laysFinal "RoadHouseModel" "RoadHouseModel" "signals" "LRoadHouseModel$SignalProofsModel;"), (Jvm.Cond.laysFinal "RoadHouseModel" "RoadHouseModel" "cars" "LRoadHouseModel$StreetCellsModel;"), (Jvm.Cond.laysFinal "RoadHouseModel" "RoadHouseModel" "contract" "LRoadHouseModel$RateQuantitiesModel;"), (Jvm.Cond.laysFinal "RoadHouseModel" "RoadHouseModel" "levels" "[I"), (Jvm.Cond.laysFinal "RoadHouseModel" "RoadHouseModel" "kinds" "[I"), (Jvm.Cond.laysFinal "RoadHouseModel" "RoadHouseModel" "weeks" "[I"), (Jvm.Cond.laysFinal "RoadHouseModel" "RoadHouseModel" "dark" "[Z"), (Jvm.Cond.lays "RoadHouseModel" "RoadHouseModel" "places" "I"), (Jvm.Cond.laysFinal "RoadHouseModel" "RoadHouseModel" "cells" "[I"), (Jvm.Cond.laysFinal "RoadHouseModel" "RoadHouseModel" "metres" "[I"), (Jvm.Cond.laysFinal "RoadHouseModel" "RoadHouseModel" "lengths" "[I"), (Jvm.Cond.laysFinal "RoadHouseModel" "RoadHouseModel" "corners" "[J"), (Jvm.Cond.lays "RoadHouseModel" "RoadHouseModel" "joins" "I")] := by decide +kernel
theorem lu_X20 : ∀ w ∈ u_ws RX20 TX20 19, w ∈ mTB := by
  rw [lw_X20]
  exact List.forall_mem_cons.mpr ⟨mTB_of (sg16 (List.mem_of_getElem? (i := 236) rfl)) rfl, List.forall_mem_cons.mpr ⟨mTB_of (sg16 (List.mem_of_getElem? (i := 238) rfl)) rfl, List.forall_mem_cons.mpr ⟨mTB_of (sg17 (List.mem_of_getElem? (i := 0) rfl)) rfl, List.forall_mem_cons.mpr ⟨mTB_of (sg17 (List.mem_of_getElem? (i := 2) rfl)) rfl, List.forall_mem_cons.mpr ⟨mTB_of (sg17 (List.mem_of_getElem? (i := 4) rfl)) rfl, List.forall_mem_cons.mpr ⟨mTB_of (sg17 (List.mem_of_getElem? (i := 6) rfl)) rfl, List.forall_mem_cons.mpr ⟨mTB_of (sg17 (List.mem_of_getElem? (i := 8) rfl)) rfl, List.forall_mem_cons.mpr ⟨mTB_of (sg17 (List.mem_of_getElem? (i := 10) rfl)) rfl, List.forall_mem_cons.mpr ⟨mTB_of (sg17 (List.mem_of_getElem? (i := 12) rfl)) rfl, List.forall_mem_cons.mpr ⟨mTB_of (sg17 (List.mem_of_getElem? (i := 14) rfl)) rfl, List.forall_mem_cons.mpr ⟨mTB_of (sg17 (List.mem_of_getElem? (i := 16) rfl)) rfl, List.forall_mem_cons.mpr ⟨mTB_of (sg17 (List.mem_of_getElem? (i := 18) rfl)) rfl, List.forall_mem_cons.mpr ⟨mTB_of (sg17 (List.mem_of_getElem? (i := 20) rfl)) rfl, List.forall_mem_cons.mpr ⟨mTB_of (sg17 (List.mem_of_getElem? (i := 22) rfl)) rfl, List.forall_mem_cons.mpr ⟨mTB_of (sg17 (List.mem_of_getElem? (i := 24) rfl)) rfl, List.forall_mem_cons.mpr ⟨mTB_of (sg17 (List.mem_of_getElem? (i := 26) rfl)) rfl, List.forall_mem_cons.mpr ⟨mTB_of (sg17 (List.mem_of_getElem? (i := 28) rfl)) rfl, List.forall_mem_cons.mpr ⟨mTB_of (sg17 (List.mem_of_getElem? (i := 30) rfl)) rfl, List.forall_mem_cons.mpr ⟨mTB_of (sg17 (List.mem_of_getElem? (i := 32) rfl)) rfl, fun _ h => absurd h List.not_mem_nil⟩⟩⟩⟩⟩⟩⟩⟩⟩⟩⟩⟩⟩⟩⟩⟩⟩⟩⟩
