/-! the words of each throw stand in the tables -/
theorem thr_in {l : List Cond} {ps : List Nat} (hp : l.filter goodWord = ps.filterMap (fun i => tables_1[i]?)) : ∀ w ∈ l.filter goodWord, w ∈ mTB := fun w hw => by
  have hg : goodWord w = true := (List.mem_filter.mp hw).2
  rw [hp] at hw
  obtain ⟨i, -, hi⟩ := List.mem_filterMap.mp hw
  exact mTB_of (List.mem_of_getElem? hi) hg
set_option maxRecDepth 1000000 in
set_option maxHeartbeats 100000000 in
theorem th_X0_1 {K : mK} (hK : K.2.1 = "RoadHouse$Beams") : mTh K 168 170 1 := by
  unfold mTh mTw
  rw [hK]
  refine ⟨thr_in (ps := [2253, 27, 23, 1063, 1072, 1077, 1080, 1082, 1064, 1065, 48, 49, 1066, 1071, 1078, 1121, 1053, 1122, 1055, 1123, 1057, 1067, 1069, 1059, 2255, 2256, 2257, 2258, 2258, 2259, 2260, 1113, 1113, 1114, 1115, 1116, 1116, 1117, 1118, 1064, 2254, 1367, 1371, 1074, 1372, 1373, 1374, 1375, 1062, 1061, 1376]) (by decide +kernel), by decide +kernel, by decide +kernel, ⟨List.forall_mem_cons.mpr ⟨⟨_, mTB_of (sg10 (List.mem_of_getElem? (i := 98) rfl)) rfl, mTB_of (sg10 (List.mem_of_getElem? (i := 99) rfl)) rfl⟩, List.forall_mem_cons.mpr ⟨⟨_, mTB_of (sg5 (List.mem_of_getElem? (i := 153) rfl)) rfl, mTB_of (sg5 (List.mem_of_getElem? (i := 154) rfl)) rfl⟩, List.forall_mem_cons.mpr ⟨⟨_, mTB_of (sg5 (List.mem_of_getElem? (i := 156) rfl)) rfl, mTB_of (sg5 (List.mem_of_getElem? (i := 157) rfl)) rfl⟩, List.forall_mem_cons.mpr ⟨⟨_, mTB_of (sg5 (List.mem_of_getElem? (i := 104) rfl)) rfl, mTB_of (sg5 (List.mem_of_getElem? (i := 105) rfl)) rfl⟩, fun _ h => absurd h List.not_mem_nil⟩⟩⟩⟩, mTB_of (sg1 (List.mem_of_getElem? (i := 27) rfl)) rfl, mTB_of (sg6 (List.mem_of_getElem? (i := 167) rfl)) rfl⟩, by decide +kernel, by decide +kernel⟩
set_option maxRecDepth 1000000 in
set_option maxHeartbeats 100000000 in
theorem th_X3_1 {K : mK} (hK : K.2.1 = "RoadHouse$Contract") : mTh K 291 293 1 := by
  unfold mTh mTw
  rw [hK]
  refine ⟨thr_in (ps := [2934, 27, 23, 1063, 1072, 1077, 1080, 1082, 1064, 1065, 48, 49, 1066, 1071, 1078, 1121, 1053, 1122, 1055, 1123, 1057, 1067, 1069, 1059, 2255, 2256, 2257, 2258, 2258, 2259, 2260, 1113, 1113, 1114, 1115, 1116, 1116, 1117, 1118, 1064, 2935, 1367, 1371, 1074, 1372, 1373, 1374, 1375, 1062, 1061, 1376]) (by decide +kernel), by decide +kernel, by decide +kernel, ⟨List.forall_mem_cons.mpr ⟨⟨_, mTB_of (sg10 (List.mem_of_getElem? (i := 98) rfl)) rfl, mTB_of (sg10 (List.mem_of_getElem? (i := 99) rfl)) rfl⟩, List.forall_mem_cons.mpr ⟨⟨_, mTB_of (sg5 (List.mem_of_getElem? (i := 153) rfl)) rfl, mTB_of (sg5 (List.mem_of_getElem? (i := 154) rfl)) rfl⟩, List.forall_mem_cons.mpr ⟨⟨_, mTB_of (sg5 (List.mem_of_getElem? (i := 156) rfl)) rfl, mTB_of (sg5 (List.mem_of_getElem? (i := 157) rfl)) rfl⟩, List.forall_mem_cons.mpr ⟨⟨_, mTB_of (sg5 (List.mem_of_getElem? (i := 104) rfl)) rfl, mTB_of (sg5 (List.mem_of_getElem? (i := 105) rfl)) rfl⟩, fun _ h => absurd h List.not_mem_nil⟩⟩⟩⟩, mTB_of (sg1 (List.mem_of_getElem? (i := 27) rfl)) rfl, mTB_of (sg6 (List.mem_of_getElem? (i := 167) rfl)) rfl⟩, by decide +kernel, by decide +kernel⟩
set_option maxRecDepth 1000000 in
set_option maxHeartbeats 100000000 in
theorem th_X4_3 {K : mK} (hK : K.2.1 = "RoadHouse$Earth") : mTh K 187 189 3 := by
  unfold mTh mTw
  rw [hK]
  refine ⟨thr_in (ps := [2136, 41, 23, 1063, 1072, 1077, 1080, 1082, 1064, 1065, 48, 49, 1066, 1071, 1078, 1121, 1053, 1122, 1055, 1123, 1057, 1067, 1069, 1059, 2146, 2147, 2148, 1113, 1113, 1114, 1115, 1116, 1116, 1117, 1118, 1064, 2145, 2137, 2139, 1075, 2140, 2141, 2142, 2143, 1062, 1061, 2144]) (by decide +kernel), by decide +kernel, by decide +kernel, ⟨List.forall_mem_cons.mpr ⟨⟨_, mTB_of (sg5 (List.mem_of_getElem? (i := 153) rfl)) rfl, mTB_of (sg5 (List.mem_of_getElem? (i := 154) rfl)) rfl⟩, List.forall_mem_cons.mpr ⟨⟨_, mTB_of (sg5 (List.mem_of_getElem? (i := 156) rfl)) rfl, mTB_of (sg5 (List.mem_of_getElem? (i := 157) rfl)) rfl⟩, List.forall_mem_cons.mpr ⟨⟨_, mTB_of (sg5 (List.mem_of_getElem? (i := 104) rfl)) rfl, mTB_of (sg5 (List.mem_of_getElem? (i := 105) rfl)) rfl⟩, fun _ h => absurd h List.not_mem_nil⟩⟩⟩, mTB_of (sg1 (List.mem_of_getElem? (i := 41) rfl)) rfl, mTB_of (sg9 (List.mem_of_getElem? (i := 217) rfl)) rfl⟩, by decide +kernel, by decide +kernel⟩
set_option maxRecDepth 1000000 in
set_option maxHeartbeats 100000000 in
theorem th_X7_4 {K : mK} (hK : K.2.1 = "RoadHouse$Signals") : mTh K 146 148 4 := by
  unfold mTh mTw
  rw [hK]
  refine ⟨thr_in (ps := [2573, 29, 23, 1063, 1072, 1077, 1080, 1082, 1064, 1065, 48, 49, 1066, 1071, 1078, 1121, 1053, 1122, 1055, 1123, 1057, 1067, 1069, 1059, 1110, 1111, 1112, 1113, 1113, 1114, 1115, 1116, 1116, 1117, 1118, 1064, 2574, 1101, 1103, 1076, 1104, 1105, 1106, 1107, 1062, 1061, 1108]) (by decide +kernel), by decide +kernel, by decide +kernel, ⟨List.forall_mem_cons.mpr ⟨⟨_, mTB_of (sg5 (List.mem_of_getElem? (i := 153) rfl)) rfl, mTB_of (sg5 (List.mem_of_getElem? (i := 154) rfl)) rfl⟩, List.forall_mem_cons.mpr ⟨⟨_, mTB_of (sg5 (List.mem_of_getElem? (i := 156) rfl)) rfl, mTB_of (sg5 (List.mem_of_getElem? (i := 157) rfl)) rfl⟩, List.forall_mem_cons.mpr ⟨⟨_, mTB_of (sg5 (List.mem_of_getElem? (i := 104) rfl)) rfl, mTB_of (sg5 (List.mem_of_getElem? (i := 105) rfl)) rfl⟩, fun _ h => absurd h List.not_mem_nil⟩⟩⟩, mTB_of (sg1 (List.mem_of_getElem? (i := 29) rfl)) rfl, mTB_of (sg5 (List.mem_of_getElem? (i := 141) rfl)) rfl⟩, by decide +kernel, by decide +kernel⟩
set_option maxRecDepth 1000000 in
set_option maxHeartbeats 100000000 in
theorem th_X7_2 {K : mK} (hK : K.2.1 = "RoadHouse$Signals") : mTh K 149 151 2 := by
  unfold mTh mTw
  rw [hK]
  refine ⟨thr_in (ps := [2575, 30, 23, 1063, 1072, 1077, 1080, 1082, 1064, 1065, 48, 49, 1066, 1071, 1078, 1121, 1053, 1122, 1055, 1123, 1057, 1067, 1069, 1059, 2577, 2578, 2579, 1113, 1113, 1114, 1115, 1116, 1116, 1117, 1118, 1064, 2576, 1042, 1050, 1051, 1052, 1054, 1056, 1058, 1062, 1061, 1060]) (by decide +kernel), by decide +kernel, by decide +kernel, ⟨List.forall_mem_cons.mpr ⟨⟨_, mTB_of (sg5 (List.mem_of_getElem? (i := 153) rfl)) rfl, mTB_of (sg5 (List.mem_of_getElem? (i := 154) rfl)) rfl⟩, List.forall_mem_cons.mpr ⟨⟨_, mTB_of (sg5 (List.mem_of_getElem? (i := 156) rfl)) rfl, mTB_of (sg5 (List.mem_of_getElem? (i := 157) rfl)) rfl⟩, List.forall_mem_cons.mpr ⟨⟨_, mTB_of (sg5 (List.mem_of_getElem? (i := 104) rfl)) rfl, mTB_of (sg5 (List.mem_of_getElem? (i := 105) rfl)) rfl⟩, fun _ h => absurd h List.not_mem_nil⟩⟩⟩, mTB_of (sg1 (List.mem_of_getElem? (i := 30) rfl)) rfl, mTB_of (sg5 (List.mem_of_getElem? (i := 82) rfl)) rfl⟩, by decide +kernel, by decide +kernel⟩
set_option maxRecDepth 1000000 in
set_option maxHeartbeats 100000000 in
theorem th_X7_1 {K : mK} (hK : K.2.1 = "RoadHouse$Signals") : mTh K 177 179 1 := by
  unfold mTh mTw
  rw [hK]
  refine ⟨thr_in (ps := [2588, 27, 23, 1063, 1072, 1077, 1080, 1082, 1064, 1065, 48, 49, 1066, 1071, 1078, 1121, 1053, 1122, 1055, 1123, 1057, 1067, 1069, 1059, 2255, 2256, 2257, 2258, 2258, 2259, 2260, 1113, 1113, 1114, 1115, 1116, 1116, 1117, 1118, 1064, 2589, 1367, 1371, 1074, 1372, 1373, 1374, 1375, 1062, 1061, 1376]) (by decide +kernel), by decide +kernel, by decide +kernel, ⟨List.forall_mem_cons.mpr ⟨⟨_, mTB_of (sg10 (List.mem_of_getElem? (i := 98) rfl)) rfl, mTB_of (sg10 (List.mem_of_getElem? (i := 99) rfl)) rfl⟩, List.forall_mem_cons.mpr ⟨⟨_, mTB_of (sg5 (List.mem_of_getElem? (i := 153) rfl)) rfl, mTB_of (sg5 (List.mem_of_getElem? (i := 154) rfl)) rfl⟩, List.forall_mem_cons.mpr ⟨⟨_, mTB_of (sg5 (List.mem_of_getElem? (i := 156) rfl)) rfl, mTB_of (sg5 (List.mem_of_getElem? (i := 157) rfl)) rfl⟩, List.forall_mem_cons.mpr ⟨⟨_, mTB_of (sg5 (List.mem_of_getElem? (i := 104) rfl)) rfl, mTB_of (sg5 (List.mem_of_getElem? (i := 105) rfl)) rfl⟩, fun _ h => absurd h List.not_mem_nil⟩⟩⟩⟩, mTB_of (sg1 (List.mem_of_getElem? (i := 27) rfl)) rfl, mTB_of (sg6 (List.mem_of_getElem? (i := 167) rfl)) rfl⟩, by decide +kernel, by decide +kernel⟩
