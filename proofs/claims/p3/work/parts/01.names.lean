-- ===== PART A: goes FIRST, ahead of the names: the tables' words, and 'selects' of the private methods out of them =====
/-- a private method of a class that the tables say can be made, by its rows of tables_1 -/
def lw_okq (q : MethodName × Nat) : Prop := (q.1.cls ≠ "java/lang/invoke/MethodHandle" ∧ q.1.cls ≠ "java/lang/invoke/VarHandle") ∧ Cond.instantiable q.1.cls q.2 ∈ tables_1 ∧ Cond.privateMethod q.1 ∈ tables_1 ∧ Cond.instanceMethod q.1 ∈ tables_1
theorem lw_p0 : lw_okq (⟨"RoadHouse$Trains", "forgetRun", "()V"⟩, 22) := ⟨⟨by decide +kernel, by decide +kernel⟩, List.mem_of_getElem? (i := 373) (by decide +kernel), List.mem_of_getElem? (i := 384) (by decide +kernel), List.mem_of_getElem? (i := 385) (by decide +kernel)⟩
theorem lw_p1 : lw_okq (⟨"RoadHouse$Signals", "clearAll", "(I)V"⟩, 22) := ⟨⟨by decide +kernel, by decide +kernel⟩, List.mem_of_getElem? (i := 536) (by decide +kernel), List.mem_of_getElem? (i := 543) (by decide +kernel), List.mem_of_getElem? (i := 544) (by decide +kernel)⟩
theorem lw_p2 : lw_okq (⟨"RoadHouse$Signals", "restart", "()V"⟩, 22) := ⟨⟨by decide +kernel, by decide +kernel⟩, List.mem_of_getElem? (i := 536) (by decide +kernel), List.mem_of_getElem? (i := 548) (by decide +kernel), List.mem_of_getElem? (i := 549) (by decide +kernel)⟩
theorem lw_p3 : lw_okq (⟨"RoadHouse$Signals", "forgetProof", "()V"⟩, 22) := ⟨⟨by decide +kernel, by decide +kernel⟩, List.mem_of_getElem? (i := 536) (by decide +kernel), List.mem_of_getElem? (i := 552) (by decide +kernel), List.mem_of_getElem? (i := 553) (by decide +kernel)⟩
theorem lw_p4 : lw_okq (⟨"RoadHouse$Signals", "setFirst", "([I)V"⟩, 22) := ⟨⟨by decide +kernel, by decide +kernel⟩, List.mem_of_getElem? (i := 536) (by decide +kernel), List.mem_of_getElem? (i := 556) (by decide +kernel), List.mem_of_getElem? (i := 557) (by decide +kernel)⟩
theorem lw_p5 : lw_okq (⟨"RoadHouse$Stress", "rate", "()D"⟩, 22) := ⟨⟨by decide +kernel, by decide +kernel⟩, List.mem_of_getElem? (i := 458) (by decide +kernel), List.mem_of_getElem? (i := 828) (by decide +kernel), List.mem_of_getElem? (i := 829) (by decide +kernel)⟩
theorem lw_p6 : lw_okq (⟨"RoadHouse$Stress", "turnRange", "(I)I"⟩, 22) := ⟨⟨by decide +kernel, by decide +kernel⟩, List.mem_of_getElem? (i := 458) (by decide +kernel), List.mem_of_getElem? (i := 832) (by decide +kernel), List.mem_of_getElem? (i := 833) (by decide +kernel)⟩
theorem lw_p7 : lw_okq (⟨"RoadHouse$Stress", "halfRange", "(I)I"⟩, 22) := ⟨⟨by decide +kernel, by decide +kernel⟩, List.mem_of_getElem? (i := 458) (by decide +kernel), List.mem_of_getElem? (i := 839) (by decide +kernel), List.mem_of_getElem? (i := 840) (by decide +kernel)⟩
theorem lw_p8 : lw_okq (⟨"RoadHouse$Way", "hand", "()[I"⟩, 19) := ⟨⟨by decide +kernel, by decide +kernel⟩, List.mem_of_getElem? (i := 51) (by decide +kernel), List.mem_of_getElem? (i := 865) (by decide +kernel), List.mem_of_getElem? (i := 866) (by decide +kernel)⟩
theorem lw_p9 : lw_okq (⟨"RoadHouse$Earth", "cuts", "()I"⟩, 20) := ⟨⟨by decide +kernel, by decide +kernel⟩, List.mem_of_getElem? (i := 165) (by decide +kernel), List.mem_of_getElem? (i := 910) (by decide +kernel), List.mem_of_getElem? (i := 911) (by decide +kernel)⟩
theorem lw_p10 : lw_okq (⟨"RoadHouse", "collectNumber", "(I)V"⟩, 10) := ⟨⟨by decide +kernel, by decide +kernel⟩, List.mem_of_getElem? (i := 43) (by decide +kernel), List.mem_of_getElem? (i := 942) (by decide +kernel), List.mem_of_getElem? (i := 943) (by decide +kernel)⟩
theorem lw_p11 : lw_okq (⟨"RoadHouse$Beams", "wrongSign", "()I"⟩, 22) := ⟨⟨by decide +kernel, by decide +kernel⟩, List.mem_of_getElem? (i := 236) (by decide +kernel), List.mem_of_getElem? (i := 950) (by decide +kernel), List.mem_of_getElem? (i := 951) (by decide +kernel)⟩
theorem lw_p12 : lw_okq (⟨"RoadHouse$Beams", "signAt", "(I)C"⟩, 22) := ⟨⟨by decide +kernel, by decide +kernel⟩, List.mem_of_getElem? (i := 236) (by decide +kernel), List.mem_of_getElem? (i := 954) (by decide +kernel), List.mem_of_getElem? (i := 955) (by decide +kernel)⟩
theorem lw_p13 : lw_okq (⟨"RoadHouse$Beams", "numberAt", "(I)I"⟩, 22) := ⟨⟨by decide +kernel, by decide +kernel⟩, List.mem_of_getElem? (i := 236) (by decide +kernel), List.mem_of_getElem? (i := 961) (by decide +kernel), List.mem_of_getElem? (i := 962) (by decide +kernel)⟩
theorem lw_p14 : lw_okq (⟨"RoadHouse$Beams", "take", "()V"⟩, 22) := ⟨⟨by decide +kernel, by decide +kernel⟩, List.mem_of_getElem? (i := 236) (by decide +kernel), List.mem_of_getElem? (i := 965) (by decide +kernel), List.mem_of_getElem? (i := 966) (by decide +kernel)⟩
theorem lw_p15 : lw_okq (⟨"RoadHouse$Beams", "takeNode", "(IC)V"⟩, 22) := ⟨⟨by decide +kernel, by decide +kernel⟩, List.mem_of_getElem? (i := 236) (by decide +kernel), List.mem_of_getElem? (i := 969) (by decide +kernel), List.mem_of_getElem? (i := 970) (by decide +kernel)⟩
def lw_privs_1 : List (MethodName × Nat) := [(⟨"RoadHouse$Trains", "forgetRun", "()V"⟩, 22), (⟨"RoadHouse$Signals", "clearAll", "(I)V"⟩, 22), (⟨"RoadHouse$Signals", "restart", "()V"⟩, 22), (⟨"RoadHouse$Signals", "forgetProof", "()V"⟩, 22), (⟨"RoadHouse$Signals", "setFirst", "([I)V"⟩, 22), (⟨"RoadHouse$Stress", "rate", "()D"⟩, 22), (⟨"RoadHouse$Stress", "turnRange", "(I)I"⟩, 22), (⟨"RoadHouse$Stress", "halfRange", "(I)I"⟩, 22), (⟨"RoadHouse$Way", "hand", "()[I"⟩, 19), (⟨"RoadHouse$Earth", "cuts", "()I"⟩, 20), (⟨"RoadHouse", "collectNumber", "(I)V"⟩, 10), (⟨"RoadHouse$Beams", "wrongSign", "()I"⟩, 22), (⟨"RoadHouse$Beams", "signAt", "(I)C"⟩, 22), (⟨"RoadHouse$Beams", "numberAt", "(I)I"⟩, 22), (⟨"RoadHouse$Beams", "take", "()V"⟩, 22), (⟨"RoadHouse$Beams", "takeNode", "(IC)V"⟩, 22)]
theorem lw_r1 : ∀ q ∈ lw_privs_1, lw_okq q := List.forall_mem_cons.mpr ⟨lw_p0, List.forall_mem_cons.mpr ⟨lw_p1, List.forall_mem_cons.mpr ⟨lw_p2, List.forall_mem_cons.mpr ⟨lw_p3, List.forall_mem_cons.mpr ⟨lw_p4, List.forall_mem_cons.mpr ⟨lw_p5, List.forall_mem_cons.mpr ⟨lw_p6, List.forall_mem_cons.mpr ⟨lw_p7, List.forall_mem_cons.mpr ⟨lw_p8, List.forall_mem_cons.mpr ⟨lw_p9, List.forall_mem_cons.mpr ⟨lw_p10, List.forall_mem_cons.mpr ⟨lw_p11, List.forall_mem_cons.mpr ⟨lw_p12, List.forall_mem_cons.mpr ⟨lw_p13, List.forall_mem_cons.mpr ⟨lw_p14, List.forall_mem_cons.mpr ⟨lw_p15, fun _ h => absurd h List.not_mem_nil⟩⟩⟩⟩⟩⟩⟩⟩⟩⟩⟩⟩⟩⟩⟩⟩
theorem lw_p16 : lw_okq (⟨"RoadHouse$Beams", "prepare", "()V"⟩, 22) := ⟨⟨by decide +kernel, by decide +kernel⟩, List.mem_of_getElem? (i := 236) (by decide +kernel), List.mem_of_getElem? (i := 985) (by decide +kernel), List.mem_of_getElem? (i := 986) (by decide +kernel)⟩
theorem lw_p17 : lw_okq (⟨"RoadHouse$Beams", "gatherForces", "()V"⟩, 22) := ⟨⟨by decide +kernel, by decide +kernel⟩, List.mem_of_getElem? (i := 236) (by decide +kernel), List.mem_of_getElem? (i := 989) (by decide +kernel), List.mem_of_getElem? (i := 990) (by decide +kernel)⟩
theorem lw_p18 : lw_okq (⟨"RoadHouse$Beams", "endForce", "(III)I"⟩, 22) := ⟨⟨by decide +kernel, by decide +kernel⟩, List.mem_of_getElem? (i := 236) (by decide +kernel), List.mem_of_getElem? (i := 999) (by decide +kernel), List.mem_of_getElem? (i := 1000) (by decide +kernel)⟩
theorem lw_p19 : lw_okq (⟨"RoadHouse$Beams", "shearShare", "(II)I"⟩, 22) := ⟨⟨by decide +kernel, by decide +kernel⟩, List.mem_of_getElem? (i := 236) (by decide +kernel), List.mem_of_getElem? (i := 1003) (by decide +kernel), List.mem_of_getElem? (i := 1004) (by decide +kernel)⟩
theorem lw_p20 : lw_okq (⟨"RoadHouse$Beams", "hasStiffEnd", "(I)Z"⟩, 22) := ⟨⟨by decide +kernel, by decide +kernel⟩, List.mem_of_getElem? (i := 236) (by decide +kernel), List.mem_of_getElem? (i := 1007) (by decide +kernel), List.mem_of_getElem? (i := 1008) (by decide +kernel)⟩
theorem lw_p21 : lw_okq (⟨"RoadHouse$Beams", "cell", "(II)LRoadHouse$Big;"⟩, 22) := ⟨⟨by decide +kernel, by decide +kernel⟩, List.mem_of_getElem? (i := 236) (by decide +kernel), List.mem_of_getElem? (i := 1011) (by decide +kernel), List.mem_of_getElem? (i := 1012) (by decide +kernel)⟩
theorem lw_p22 : lw_okq (⟨"RoadHouse$Beams", "invert", "()V"⟩, 22) := ⟨⟨by decide +kernel, by decide +kernel⟩, List.mem_of_getElem? (i := 236) (by decide +kernel), List.mem_of_getElem? (i := 1016) (by decide +kernel), List.mem_of_getElem? (i := 1017) (by decide +kernel)⟩
theorem lw_p23 : lw_okq (⟨"RoadHouse$Beams", "eliminate", "(II)V"⟩, 22) := ⟨⟨by decide +kernel, by decide +kernel⟩, List.mem_of_getElem? (i := 236) (by decide +kernel), List.mem_of_getElem? (i := 1020) (by decide +kernel), List.mem_of_getElem? (i := 1021) (by decide +kernel)⟩
theorem lw_p24 : lw_okq (⟨"java/lang/Throwable", "fillInStackTrace", "(I)Ljava/lang/Throwable;"⟩, 6) := ⟨⟨by decide +kernel, by decide +kernel⟩, List.mem_of_getElem? (i := 1081) (by decide +kernel), List.mem_of_getElem? (i := 1079) (by decide +kernel), List.mem_of_getElem? (i := 1080) (by decide +kernel)⟩
theorem lw_p25 : lw_okq (⟨"RoadHouse$Big", "addRow", "(LRoadHouse$Big;JI)V"⟩, 3) := ⟨⟨by decide +kernel, by decide +kernel⟩, List.mem_of_getElem? (i := 253) (by decide +kernel), List.mem_of_getElem? (i := 1393) (by decide +kernel), List.mem_of_getElem? (i := 1394) (by decide +kernel)⟩
theorem lw_p26 : lw_okq (⟨"RoadHouse$Big", "trim", "(I)V"⟩, 3) := ⟨⟨by decide +kernel, by decide +kernel⟩, List.mem_of_getElem? (i := 253) (by decide +kernel), List.mem_of_getElem? (i := 1398) (by decide +kernel), List.mem_of_getElem? (i := 1399) (by decide +kernel)⟩
theorem lw_p27 : lw_okq (⟨"RoadHouse$Big", "shifted", "(LRoadHouse$Big;II)I"⟩, 3) := ⟨⟨by decide +kernel, by decide +kernel⟩, List.mem_of_getElem? (i := 253) (by decide +kernel), List.mem_of_getElem? (i := 1419) (by decide +kernel), List.mem_of_getElem? (i := 1420) (by decide +kernel)⟩
theorem lw_p28 : lw_okq (⟨"RoadHouse$Big", "quotientLimb", "(LRoadHouse$Big;II)I"⟩, 3) := ⟨⟨by decide +kernel, by decide +kernel⟩, List.mem_of_getElem? (i := 253) (by decide +kernel), List.mem_of_getElem? (i := 1423) (by decide +kernel), List.mem_of_getElem? (i := 1424) (by decide +kernel)⟩
theorem lw_p29 : lw_okq (⟨"RoadHouse$Beams", "isTold", "(I)Z"⟩, 22) := ⟨⟨by decide +kernel, by decide +kernel⟩, List.mem_of_getElem? (i := 236) (by decide +kernel), List.mem_of_getElem? (i := 1427) (by decide +kernel), List.mem_of_getElem? (i := 1428) (by decide +kernel)⟩
theorem lw_p30 : lw_okq (⟨"RoadHouse$Beams", "heldInHeight", "(I)Z"⟩, 22) := ⟨⟨by decide +kernel, by decide +kernel⟩, List.mem_of_getElem? (i := 236) (by decide +kernel), List.mem_of_getElem? (i := 1431) (by decide +kernel), List.mem_of_getElem? (i := 1432) (by decide +kernel)⟩
theorem lw_p31 : lw_okq (⟨"RoadHouse$Beams", "value", "(LRoadHouse$Big;[III)V"⟩, 22) := ⟨⟨by decide +kernel, by decide +kernel⟩, List.mem_of_getElem? (i := 236) (by decide +kernel), List.mem_of_getElem? (i := 1437) (by decide +kernel), List.mem_of_getElem? (i := 1438) (by decide +kernel)⟩
def lw_privs_2 : List (MethodName × Nat) := [(⟨"RoadHouse$Beams", "prepare", "()V"⟩, 22), (⟨"RoadHouse$Beams", "gatherForces", "()V"⟩, 22), (⟨"RoadHouse$Beams", "endForce", "(III)I"⟩, 22), (⟨"RoadHouse$Beams", "shearShare", "(II)I"⟩, 22), (⟨"RoadHouse$Beams", "hasStiffEnd", "(I)Z"⟩, 22), (⟨"RoadHouse$Beams", "cell", "(II)LRoadHouse$Big;"⟩, 22), (⟨"RoadHouse$Beams", "invert", "()V"⟩, 22), (⟨"RoadHouse$Beams", "eliminate", "(II)V"⟩, 22), (⟨"java/lang/Throwable", "fillInStackTrace", "(I)Ljava/lang/Throwable;"⟩, 6), (⟨"RoadHouse$Big", "addRow", "(LRoadHouse$Big;JI)V"⟩, 3), (⟨"RoadHouse$Big", "trim", "(I)V"⟩, 3), (⟨"RoadHouse$Big", "shifted", "(LRoadHouse$Big;II)I"⟩, 3), (⟨"RoadHouse$Big", "quotientLimb", "(LRoadHouse$Big;II)I"⟩, 3), (⟨"RoadHouse$Beams", "isTold", "(I)Z"⟩, 22), (⟨"RoadHouse$Beams", "heldInHeight", "(I)Z"⟩, 22), (⟨"RoadHouse$Beams", "value", "(LRoadHouse$Big;[III)V"⟩, 22)]
theorem lw_r2 : ∀ q ∈ lw_privs_2, lw_okq q := List.forall_mem_cons.mpr ⟨lw_p16, List.forall_mem_cons.mpr ⟨lw_p17, List.forall_mem_cons.mpr ⟨lw_p18, List.forall_mem_cons.mpr ⟨lw_p19, List.forall_mem_cons.mpr ⟨lw_p20, List.forall_mem_cons.mpr ⟨lw_p21, List.forall_mem_cons.mpr ⟨lw_p22, List.forall_mem_cons.mpr ⟨lw_p23, List.forall_mem_cons.mpr ⟨lw_p24, List.forall_mem_cons.mpr ⟨lw_p25, List.forall_mem_cons.mpr ⟨lw_p26, List.forall_mem_cons.mpr ⟨lw_p27, List.forall_mem_cons.mpr ⟨lw_p28, List.forall_mem_cons.mpr ⟨lw_p29, List.forall_mem_cons.mpr ⟨lw_p30, List.forall_mem_cons.mpr ⟨lw_p31, fun _ h => absurd h List.not_mem_nil⟩⟩⟩⟩⟩⟩⟩⟩⟩⟩⟩⟩⟩⟩⟩⟩
theorem lw_p32 : lw_okq (⟨"RoadHouse$Beams", "setLoad", "(II)V"⟩, 22) := ⟨⟨by decide +kernel, by decide +kernel⟩, List.mem_of_getElem? (i := 236) (by decide +kernel), List.mem_of_getElem? (i := 1441) (by decide +kernel), List.mem_of_getElem? (i := 1442) (by decide +kernel)⟩
theorem lw_p33 : lw_okq (⟨"RoadHouse$Beams", "fixedForce", "(III)I"⟩, 22) := ⟨⟨by decide +kernel, by decide +kernel⟩, List.mem_of_getElem? (i := 236) (by decide +kernel), List.mem_of_getElem? (i := 1449) (by decide +kernel), List.mem_of_getElem? (i := 1450) (by decide +kernel)⟩
theorem lw_p34 : lw_okq (⟨"RoadHouse$Beams", "setCounts", "(IIIII)V"⟩, 22) := ⟨⟨by decide +kernel, by decide +kernel⟩, List.mem_of_getElem? (i := 236) (by decide +kernel), List.mem_of_getElem? (i := 1453) (by decide +kernel), List.mem_of_getElem? (i := 1454) (by decide +kernel)⟩
theorem lw_p35 : lw_okq (⟨"RoadHouse$Beams", "addShear", "(IIJ)V"⟩, 22) := ⟨⟨by decide +kernel, by decide +kernel⟩, List.mem_of_getElem? (i := 236) (by decide +kernel), List.mem_of_getElem? (i := 1459) (by decide +kernel), List.mem_of_getElem? (i := 1460) (by decide +kernel)⟩
theorem lw_p36 : lw_okq (⟨"RoadHouse$Beams", "addMoment", "(IIJ)V"⟩, 22) := ⟨⟨by decide +kernel, by decide +kernel⟩, List.mem_of_getElem? (i := 236) (by decide +kernel), List.mem_of_getElem? (i := 1464) (by decide +kernel), List.mem_of_getElem? (i := 1465) (by decide +kernel)⟩
theorem lw_p37 : lw_okq (⟨"RoadHouse$Beams", "lowerPart", "(LRoadHouse$Big;)V"⟩, 22) := ⟨⟨by decide +kernel, by decide +kernel⟩, List.mem_of_getElem? (i := 236) (by decide +kernel), List.mem_of_getElem? (i := 1475) (by decide +kernel), List.mem_of_getElem? (i := 1476) (by decide +kernel)⟩
theorem lw_p38 : lw_okq (⟨"RoadHouse$Trains", "isTrain", "(I)Z"⟩, 22) := ⟨⟨by decide +kernel, by decide +kernel⟩, List.mem_of_getElem? (i := 373) (by decide +kernel), List.mem_of_getElem? (i := 1536) (by decide +kernel), List.mem_of_getElem? (i := 1537) (by decide +kernel)⟩
theorem lw_p39 : lw_okq (⟨"RoadHouse$Trains", "listPlaces", "(IZ)I"⟩, 22) := ⟨⟨by decide +kernel, by decide +kernel⟩, List.mem_of_getElem? (i := 373) (by decide +kernel), List.mem_of_getElem? (i := 1540) (by decide +kernel), List.mem_of_getElem? (i := 1541) (by decide +kernel)⟩
theorem lw_p40 : lw_okq (⟨"RoadHouse$Trains", "listOnce", "(II)I"⟩, 22) := ⟨⟨by decide +kernel, by decide +kernel⟩, List.mem_of_getElem? (i := 373) (by decide +kernel), List.mem_of_getElem? (i := 1544) (by decide +kernel), List.mem_of_getElem? (i := 1545) (by decide +kernel)⟩
theorem lw_p41 : lw_okq (⟨"RoadHouse$Trains", "tellEffect", "(II)Z"⟩, 22) := ⟨⟨by decide +kernel, by decide +kernel⟩, List.mem_of_getElem? (i := 373) (by decide +kernel), List.mem_of_getElem? (i := 1552) (by decide +kernel), List.mem_of_getElem? (i := 1553) (by decide +kernel)⟩
theorem lw_p42 : lw_okq (⟨"RoadHouse$Trains", "prepare", "()V"⟩, 22) := ⟨⟨by decide +kernel, by decide +kernel⟩, List.mem_of_getElem? (i := 373) (by decide +kernel), List.mem_of_getElem? (i := 1556) (by decide +kernel), List.mem_of_getElem? (i := 1557) (by decide +kernel)⟩
theorem lw_p43 : lw_okq (⟨"RoadHouse$Trains", "divisor", "()LRoadHouse$Big;"⟩, 22) := ⟨⟨by decide +kernel, by decide +kernel⟩, List.mem_of_getElem? (i := 373) (by decide +kernel), List.mem_of_getElem? (i := 1560) (by decide +kernel), List.mem_of_getElem? (i := 1561) (by decide +kernel)⟩
theorem lw_p44 : lw_okq (⟨"RoadHouse$Trains", "pieceDivisor", "(I)I"⟩, 22) := ⟨⟨by decide +kernel, by decide +kernel⟩, List.mem_of_getElem? (i := 373) (by decide +kernel), List.mem_of_getElem? (i := 1568) (by decide +kernel), List.mem_of_getElem? (i := 1569) (by decide +kernel)⟩
theorem lw_p45 : lw_okq (⟨"RoadHouse$Trains", "effect", "(IIZ)V"⟩, 22) := ⟨⟨by decide +kernel, by decide +kernel⟩, List.mem_of_getElem? (i := 373) (by decide +kernel), List.mem_of_getElem? (i := 1576) (by decide +kernel), List.mem_of_getElem? (i := 1577) (by decide +kernel)⟩
theorem lw_p46 : lw_okq (⟨"RoadHouse$Trains", "effectNumber", "()LRoadHouse$Big;"⟩, 22) := ⟨⟨by decide +kernel, by decide +kernel⟩, List.mem_of_getElem? (i := 373) (by decide +kernel), List.mem_of_getElem? (i := 1580) (by decide +kernel), List.mem_of_getElem? (i := 1581) (by decide +kernel)⟩
theorem lw_p47 : lw_okq (⟨"RoadHouse$Trains", "addEffect", "(LRoadHouse$Big;IIZ)V"⟩, 22) := ⟨⟨by decide +kernel, by decide +kernel⟩, List.mem_of_getElem? (i := 373) (by decide +kernel), List.mem_of_getElem? (i := 1584) (by decide +kernel), List.mem_of_getElem? (i := 1585) (by decide +kernel)⟩
def lw_privs_3 : List (MethodName × Nat) := [(⟨"RoadHouse$Beams", "setLoad", "(II)V"⟩, 22), (⟨"RoadHouse$Beams", "fixedForce", "(III)I"⟩, 22), (⟨"RoadHouse$Beams", "setCounts", "(IIIII)V"⟩, 22), (⟨"RoadHouse$Beams", "addShear", "(IIJ)V"⟩, 22), (⟨"RoadHouse$Beams", "addMoment", "(IIJ)V"⟩, 22), (⟨"RoadHouse$Beams", "lowerPart", "(LRoadHouse$Big;)V"⟩, 22), (⟨"RoadHouse$Trains", "isTrain", "(I)Z"⟩, 22), (⟨"RoadHouse$Trains", "listPlaces", "(IZ)I"⟩, 22), (⟨"RoadHouse$Trains", "listOnce", "(II)I"⟩, 22), (⟨"RoadHouse$Trains", "tellEffect", "(II)Z"⟩, 22), (⟨"RoadHouse$Trains", "prepare", "()V"⟩, 22), (⟨"RoadHouse$Trains", "divisor", "()LRoadHouse$Big;"⟩, 22), (⟨"RoadHouse$Trains", "pieceDivisor", "(I)I"⟩, 22), (⟨"RoadHouse$Trains", "effect", "(IIZ)V"⟩, 22), (⟨"RoadHouse$Trains", "effectNumber", "()LRoadHouse$Big;"⟩, 22), (⟨"RoadHouse$Trains", "addEffect", "(LRoadHouse$Big;IIZ)V"⟩, 22)]
theorem lw_r3 : ∀ q ∈ lw_privs_3, lw_okq q := List.forall_mem_cons.mpr ⟨lw_p32, List.forall_mem_cons.mpr ⟨lw_p33, List.forall_mem_cons.mpr ⟨lw_p34, List.forall_mem_cons.mpr ⟨lw_p35, List.forall_mem_cons.mpr ⟨lw_p36, List.forall_mem_cons.mpr ⟨lw_p37, List.forall_mem_cons.mpr ⟨lw_p38, List.forall_mem_cons.mpr ⟨lw_p39, List.forall_mem_cons.mpr ⟨lw_p40, List.forall_mem_cons.mpr ⟨lw_p41, List.forall_mem_cons.mpr ⟨lw_p42, List.forall_mem_cons.mpr ⟨lw_p43, List.forall_mem_cons.mpr ⟨lw_p44, List.forall_mem_cons.mpr ⟨lw_p45, List.forall_mem_cons.mpr ⟨lw_p46, List.forall_mem_cons.mpr ⟨lw_p47, fun _ h => absurd h List.not_mem_nil⟩⟩⟩⟩⟩⟩⟩⟩⟩⟩⟩⟩⟩⟩⟩⟩
theorem lw_p48 : lw_okq (⟨"RoadHouse$Signals", "eventOf", "(I)I"⟩, 22) := ⟨⟨by decide +kernel, by decide +kernel⟩, List.mem_of_getElem? (i := 536) (by decide +kernel), List.mem_of_getElem? (i := 1624) (by decide +kernel), List.mem_of_getElem? (i := 1625) (by decide +kernel)⟩
theorem lw_p49 : lw_okq (⟨"RoadHouse$Signals", "goOn", "([II)I"⟩, 22) := ⟨⟨by decide +kernel, by decide +kernel⟩, List.mem_of_getElem? (i := 536) (by decide +kernel), List.mem_of_getElem? (i := 1628) (by decide +kernel), List.mem_of_getElem? (i := 1629) (by decide +kernel)⟩
theorem lw_p50 : lw_okq (⟨"RoadHouse$Signals", "shownBy", "([I)I"⟩, 22) := ⟨⟨by decide +kernel, by decide +kernel⟩, List.mem_of_getElem? (i := 536) (by decide +kernel), List.mem_of_getElem? (i := 1632) (by decide +kernel), List.mem_of_getElem? (i := 1633) (by decide +kernel)⟩
theorem lw_p51 : lw_okq (⟨"RoadHouse$Signals", "bitsOf", "(II)I"⟩, 22) := ⟨⟨by decide +kernel, by decide +kernel⟩, List.mem_of_getElem? (i := 536) (by decide +kernel), List.mem_of_getElem? (i := 1636) (by decide +kernel), List.mem_of_getElem? (i := 1637) (by decide +kernel)⟩
theorem lw_p52 : lw_okq (⟨"RoadHouse$Signals", "beginPhase", "([I)I"⟩, 22) := ⟨⟨by decide +kernel, by decide +kernel⟩, List.mem_of_getElem? (i := 536) (by decide +kernel), List.mem_of_getElem? (i := 1641) (by decide +kernel), List.mem_of_getElem? (i := 1642) (by decide +kernel)⟩
theorem lw_p53 : lw_okq (⟨"RoadHouse$Signals", "endsNow", "([I)Z"⟩, 22) := ⟨⟨by decide +kernel, by decide +kernel⟩, List.mem_of_getElem? (i := 536) (by decide +kernel), List.mem_of_getElem? (i := 1648) (by decide +kernel), List.mem_of_getElem? (i := 1649) (by decide +kernel)⟩
theorem lw_p54 : lw_okq (⟨"RoadHouse$Signals", "endPhase", "([I)Z"⟩, 22) := ⟨⟨by decide +kernel, by decide +kernel⟩, List.mem_of_getElem? (i := 536) (by decide +kernel), List.mem_of_getElem? (i := 1652) (by decide +kernel), List.mem_of_getElem? (i := 1653) (by decide +kernel)⟩
theorem lw_p55 : lw_okq (⟨"RoadHouse$Signals", "faultOf", "([IIZ)I"⟩, 22) := ⟨⟨by decide +kernel, by decide +kernel⟩, List.mem_of_getElem? (i := 536) (by decide +kernel), List.mem_of_getElem? (i := 1657) (by decide +kernel), List.mem_of_getElem? (i := 1658) (by decide +kernel)⟩
theorem lw_p56 : lw_okq (⟨"RoadHouse", "tellCells", "()V"⟩, 10) := ⟨⟨by decide +kernel, by decide +kernel⟩, List.mem_of_getElem? (i := 43) (by decide +kernel), List.mem_of_getElem? (i := 1661) (by decide +kernel), List.mem_of_getElem? (i := 1662) (by decide +kernel)⟩
theorem lw_p57 : lw_okq (⟨"RoadHouse$Cars", "set", "(IIIII)Z"⟩, 22) := ⟨⟨by decide +kernel, by decide +kernel⟩, List.mem_of_getElem? (i := 627) (by decide +kernel), List.mem_of_getElem? (i := 1682) (by decide +kernel), List.mem_of_getElem? (i := 1683) (by decide +kernel)⟩
theorem lw_p58 : lw_okq (⟨"RoadHouse$Cars", "isToCome", "(I)Z"⟩, 22) := ⟨⟨by decide +kernel, by decide +kernel⟩, List.mem_of_getElem? (i := 627) (by decide +kernel), List.mem_of_getElem? (i := 1689) (by decide +kernel), List.mem_of_getElem? (i := 1690) (by decide +kernel)⟩
theorem lw_p59 : lw_okq (⟨"RoadHouse$Cars", "findSettings", "(I)V"⟩, 22) := ⟨⟨by decide +kernel, by decide +kernel⟩, List.mem_of_getElem? (i := 627) (by decide +kernel), List.mem_of_getElem? (i := 1698) (by decide +kernel), List.mem_of_getElem? (i := 1699) (by decide +kernel)⟩
theorem lw_p60 : lw_okq (⟨"RoadHouse$Cars", "sends", "(II)Z"⟩, 22) := ⟨⟨by decide +kernel, by decide +kernel⟩, List.mem_of_getElem? (i := 627) (by decide +kernel), List.mem_of_getElem? (i := 1706) (by decide +kernel), List.mem_of_getElem? (i := 1707) (by decide +kernel)⟩
theorem lw_p61 : lw_okq (⟨"RoadHouse$Cars", "holdCells", "(I)V"⟩, 22) := ⟨⟨by decide +kernel, by decide +kernel⟩, List.mem_of_getElem? (i := 627) (by decide +kernel), List.mem_of_getElem? (i := 1714) (by decide +kernel), List.mem_of_getElem? (i := 1715) (by decide +kernel)⟩
theorem lw_p62 : lw_okq (⟨"RoadHouse$Cars", "shareOut", "(I)V"⟩, 22) := ⟨⟨by decide +kernel, by decide +kernel⟩, List.mem_of_getElem? (i := 627) (by decide +kernel), List.mem_of_getElem? (i := 1719) (by decide +kernel), List.mem_of_getElem? (i := 1720) (by decide +kernel)⟩
theorem lw_p63 : lw_okq (⟨"RoadHouse$Cars", "cellOf", "(I)I"⟩, 22) := ⟨⟨by decide +kernel, by decide +kernel⟩, List.mem_of_getElem? (i := 627) (by decide +kernel), List.mem_of_getElem? (i := 1723) (by decide +kernel), List.mem_of_getElem? (i := 1724) (by decide +kernel)⟩
def lw_privs_4 : List (MethodName × Nat) := [(⟨"RoadHouse$Signals", "eventOf", "(I)I"⟩, 22), (⟨"RoadHouse$Signals", "goOn", "([II)I"⟩, 22), (⟨"RoadHouse$Signals", "shownBy", "([I)I"⟩, 22), (⟨"RoadHouse$Signals", "bitsOf", "(II)I"⟩, 22), (⟨"RoadHouse$Signals", "beginPhase", "([I)I"⟩, 22), (⟨"RoadHouse$Signals", "endsNow", "([I)Z"⟩, 22), (⟨"RoadHouse$Signals", "endPhase", "([I)Z"⟩, 22), (⟨"RoadHouse$Signals", "faultOf", "([IIZ)I"⟩, 22), (⟨"RoadHouse", "tellCells", "()V"⟩, 10), (⟨"RoadHouse$Cars", "set", "(IIIII)Z"⟩, 22), (⟨"RoadHouse$Cars", "isToCome", "(I)Z"⟩, 22), (⟨"RoadHouse$Cars", "findSettings", "(I)V"⟩, 22), (⟨"RoadHouse$Cars", "sends", "(II)Z"⟩, 22), (⟨"RoadHouse$Cars", "holdCells", "(I)V"⟩, 22), (⟨"RoadHouse$Cars", "shareOut", "(I)V"⟩, 22), (⟨"RoadHouse$Cars", "cellOf", "(I)I"⟩, 22)]
theorem lw_r4 : ∀ q ∈ lw_privs_4, lw_okq q := List.forall_mem_cons.mpr ⟨lw_p48, List.forall_mem_cons.mpr ⟨lw_p49, List.forall_mem_cons.mpr ⟨lw_p50, List.forall_mem_cons.mpr ⟨lw_p51, List.forall_mem_cons.mpr ⟨lw_p52, List.forall_mem_cons.mpr ⟨lw_p53, List.forall_mem_cons.mpr ⟨lw_p54, List.forall_mem_cons.mpr ⟨lw_p55, List.forall_mem_cons.mpr ⟨lw_p56, List.forall_mem_cons.mpr ⟨lw_p57, List.forall_mem_cons.mpr ⟨lw_p58, List.forall_mem_cons.mpr ⟨lw_p59, List.forall_mem_cons.mpr ⟨lw_p60, List.forall_mem_cons.mpr ⟨lw_p61, List.forall_mem_cons.mpr ⟨lw_p62, List.forall_mem_cons.mpr ⟨lw_p63, fun _ h => absurd h List.not_mem_nil⟩⟩⟩⟩⟩⟩⟩⟩⟩⟩⟩⟩⟩⟩⟩⟩
theorem lw_p64 : lw_okq (⟨"RoadHouse$Cars", "moveInto", "(I)V"⟩, 22) := ⟨⟨by decide +kernel, by decide +kernel⟩, List.mem_of_getElem? (i := 627) (by decide +kernel), List.mem_of_getElem? (i := 1727) (by decide +kernel), List.mem_of_getElem? (i := 1728) (by decide +kernel)⟩
theorem lw_p65 : lw_okq (⟨"RoadHouse$Cars", "finish", "(I)V"⟩, 22) := ⟨⟨by decide +kernel, by decide +kernel⟩, List.mem_of_getElem? (i := 627) (by decide +kernel), List.mem_of_getElem? (i := 1731) (by decide +kernel), List.mem_of_getElem? (i := 1732) (by decide +kernel)⟩
theorem lw_p66 : lw_okq (⟨"RoadHouse$Earth", "metreOf", "(I)I"⟩, 20) := ⟨⟨by decide +kernel, by decide +kernel⟩, List.mem_of_getElem? (i := 165) (by decide +kernel), List.mem_of_getElem? (i := 1762) (by decide +kernel), List.mem_of_getElem? (i := 1763) (by decide +kernel)⟩
theorem lw_p67 : lw_okq (⟨"RoadHouse$Contract", "isShape", "(I)Z"⟩, 23) := ⟨⟨by decide +kernel, by decide +kernel⟩, List.mem_of_getElem? (i := 702) (by decide +kernel), List.mem_of_getElem? (i := 1788) (by decide +kernel), List.mem_of_getElem? (i := 1789) (by decide +kernel)⟩
theorem lw_p68 : lw_okq (⟨"RoadHouse$Contract", "addEntry", "(IIII)V"⟩, 23) := ⟨⟨by decide +kernel, by decide +kernel⟩, List.mem_of_getElem? (i := 702) (by decide +kernel), List.mem_of_getElem? (i := 1796) (by decide +kernel), List.mem_of_getElem? (i := 1797) (by decide +kernel)⟩
theorem lw_p69 : lw_okq (⟨"RoadHouse$Contract", "measure", "(I[II)J"⟩, 23) := ⟨⟨by decide +kernel, by decide +kernel⟩, List.mem_of_getElem? (i := 702) (by decide +kernel), List.mem_of_getElem? (i := 1800) (by decide +kernel), List.mem_of_getElem? (i := 1801) (by decide +kernel)⟩
theorem lw_p70 : lw_okq (⟨"RoadHouse$Contract", "joined", "(JJC)J"⟩, 23) := ⟨⟨by decide +kernel, by decide +kernel⟩, List.mem_of_getElem? (i := 702) (by decide +kernel), List.mem_of_getElem? (i := 1804) (by decide +kernel), List.mem_of_getElem? (i := 1805) (by decide +kernel)⟩
theorem lw_p71 : lw_okq (⟨"RoadHouse$Contract", "tellOpen", "(III)V"⟩, 23) := ⟨⟨by decide +kernel, by decide +kernel⟩, List.mem_of_getElem? (i := 702) (by decide +kernel), List.mem_of_getElem? (i := 1810) (by decide +kernel), List.mem_of_getElem? (i := 1811) (by decide +kernel)⟩
theorem lw_p72 : lw_okq (⟨"RoadHouse$Earth", "serves", "(II)Z"⟩, 20) := ⟨⟨by decide +kernel, by decide +kernel⟩, List.mem_of_getElem? (i := 165) (by decide +kernel), List.mem_of_getElem? (i := 1844) (by decide +kernel), List.mem_of_getElem? (i := 1845) (by decide +kernel)⟩
theorem lw_p73 : lw_okq (⟨"RoadHouse$Earth", "gives", "(I)J"⟩, 20) := ⟨⟨by decide +kernel, by decide +kernel⟩, List.mem_of_getElem? (i := 165) (by decide +kernel), List.mem_of_getElem? (i := 1848) (by decide +kernel), List.mem_of_getElem? (i := 1849) (by decide +kernel)⟩
theorem lw_p74 : lw_okq (⟨"RoadHouse$Earth", "checkWeeks", "()J"⟩, 20) := ⟨⟨by decide +kernel, by decide +kernel⟩, List.mem_of_getElem? (i := 165) (by decide +kernel), List.mem_of_getElem? (i := 1853) (by decide +kernel), List.mem_of_getElem? (i := 1854) (by decide +kernel)⟩
theorem lw_p75 : lw_okq (⟨"RoadHouse$Beams", "asked", "(III)[I"⟩, 22) := ⟨⟨by decide +kernel, by decide +kernel⟩, List.mem_of_getElem? (i := 236) (by decide +kernel), List.mem_of_getElem? (i := 1861) (by decide +kernel), List.mem_of_getElem? (i := 1862) (by decide +kernel)⟩
theorem lw_p76 : lw_okq (⟨"RoadHouse$Trains", "worstNumber", "()LRoadHouse$Big;"⟩, 22) := ⟨⟨by decide +kernel, by decide +kernel⟩, List.mem_of_getElem? (i := 373) (by decide +kernel), List.mem_of_getElem? (i := 1873) (by decide +kernel), List.mem_of_getElem? (i := 1874) (by decide +kernel)⟩
theorem lw_p77 : lw_okq (⟨"RoadHouse$Signals", "ring", "(I)J"⟩, 22) := ⟨⟨by decide +kernel, by decide +kernel⟩, List.mem_of_getElem? (i := 536) (by decide +kernel), List.mem_of_getElem? (i := 1886) (by decide +kernel), List.mem_of_getElem? (i := 1887) (by decide +kernel)⟩
theorem lw_p78 : lw_okq (⟨"RoadHouse$Signals", "longest", "(I)I"⟩, 22) := ⟨⟨by decide +kernel, by decide +kernel⟩, List.mem_of_getElem? (i := 536) (by decide +kernel), List.mem_of_getElem? (i := 1891) (by decide +kernel), List.mem_of_getElem? (i := 1892) (by decide +kernel)⟩
theorem lw_p79 : lw_okq (⟨"RoadHouse$Signals", "waitsIn", "(II)Z"⟩, 22) := ⟨⟨by decide +kernel, by decide +kernel⟩, List.mem_of_getElem? (i := 536) (by decide +kernel), List.mem_of_getElem? (i := 1895) (by decide +kernel), List.mem_of_getElem? (i := 1896) (by decide +kernel)⟩
def lw_privs_5 : List (MethodName × Nat) := [(⟨"RoadHouse$Cars", "moveInto", "(I)V"⟩, 22), (⟨"RoadHouse$Cars", "finish", "(I)V"⟩, 22), (⟨"RoadHouse$Earth", "metreOf", "(I)I"⟩, 20), (⟨"RoadHouse$Contract", "isShape", "(I)Z"⟩, 23), (⟨"RoadHouse$Contract", "addEntry", "(IIII)V"⟩, 23), (⟨"RoadHouse$Contract", "measure", "(I[II)J"⟩, 23), (⟨"RoadHouse$Contract", "joined", "(JJC)J"⟩, 23), (⟨"RoadHouse$Contract", "tellOpen", "(III)V"⟩, 23), (⟨"RoadHouse$Earth", "serves", "(II)Z"⟩, 20), (⟨"RoadHouse$Earth", "gives", "(I)J"⟩, 20), (⟨"RoadHouse$Earth", "checkWeeks", "()J"⟩, 20), (⟨"RoadHouse$Beams", "asked", "(III)[I"⟩, 22), (⟨"RoadHouse$Trains", "worstNumber", "()LRoadHouse$Big;"⟩, 22), (⟨"RoadHouse$Signals", "ring", "(I)J"⟩, 22), (⟨"RoadHouse$Signals", "longest", "(I)I"⟩, 22), (⟨"RoadHouse$Signals", "waitsIn", "(II)Z"⟩, 22)]
theorem lw_r5 : ∀ q ∈ lw_privs_5, lw_okq q := List.forall_mem_cons.mpr ⟨lw_p64, List.forall_mem_cons.mpr ⟨lw_p65, List.forall_mem_cons.mpr ⟨lw_p66, List.forall_mem_cons.mpr ⟨lw_p67, List.forall_mem_cons.mpr ⟨lw_p68, List.forall_mem_cons.mpr ⟨lw_p69, List.forall_mem_cons.mpr ⟨lw_p70, List.forall_mem_cons.mpr ⟨lw_p71, List.forall_mem_cons.mpr ⟨lw_p72, List.forall_mem_cons.mpr ⟨lw_p73, List.forall_mem_cons.mpr ⟨lw_p74, List.forall_mem_cons.mpr ⟨lw_p75, List.forall_mem_cons.mpr ⟨lw_p76, List.forall_mem_cons.mpr ⟨lw_p77, List.forall_mem_cons.mpr ⟨lw_p78, List.forall_mem_cons.mpr ⟨lw_p79, fun _ h => absurd h List.not_mem_nil⟩⟩⟩⟩⟩⟩⟩⟩⟩⟩⟩⟩⟩⟩⟩⟩
theorem lw_p80 : lw_okq (⟨"RoadHouse$Signals", "longestBehind", "(I)I"⟩, 22) := ⟨⟨by decide +kernel, by decide +kernel⟩, List.mem_of_getElem? (i := 536) (by decide +kernel), List.mem_of_getElem? (i := 1905) (by decide +kernel), List.mem_of_getElem? (i := 1906) (by decide +kernel)⟩
theorem lw_p81 : lw_okq (⟨"RoadHouse$Contract", "quantity", "(II)J"⟩, 23) := ⟨⟨by decide +kernel, by decide +kernel⟩, List.mem_of_getElem? (i := 702) (by decide +kernel), List.mem_of_getElem? (i := 1917) (by decide +kernel), List.mem_of_getElem? (i := 1918) (by decide +kernel)⟩
theorem lw_p82 : lw_okq (⟨"RoadHouse$Contract", "walked", "(II)J"⟩, 23) := ⟨⟨by decide +kernel, by decide +kernel⟩, List.mem_of_getElem? (i := 702) (by decide +kernel), List.mem_of_getElem? (i := 1921) (by decide +kernel), List.mem_of_getElem? (i := 1922) (by decide +kernel)⟩
theorem lw_p83 : lw_okq (⟨"RoadHouse$Contract", "isOf", "(III)Z"⟩, 23) := ⟨⟨by decide +kernel, by decide +kernel⟩, List.mem_of_getElem? (i := 702) (by decide +kernel), List.mem_of_getElem? (i := 1925) (by decide +kernel), List.mem_of_getElem? (i := 1926) (by decide +kernel)⟩
theorem lw_p84 : lw_okq (⟨"RoadHouse$Way", "setCell", "(IIII)Z"⟩, 19) := ⟨⟨by decide +kernel, by decide +kernel⟩, List.mem_of_getElem? (i := 51) (by decide +kernel), List.mem_of_getElem? (i := 1950) (by decide +kernel), List.mem_of_getElem? (i := 1951) (by decide +kernel)⟩
theorem lw_p85 : lw_okq (⟨"RoadHouse$Way", "setBarred", "(II)Z"⟩, 19) := ⟨⟨by decide +kernel, by decide +kernel⟩, List.mem_of_getElem? (i := 51) (by decide +kernel), List.mem_of_getElem? (i := 1957) (by decide +kernel), List.mem_of_getElem? (i := 1958) (by decide +kernel)⟩
theorem lw_p86 : lw_okq (⟨"RoadHouse$Way", "setMoves", "(III)Z"⟩, 19) := ⟨⟨by decide +kernel, by decide +kernel⟩, List.mem_of_getElem? (i := 51) (by decide +kernel), List.mem_of_getElem? (i := 1961) (by decide +kernel), List.mem_of_getElem? (i := 1962) (by decide +kernel)⟩
theorem lw_p87 : lw_okq (⟨"RoadHouse$Way", "setValue", "(IIII)Z"⟩, 19) := ⟨⟨by decide +kernel, by decide +kernel⟩, List.mem_of_getElem? (i := 51) (by decide +kernel), List.mem_of_getElem? (i := 1965) (by decide +kernel), List.mem_of_getElem? (i := 1966) (by decide +kernel)⟩
theorem lw_p88 : lw_okq (⟨"RoadHouse$Way", "setWeight", "(III)Z"⟩, 19) := ⟨⟨by decide +kernel, by decide +kernel⟩, List.mem_of_getElem? (i := 51) (by decide +kernel), List.mem_of_getElem? (i := 1969) (by decide +kernel), List.mem_of_getElem? (i := 1970) (by decide +kernel)⟩
theorem lw_p89 : lw_okq (⟨"RoadHouse$Way", "find", "(IIIII)J"⟩, 19) := ⟨⟨by decide +kernel, by decide +kernel⟩, List.mem_of_getElem? (i := 51) (by decide +kernel), List.mem_of_getElem? (i := 1973) (by decide +kernel), List.mem_of_getElem? (i := 1974) (by decide +kernel)⟩
theorem lw_p90 : lw_okq (⟨"RoadHouse$Way", "searchWay", "(III)J"⟩, 19) := ⟨⟨by decide +kernel, by decide +kernel⟩, List.mem_of_getElem? (i := 51) (by decide +kernel), List.mem_of_getElem? (i := 1983) (by decide +kernel), List.mem_of_getElem? (i := 1984) (by decide +kernel)⟩
theorem lw_p91 : lw_okq (⟨"RoadHouse$Search", "makeRoom", "(I)V"⟩, 11) := ⟨⟨by decide +kernel, by decide +kernel⟩, List.mem_of_getElem? (i := 60) (by decide +kernel), List.mem_of_getElem? (i := 1991) (by decide +kernel), List.mem_of_getElem? (i := 1992) (by decide +kernel)⟩
theorem lw_p92 : lw_okq (⟨"RoadHouse$Way", "aimValue", "(II)J"⟩, 19) := ⟨⟨by decide +kernel, by decide +kernel⟩, List.mem_of_getElem? (i := 51) (by decide +kernel), List.mem_of_getElem? (i := 2001) (by decide +kernel), List.mem_of_getElem? (i := 2002) (by decide +kernel)⟩
theorem lw_p93 : lw_okq (⟨"RoadHouse$Search", "label", "(IIII)I"⟩, 11) := ⟨⟨by decide +kernel, by decide +kernel⟩, List.mem_of_getElem? (i := 60) (by decide +kernel), List.mem_of_getElem? (i := 2006) (by decide +kernel), List.mem_of_getElem? (i := 2007) (by decide +kernel)⟩
theorem lw_p94 : lw_okq (⟨"RoadHouse$Search", "offer", "(IJJ)V"⟩, 11) := ⟨⟨by decide +kernel, by decide +kernel⟩, List.mem_of_getElem? (i := 60) (by decide +kernel), List.mem_of_getElem? (i := 2010) (by decide +kernel), List.mem_of_getElem? (i := 2011) (by decide +kernel)⟩
theorem lw_p95 : lw_okq (⟨"RoadHouse$Search", "before", "(II)Z"⟩, 11) := ⟨⟨by decide +kernel, by decide +kernel⟩, List.mem_of_getElem? (i := 60) (by decide +kernel), List.mem_of_getElem? (i := 2014) (by decide +kernel), List.mem_of_getElem? (i := 2015) (by decide +kernel)⟩
def lw_privs_6 : List (MethodName × Nat) := [(⟨"RoadHouse$Signals", "longestBehind", "(I)I"⟩, 22), (⟨"RoadHouse$Contract", "quantity", "(II)J"⟩, 23), (⟨"RoadHouse$Contract", "walked", "(II)J"⟩, 23), (⟨"RoadHouse$Contract", "isOf", "(III)Z"⟩, 23), (⟨"RoadHouse$Way", "setCell", "(IIII)Z"⟩, 19), (⟨"RoadHouse$Way", "setBarred", "(II)Z"⟩, 19), (⟨"RoadHouse$Way", "setMoves", "(III)Z"⟩, 19), (⟨"RoadHouse$Way", "setValue", "(IIII)Z"⟩, 19), (⟨"RoadHouse$Way", "setWeight", "(III)Z"⟩, 19), (⟨"RoadHouse$Way", "find", "(IIIII)J"⟩, 19), (⟨"RoadHouse$Way", "searchWay", "(III)J"⟩, 19), (⟨"RoadHouse$Search", "makeRoom", "(I)V"⟩, 11), (⟨"RoadHouse$Way", "aimValue", "(II)J"⟩, 19), (⟨"RoadHouse$Search", "label", "(IIII)I"⟩, 11), (⟨"RoadHouse$Search", "offer", "(IJJ)V"⟩, 11), (⟨"RoadHouse$Search", "before", "(II)Z"⟩, 11)]
theorem lw_r6 : ∀ q ∈ lw_privs_6, lw_okq q := List.forall_mem_cons.mpr ⟨lw_p80, List.forall_mem_cons.mpr ⟨lw_p81, List.forall_mem_cons.mpr ⟨lw_p82, List.forall_mem_cons.mpr ⟨lw_p83, List.forall_mem_cons.mpr ⟨lw_p84, List.forall_mem_cons.mpr ⟨lw_p85, List.forall_mem_cons.mpr ⟨lw_p86, List.forall_mem_cons.mpr ⟨lw_p87, List.forall_mem_cons.mpr ⟨lw_p88, List.forall_mem_cons.mpr ⟨lw_p89, List.forall_mem_cons.mpr ⟨lw_p90, List.forall_mem_cons.mpr ⟨lw_p91, List.forall_mem_cons.mpr ⟨lw_p92, List.forall_mem_cons.mpr ⟨lw_p93, List.forall_mem_cons.mpr ⟨lw_p94, List.forall_mem_cons.mpr ⟨lw_p95, fun _ h => absurd h List.not_mem_nil⟩⟩⟩⟩⟩⟩⟩⟩⟩⟩⟩⟩⟩⟩⟩⟩
theorem lw_p96 : lw_okq (⟨"RoadHouse$Search", "closeFirst", "()I"⟩, 11) := ⟨⟨by decide +kernel, by decide +kernel⟩, List.mem_of_getElem? (i := 60) (by decide +kernel), List.mem_of_getElem? (i := 2018) (by decide +kernel), List.mem_of_getElem? (i := 2019) (by decide +kernel)⟩
theorem lw_p97 : lw_okq (⟨"RoadHouse$Search", "sink", "()V"⟩, 11) := ⟨⟨by decide +kernel, by decide +kernel⟩, List.mem_of_getElem? (i := 60) (by decide +kernel), List.mem_of_getElem? (i := 2022) (by decide +kernel), List.mem_of_getElem? (i := 2023) (by decide +kernel)⟩
theorem lw_p98 : lw_okq (⟨"RoadHouse$Search", "offerBefore", "(I)V"⟩, 11) := ⟨⟨by decide +kernel, by decide +kernel⟩, List.mem_of_getElem? (i := 60) (by decide +kernel), List.mem_of_getElem? (i := 2026) (by decide +kernel), List.mem_of_getElem? (i := 2027) (by decide +kernel)⟩
theorem lw_p99 : lw_okq (⟨"RoadHouse$Search", "nextOf", "(I)I"⟩, 11) := ⟨⟨by decide +kernel, by decide +kernel⟩, List.mem_of_getElem? (i := 60) (by decide +kernel), List.mem_of_getElem? (i := 2045) (by decide +kernel), List.mem_of_getElem? (i := 2046) (by decide +kernel)⟩
theorem lw_p100 : lw_okq (⟨"RoadHouse$Way", "placeOf", "(II)J"⟩, 19) := ⟨⟨by decide +kernel, by decide +kernel⟩, List.mem_of_getElem? (i := 51) (by decide +kernel), List.mem_of_getElem? (i := 2049) (by decide +kernel), List.mem_of_getElem? (i := 2050) (by decide +kernel)⟩
theorem lw_p101 : lw_okq (⟨"RoadHouse$Way", "costPart", "(I)J"⟩, 19) := ⟨⟨by decide +kernel, by decide +kernel⟩, List.mem_of_getElem? (i := 51) (by decide +kernel), List.mem_of_getElem? (i := 2054) (by decide +kernel), List.mem_of_getElem? (i := 2055) (by decide +kernel)⟩
theorem lw_p102 : lw_okq (⟨"RoadHouse$Way", "costOf", "([I)J"⟩, 19) := ⟨⟨by decide +kernel, by decide +kernel⟩, List.mem_of_getElem? (i := 51) (by decide +kernel), List.mem_of_getElem? (i := 2058) (by decide +kernel), List.mem_of_getElem? (i := 2059) (by decide +kernel)⟩
theorem lw_p103 : lw_okq (⟨"RoadHouse$Way", "findUnlike", "(II)J"⟩, 19) := ⟨⟨by decide +kernel, by decide +kernel⟩, List.mem_of_getElem? (i := 51) (by decide +kernel), List.mem_of_getElem? (i := 2064) (by decide +kernel), List.mem_of_getElem? (i := 2065) (by decide +kernel)⟩
theorem lw_p104 : lw_okq (⟨"RoadHouse$Way", "spanOf", "(III)J"⟩, 19) := ⟨⟨by decide +kernel, by decide +kernel⟩, List.mem_of_getElem? (i := 51) (by decide +kernel), List.mem_of_getElem? (i := 2068) (by decide +kernel), List.mem_of_getElem? (i := 2069) (by decide +kernel)⟩
theorem lw_p105 : lw_okq (⟨"RoadHouse$Way", "aimOf", "([II)J"⟩, 19) := ⟨⟨by decide +kernel, by decide +kernel⟩, List.mem_of_getElem? (i := 51) (by decide +kernel), List.mem_of_getElem? (i := 2072) (by decide +kernel), List.mem_of_getElem? (i := 2073) (by decide +kernel)⟩
theorem lw_p106 : lw_okq (⟨"RoadHouse$Way", "setBridge", "(IIII)Z"⟩, 19) := ⟨⟨by decide +kernel, by decide +kernel⟩, List.mem_of_getElem? (i := 51) (by decide +kernel), List.mem_of_getElem? (i := 2076) (by decide +kernel), List.mem_of_getElem? (i := 2077) (by decide +kernel)⟩
theorem lw_p107 : lw_okq (⟨"RoadHouse$Way", "mark", "(IIII)J"⟩, 19) := ⟨⟨by decide +kernel, by decide +kernel⟩, List.mem_of_getElem? (i := 51) (by decide +kernel), List.mem_of_getElem? (i := 2080) (by decide +kernel), List.mem_of_getElem? (i := 2081) (by decide +kernel)⟩
theorem lw_p108 : lw_okq (⟨"RoadHouse$Way", "setZone", "(III)J"⟩, 19) := ⟨⟨by decide +kernel, by decide +kernel⟩, List.mem_of_getElem? (i := 51) (by decide +kernel), List.mem_of_getElem? (i := 2084) (by decide +kernel), List.mem_of_getElem? (i := 2085) (by decide +kernel)⟩
theorem lw_p109 : lw_okq (⟨"RoadHouse$Way", "zoneSum", "(I)J"⟩, 19) := ⟨⟨by decide +kernel, by decide +kernel⟩, List.mem_of_getElem? (i := 51) (by decide +kernel), List.mem_of_getElem? (i := 2088) (by decide +kernel), List.mem_of_getElem? (i := 2089) (by decide +kernel)⟩
theorem lw_p110 : lw_okq (⟨"RoadHouse$Way", "turnsOf", "()J"⟩, 19) := ⟨⟨by decide +kernel, by decide +kernel⟩, List.mem_of_getElem? (i := 51) (by decide +kernel), List.mem_of_getElem? (i := 2092) (by decide +kernel), List.mem_of_getElem? (i := 2093) (by decide +kernel)⟩
theorem lw_p111 : lw_okq (⟨"RoadHouse$Earth", "setSwell", "(III)Z"⟩, 20) := ⟨⟨by decide +kernel, by decide +kernel⟩, List.mem_of_getElem? (i := 165) (by decide +kernel), List.mem_of_getElem? (i := 2104) (by decide +kernel), List.mem_of_getElem? (i := 2105) (by decide +kernel)⟩
def lw_privs_7 : List (MethodName × Nat) := [(⟨"RoadHouse$Search", "closeFirst", "()I"⟩, 11), (⟨"RoadHouse$Search", "sink", "()V"⟩, 11), (⟨"RoadHouse$Search", "offerBefore", "(I)V"⟩, 11), (⟨"RoadHouse$Search", "nextOf", "(I)I"⟩, 11), (⟨"RoadHouse$Way", "placeOf", "(II)J"⟩, 19), (⟨"RoadHouse$Way", "costPart", "(I)J"⟩, 19), (⟨"RoadHouse$Way", "costOf", "([I)J"⟩, 19), (⟨"RoadHouse$Way", "findUnlike", "(II)J"⟩, 19), (⟨"RoadHouse$Way", "spanOf", "(III)J"⟩, 19), (⟨"RoadHouse$Way", "aimOf", "([II)J"⟩, 19), (⟨"RoadHouse$Way", "setBridge", "(IIII)Z"⟩, 19), (⟨"RoadHouse$Way", "mark", "(IIII)J"⟩, 19), (⟨"RoadHouse$Way", "setZone", "(III)J"⟩, 19), (⟨"RoadHouse$Way", "zoneSum", "(I)J"⟩, 19), (⟨"RoadHouse$Way", "turnsOf", "()J"⟩, 19), (⟨"RoadHouse$Earth", "setSwell", "(III)Z"⟩, 20)]
theorem lw_r7 : ∀ q ∈ lw_privs_7, lw_okq q := List.forall_mem_cons.mpr ⟨lw_p96, List.forall_mem_cons.mpr ⟨lw_p97, List.forall_mem_cons.mpr ⟨lw_p98, List.forall_mem_cons.mpr ⟨lw_p99, List.forall_mem_cons.mpr ⟨lw_p100, List.forall_mem_cons.mpr ⟨lw_p101, List.forall_mem_cons.mpr ⟨lw_p102, List.forall_mem_cons.mpr ⟨lw_p103, List.forall_mem_cons.mpr ⟨lw_p104, List.forall_mem_cons.mpr ⟨lw_p105, List.forall_mem_cons.mpr ⟨lw_p106, List.forall_mem_cons.mpr ⟨lw_p107, List.forall_mem_cons.mpr ⟨lw_p108, List.forall_mem_cons.mpr ⟨lw_p109, List.forall_mem_cons.mpr ⟨lw_p110, List.forall_mem_cons.mpr ⟨lw_p111, fun _ h => absurd h List.not_mem_nil⟩⟩⟩⟩⟩⟩⟩⟩⟩⟩⟩⟩⟩⟩⟩⟩
theorem lw_p112 : lw_okq (⟨"RoadHouse$Earth", "setFit", "(IIZ)Z"⟩, 20) := ⟨⟨by decide +kernel, by decide +kernel⟩, List.mem_of_getElem? (i := 165) (by decide +kernel), List.mem_of_getElem? (i := 2108) (by decide +kernel), List.mem_of_getElem? (i := 2109) (by decide +kernel)⟩
theorem lw_p113 : lw_okq (⟨"RoadHouse$Earth", "addWay", "(III)J"⟩, 20) := ⟨⟨by decide +kernel, by decide +kernel⟩, List.mem_of_getElem? (i := 165) (by decide +kernel), List.mem_of_getElem? (i := 2112) (by decide +kernel), List.mem_of_getElem? (i := 2113) (by decide +kernel)⟩
theorem lw_p114 : lw_okq (⟨"RoadHouse$Earth", "barWay", "(III)Z"⟩, 20) := ⟨⟨by decide +kernel, by decide +kernel⟩, List.mem_of_getElem? (i := 165) (by decide +kernel), List.mem_of_getElem? (i := 2116) (by decide +kernel), List.mem_of_getElem? (i := 2117) (by decide +kernel)⟩
theorem lw_p115 : lw_okq (⟨"RoadHouse$Earth", "addPit", "(II)J"⟩, 20) := ⟨⟨by decide +kernel, by decide +kernel⟩, List.mem_of_getElem? (i := 165) (by decide +kernel), List.mem_of_getElem? (i := 2120) (by decide +kernel), List.mem_of_getElem? (i := 2121) (by decide +kernel)⟩
theorem lw_p116 : lw_okq (⟨"RoadHouse$Earth", "pits", "()I"⟩, 20) := ⟨⟨by decide +kernel, by decide +kernel⟩, List.mem_of_getElem? (i := 165) (by decide +kernel), List.mem_of_getElem? (i := 2124) (by decide +kernel), List.mem_of_getElem? (i := 2125) (by decide +kernel)⟩
theorem lw_p117 : lw_okq (⟨"RoadHouse$Earth", "setMost", "(II)Z"⟩, 20) := ⟨⟨by decide +kernel, by decide +kernel⟩, List.mem_of_getElem? (i := 165) (by decide +kernel), List.mem_of_getElem? (i := 2128) (by decide +kernel), List.mem_of_getElem? (i := 2129) (by decide +kernel)⟩
theorem lw_p118 : lw_okq (⟨"RoadHouse$Earth", "run", "(I)J"⟩, 20) := ⟨⟨by decide +kernel, by decide +kernel⟩, List.mem_of_getElem? (i := 165) (by decide +kernel), List.mem_of_getElem? (i := 2133) (by decide +kernel), List.mem_of_getElem? (i := 2134) (by decide +kernel)⟩
theorem lw_p119 : lw_okq (⟨"RoadHouse$Earth", "priceUnits", "(I)V"⟩, 20) := ⟨⟨by decide +kernel, by decide +kernel⟩, List.mem_of_getElem? (i := 165) (by decide +kernel), List.mem_of_getElem? (i := 2152) (by decide +kernel), List.mem_of_getElem? (i := 2153) (by decide +kernel)⟩
theorem lw_p120 : lw_okq (⟨"RoadHouse$Earth", "weeksSuffice", "(I)Z"⟩, 20) := ⟨⟨by decide +kernel, by decide +kernel⟩, List.mem_of_getElem? (i := 165) (by decide +kernel), List.mem_of_getElem? (i := 2157) (by decide +kernel), List.mem_of_getElem? (i := 2158) (by decide +kernel)⟩
theorem lw_p121 : lw_okq (⟨"RoadHouse$Earth", "planFlow", "()Z"⟩, 20) := ⟨⟨by decide +kernel, by decide +kernel⟩, List.mem_of_getElem? (i := 165) (by decide +kernel), List.mem_of_getElem? (i := 2161) (by decide +kernel), List.mem_of_getElem? (i := 2162) (by decide +kernel)⟩
theorem lw_p122 : lw_okq (⟨"RoadHouse$Earth", "cheapest", "(II)Z"⟩, 20) := ⟨⟨by decide +kernel, by decide +kernel⟩, List.mem_of_getElem? (i := 165) (by decide +kernel), List.mem_of_getElem? (i := 2166) (by decide +kernel), List.mem_of_getElem? (i := 2167) (by decide +kernel)⟩
theorem lw_p123 : lw_okq (⟨"RoadHouse$Earth", "shorten", "(IIJ)Z"⟩, 20) := ⟨⟨by decide +kernel, by decide +kernel⟩, List.mem_of_getElem? (i := 165) (by decide +kernel), List.mem_of_getElem? (i := 2170) (by decide +kernel), List.mem_of_getElem? (i := 2171) (by decide +kernel)⟩
theorem lw_p124 : lw_okq (⟨"RoadHouse$Earth", "push", "(IIJ)J"⟩, 20) := ⟨⟨by decide +kernel, by decide +kernel⟩, List.mem_of_getElem? (i := 165) (by decide +kernel), List.mem_of_getElem? (i := 2174) (by decide +kernel), List.mem_of_getElem? (i := 2175) (by decide +kernel)⟩
theorem lw_p125 : lw_okq (⟨"RoadHouse$Earth", "room", "(II)J"⟩, 20) := ⟨⟨by decide +kernel, by decide +kernel⟩, List.mem_of_getElem? (i := 165) (by decide +kernel), List.mem_of_getElem? (i := 2178) (by decide +kernel), List.mem_of_getElem? (i := 2179) (by decide +kernel)⟩
theorem lw_p126 : lw_okq (⟨"RoadHouse$Earth", "change", "(IIJ)V"⟩, 20) := ⟨⟨by decide +kernel, by decide +kernel⟩, List.mem_of_getElem? (i := 165) (by decide +kernel), List.mem_of_getElem? (i := 2183) (by decide +kernel), List.mem_of_getElem? (i := 2184) (by decide +kernel)⟩
theorem lw_p127 : lw_okq (⟨"RoadHouse$Earth", "findClashes", "()V"⟩, 20) := ⟨⟨by decide +kernel, by decide +kernel⟩, List.mem_of_getElem? (i := 165) (by decide +kernel), List.mem_of_getElem? (i := 2187) (by decide +kernel), List.mem_of_getElem? (i := 2188) (by decide +kernel)⟩
def lw_privs_8 : List (MethodName × Nat) := [(⟨"RoadHouse$Earth", "setFit", "(IIZ)Z"⟩, 20), (⟨"RoadHouse$Earth", "addWay", "(III)J"⟩, 20), (⟨"RoadHouse$Earth", "barWay", "(III)Z"⟩, 20), (⟨"RoadHouse$Earth", "addPit", "(II)J"⟩, 20), (⟨"RoadHouse$Earth", "pits", "()I"⟩, 20), (⟨"RoadHouse$Earth", "setMost", "(II)Z"⟩, 20), (⟨"RoadHouse$Earth", "run", "(I)J"⟩, 20), (⟨"RoadHouse$Earth", "priceUnits", "(I)V"⟩, 20), (⟨"RoadHouse$Earth", "weeksSuffice", "(I)Z"⟩, 20), (⟨"RoadHouse$Earth", "planFlow", "()Z"⟩, 20), (⟨"RoadHouse$Earth", "cheapest", "(II)Z"⟩, 20), (⟨"RoadHouse$Earth", "shorten", "(IIJ)Z"⟩, 20), (⟨"RoadHouse$Earth", "push", "(IIJ)J"⟩, 20), (⟨"RoadHouse$Earth", "room", "(II)J"⟩, 20), (⟨"RoadHouse$Earth", "change", "(IIJ)V"⟩, 20), (⟨"RoadHouse$Earth", "findClashes", "()V"⟩, 20)]
theorem lw_r8 : ∀ q ∈ lw_privs_8, lw_okq q := List.forall_mem_cons.mpr ⟨lw_p112, List.forall_mem_cons.mpr ⟨lw_p113, List.forall_mem_cons.mpr ⟨lw_p114, List.forall_mem_cons.mpr ⟨lw_p115, List.forall_mem_cons.mpr ⟨lw_p116, List.forall_mem_cons.mpr ⟨lw_p117, List.forall_mem_cons.mpr ⟨lw_p118, List.forall_mem_cons.mpr ⟨lw_p119, List.forall_mem_cons.mpr ⟨lw_p120, List.forall_mem_cons.mpr ⟨lw_p121, List.forall_mem_cons.mpr ⟨lw_p122, List.forall_mem_cons.mpr ⟨lw_p123, List.forall_mem_cons.mpr ⟨lw_p124, List.forall_mem_cons.mpr ⟨lw_p125, List.forall_mem_cons.mpr ⟨lw_p126, List.forall_mem_cons.mpr ⟨lw_p127, fun _ h => absurd h List.not_mem_nil⟩⟩⟩⟩⟩⟩⟩⟩⟩⟩⟩⟩⟩⟩⟩⟩
theorem lw_p128 : lw_okq (⟨"RoadHouse$Earth", "reaches", "(II)Z"⟩, 20) := ⟨⟨by decide +kernel, by decide +kernel⟩, List.mem_of_getElem? (i := 165) (by decide +kernel), List.mem_of_getElem? (i := 2191) (by decide +kernel), List.mem_of_getElem? (i := 2192) (by decide +kernel)⟩
theorem lw_p129 : lw_okq (⟨"RoadHouse$Earth", "fillPipes", "()V"⟩, 20) := ⟨⟨by decide +kernel, by decide +kernel⟩, List.mem_of_getElem? (i := 165) (by decide +kernel), List.mem_of_getElem? (i := 2196) (by decide +kernel), List.mem_of_getElem? (i := 2197) (by decide +kernel)⟩
theorem lw_p130 : lw_okq (⟨"RoadHouse$Earth", "preferFirst", "()V"⟩, 20) := ⟨⟨by decide +kernel, by decide +kernel⟩, List.mem_of_getElem? (i := 165) (by decide +kernel), List.mem_of_getElem? (i := 2200) (by decide +kernel), List.mem_of_getElem? (i := 2201) (by decide +kernel)⟩
theorem lw_p131 : lw_okq (⟨"RoadHouse$Earth", "movedPart", "(III)J"⟩, 20) := ⟨⟨by decide +kernel, by decide +kernel⟩, List.mem_of_getElem? (i := 165) (by decide +kernel), List.mem_of_getElem? (i := 2205) (by decide +kernel), List.mem_of_getElem? (i := 2206) (by decide +kernel)⟩
theorem lw_p132 : lw_okq (⟨"RoadHouse$Earth", "costPart", "(I)J"⟩, 20) := ⟨⟨by decide +kernel, by decide +kernel⟩, List.mem_of_getElem? (i := 165) (by decide +kernel), List.mem_of_getElem? (i := 2209) (by decide +kernel), List.mem_of_getElem? (i := 2210) (by decide +kernel)⟩
theorem lw_p133 : lw_okq (⟨"RoadHouse$Earth", "dual", "(III)J"⟩, 20) := ⟨⟨by decide +kernel, by decide +kernel⟩, List.mem_of_getElem? (i := 165) (by decide +kernel), List.mem_of_getElem? (i := 2213) (by decide +kernel), List.mem_of_getElem? (i := 2214) (by decide +kernel)⟩
theorem lw_p134 : lw_okq (⟨"RoadHouse$Earth", "takeUpPlan", "()V"⟩, 20) := ⟨⟨by decide +kernel, by decide +kernel⟩, List.mem_of_getElem? (i := 165) (by decide +kernel), List.mem_of_getElem? (i := 2217) (by decide +kernel), List.mem_of_getElem? (i := 2218) (by decide +kernel)⟩
theorem lw_p135 : lw_okq (⟨"RoadHouse$Earth", "clash", "(I)J"⟩, 20) := ⟨⟨by decide +kernel, by decide +kernel⟩, List.mem_of_getElem? (i := 165) (by decide +kernel), List.mem_of_getElem? (i := 2221) (by decide +kernel), List.mem_of_getElem? (i := 2222) (by decide +kernel)⟩
theorem lw_p136 : lw_okq (⟨"RoadHouse$Earth", "closure", "(II)J"⟩, 20) := ⟨⟨by decide +kernel, by decide +kernel⟩, List.mem_of_getElem? (i := 165) (by decide +kernel), List.mem_of_getElem? (i := 2225) (by decide +kernel), List.mem_of_getElem? (i := 2226) (by decide +kernel)⟩
theorem lw_p137 : lw_okq (⟨"RoadHouse$Earth", "listed", "(III)J"⟩, 20) := ⟨⟨by decide +kernel, by decide +kernel⟩, List.mem_of_getElem? (i := 165) (by decide +kernel), List.mem_of_getElem? (i := 2230) (by decide +kernel), List.mem_of_getElem? (i := 2231) (by decide +kernel)⟩
theorem lw_p138 : lw_okq (⟨"RoadHouse$Earth", "mass", "(II)J"⟩, 20) := ⟨⟨by decide +kernel, by decide +kernel⟩, List.mem_of_getElem? (i := 165) (by decide +kernel), List.mem_of_getElem? (i := 2234) (by decide +kernel), List.mem_of_getElem? (i := 2235) (by decide +kernel)⟩
theorem lw_p139 : lw_okq (⟨"RoadHouse$Earth", "levelOf", "(II)J"⟩, 20) := ⟨⟨by decide +kernel, by decide +kernel⟩, List.mem_of_getElem? (i := 165) (by decide +kernel), List.mem_of_getElem? (i := 2239) (by decide +kernel), List.mem_of_getElem? (i := 2240) (by decide +kernel)⟩
theorem lw_p140 : lw_okq (⟨"RoadHouse$Beams", "setMember", "(III)Z"⟩, 22) := ⟨⟨by decide +kernel, by decide +kernel⟩, List.mem_of_getElem? (i := 236) (by decide +kernel), List.mem_of_getElem? (i := 2250) (by decide +kernel), List.mem_of_getElem? (i := 2251) (by decide +kernel)⟩
theorem lw_p141 : lw_okq (⟨"RoadHouse$Beams", "setSupport", "(IIZ)Z"⟩, 22) := ⟨⟨by decide +kernel, by decide +kernel⟩, List.mem_of_getElem? (i := 236) (by decide +kernel), List.mem_of_getElem? (i := 2262) (by decide +kernel), List.mem_of_getElem? (i := 2263) (by decide +kernel)⟩
theorem lw_p142 : lw_okq (⟨"RoadHouse$Beams", "setHinge", "(IIZ)Z"⟩, 22) := ⟨⟨by decide +kernel, by decide +kernel⟩, List.mem_of_getElem? (i := 236) (by decide +kernel), List.mem_of_getElem? (i := 2266) (by decide +kernel), List.mem_of_getElem? (i := 2267) (by decide +kernel)⟩
theorem lw_p143 : lw_okq (⟨"RoadHouse$Beams", "solve", "()J"⟩, 22) := ⟨⟨by decide +kernel, by decide +kernel⟩, List.mem_of_getElem? (i := 236) (by decide +kernel), List.mem_of_getElem? (i := 2270) (by decide +kernel), List.mem_of_getElem? (i := 2271) (by decide +kernel)⟩
def lw_privs_9 : List (MethodName × Nat) := [(⟨"RoadHouse$Earth", "reaches", "(II)Z"⟩, 20), (⟨"RoadHouse$Earth", "fillPipes", "()V"⟩, 20), (⟨"RoadHouse$Earth", "preferFirst", "()V"⟩, 20), (⟨"RoadHouse$Earth", "movedPart", "(III)J"⟩, 20), (⟨"RoadHouse$Earth", "costPart", "(I)J"⟩, 20), (⟨"RoadHouse$Earth", "dual", "(III)J"⟩, 20), (⟨"RoadHouse$Earth", "takeUpPlan", "()V"⟩, 20), (⟨"RoadHouse$Earth", "clash", "(I)J"⟩, 20), (⟨"RoadHouse$Earth", "closure", "(II)J"⟩, 20), (⟨"RoadHouse$Earth", "listed", "(III)J"⟩, 20), (⟨"RoadHouse$Earth", "mass", "(II)J"⟩, 20), (⟨"RoadHouse$Earth", "levelOf", "(II)J"⟩, 20), (⟨"RoadHouse$Beams", "setMember", "(III)Z"⟩, 22), (⟨"RoadHouse$Beams", "setSupport", "(IIZ)Z"⟩, 22), (⟨"RoadHouse$Beams", "setHinge", "(IIZ)Z"⟩, 22), (⟨"RoadHouse$Beams", "solve", "()J"⟩, 22)]
theorem lw_r9 : ∀ q ∈ lw_privs_9, lw_okq q := List.forall_mem_cons.mpr ⟨lw_p128, List.forall_mem_cons.mpr ⟨lw_p129, List.forall_mem_cons.mpr ⟨lw_p130, List.forall_mem_cons.mpr ⟨lw_p131, List.forall_mem_cons.mpr ⟨lw_p132, List.forall_mem_cons.mpr ⟨lw_p133, List.forall_mem_cons.mpr ⟨lw_p134, List.forall_mem_cons.mpr ⟨lw_p135, List.forall_mem_cons.mpr ⟨lw_p136, List.forall_mem_cons.mpr ⟨lw_p137, List.forall_mem_cons.mpr ⟨lw_p138, List.forall_mem_cons.mpr ⟨lw_p139, List.forall_mem_cons.mpr ⟨lw_p140, List.forall_mem_cons.mpr ⟨lw_p141, List.forall_mem_cons.mpr ⟨lw_p142, List.forall_mem_cons.mpr ⟨lw_p143, fun _ h => absurd h List.not_mem_nil⟩⟩⟩⟩⟩⟩⟩⟩⟩⟩⟩⟩⟩⟩⟩⟩
theorem lw_p144 : lw_okq (⟨"RoadHouse$Beams", "isLoose", "(I)Z"⟩, 22) := ⟨⟨by decide +kernel, by decide +kernel⟩, List.mem_of_getElem? (i := 236) (by decide +kernel), List.mem_of_getElem? (i := 2274) (by decide +kernel), List.mem_of_getElem? (i := 2275) (by decide +kernel)⟩
theorem lw_p145 : lw_okq (⟨"RoadHouse$Beams", "looseNode", "(I)J"⟩, 22) := ⟨⟨by decide +kernel, by decide +kernel⟩, List.mem_of_getElem? (i := 236) (by decide +kernel), List.mem_of_getElem? (i := 2278) (by decide +kernel), List.mem_of_getElem? (i := 2279) (by decide +kernel)⟩
theorem lw_p146 : lw_okq (⟨"RoadHouse$Beams", "tellRow", "(III)J"⟩, 22) := ⟨⟨by decide +kernel, by decide +kernel⟩, List.mem_of_getElem? (i := 236) (by decide +kernel), List.mem_of_getElem? (i := 2283) (by decide +kernel), List.mem_of_getElem? (i := 2284) (by decide +kernel)⟩
theorem lw_p147 : lw_okq (⟨"RoadHouse$Beams", "valueAt", "(IIII)J"⟩, 22) := ⟨⟨by decide +kernel, by decide +kernel⟩, List.mem_of_getElem? (i := 236) (by decide +kernel), List.mem_of_getElem? (i := 2287) (by decide +kernel), List.mem_of_getElem? (i := 2288) (by decide +kernel)⟩
theorem lw_p148 : lw_okq (⟨"RoadHouse$Beams", "area", "(III)J"⟩, 22) := ⟨⟨by decide +kernel, by decide +kernel⟩, List.mem_of_getElem? (i := 236) (by decide +kernel), List.mem_of_getElem? (i := 2295) (by decide +kernel), List.mem_of_getElem? (i := 2296) (by decide +kernel)⟩
theorem lw_p149 : lw_okq (⟨"RoadHouse$Beams", "shrinkPoints", "()V"⟩, 22) := ⟨⟨by decide +kernel, by decide +kernel⟩, List.mem_of_getElem? (i := 236) (by decide +kernel), List.mem_of_getElem? (i := 2299) (by decide +kernel), List.mem_of_getElem? (i := 2300) (by decide +kernel)⟩
theorem lw_p150 : lw_okq (⟨"RoadHouse$Beams", "addPiece", "(LRoadHouse$Big;LRoadHouse$Big;I)V"⟩, 22) := ⟨⟨by decide +kernel, by decide +kernel⟩, List.mem_of_getElem? (i := 236) (by decide +kernel), List.mem_of_getElem? (i := 2309) (by decide +kernel), List.mem_of_getElem? (i := 2310) (by decide +kernel)⟩
theorem lw_p151 : lw_okq (⟨"RoadHouse$Beams", "turned", "(I)Z"⟩, 22) := ⟨⟨by decide +kernel, by decide +kernel⟩, List.mem_of_getElem? (i := 236) (by decide +kernel), List.mem_of_getElem? (i := 2320) (by decide +kernel), List.mem_of_getElem? (i := 2321) (by decide +kernel)⟩
theorem lw_p152 : lw_okq (⟨"RoadHouse$Beams", "settle", "(II)Z"⟩, 22) := ⟨⟨by decide +kernel, by decide +kernel⟩, List.mem_of_getElem? (i := 236) (by decide +kernel), List.mem_of_getElem? (i := 2325) (by decide +kernel), List.mem_of_getElem? (i := 2326) (by decide +kernel)⟩
theorem lw_p153 : lw_okq (⟨"RoadHouse$Beams", "settledMove", "(IIII)J"⟩, 22) := ⟨⟨by decide +kernel, by decide +kernel⟩, List.mem_of_getElem? (i := 236) (by decide +kernel), List.mem_of_getElem? (i := 2329) (by decide +kernel), List.mem_of_getElem? (i := 2330) (by decide +kernel)⟩
theorem lw_p154 : lw_okq (⟨"RoadHouse$Beams", "moveBySettling", "(I)V"⟩, 22) := ⟨⟨by decide +kernel, by decide +kernel⟩, List.mem_of_getElem? (i := 236) (by decide +kernel), List.mem_of_getElem? (i := 2333) (by decide +kernel), List.mem_of_getElem? (i := 2334) (by decide +kernel)⟩
theorem lw_p155 : lw_okq (⟨"RoadHouse$Beams", "count", "(I)J"⟩, 22) := ⟨⟨by decide +kernel, by decide +kernel⟩, List.mem_of_getElem? (i := 236) (by decide +kernel), List.mem_of_getElem? (i := 2342) (by decide +kernel), List.mem_of_getElem? (i := 2343) (by decide +kernel)⟩
theorem lw_p156 : lw_okq (⟨"RoadHouse$Trains", "addTrain", "()J"⟩, 22) := ⟨⟨by decide +kernel, by decide +kernel⟩, List.mem_of_getElem? (i := 373) (by decide +kernel), List.mem_of_getElem? (i := 2351) (by decide +kernel), List.mem_of_getElem? (i := 2352) (by decide +kernel)⟩
theorem lw_p157 : lw_okq (⟨"RoadHouse$Trains", "addAxle", "(III)Z"⟩, 22) := ⟨⟨by decide +kernel, by decide +kernel⟩, List.mem_of_getElem? (i := 373) (by decide +kernel), List.mem_of_getElem? (i := 2356) (by decide +kernel), List.mem_of_getElem? (i := 2357) (by decide +kernel)⟩
theorem lw_p158 : lw_okq (⟨"RoadHouse$Trains", "setGap", "(III)Z"⟩, 22) := ⟨⟨by decide +kernel, by decide +kernel⟩, List.mem_of_getElem? (i := 373) (by decide +kernel), List.mem_of_getElem? (i := 2360) (by decide +kernel), List.mem_of_getElem? (i := 2361) (by decide +kernel)⟩
theorem lw_p159 : lw_okq (⟨"RoadHouse$Trains", "run", "(IZ)J"⟩, 22) := ⟨⟨by decide +kernel, by decide +kernel⟩, List.mem_of_getElem? (i := 373) (by decide +kernel), List.mem_of_getElem? (i := 2364) (by decide +kernel), List.mem_of_getElem? (i := 2365) (by decide +kernel)⟩
def lw_privs_10 : List (MethodName × Nat) := [(⟨"RoadHouse$Beams", "isLoose", "(I)Z"⟩, 22), (⟨"RoadHouse$Beams", "looseNode", "(I)J"⟩, 22), (⟨"RoadHouse$Beams", "tellRow", "(III)J"⟩, 22), (⟨"RoadHouse$Beams", "valueAt", "(IIII)J"⟩, 22), (⟨"RoadHouse$Beams", "area", "(III)J"⟩, 22), (⟨"RoadHouse$Beams", "shrinkPoints", "()V"⟩, 22), (⟨"RoadHouse$Beams", "addPiece", "(LRoadHouse$Big;LRoadHouse$Big;I)V"⟩, 22), (⟨"RoadHouse$Beams", "turned", "(I)Z"⟩, 22), (⟨"RoadHouse$Beams", "settle", "(II)Z"⟩, 22), (⟨"RoadHouse$Beams", "settledMove", "(IIII)J"⟩, 22), (⟨"RoadHouse$Beams", "moveBySettling", "(I)V"⟩, 22), (⟨"RoadHouse$Beams", "count", "(I)J"⟩, 22), (⟨"RoadHouse$Trains", "addTrain", "()J"⟩, 22), (⟨"RoadHouse$Trains", "addAxle", "(III)Z"⟩, 22), (⟨"RoadHouse$Trains", "setGap", "(III)Z"⟩, 22), (⟨"RoadHouse$Trains", "run", "(IZ)J"⟩, 22)]
theorem lw_r10 : ∀ q ∈ lw_privs_10, lw_okq q := List.forall_mem_cons.mpr ⟨lw_p144, List.forall_mem_cons.mpr ⟨lw_p145, List.forall_mem_cons.mpr ⟨lw_p146, List.forall_mem_cons.mpr ⟨lw_p147, List.forall_mem_cons.mpr ⟨lw_p148, List.forall_mem_cons.mpr ⟨lw_p149, List.forall_mem_cons.mpr ⟨lw_p150, List.forall_mem_cons.mpr ⟨lw_p151, List.forall_mem_cons.mpr ⟨lw_p152, List.forall_mem_cons.mpr ⟨lw_p153, List.forall_mem_cons.mpr ⟨lw_p154, List.forall_mem_cons.mpr ⟨lw_p155, List.forall_mem_cons.mpr ⟨lw_p156, List.forall_mem_cons.mpr ⟨lw_p157, List.forall_mem_cons.mpr ⟨lw_p158, List.forall_mem_cons.mpr ⟨lw_p159, fun _ h => absurd h List.not_mem_nil⟩⟩⟩⟩⟩⟩⟩⟩⟩⟩⟩⟩⟩⟩⟩⟩
theorem lw_p160 : lw_okq (⟨"RoadHouse$Trains", "worse", "()Z"⟩, 22) := ⟨⟨by decide +kernel, by decide +kernel⟩, List.mem_of_getElem? (i := 373) (by decide +kernel), List.mem_of_getElem? (i := 2368) (by decide +kernel), List.mem_of_getElem? (i := 2369) (by decide +kernel)⟩
theorem lw_p161 : lw_okq (⟨"RoadHouse$Trains", "worst", "(I)J"⟩, 22) := ⟨⟨by decide +kernel, by decide +kernel⟩, List.mem_of_getElem? (i := 373) (by decide +kernel), List.mem_of_getElem? (i := 2372) (by decide +kernel), List.mem_of_getElem? (i := 2373) (by decide +kernel)⟩
theorem lw_p162 : lw_okq (⟨"RoadHouse$Trains", "placePart", "(I)J"⟩, 22) := ⟨⟨by decide +kernel, by decide +kernel⟩, List.mem_of_getElem? (i := 373) (by decide +kernel), List.mem_of_getElem? (i := 2380) (by decide +kernel), List.mem_of_getElem? (i := 2381) (by decide +kernel)⟩
theorem lw_p163 : lw_okq (⟨"RoadHouse$Trains", "addLane", "(II)J"⟩, 22) := ⟨⟨by decide +kernel, by decide +kernel⟩, List.mem_of_getElem? (i := 373) (by decide +kernel), List.mem_of_getElem? (i := 2384) (by decide +kernel), List.mem_of_getElem? (i := 2385) (by decide +kernel)⟩
theorem lw_p164 : lw_okq (⟨"RoadHouse$Trains", "worstOnLanes", "(II)J"⟩, 22) := ⟨⟨by decide +kernel, by decide +kernel⟩, List.mem_of_getElem? (i := 373) (by decide +kernel), List.mem_of_getElem? (i := 2388) (by decide +kernel), List.mem_of_getElem? (i := 2389) (by decide +kernel)⟩
theorem lw_p165 : lw_okq (⟨"RoadHouse$Trains", "laneSum", "(II)J"⟩, 22) := ⟨⟨by decide +kernel, by decide +kernel⟩, List.mem_of_getElem? (i := 373) (by decide +kernel), List.mem_of_getElem? (i := 2392) (by decide +kernel), List.mem_of_getElem? (i := 2393) (by decide +kernel)⟩
theorem lw_p166 : lw_okq (⟨"RoadHouse$Trains", "patch", "(II)J"⟩, 22) := ⟨⟨by decide +kernel, by decide +kernel⟩, List.mem_of_getElem? (i := 373) (by decide +kernel), List.mem_of_getElem? (i := 2396) (by decide +kernel), List.mem_of_getElem? (i := 2397) (by decide +kernel)⟩
theorem lw_p167 : lw_okq (⟨"RoadHouse$Trains", "prepareArea", "()V"⟩, 22) := ⟨⟨by decide +kernel, by decide +kernel⟩, List.mem_of_getElem? (i := 373) (by decide +kernel), List.mem_of_getElem? (i := 2400) (by decide +kernel), List.mem_of_getElem? (i := 2401) (by decide +kernel)⟩
theorem lw_p168 : lw_okq (⟨"RoadHouse$Trains", "addPiece", "(IJJ)V"⟩, 22) := ⟨⟨by decide +kernel, by decide +kernel⟩, List.mem_of_getElem? (i := 373) (by decide +kernel), List.mem_of_getElem? (i := 2405) (by decide +kernel), List.mem_of_getElem? (i := 2406) (by decide +kernel)⟩
theorem lw_p169 : lw_okq (⟨"RoadHouse$Trains", "stretch", "(II)J"⟩, 22) := ⟨⟨by decide +kernel, by decide +kernel⟩, List.mem_of_getElem? (i := 373) (by decide +kernel), List.mem_of_getElem? (i := 2414) (by decide +kernel), List.mem_of_getElem? (i := 2415) (by decide +kernel)⟩
theorem lw_p170 : lw_okq (⟨"RoadHouse$Trains", "crossing", "(II)I"⟩, 22) := ⟨⟨by decide +kernel, by decide +kernel⟩, List.mem_of_getElem? (i := 373) (by decide +kernel), List.mem_of_getElem? (i := 2418) (by decide +kernel), List.mem_of_getElem? (i := 2419) (by decide +kernel)⟩
theorem lw_p171 : lw_okq (⟨"RoadHouse$Trains", "collect", "(I)Z"⟩, 22) := ⟨⟨by decide +kernel, by decide +kernel⟩, List.mem_of_getElem? (i := 373) (by decide +kernel), List.mem_of_getElem? (i := 2422) (by decide +kernel), List.mem_of_getElem? (i := 2423) (by decide +kernel)⟩
theorem lw_p172 : lw_okq (⟨"RoadHouse$Trains", "readCases", "()J"⟩, 22) := ⟨⟨by decide +kernel, by decide +kernel⟩, List.mem_of_getElem? (i := 373) (by decide +kernel), List.mem_of_getElem? (i := 2426) (by decide +kernel), List.mem_of_getElem? (i := 2427) (by decide +kernel)⟩
theorem lw_p173 : lw_okq (⟨"RoadHouse$Trains", "wrongSign", "()I"⟩, 22) := ⟨⟨by decide +kernel, by decide +kernel⟩, List.mem_of_getElem? (i := 373) (by decide +kernel), List.mem_of_getElem? (i := 2430) (by decide +kernel), List.mem_of_getElem? (i := 2431) (by decide +kernel)⟩
theorem lw_p174 : lw_okq (⟨"RoadHouse$Trains", "signAt", "(I)C"⟩, 22) := ⟨⟨by decide +kernel, by decide +kernel⟩, List.mem_of_getElem? (i := 373) (by decide +kernel), List.mem_of_getElem? (i := 2434) (by decide +kernel), List.mem_of_getElem? (i := 2435) (by decide +kernel)⟩
theorem lw_p175 : lw_okq (⟨"RoadHouse$Trains", "takeCases", "()V"⟩, 22) := ⟨⟨by decide +kernel, by decide +kernel⟩, List.mem_of_getElem? (i := 373) (by decide +kernel), List.mem_of_getElem? (i := 2441) (by decide +kernel), List.mem_of_getElem? (i := 2442) (by decide +kernel)⟩
def lw_privs_11 : List (MethodName × Nat) := [(⟨"RoadHouse$Trains", "worse", "()Z"⟩, 22), (⟨"RoadHouse$Trains", "worst", "(I)J"⟩, 22), (⟨"RoadHouse$Trains", "placePart", "(I)J"⟩, 22), (⟨"RoadHouse$Trains", "addLane", "(II)J"⟩, 22), (⟨"RoadHouse$Trains", "worstOnLanes", "(II)J"⟩, 22), (⟨"RoadHouse$Trains", "laneSum", "(II)J"⟩, 22), (⟨"RoadHouse$Trains", "patch", "(II)J"⟩, 22), (⟨"RoadHouse$Trains", "prepareArea", "()V"⟩, 22), (⟨"RoadHouse$Trains", "addPiece", "(IJJ)V"⟩, 22), (⟨"RoadHouse$Trains", "stretch", "(II)J"⟩, 22), (⟨"RoadHouse$Trains", "crossing", "(II)I"⟩, 22), (⟨"RoadHouse$Trains", "collect", "(I)Z"⟩, 22), (⟨"RoadHouse$Trains", "readCases", "()J"⟩, 22), (⟨"RoadHouse$Trains", "wrongSign", "()I"⟩, 22), (⟨"RoadHouse$Trains", "signAt", "(I)C"⟩, 22), (⟨"RoadHouse$Trains", "takeCases", "()V"⟩, 22)]
theorem lw_r11 : ∀ q ∈ lw_privs_11, lw_okq q := List.forall_mem_cons.mpr ⟨lw_p160, List.forall_mem_cons.mpr ⟨lw_p161, List.forall_mem_cons.mpr ⟨lw_p162, List.forall_mem_cons.mpr ⟨lw_p163, List.forall_mem_cons.mpr ⟨lw_p164, List.forall_mem_cons.mpr ⟨lw_p165, List.forall_mem_cons.mpr ⟨lw_p166, List.forall_mem_cons.mpr ⟨lw_p167, List.forall_mem_cons.mpr ⟨lw_p168, List.forall_mem_cons.mpr ⟨lw_p169, List.forall_mem_cons.mpr ⟨lw_p170, List.forall_mem_cons.mpr ⟨lw_p171, List.forall_mem_cons.mpr ⟨lw_p172, List.forall_mem_cons.mpr ⟨lw_p173, List.forall_mem_cons.mpr ⟨lw_p174, List.forall_mem_cons.mpr ⟨lw_p175, fun _ h => absurd h List.not_mem_nil⟩⟩⟩⟩⟩⟩⟩⟩⟩⟩⟩⟩⟩⟩⟩⟩
theorem lw_p176 : lw_okq (⟨"RoadHouse$Trains", "caseOf", "(II)J"⟩, 22) := ⟨⟨by decide +kernel, by decide +kernel⟩, List.mem_of_getElem? (i := 373) (by decide +kernel), List.mem_of_getElem? (i := 2445) (by decide +kernel), List.mem_of_getElem? (i := 2446) (by decide +kernel)⟩
theorem lw_p177 : lw_okq (⟨"RoadHouse$Trains", "caseNumber", "(ILRoadHouse$Big;)V"⟩, 22) := ⟨⟨by decide +kernel, by decide +kernel⟩, List.mem_of_getElem? (i := 373) (by decide +kernel), List.mem_of_getElem? (i := 2449) (by decide +kernel), List.mem_of_getElem? (i := 2450) (by decide +kernel)⟩
theorem lw_p178 : lw_okq (⟨"RoadHouse$Trains", "caseDivisor", "(LRoadHouse$Big;)V"⟩, 22) := ⟨⟨by decide +kernel, by decide +kernel⟩, List.mem_of_getElem? (i := 373) (by decide +kernel), List.mem_of_getElem? (i := 2454) (by decide +kernel), List.mem_of_getElem? (i := 2455) (by decide +kernel)⟩
theorem lw_p179 : lw_okq (⟨"RoadHouse$Trains", "caseByRank", "(I)J"⟩, 22) := ⟨⟨by decide +kernel, by decide +kernel⟩, List.mem_of_getElem? (i := 373) (by decide +kernel), List.mem_of_getElem? (i := 2459) (by decide +kernel), List.mem_of_getElem? (i := 2460) (by decide +kernel)⟩
theorem lw_p180 : lw_okq (⟨"RoadHouse$Trains", "between", "(II)J"⟩, 22) := ⟨⟨by decide +kernel, by decide +kernel⟩, List.mem_of_getElem? (i := 373) (by decide +kernel), List.mem_of_getElem? (i := 2463) (by decide +kernel), List.mem_of_getElem? (i := 2464) (by decide +kernel)⟩
theorem lw_p181 : lw_okq (⟨"RoadHouse$Trains", "listGaps", "(II)I"⟩, 22) := ⟨⟨by decide +kernel, by decide +kernel⟩, List.mem_of_getElem? (i := 373) (by decide +kernel), List.mem_of_getElem? (i := 2468) (by decide +kernel), List.mem_of_getElem? (i := 2469) (by decide +kernel)⟩
theorem lw_p182 : lw_okq (⟨"RoadHouse$Trains", "fatigue", "(III)J"⟩, 22) := ⟨⟨by decide +kernel, by decide +kernel⟩, List.mem_of_getElem? (i := 373) (by decide +kernel), List.mem_of_getElem? (i := 2472) (by decide +kernel), List.mem_of_getElem? (i := 2473) (by decide +kernel)⟩
theorem lw_p183 : lw_okq (⟨"RoadHouse$Trains", "brake", "(I)J"⟩, 22) := ⟨⟨by decide +kernel, by decide +kernel⟩, List.mem_of_getElem? (i := 373) (by decide +kernel), List.mem_of_getElem? (i := 2476) (by decide +kernel), List.mem_of_getElem? (i := 2477) (by decide +kernel)⟩
theorem lw_p184 : lw_okq (⟨"RoadHouse$Stress", "turnPart", "(II)J"⟩, 22) := ⟨⟨by decide +kernel, by decide +kernel⟩, List.mem_of_getElem? (i := 458) (by decide +kernel), List.mem_of_getElem? (i := 2487) (by decide +kernel), List.mem_of_getElem? (i := 2488) (by decide +kernel)⟩
theorem lw_p185 : lw_okq (⟨"RoadHouse$Stress", "addLine", "(III)Z"⟩, 22) := ⟨⟨by decide +kernel, by decide +kernel⟩, List.mem_of_getElem? (i := 458) (by decide +kernel), List.mem_of_getElem? (i := 2496) (by decide +kernel), List.mem_of_getElem? (i := 2497) (by decide +kernel)⟩
theorem lw_p186 : lw_okq (⟨"RoadHouse$Stress", "setCutOff", "(II)Z"⟩, 22) := ⟨⟨by decide +kernel, by decide +kernel⟩, List.mem_of_getElem? (i := 458) (by decide +kernel), List.mem_of_getElem? (i := 2501) (by decide +kernel), List.mem_of_getElem? (i := 2502) (by decide +kernel)⟩
theorem lw_p187 : lw_okq (⟨"RoadHouse$Stress", "setHot", "(II)Z"⟩, 22) := ⟨⟨by decide +kernel, by decide +kernel⟩, List.mem_of_getElem? (i := 458) (by decide +kernel), List.mem_of_getElem? (i := 2505) (by decide +kernel), List.mem_of_getElem? (i := 2506) (by decide +kernel)⟩
theorem lw_p188 : lw_okq (⟨"RoadHouse$Stress", "shares", "(IIII)J"⟩, 22) := ⟨⟨by decide +kernel, by decide +kernel⟩, List.mem_of_getElem? (i := 458) (by decide +kernel), List.mem_of_getElem? (i := 2509) (by decide +kernel), List.mem_of_getElem? (i := 2510) (by decide +kernel)⟩
theorem lw_p189 : lw_okq (⟨"RoadHouse$Stress", "sumShares", "(III)V"⟩, 22) := ⟨⟨by decide +kernel, by decide +kernel⟩, List.mem_of_getElem? (i := 458) (by decide +kernel), List.mem_of_getElem? (i := 2513) (by decide +kernel), List.mem_of_getElem? (i := 2514) (by decide +kernel)⟩
theorem lw_p190 : lw_okq (⟨"RoadHouse$Stress", "bears", "(II)I"⟩, 22) := ⟨⟨by decide +kernel, by decide +kernel⟩, List.mem_of_getElem? (i := 458) (by decide +kernel), List.mem_of_getElem? (i := 2518) (by decide +kernel), List.mem_of_getElem? (i := 2519) (by decide +kernel)⟩
theorem lw_p191 : lw_okq (⟨"RoadHouse$Stress", "setRepeats", "(I)Z"⟩, 22) := ⟨⟨by decide +kernel, by decide +kernel⟩, List.mem_of_getElem? (i := 458) (by decide +kernel), List.mem_of_getElem? (i := 2529) (by decide +kernel), List.mem_of_getElem? (i := 2530) (by decide +kernel)⟩
def lw_privs_12 : List (MethodName × Nat) := [(⟨"RoadHouse$Trains", "caseOf", "(II)J"⟩, 22), (⟨"RoadHouse$Trains", "caseNumber", "(ILRoadHouse$Big;)V"⟩, 22), (⟨"RoadHouse$Trains", "caseDivisor", "(LRoadHouse$Big;)V"⟩, 22), (⟨"RoadHouse$Trains", "caseByRank", "(I)J"⟩, 22), (⟨"RoadHouse$Trains", "between", "(II)J"⟩, 22), (⟨"RoadHouse$Trains", "listGaps", "(II)I"⟩, 22), (⟨"RoadHouse$Trains", "fatigue", "(III)J"⟩, 22), (⟨"RoadHouse$Trains", "brake", "(I)J"⟩, 22), (⟨"RoadHouse$Stress", "turnPart", "(II)J"⟩, 22), (⟨"RoadHouse$Stress", "addLine", "(III)Z"⟩, 22), (⟨"RoadHouse$Stress", "setCutOff", "(II)Z"⟩, 22), (⟨"RoadHouse$Stress", "setHot", "(II)Z"⟩, 22), (⟨"RoadHouse$Stress", "shares", "(IIII)J"⟩, 22), (⟨"RoadHouse$Stress", "sumShares", "(III)V"⟩, 22), (⟨"RoadHouse$Stress", "bears", "(II)I"⟩, 22), (⟨"RoadHouse$Stress", "setRepeats", "(I)Z"⟩, 22)]
theorem lw_r12 : ∀ q ∈ lw_privs_12, lw_okq q := List.forall_mem_cons.mpr ⟨lw_p176, List.forall_mem_cons.mpr ⟨lw_p177, List.forall_mem_cons.mpr ⟨lw_p178, List.forall_mem_cons.mpr ⟨lw_p179, List.forall_mem_cons.mpr ⟨lw_p180, List.forall_mem_cons.mpr ⟨lw_p181, List.forall_mem_cons.mpr ⟨lw_p182, List.forall_mem_cons.mpr ⟨lw_p183, List.forall_mem_cons.mpr ⟨lw_p184, List.forall_mem_cons.mpr ⟨lw_p185, List.forall_mem_cons.mpr ⟨lw_p186, List.forall_mem_cons.mpr ⟨lw_p187, List.forall_mem_cons.mpr ⟨lw_p188, List.forall_mem_cons.mpr ⟨lw_p189, List.forall_mem_cons.mpr ⟨lw_p190, List.forall_mem_cons.mpr ⟨lw_p191, fun _ h => absurd h List.not_mem_nil⟩⟩⟩⟩⟩⟩⟩⟩⟩⟩⟩⟩⟩⟩⟩⟩
theorem lw_p192 : lw_okq (⟨"RoadHouse$Stress", "years", "(II)J"⟩, 22) := ⟨⟨by decide +kernel, by decide +kernel⟩, List.mem_of_getElem? (i := 458) (by decide +kernel), List.mem_of_getElem? (i := 2533) (by decide +kernel), List.mem_of_getElem? (i := 2534) (by decide +kernel)⟩
theorem lw_p193 : lw_okq (⟨"RoadHouse$Stress", "span", "(I)J"⟩, 22) := ⟨⟨by decide +kernel, by decide +kernel⟩, List.mem_of_getElem? (i := 458) (by decide +kernel), List.mem_of_getElem? (i := 2541) (by decide +kernel), List.mem_of_getElem? (i := 2542) (by decide +kernel)⟩
theorem lw_p194 : lw_okq (⟨"RoadHouse$Stress", "bolt", "(I)J"⟩, 22) := ⟨⟨by decide +kernel, by decide +kernel⟩, List.mem_of_getElem? (i := 458) (by decide +kernel), List.mem_of_getElem? (i := 2545) (by decide +kernel), List.mem_of_getElem? (i := 2546) (by decide +kernel)⟩
theorem lw_p195 : lw_okq (⟨"RoadHouse$Stress", "setCost", "(II)Z"⟩, 22) := ⟨⟨by decide +kernel, by decide +kernel⟩, List.mem_of_getElem? (i := 458) (by decide +kernel), List.mem_of_getElem? (i := 2549) (by decide +kernel), List.mem_of_getElem? (i := 2550) (by decide +kernel)⟩
theorem lw_p196 : lw_okq (⟨"RoadHouse$Stress", "inspect", "(I)J"⟩, 22) := ⟨⟨by decide +kernel, by decide +kernel⟩, List.mem_of_getElem? (i := 458) (by decide +kernel), List.mem_of_getElem? (i := 2553) (by decide +kernel), List.mem_of_getElem? (i := 2554) (by decide +kernel)⟩
theorem lw_p197 : lw_okq (⟨"RoadHouse$Stress", "squared", "(I)J"⟩, 22) := ⟨⟨by decide +kernel, by decide +kernel⟩, List.mem_of_getElem? (i := 458) (by decide +kernel), List.mem_of_getElem? (i := 2557) (by decide +kernel), List.mem_of_getElem? (i := 2558) (by decide +kernel)⟩
theorem lw_p198 : lw_okq (⟨"RoadHouse$Stress", "mend", "(I)Z"⟩, 22) := ⟨⟨by decide +kernel, by decide +kernel⟩, List.mem_of_getElem? (i := 458) (by decide +kernel), List.mem_of_getElem? (i := 2561) (by decide +kernel), List.mem_of_getElem? (i := 2562) (by decide +kernel)⟩
theorem lw_p199 : lw_okq (⟨"RoadHouse$Signals", "begin", "(I)V"⟩, 22) := ⟨⟨by decide +kernel, by decide +kernel⟩, List.mem_of_getElem? (i := 536) (by decide +kernel), List.mem_of_getElem? (i := 2570) (by decide +kernel), List.mem_of_getElem? (i := 2571) (by decide +kernel)⟩
theorem lw_p200 : lw_okq (⟨"RoadHouse$Signals", "setClash", "(III)Z"⟩, 22) := ⟨⟨by decide +kernel, by decide +kernel⟩, List.mem_of_getElem? (i := 536) (by decide +kernel), List.mem_of_getElem? (i := 2581) (by decide +kernel), List.mem_of_getElem? (i := 2582) (by decide +kernel)⟩
theorem lw_p201 : lw_okq (⟨"RoadHouse$Signals", "testGroup", "(I)V"⟩, 22) := ⟨⟨by decide +kernel, by decide +kernel⟩, List.mem_of_getElem? (i := 536) (by decide +kernel), List.mem_of_getElem? (i := 2585) (by decide +kernel), List.mem_of_getElem? (i := 2586) (by decide +kernel)⟩
theorem lw_p202 : lw_okq (⟨"RoadHouse$Signals", "setTime", "([IIII)Z"⟩, 22) := ⟨⟨by decide +kernel, by decide +kernel⟩, List.mem_of_getElem? (i := 536) (by decide +kernel), List.mem_of_getElem? (i := 2591) (by decide +kernel), List.mem_of_getElem? (i := 2592) (by decide +kernel)⟩
theorem lw_p203 : lw_okq (⟨"RoadHouse$Signals", "collect", "(I)Z"⟩, 22) := ⟨⟨by decide +kernel, by decide +kernel⟩, List.mem_of_getElem? (i := 536) (by decide +kernel), List.mem_of_getElem? (i := 2595) (by decide +kernel), List.mem_of_getElem? (i := 2596) (by decide +kernel)⟩
theorem lw_p204 : lw_okq (⟨"RoadHouse$Signals", "read", "()J"⟩, 22) := ⟨⟨by decide +kernel, by decide +kernel⟩, List.mem_of_getElem? (i := 536) (by decide +kernel), List.mem_of_getElem? (i := 2599) (by decide +kernel), List.mem_of_getElem? (i := 2600) (by decide +kernel)⟩
theorem lw_p205 : lw_okq (⟨"RoadHouse$Signals", "takePlan", "([I)I"⟩, 22) := ⟨⟨by decide +kernel, by decide +kernel⟩, List.mem_of_getElem? (i := 536) (by decide +kernel), List.mem_of_getElem? (i := 2603) (by decide +kernel), List.mem_of_getElem? (i := 2604) (by decide +kernel)⟩
theorem lw_p206 : lw_okq (⟨"RoadHouse$Signals", "signAt", "(I)C"⟩, 22) := ⟨⟨by decide +kernel, by decide +kernel⟩, List.mem_of_getElem? (i := 536) (by decide +kernel), List.mem_of_getElem? (i := 2607) (by decide +kernel), List.mem_of_getElem? (i := 2608) (by decide +kernel)⟩
theorem lw_p207 : lw_okq (⟨"RoadHouse$Signals", "numberAt", "(III)I"⟩, 22) := ⟨⟨by decide +kernel, by decide +kernel⟩, List.mem_of_getElem? (i := 536) (by decide +kernel), List.mem_of_getElem? (i := 2611) (by decide +kernel), List.mem_of_getElem? (i := 2612) (by decide +kernel)⟩
def lw_privs_13 : List (MethodName × Nat) := [(⟨"RoadHouse$Stress", "years", "(II)J"⟩, 22), (⟨"RoadHouse$Stress", "span", "(I)J"⟩, 22), (⟨"RoadHouse$Stress", "bolt", "(I)J"⟩, 22), (⟨"RoadHouse$Stress", "setCost", "(II)Z"⟩, 22), (⟨"RoadHouse$Stress", "inspect", "(I)J"⟩, 22), (⟨"RoadHouse$Stress", "squared", "(I)J"⟩, 22), (⟨"RoadHouse$Stress", "mend", "(I)Z"⟩, 22), (⟨"RoadHouse$Signals", "begin", "(I)V"⟩, 22), (⟨"RoadHouse$Signals", "setClash", "(III)Z"⟩, 22), (⟨"RoadHouse$Signals", "testGroup", "(I)V"⟩, 22), (⟨"RoadHouse$Signals", "setTime", "([IIII)Z"⟩, 22), (⟨"RoadHouse$Signals", "collect", "(I)Z"⟩, 22), (⟨"RoadHouse$Signals", "read", "()J"⟩, 22), (⟨"RoadHouse$Signals", "takePlan", "([I)I"⟩, 22), (⟨"RoadHouse$Signals", "signAt", "(I)C"⟩, 22), (⟨"RoadHouse$Signals", "numberAt", "(III)I"⟩, 22)]
theorem lw_r13 : ∀ q ∈ lw_privs_13, lw_okq q := List.forall_mem_cons.mpr ⟨lw_p192, List.forall_mem_cons.mpr ⟨lw_p193, List.forall_mem_cons.mpr ⟨lw_p194, List.forall_mem_cons.mpr ⟨lw_p195, List.forall_mem_cons.mpr ⟨lw_p196, List.forall_mem_cons.mpr ⟨lw_p197, List.forall_mem_cons.mpr ⟨lw_p198, List.forall_mem_cons.mpr ⟨lw_p199, List.forall_mem_cons.mpr ⟨lw_p200, List.forall_mem_cons.mpr ⟨lw_p201, List.forall_mem_cons.mpr ⟨lw_p202, List.forall_mem_cons.mpr ⟨lw_p203, List.forall_mem_cons.mpr ⟨lw_p204, List.forall_mem_cons.mpr ⟨lw_p205, List.forall_mem_cons.mpr ⟨lw_p206, List.forall_mem_cons.mpr ⟨lw_p207, fun _ h => absurd h List.not_mem_nil⟩⟩⟩⟩⟩⟩⟩⟩⟩⟩⟩⟩⟩⟩⟩⟩
theorem lw_p208 : lw_okq (⟨"RoadHouse$Signals", "digitsAt", "(I)I"⟩, 22) := ⟨⟨by decide +kernel, by decide +kernel⟩, List.mem_of_getElem? (i := 536) (by decide +kernel), List.mem_of_getElem? (i := 2615) (by decide +kernel), List.mem_of_getElem? (i := 2616) (by decide +kernel)⟩
theorem lw_p209 : lw_okq (⟨"RoadHouse$Signals", "tell", "(II)Z"⟩, 22) := ⟨⟨by decide +kernel, by decide +kernel⟩, List.mem_of_getElem? (i := 536) (by decide +kernel), List.mem_of_getElem? (i := 2619) (by decide +kernel), List.mem_of_getElem? (i := 2620) (by decide +kernel)⟩
theorem lw_p210 : lw_okq (⟨"RoadHouse$Signals", "toldOf", "(I)J"⟩, 22) := ⟨⟨by decide +kernel, by decide +kernel⟩, List.mem_of_getElem? (i := 536) (by decide +kernel), List.mem_of_getElem? (i := 2624) (by decide +kernel), List.mem_of_getElem? (i := 2625) (by decide +kernel)⟩
theorem lw_p211 : lw_okq (⟨"RoadHouse$Signals", "numberOf", "(J)I"⟩, 22) := ⟨⟨by decide +kernel, by decide +kernel⟩, List.mem_of_getElem? (i := 536) (by decide +kernel), List.mem_of_getElem? (i := 2631) (by decide +kernel), List.mem_of_getElem? (i := 2632) (by decide +kernel)⟩
theorem lw_p212 : lw_okq (⟨"RoadHouse$Signals", "prove", "(I)J"⟩, 22) := ⟨⟨by decide +kernel, by decide +kernel⟩, List.mem_of_getElem? (i := 536) (by decide +kernel), List.mem_of_getElem? (i := 2640) (by decide +kernel), List.mem_of_getElem? (i := 2641) (by decide +kernel)⟩
theorem lw_p213 : lw_okq (⟨"RoadHouse$Signals", "addState", "(JII)V"⟩, 22) := ⟨⟨by decide +kernel, by decide +kernel⟩, List.mem_of_getElem? (i := 536) (by decide +kernel), List.mem_of_getElem? (i := 2644) (by decide +kernel), List.mem_of_getElem? (i := 2645) (by decide +kernel)⟩
theorem lw_p214 : lw_okq (⟨"RoadHouse$Signals", "noteFault", "(III)V"⟩, 22) := ⟨⟨by decide +kernel, by decide +kernel⟩, List.mem_of_getElem? (i := 536) (by decide +kernel), List.mem_of_getElem? (i := 2648) (by decide +kernel), List.mem_of_getElem? (i := 2649) (by decide +kernel)⟩
theorem lw_p215 : lw_okq (⟨"RoadHouse$Signals", "rowOfFault", "(II)J"⟩, 22) := ⟨⟨by decide +kernel, by decide +kernel⟩, List.mem_of_getElem? (i := 536) (by decide +kernel), List.mem_of_getElem? (i := 2653) (by decide +kernel), List.mem_of_getElem? (i := 2654) (by decide +kernel)⟩
theorem lw_p216 : lw_okq (⟨"RoadHouse$Signals", "same", "(I)Z"⟩, 22) := ⟨⟨by decide +kernel, by decide +kernel⟩, List.mem_of_getElem? (i := 536) (by decide +kernel), List.mem_of_getElem? (i := 2659) (by decide +kernel), List.mem_of_getElem? (i := 2660) (by decide +kernel)⟩
theorem lw_p217 : lw_okq (⟨"RoadHouse$Cars", "setCell", "(IIII)Z"⟩, 22) := ⟨⟨by decide +kernel, by decide +kernel⟩, List.mem_of_getElem? (i := 627) (by decide +kernel), List.mem_of_getElem? (i := 2672) (by decide +kernel), List.mem_of_getElem? (i := 2673) (by decide +kernel)⟩
theorem lw_p218 : lw_okq (⟨"RoadHouse$Cars", "joinCells", "(II)Z"⟩, 22) := ⟨⟨by decide +kernel, by decide +kernel⟩, List.mem_of_getElem? (i := 627) (by decide +kernel), List.mem_of_getElem? (i := 2677) (by decide +kernel), List.mem_of_getElem? (i := 2678) (by decide +kernel)⟩
theorem lw_p219 : lw_okq (⟨"RoadHouse$Cars", "joinOf", "(II)I"⟩, 22) := ⟨⟨by decide +kernel, by decide +kernel⟩, List.mem_of_getElem? (i := 627) (by decide +kernel), List.mem_of_getElem? (i := 2681) (by decide +kernel), List.mem_of_getElem? (i := 2682) (by decide +kernel)⟩
theorem lw_p220 : lw_okq (⟨"RoadHouse$Cars", "sortJoins", "(I)V"⟩, 22) := ⟨⟨by decide +kernel, by decide +kernel⟩, List.mem_of_getElem? (i := 627) (by decide +kernel), List.mem_of_getElem? (i := 2685) (by decide +kernel), List.mem_of_getElem? (i := 2686) (by decide +kernel)⟩
theorem lw_p221 : lw_okq (⟨"RoadHouse$Cars", "goesBefore", "(II)Z"⟩, 22) := ⟨⟨by decide +kernel, by decide +kernel⟩, List.mem_of_getElem? (i := 627) (by decide +kernel), List.mem_of_getElem? (i := 2689) (by decide +kernel), List.mem_of_getElem? (i := 2690) (by decide +kernel)⟩
theorem lw_p222 : lw_okq (⟨"RoadHouse$Cars", "setShare", "(IIII)Z"⟩, 22) := ⟨⟨by decide +kernel, by decide +kernel⟩, List.mem_of_getElem? (i := 627) (by decide +kernel), List.mem_of_getElem? (i := 2693) (by decide +kernel), List.mem_of_getElem? (i := 2694) (by decide +kernel)⟩
theorem lw_p223 : lw_okq (⟨"RoadHouse$Cars", "setRank", "(III)Z"⟩, 22) := ⟨⟨by decide +kernel, by decide +kernel⟩, List.mem_of_getElem? (i := 627) (by decide +kernel), List.mem_of_getElem? (i := 2700) (by decide +kernel), List.mem_of_getElem? (i := 2701) (by decide +kernel)⟩
def lw_privs_14 : List (MethodName × Nat) := [(⟨"RoadHouse$Signals", "digitsAt", "(I)I"⟩, 22), (⟨"RoadHouse$Signals", "tell", "(II)Z"⟩, 22), (⟨"RoadHouse$Signals", "toldOf", "(I)J"⟩, 22), (⟨"RoadHouse$Signals", "numberOf", "(J)I"⟩, 22), (⟨"RoadHouse$Signals", "prove", "(I)J"⟩, 22), (⟨"RoadHouse$Signals", "addState", "(JII)V"⟩, 22), (⟨"RoadHouse$Signals", "noteFault", "(III)V"⟩, 22), (⟨"RoadHouse$Signals", "rowOfFault", "(II)J"⟩, 22), (⟨"RoadHouse$Signals", "same", "(I)Z"⟩, 22), (⟨"RoadHouse$Cars", "setCell", "(IIII)Z"⟩, 22), (⟨"RoadHouse$Cars", "joinCells", "(II)Z"⟩, 22), (⟨"RoadHouse$Cars", "joinOf", "(II)I"⟩, 22), (⟨"RoadHouse$Cars", "sortJoins", "(I)V"⟩, 22), (⟨"RoadHouse$Cars", "goesBefore", "(II)Z"⟩, 22), (⟨"RoadHouse$Cars", "setShare", "(IIII)Z"⟩, 22), (⟨"RoadHouse$Cars", "setRank", "(III)Z"⟩, 22)]
theorem lw_r14 : ∀ q ∈ lw_privs_14, lw_okq q := List.forall_mem_cons.mpr ⟨lw_p208, List.forall_mem_cons.mpr ⟨lw_p209, List.forall_mem_cons.mpr ⟨lw_p210, List.forall_mem_cons.mpr ⟨lw_p211, List.forall_mem_cons.mpr ⟨lw_p212, List.forall_mem_cons.mpr ⟨lw_p213, List.forall_mem_cons.mpr ⟨lw_p214, List.forall_mem_cons.mpr ⟨lw_p215, List.forall_mem_cons.mpr ⟨lw_p216, List.forall_mem_cons.mpr ⟨lw_p217, List.forall_mem_cons.mpr ⟨lw_p218, List.forall_mem_cons.mpr ⟨lw_p219, List.forall_mem_cons.mpr ⟨lw_p220, List.forall_mem_cons.mpr ⟨lw_p221, List.forall_mem_cons.mpr ⟨lw_p222, List.forall_mem_cons.mpr ⟨lw_p223, fun _ h => absurd h List.not_mem_nil⟩⟩⟩⟩⟩⟩⟩⟩⟩⟩⟩⟩⟩⟩⟩⟩
theorem lw_p224 : lw_okq (⟨"RoadHouse$Cars", "put", "(II)Z"⟩, 22) := ⟨⟨by decide +kernel, by decide +kernel⟩, List.mem_of_getElem? (i := 627) (by decide +kernel), List.mem_of_getElem? (i := 2704) (by decide +kernel), List.mem_of_getElem? (i := 2705) (by decide +kernel)⟩
theorem lw_p225 : lw_okq (⟨"RoadHouse$Cars", "tellComing", "(III)Z"⟩, 22) := ⟨⟨by decide +kernel, by decide +kernel⟩, List.mem_of_getElem? (i := 627) (by decide +kernel), List.mem_of_getElem? (i := 2708) (by decide +kernel), List.mem_of_getElem? (i := 2709) (by decide +kernel)⟩
theorem lw_p226 : lw_okq (⟨"RoadHouse$Cars", "run", "(I)J"⟩, 22) := ⟨⟨by decide +kernel, by decide +kernel⟩, List.mem_of_getElem? (i := 627) (by decide +kernel), List.mem_of_getElem? (i := 2713) (by decide +kernel), List.mem_of_getElem? (i := 2714) (by decide +kernel)⟩
theorem lw_p227 : lw_okq (⟨"RoadHouse$Cars", "restOf", "(III)J"⟩, 22) := ⟨⟨by decide +kernel, by decide +kernel⟩, List.mem_of_getElem? (i := 627) (by decide +kernel), List.mem_of_getElem? (i := 2720) (by decide +kernel), List.mem_of_getElem? (i := 2721) (by decide +kernel)⟩
theorem lw_p228 : lw_okq (⟨"RoadHouse$Cars", "setMeter", "(II)J"⟩, 22) := ⟨⟨by decide +kernel, by decide +kernel⟩, List.mem_of_getElem? (i := 627) (by decide +kernel), List.mem_of_getElem? (i := 2724) (by decide +kernel), List.mem_of_getElem? (i := 2725) (by decide +kernel)⟩
theorem lw_p229 : lw_okq (⟨"RoadHouse$Cars", "setLane", "(III)J"⟩, 22) := ⟨⟨by decide +kernel, by decide +kernel⟩, List.mem_of_getElem? (i := 627) (by decide +kernel), List.mem_of_getElem? (i := 2728) (by decide +kernel), List.mem_of_getElem? (i := 2729) (by decide +kernel)⟩
theorem lw_p230 : lw_okq (⟨"RoadHouse$Cars", "tellRead", "(III)Z"⟩, 22) := ⟨⟨by decide +kernel, by decide +kernel⟩, List.mem_of_getElem? (i := 627) (by decide +kernel), List.mem_of_getElem? (i := 2732) (by decide +kernel), List.mem_of_getElem? (i := 2733) (by decide +kernel)⟩
theorem lw_p231 : lw_okq (⟨"RoadHouse$Cars", "differs", "(II)J"⟩, 22) := ⟨⟨by decide +kernel, by decide +kernel⟩, List.mem_of_getElem? (i := 627) (by decide +kernel), List.mem_of_getElem? (i := 2736) (by decide +kernel), List.mem_of_getElem? (i := 2737) (by decide +kernel)⟩
theorem lw_p232 : lw_okq (⟨"RoadHouse$Cars", "addRule", "(III)Z"⟩, 22) := ⟨⟨by decide +kernel, by decide +kernel⟩, List.mem_of_getElem? (i := 627) (by decide +kernel), List.mem_of_getElem? (i := 2740) (by decide +kernel), List.mem_of_getElem? (i := 2741) (by decide +kernel)⟩
theorem lw_p233 : lw_okq (⟨"RoadHouse$Cars", "save", "()J"⟩, 22) := ⟨⟨by decide +kernel, by decide +kernel⟩, List.mem_of_getElem? (i := 627) (by decide +kernel), List.mem_of_getElem? (i := 2744) (by decide +kernel), List.mem_of_getElem? (i := 2745) (by decide +kernel)⟩
theorem lw_p234 : lw_okq (⟨"RoadHouse$Cars", "goBack", "(I)Z"⟩, 22) := ⟨⟨by decide +kernel, by decide +kernel⟩, List.mem_of_getElem? (i := 627) (by decide +kernel), List.mem_of_getElem? (i := 2753) (by decide +kernel), List.mem_of_getElem? (i := 2754) (by decide +kernel)⟩
theorem lw_p235 : lw_okq (⟨"RoadHouse$Cars", "over", "(I)J"⟩, 22) := ⟨⟨by decide +kernel, by decide +kernel⟩, List.mem_of_getElem? (i := 627) (by decide +kernel), List.mem_of_getElem? (i := 2758) (by decide +kernel), List.mem_of_getElem? (i := 2759) (by decide +kernel)⟩
theorem lw_p236 : lw_okq (⟨"RoadHouse$Cars", "wasDone", "(I)Z"⟩, 22) := ⟨⟨by decide +kernel, by decide +kernel⟩, List.mem_of_getElem? (i := 627) (by decide +kernel), List.mem_of_getElem? (i := 2762) (by decide +kernel), List.mem_of_getElem? (i := 2763) (by decide +kernel)⟩
theorem lw_p237 : lw_okq (⟨"RoadHouse$Cars", "toll", "(II)J"⟩, 22) := ⟨⟨by decide +kernel, by decide +kernel⟩, List.mem_of_getElem? (i := 627) (by decide +kernel), List.mem_of_getElem? (i := 2766) (by decide +kernel), List.mem_of_getElem? (i := 2767) (by decide +kernel)⟩
theorem lw_p238 : lw_okq (⟨"RoadHouse$Contract", "collect", "(I)Z"⟩, 23) := ⟨⟨by decide +kernel, by decide +kernel⟩, List.mem_of_getElem? (i := 702) (by decide +kernel), List.mem_of_getElem? (i := 2775) (by decide +kernel), List.mem_of_getElem? (i := 2776) (by decide +kernel)⟩
theorem lw_p239 : lw_okq (⟨"RoadHouse$Contract", "read", "()J"⟩, 23) := ⟨⟨by decide +kernel, by decide +kernel⟩, List.mem_of_getElem? (i := 702) (by decide +kernel), List.mem_of_getElem? (i := 2779) (by decide +kernel), List.mem_of_getElem? (i := 2780) (by decide +kernel)⟩
def lw_privs_15 : List (MethodName × Nat) := [(⟨"RoadHouse$Cars", "put", "(II)Z"⟩, 22), (⟨"RoadHouse$Cars", "tellComing", "(III)Z"⟩, 22), (⟨"RoadHouse$Cars", "run", "(I)J"⟩, 22), (⟨"RoadHouse$Cars", "restOf", "(III)J"⟩, 22), (⟨"RoadHouse$Cars", "setMeter", "(II)J"⟩, 22), (⟨"RoadHouse$Cars", "setLane", "(III)J"⟩, 22), (⟨"RoadHouse$Cars", "tellRead", "(III)Z"⟩, 22), (⟨"RoadHouse$Cars", "differs", "(II)J"⟩, 22), (⟨"RoadHouse$Cars", "addRule", "(III)Z"⟩, 22), (⟨"RoadHouse$Cars", "save", "()J"⟩, 22), (⟨"RoadHouse$Cars", "goBack", "(I)Z"⟩, 22), (⟨"RoadHouse$Cars", "over", "(I)J"⟩, 22), (⟨"RoadHouse$Cars", "wasDone", "(I)Z"⟩, 22), (⟨"RoadHouse$Cars", "toll", "(II)J"⟩, 22), (⟨"RoadHouse$Contract", "collect", "(I)Z"⟩, 23), (⟨"RoadHouse$Contract", "read", "()J"⟩, 23)]
theorem lw_r15 : ∀ q ∈ lw_privs_15, lw_okq q := List.forall_mem_cons.mpr ⟨lw_p224, List.forall_mem_cons.mpr ⟨lw_p225, List.forall_mem_cons.mpr ⟨lw_p226, List.forall_mem_cons.mpr ⟨lw_p227, List.forall_mem_cons.mpr ⟨lw_p228, List.forall_mem_cons.mpr ⟨lw_p229, List.forall_mem_cons.mpr ⟨lw_p230, List.forall_mem_cons.mpr ⟨lw_p231, List.forall_mem_cons.mpr ⟨lw_p232, List.forall_mem_cons.mpr ⟨lw_p233, List.forall_mem_cons.mpr ⟨lw_p234, List.forall_mem_cons.mpr ⟨lw_p235, List.forall_mem_cons.mpr ⟨lw_p236, List.forall_mem_cons.mpr ⟨lw_p237, List.forall_mem_cons.mpr ⟨lw_p238, List.forall_mem_cons.mpr ⟨lw_p239, fun _ h => absurd h List.not_mem_nil⟩⟩⟩⟩⟩⟩⟩⟩⟩⟩⟩⟩⟩⟩⟩⟩
theorem lw_p240 : lw_okq (⟨"RoadHouse$Contract", "findWords", "()V"⟩, 23) := ⟨⟨by decide +kernel, by decide +kernel⟩, List.mem_of_getElem? (i := 702) (by decide +kernel), List.mem_of_getElem? (i := 2784) (by decide +kernel), List.mem_of_getElem? (i := 2785) (by decide +kernel)⟩
theorem lw_p241 : lw_okq (⟨"RoadHouse$Contract", "takeItem", "(II)I"⟩, 23) := ⟨⟨by decide +kernel, by decide +kernel⟩, List.mem_of_getElem? (i := 702) (by decide +kernel), List.mem_of_getElem? (i := 2791) (by decide +kernel), List.mem_of_getElem? (i := 2792) (by decide +kernel)⟩
theorem lw_p242 : lw_okq (⟨"RoadHouse$Contract", "takeName", "(II)Z"⟩, 23) := ⟨⟨by decide +kernel, by decide +kernel⟩, List.mem_of_getElem? (i := 702) (by decide +kernel), List.mem_of_getElem? (i := 2795) (by decide +kernel), List.mem_of_getElem? (i := 2796) (by decide +kernel)⟩
theorem lw_p243 : lw_okq (⟨"RoadHouse$Contract", "lengthOf", "(I)I"⟩, 23) := ⟨⟨by decide +kernel, by decide +kernel⟩, List.mem_of_getElem? (i := 702) (by decide +kernel), List.mem_of_getElem? (i := 2799) (by decide +kernel), List.mem_of_getElem? (i := 2800) (by decide +kernel)⟩
theorem lw_p244 : lw_okq (⟨"RoadHouse$Contract", "kindOf", "(I)I"⟩, 23) := ⟨⟨by decide +kernel, by decide +kernel⟩, List.mem_of_getElem? (i := 702) (by decide +kernel), List.mem_of_getElem? (i := 2803) (by decide +kernel), List.mem_of_getElem? (i := 2804) (by decide +kernel)⟩
theorem lw_p245 : lw_okq (⟨"RoadHouse$Contract", "signOf", "(II)C"⟩, 23) := ⟨⟨by decide +kernel, by decide +kernel⟩, List.mem_of_getElem? (i := 702) (by decide +kernel), List.mem_of_getElem? (i := 2807) (by decide +kernel), List.mem_of_getElem? (i := 2808) (by decide +kernel)⟩
theorem lw_p246 : lw_okq (⟨"RoadHouse$Contract", "takeExpression", "(I[I)I"⟩, 23) := ⟨⟨by decide +kernel, by decide +kernel⟩, List.mem_of_getElem? (i := 702) (by decide +kernel), List.mem_of_getElem? (i := 2811) (by decide +kernel), List.mem_of_getElem? (i := 2812) (by decide +kernel)⟩
theorem lw_p247 : lw_okq (⟨"RoadHouse$Contract", "thing", "(I)I"⟩, 23) := ⟨⟨by decide +kernel, by decide +kernel⟩, List.mem_of_getElem? (i := 702) (by decide +kernel), List.mem_of_getElem? (i := 2816) (by decide +kernel), List.mem_of_getElem? (i := 2817) (by decide +kernel)⟩
theorem lw_p248 : lw_okq (⟨"RoadHouse$Contract", "numberOf", "(I)I"⟩, 23) := ⟨⟨by decide +kernel, by decide +kernel⟩, List.mem_of_getElem? (i := 702) (by decide +kernel), List.mem_of_getElem? (i := 2820) (by decide +kernel), List.mem_of_getElem? (i := 2821) (by decide +kernel)⟩
theorem lw_p249 : lw_okq (⟨"RoadHouse$Contract", "takeWaiting", "([III)I"⟩, 23) := ⟨⟨by decide +kernel, by decide +kernel⟩, List.mem_of_getElem? (i := 702) (by decide +kernel), List.mem_of_getElem? (i := 2824) (by decide +kernel), List.mem_of_getElem? (i := 2825) (by decide +kernel)⟩
theorem lw_p250 : lw_okq (⟨"RoadHouse$Contract", "setRate", "(II)J"⟩, 23) := ⟨⟨by decide +kernel, by decide +kernel⟩, List.mem_of_getElem? (i := 702) (by decide +kernel), List.mem_of_getElem? (i := 2835) (by decide +kernel), List.mem_of_getElem? (i := 2836) (by decide +kernel)⟩
theorem lw_p251 : lw_okq (⟨"RoadHouse$Contract", "quantityPart", "(IIIZ)J"⟩, 23) := ⟨⟨by decide +kernel, by decide +kernel⟩, List.mem_of_getElem? (i := 702) (by decide +kernel), List.mem_of_getElem? (i := 2844) (by decide +kernel), List.mem_of_getElem? (i := 2845) (by decide +kernel)⟩
theorem lw_p252 : lw_okq (⟨"RoadHouse$Contract", "pay", "(II)J"⟩, 23) := ⟨⟨by decide +kernel, by decide +kernel⟩, List.mem_of_getElem? (i := 702) (by decide +kernel), List.mem_of_getElem? (i := 2848) (by decide +kernel), List.mem_of_getElem? (i := 2849) (by decide +kernel)⟩
theorem lw_p253 : lw_okq (⟨"RoadHouse$Contract", "gross", "(I)J"⟩, 23) := ⟨⟨by decide +kernel, by decide +kernel⟩, List.mem_of_getElem? (i := 702) (by decide +kernel), List.mem_of_getElem? (i := 2852) (by decide +kernel), List.mem_of_getElem? (i := 2853) (by decide +kernel)⟩
theorem lw_p254 : lw_okq (⟨"RoadHouse$Contract", "rateOf", "(II)J"⟩, 23) := ⟨⟨by decide +kernel, by decide +kernel⟩, List.mem_of_getElem? (i := 702) (by decide +kernel), List.mem_of_getElem? (i := 2856) (by decide +kernel), List.mem_of_getElem? (i := 2857) (by decide +kernel)⟩
theorem lw_p255 : lw_okq (⟨"RoadHouse$Contract", "kept", "(I)J"⟩, 23) := ⟨⟨by decide +kernel, by decide +kernel⟩, List.mem_of_getElem? (i := 702) (by decide +kernel), List.mem_of_getElem? (i := 2860) (by decide +kernel), List.mem_of_getElem? (i := 2861) (by decide +kernel)⟩
def lw_privs_16 : List (MethodName × Nat) := [(⟨"RoadHouse$Contract", "findWords", "()V"⟩, 23), (⟨"RoadHouse$Contract", "takeItem", "(II)I"⟩, 23), (⟨"RoadHouse$Contract", "takeName", "(II)Z"⟩, 23), (⟨"RoadHouse$Contract", "lengthOf", "(I)I"⟩, 23), (⟨"RoadHouse$Contract", "kindOf", "(I)I"⟩, 23), (⟨"RoadHouse$Contract", "signOf", "(II)C"⟩, 23), (⟨"RoadHouse$Contract", "takeExpression", "(I[I)I"⟩, 23), (⟨"RoadHouse$Contract", "thing", "(I)I"⟩, 23), (⟨"RoadHouse$Contract", "numberOf", "(I)I"⟩, 23), (⟨"RoadHouse$Contract", "takeWaiting", "([III)I"⟩, 23), (⟨"RoadHouse$Contract", "setRate", "(II)J"⟩, 23), (⟨"RoadHouse$Contract", "quantityPart", "(IIIZ)J"⟩, 23), (⟨"RoadHouse$Contract", "pay", "(II)J"⟩, 23), (⟨"RoadHouse$Contract", "gross", "(I)J"⟩, 23), (⟨"RoadHouse$Contract", "rateOf", "(II)J"⟩, 23), (⟨"RoadHouse$Contract", "kept", "(I)J"⟩, 23)]
theorem lw_r16 : ∀ q ∈ lw_privs_16, lw_okq q := List.forall_mem_cons.mpr ⟨lw_p240, List.forall_mem_cons.mpr ⟨lw_p241, List.forall_mem_cons.mpr ⟨lw_p242, List.forall_mem_cons.mpr ⟨lw_p243, List.forall_mem_cons.mpr ⟨lw_p244, List.forall_mem_cons.mpr ⟨lw_p245, List.forall_mem_cons.mpr ⟨lw_p246, List.forall_mem_cons.mpr ⟨lw_p247, List.forall_mem_cons.mpr ⟨lw_p248, List.forall_mem_cons.mpr ⟨lw_p249, List.forall_mem_cons.mpr ⟨lw_p250, List.forall_mem_cons.mpr ⟨lw_p251, List.forall_mem_cons.mpr ⟨lw_p252, List.forall_mem_cons.mpr ⟨lw_p253, List.forall_mem_cons.mpr ⟨lw_p254, List.forall_mem_cons.mpr ⟨lw_p255, fun _ h => absurd h List.not_mem_nil⟩⟩⟩⟩⟩⟩⟩⟩⟩⟩⟩⟩⟩⟩⟩⟩
theorem lw_p256 : lw_okq (⟨"RoadHouse$Contract", "penaltiesOf", "(I)J"⟩, 23) := ⟨⟨by decide +kernel, by decide +kernel⟩, List.mem_of_getElem? (i := 702) (by decide +kernel), List.mem_of_getElem? (i := 2864) (by decide +kernel), List.mem_of_getElem? (i := 2865) (by decide +kernel)⟩
theorem lw_p257 : lw_okq (⟨"RoadHouse$Contract", "keptUpTo", "(I)J"⟩, 23) := ⟨⟨by decide +kernel, by decide +kernel⟩, List.mem_of_getElem? (i := 702) (by decide +kernel), List.mem_of_getElem? (i := 2868) (by decide +kernel), List.mem_of_getElem? (i := 2869) (by decide +kernel)⟩
theorem lw_p258 : lw_okq (⟨"RoadHouse$Contract", "twice", "(II)J"⟩, 23) := ⟨⟨by decide +kernel, by decide +kernel⟩, List.mem_of_getElem? (i := 702) (by decide +kernel), List.mem_of_getElem? (i := 2872) (by decide +kernel), List.mem_of_getElem? (i := 2873) (by decide +kernel)⟩
theorem lw_p259 : lw_okq (⟨"RoadHouse$Contract", "addChange", "(IIII)J"⟩, 23) := ⟨⟨by decide +kernel, by decide +kernel⟩, List.mem_of_getElem? (i := 702) (by decide +kernel), List.mem_of_getElem? (i := 2879) (by decide +kernel), List.mem_of_getElem? (i := 2880) (by decide +kernel)⟩
theorem lw_p260 : lw_okq (⟨"RoadHouse$Contract", "setIndex", "(III)Z"⟩, 23) := ⟨⟨by decide +kernel, by decide +kernel⟩, List.mem_of_getElem? (i := 702) (by decide +kernel), List.mem_of_getElem? (i := 2883) (by decide +kernel), List.mem_of_getElem? (i := 2884) (by decide +kernel)⟩
theorem lw_p261 : lw_okq (⟨"RoadHouse$Contract", "setKeep", "(II)Z"⟩, 23) := ⟨⟨by decide +kernel, by decide +kernel⟩, List.mem_of_getElem? (i := 702) (by decide +kernel), List.mem_of_getElem? (i := 2887) (by decide +kernel), List.mem_of_getElem? (i := 2888) (by decide +kernel)⟩
theorem lw_p262 : lw_okq (⟨"RoadHouse$Contract", "stillKept", "(I)J"⟩, 23) := ⟨⟨by decide +kernel, by decide +kernel⟩, List.mem_of_getElem? (i := 702) (by decide +kernel), List.mem_of_getElem? (i := 2891) (by decide +kernel), List.mem_of_getElem? (i := 2892) (by decide +kernel)⟩
theorem lw_p263 : lw_okq (⟨"RoadHouse$Contract", "setBack", "(I)J"⟩, 23) := ⟨⟨by decide +kernel, by decide +kernel⟩, List.mem_of_getElem? (i := 702) (by decide +kernel), List.mem_of_getElem? (i := 2895) (by decide +kernel), List.mem_of_getElem? (i := 2896) (by decide +kernel)⟩
theorem lw_p264 : lw_okq (⟨"RoadHouse$Contract", "addPenalty", "(III)Z"⟩, 23) := ⟨⟨by decide +kernel, by decide +kernel⟩, List.mem_of_getElem? (i := 702) (by decide +kernel), List.mem_of_getElem? (i := 2899) (by decide +kernel), List.mem_of_getElem? (i := 2900) (by decide +kernel)⟩
theorem lw_p265 : lw_okq (⟨"RoadHouse$Contract", "sumOfPay", "(II)J"⟩, 23) := ⟨⟨by decide +kernel, by decide +kernel⟩, List.mem_of_getElem? (i := 702) (by decide +kernel), List.mem_of_getElem? (i := 2903) (by decide +kernel), List.mem_of_getElem? (i := 2904) (by decide +kernel)⟩
theorem lw_p266 : lw_okq (⟨"RoadHouse$Contract", "setFirm", "(II)Z"⟩, 23) := ⟨⟨by decide +kernel, by decide +kernel⟩, List.mem_of_getElem? (i := 702) (by decide +kernel), List.mem_of_getElem? (i := 2907) (by decide +kernel), List.mem_of_getElem? (i := 2908) (by decide +kernel)⟩
theorem lw_p267 : lw_okq (⟨"RoadHouse$Contract", "shareOf", "(II)J"⟩, 23) := ⟨⟨by decide +kernel, by decide +kernel⟩, List.mem_of_getElem? (i := 702) (by decide +kernel), List.mem_of_getElem? (i := 2911) (by decide +kernel), List.mem_of_getElem? (i := 2912) (by decide +kernel)⟩
theorem lw_p268 : lw_okq (⟨"RoadHouse$Contract", "correct", "(III)J"⟩, 23) := ⟨⟨by decide +kernel, by decide +kernel⟩, List.mem_of_getElem? (i := 702) (by decide +kernel), List.mem_of_getElem? (i := 2915) (by decide +kernel), List.mem_of_getElem? (i := 2916) (by decide +kernel)⟩
theorem lw_p269 : lw_okq (⟨"RoadHouse$Contract", "addDifference", "(IIII)V"⟩, 23) := ⟨⟨by decide +kernel, by decide +kernel⟩, List.mem_of_getElem? (i := 702) (by decide +kernel), List.mem_of_getElem? (i := 2919) (by decide +kernel), List.mem_of_getElem? (i := 2920) (by decide +kernel)⟩
theorem lw_p270 : lw_okq (⟨"RoadHouse$Contract", "dispute", "(II)J"⟩, 23) := ⟨⟨by decide +kernel, by decide +kernel⟩, List.mem_of_getElem? (i := 702) (by decide +kernel), List.mem_of_getElem? (i := 2923) (by decide +kernel), List.mem_of_getElem? (i := 2924) (by decide +kernel)⟩
theorem lw_p271 : lw_okq (⟨"RoadHouse$Contract", "hasOther", "(I)Z"⟩, 23) := ⟨⟨by decide +kernel, by decide +kernel⟩, List.mem_of_getElem? (i := 702) (by decide +kernel), List.mem_of_getElem? (i := 2927) (by decide +kernel), List.mem_of_getElem? (i := 2928) (by decide +kernel)⟩
def lw_privs_17 : List (MethodName × Nat) := [(⟨"RoadHouse$Contract", "penaltiesOf", "(I)J"⟩, 23), (⟨"RoadHouse$Contract", "keptUpTo", "(I)J"⟩, 23), (⟨"RoadHouse$Contract", "twice", "(II)J"⟩, 23), (⟨"RoadHouse$Contract", "addChange", "(IIII)J"⟩, 23), (⟨"RoadHouse$Contract", "setIndex", "(III)Z"⟩, 23), (⟨"RoadHouse$Contract", "setKeep", "(II)Z"⟩, 23), (⟨"RoadHouse$Contract", "stillKept", "(I)J"⟩, 23), (⟨"RoadHouse$Contract", "setBack", "(I)J"⟩, 23), (⟨"RoadHouse$Contract", "addPenalty", "(III)Z"⟩, 23), (⟨"RoadHouse$Contract", "sumOfPay", "(II)J"⟩, 23), (⟨"RoadHouse$Contract", "setFirm", "(II)Z"⟩, 23), (⟨"RoadHouse$Contract", "shareOf", "(II)J"⟩, 23), (⟨"RoadHouse$Contract", "correct", "(III)J"⟩, 23), (⟨"RoadHouse$Contract", "addDifference", "(IIII)V"⟩, 23), (⟨"RoadHouse$Contract", "dispute", "(II)J"⟩, 23), (⟨"RoadHouse$Contract", "hasOther", "(I)Z"⟩, 23)]
theorem lw_r17 : ∀ q ∈ lw_privs_17, lw_okq q := List.forall_mem_cons.mpr ⟨lw_p256, List.forall_mem_cons.mpr ⟨lw_p257, List.forall_mem_cons.mpr ⟨lw_p258, List.forall_mem_cons.mpr ⟨lw_p259, List.forall_mem_cons.mpr ⟨lw_p260, List.forall_mem_cons.mpr ⟨lw_p261, List.forall_mem_cons.mpr ⟨lw_p262, List.forall_mem_cons.mpr ⟨lw_p263, List.forall_mem_cons.mpr ⟨lw_p264, List.forall_mem_cons.mpr ⟨lw_p265, List.forall_mem_cons.mpr ⟨lw_p266, List.forall_mem_cons.mpr ⟨lw_p267, List.forall_mem_cons.mpr ⟨lw_p268, List.forall_mem_cons.mpr ⟨lw_p269, List.forall_mem_cons.mpr ⟨lw_p270, List.forall_mem_cons.mpr ⟨lw_p271, fun _ h => absurd h List.not_mem_nil⟩⟩⟩⟩⟩⟩⟩⟩⟩⟩⟩⟩⟩⟩⟩⟩
theorem lw_p272 : lw_okq (⟨"RoadHouse$Contract", "plainEntries", "(I)J"⟩, 23) := ⟨⟨by decide +kernel, by decide +kernel⟩, List.mem_of_getElem? (i := 702) (by decide +kernel), List.mem_of_getElem? (i := 2931) (by decide +kernel), List.mem_of_getElem? (i := 2932) (by decide +kernel)⟩
theorem lw_p273 : lw_okq (⟨"RoadHouse$Contract", "sign", "(I)J"⟩, 23) := ⟨⟨by decide +kernel, by decide +kernel⟩, List.mem_of_getElem? (i := 702) (by decide +kernel), List.mem_of_getElem? (i := 2937) (by decide +kernel), List.mem_of_getElem? (i := 2938) (by decide +kernel)⟩
theorem lw_p274 : lw_okq (⟨"RoadHouse$Contract", "write", "(IC)I"⟩, 23) := ⟨⟨by decide +kernel, by decide +kernel⟩, List.mem_of_getElem? (i := 702) (by decide +kernel), List.mem_of_getElem? (i := 2941) (by decide +kernel), List.mem_of_getElem? (i := 2942) (by decide +kernel)⟩
theorem lw_p275 : lw_okq (⟨"RoadHouse$Contract", "writeNumber", "(IJ)I"⟩, 23) := ⟨⟨by decide +kernel, by decide +kernel⟩, List.mem_of_getElem? (i := 702) (by decide +kernel), List.mem_of_getElem? (i := 2945) (by decide +kernel), List.mem_of_getElem? (i := 2946) (by decide +kernel)⟩
theorem lw_p276 : lw_okq (⟨"RoadHouseModel$SignalProofsModel", "forget", "()V"⟩, 30) := ⟨⟨by decide +kernel, by decide +kernel⟩, List.mem_of_getElem? (i := 3464) (by decide +kernel), List.mem_of_getElem? (i := 3474) (by decide +kernel), List.mem_of_getElem? (i := 3475) (by decide +kernel)⟩
theorem lw_p277 : lw_okq (⟨"RoadHouseModel$SignalProofsModel", "first", "()V"⟩, 30) := ⟨⟨by decide +kernel, by decide +kernel⟩, List.mem_of_getElem? (i := 3464) (by decide +kernel), List.mem_of_getElem? (i := 3478) (by decide +kernel), List.mem_of_getElem? (i := 3479) (by decide +kernel)⟩
theorem lw_p278 : lw_okq (⟨"RoadHouseModel$SignalProofsModel", "groupsNow", "()I"⟩, 30) := ⟨⟨by decide +kernel, by decide +kernel⟩, List.mem_of_getElem? (i := 3464) (by decide +kernel), List.mem_of_getElem? (i := 3482) (by decide +kernel), List.mem_of_getElem? (i := 3483) (by decide +kernel)⟩
theorem lw_p279 : lw_okq (⟨"RoadHouseModel$SignalProofsModel", "part", "(III)I"⟩, 30) := ⟨⟨by decide +kernel, by decide +kernel⟩, List.mem_of_getElem? (i := 3464) (by decide +kernel), List.mem_of_getElem? (i := 3486) (by decide +kernel), List.mem_of_getElem? (i := 3487) (by decide +kernel)⟩
theorem lw_p280 : lw_okq (⟨"RoadHouseModel$SignalProofsModel", "copyTo", "([I)V"⟩, 30) := ⟨⟨by decide +kernel, by decide +kernel⟩, List.mem_of_getElem? (i := 3464) (by decide +kernel), List.mem_of_getElem? (i := 3493) (by decide +kernel), List.mem_of_getElem? (i := 3494) (by decide +kernel)⟩
theorem lw_p281 : lw_okq (⟨"RoadHouseModel", "wayCall", "(IIIIII)J"⟩, 19) := ⟨⟨by decide +kernel, by decide +kernel⟩, List.mem_of_getElem? (i := 2952) (by decide +kernel), List.mem_of_getElem? (i := 3881) (by decide +kernel), List.mem_of_getElem? (i := 3882) (by decide +kernel)⟩
theorem lw_p282 : lw_okq (⟨"RoadHouseModel$CorridorCellsModel", "noCell", "(II)Z"⟩, 32) := ⟨⟨by decide +kernel, by decide +kernel⟩, List.mem_of_getElem? (i := 2958) (by decide +kernel), List.mem_of_getElem? (i := 3889) (by decide +kernel), List.mem_of_getElem? (i := 3890) (by decide +kernel)⟩
theorem lw_p283 : lw_okq (⟨"RoadHouseModel$CorridorCellsModel", "noEnd", "(II)Z"⟩, 32) := ⟨⟨by decide +kernel, by decide +kernel⟩, List.mem_of_getElem? (i := 2958) (by decide +kernel), List.mem_of_getElem? (i := 3926) (by decide +kernel), List.mem_of_getElem? (i := 3927) (by decide +kernel)⟩
theorem lw_p284 : lw_okq (⟨"RoadHouseModel$CorridorCellsModel", "search", "(III)I"⟩, 32) := ⟨⟨by decide +kernel, by decide +kernel⟩, List.mem_of_getElem? (i := 2958) (by decide +kernel), List.mem_of_getElem? (i := 3931) (by decide +kernel), List.mem_of_getElem? (i := 3932) (by decide +kernel)⟩
theorem lw_p285 : lw_okq (⟨"RoadHouseModel$CorridorCellsModel", "findAll", "()V"⟩, 32) := ⟨⟨by decide +kernel, by decide +kernel⟩, List.mem_of_getElem? (i := 2958) (by decide +kernel), List.mem_of_getElem? (i := 3935) (by decide +kernel), List.mem_of_getElem? (i := 3936) (by decide +kernel)⟩
theorem lw_p286 : lw_okq (⟨"RoadHouseModel$CorridorCellsModel", "isHeading", "(I)Z"⟩, 32) := ⟨⟨by decide +kernel, by decide +kernel⟩, List.mem_of_getElem? (i := 2958) (by decide +kernel), List.mem_of_getElem? (i := 3942) (by decide +kernel), List.mem_of_getElem? (i := 3943) (by decide +kernel)⟩
theorem lw_p287 : lw_okq (⟨"RoadHouseModel$CorridorCellsModel", "isRun", "(II)Z"⟩, 32) := ⟨⟨by decide +kernel, by decide +kernel⟩, List.mem_of_getElem? (i := 2958) (by decide +kernel), List.mem_of_getElem? (i := 3946) (by decide +kernel), List.mem_of_getElem? (i := 3947) (by decide +kernel)⟩
def lw_privs_18 : List (MethodName × Nat) := [(⟨"RoadHouse$Contract", "plainEntries", "(I)J"⟩, 23), (⟨"RoadHouse$Contract", "sign", "(I)J"⟩, 23), (⟨"RoadHouse$Contract", "write", "(IC)I"⟩, 23), (⟨"RoadHouse$Contract", "writeNumber", "(IJ)I"⟩, 23), (⟨"RoadHouseModel$SignalProofsModel", "forget", "()V"⟩, 30), (⟨"RoadHouseModel$SignalProofsModel", "first", "()V"⟩, 30), (⟨"RoadHouseModel$SignalProofsModel", "groupsNow", "()I"⟩, 30), (⟨"RoadHouseModel$SignalProofsModel", "part", "(III)I"⟩, 30), (⟨"RoadHouseModel$SignalProofsModel", "copyTo", "([I)V"⟩, 30), (⟨"RoadHouseModel", "wayCall", "(IIIIII)J"⟩, 19), (⟨"RoadHouseModel$CorridorCellsModel", "noCell", "(II)Z"⟩, 32), (⟨"RoadHouseModel$CorridorCellsModel", "noEnd", "(II)Z"⟩, 32), (⟨"RoadHouseModel$CorridorCellsModel", "search", "(III)I"⟩, 32), (⟨"RoadHouseModel$CorridorCellsModel", "findAll", "()V"⟩, 32), (⟨"RoadHouseModel$CorridorCellsModel", "isHeading", "(I)Z"⟩, 32), (⟨"RoadHouseModel$CorridorCellsModel", "isRun", "(II)Z"⟩, 32)]
theorem lw_r18 : ∀ q ∈ lw_privs_18, lw_okq q := List.forall_mem_cons.mpr ⟨lw_p272, List.forall_mem_cons.mpr ⟨lw_p273, List.forall_mem_cons.mpr ⟨lw_p274, List.forall_mem_cons.mpr ⟨lw_p275, List.forall_mem_cons.mpr ⟨lw_p276, List.forall_mem_cons.mpr ⟨lw_p277, List.forall_mem_cons.mpr ⟨lw_p278, List.forall_mem_cons.mpr ⟨lw_p279, List.forall_mem_cons.mpr ⟨lw_p280, List.forall_mem_cons.mpr ⟨lw_p281, List.forall_mem_cons.mpr ⟨lw_p282, List.forall_mem_cons.mpr ⟨lw_p283, List.forall_mem_cons.mpr ⟨lw_p284, List.forall_mem_cons.mpr ⟨lw_p285, List.forall_mem_cons.mpr ⟨lw_p286, List.forall_mem_cons.mpr ⟨lw_p287, fun _ h => absurd h List.not_mem_nil⟩⟩⟩⟩⟩⟩⟩⟩⟩⟩⟩⟩⟩⟩⟩⟩
theorem lw_p288 : lw_okq (⟨"RoadHouseModel$CorridorCellsModel", "isBridged", "(I)Z"⟩, 32) := ⟨⟨by decide +kernel, by decide +kernel⟩, List.mem_of_getElem? (i := 2958) (by decide +kernel), List.mem_of_getElem? (i := 3950) (by decide +kernel), List.mem_of_getElem? (i := 3951) (by decide +kernel)⟩
theorem lw_p289 : lw_okq (⟨"RoadHouseModel$CorridorCellsModel", "look", "(IIII)Z"⟩, 32) := ⟨⟨by decide +kernel, by decide +kernel⟩, List.mem_of_getElem? (i := 2958) (by decide +kernel), List.mem_of_getElem? (i := 3954) (by decide +kernel), List.mem_of_getElem? (i := 3955) (by decide +kernel)⟩
theorem lw_p290 : lw_okq (⟨"RoadHouseModel$CorridorCellsModel", "onward", "(IIIII)I"⟩, 32) := ⟨⟨by decide +kernel, by decide +kernel⟩, List.mem_of_getElem? (i := 2958) (by decide +kernel), List.mem_of_getElem? (i := 3958) (by decide +kernel), List.mem_of_getElem? (i := 3959) (by decide +kernel)⟩
theorem lw_p291 : lw_okq (⟨"RoadHouseModel$CorridorCellsModel", "step", "(II)I"⟩, 32) := ⟨⟨by decide +kernel, by decide +kernel⟩, List.mem_of_getElem? (i := 2958) (by decide +kernel), List.mem_of_getElem? (i := 3962) (by decide +kernel), List.mem_of_getElem? (i := 3963) (by decide +kernel)⟩
theorem lw_p292 : lw_okq (⟨"RoadHouseModel$CorridorCellsModel", "may", "(IIII)Z"⟩, 32) := ⟨⟨by decide +kernel, by decide +kernel⟩, List.mem_of_getElem? (i := 2958) (by decide +kernel), List.mem_of_getElem? (i := 3972) (by decide +kernel), List.mem_of_getElem? (i := 3973) (by decide +kernel)⟩
theorem lw_p293 : lw_okq (⟨"RoadHouseModel$CorridorCellsModel", "isClosed", "(I)Z"⟩, 32) := ⟨⟨by decide +kernel, by decide +kernel⟩, List.mem_of_getElem? (i := 2958) (by decide +kernel), List.mem_of_getElem? (i := 3976) (by decide +kernel), List.mem_of_getElem? (i := 3977) (by decide +kernel)⟩
theorem lw_p294 : lw_okq (⟨"RoadHouseModel$CorridorCellsModel", "mayTurn", "(IIZ)Z"⟩, 32) := ⟨⟨by decide +kernel, by decide +kernel⟩, List.mem_of_getElem? (i := 2958) (by decide +kernel), List.mem_of_getElem? (i := 3980) (by decide +kernel), List.mem_of_getElem? (i := 3981) (by decide +kernel)⟩
theorem lw_p295 : lw_okq (⟨"RoadHouseModel$CorridorCellsModel", "shares", "(I)I"⟩, 32) := ⟨⟨by decide +kernel, by decide +kernel⟩, List.mem_of_getElem? (i := 2958) (by decide +kernel), List.mem_of_getElem? (i := 3984) (by decide +kernel), List.mem_of_getElem? (i := 3985) (by decide +kernel)⟩
theorem lw_p296 : lw_okq (⟨"RoadHouseModel$CorridorCellsModel", "price", "(II)J"⟩, 32) := ⟨⟨by decide +kernel, by decide +kernel⟩, List.mem_of_getElem? (i := 2958) (by decide +kernel), List.mem_of_getElem? (i := 3988) (by decide +kernel), List.mem_of_getElem? (i := 3989) (by decide +kernel)⟩
theorem lw_p297 : lw_okq (⟨"RoadHouseModel$CorridorCellsModel", "valueOf", "(II)I"⟩, 32) := ⟨⟨by decide +kernel, by decide +kernel⟩, List.mem_of_getElem? (i := 2958) (by decide +kernel), List.mem_of_getElem? (i := 3996) (by decide +kernel), List.mem_of_getElem? (i := 3997) (by decide +kernel)⟩
theorem lw_p298 : lw_okq (⟨"RoadHouseModel$CorridorCellsModel", "isBefore", "(II)Z"⟩, 32) := ⟨⟨by decide +kernel, by decide +kernel⟩, List.mem_of_getElem? (i := 2958) (by decide +kernel), List.mem_of_getElem? (i := 4000) (by decide +kernel), List.mem_of_getElem? (i := 4001) (by decide +kernel)⟩
theorem lw_p299 : lw_okq (⟨"RoadHouseModel$CorridorCellsModel", "walk", "(I)I"⟩, 32) := ⟨⟨by decide +kernel, by decide +kernel⟩, List.mem_of_getElem? (i := 2958) (by decide +kernel), List.mem_of_getElem? (i := 4004) (by decide +kernel), List.mem_of_getElem? (i := 4005) (by decide +kernel)⟩
theorem lw_p300 : lw_okq (⟨"RoadHouseModel$CorridorCellsModel", "costUpTo", "(J)J"⟩, 32) := ⟨⟨by decide +kernel, by decide +kernel⟩, List.mem_of_getElem? (i := 2958) (by decide +kernel), List.mem_of_getElem? (i := 4008) (by decide +kernel), List.mem_of_getElem? (i := 4009) (by decide +kernel)⟩
theorem lw_p301 : lw_okq (⟨"RoadHouseModel$CorridorCellsModel", "cellOf", "(II)I"⟩, 32) := ⟨⟨by decide +kernel, by decide +kernel⟩, List.mem_of_getElem? (i := 2958) (by decide +kernel), List.mem_of_getElem? (i := 4016) (by decide +kernel), List.mem_of_getElem? (i := 4017) (by decide +kernel)⟩
theorem lw_p302 : lw_okq (⟨"RoadHouseModel$CorridorCellsModel", "priceOf", "(I)J"⟩, 32) := ⟨⟨by decide +kernel, by decide +kernel⟩, List.mem_of_getElem? (i := 2958) (by decide +kernel), List.mem_of_getElem? (i := 4024) (by decide +kernel), List.mem_of_getElem? (i := 4025) (by decide +kernel)⟩
theorem lw_p303 : lw_okq (⟨"RoadHouseModel$CorridorCellsModel", "aimOf", "(II)J"⟩, 32) := ⟨⟨by decide +kernel, by decide +kernel⟩, List.mem_of_getElem? (i := 2958) (by decide +kernel), List.mem_of_getElem? (i := 4048) (by decide +kernel), List.mem_of_getElem? (i := 4049) (by decide +kernel)⟩
def lw_privs_19 : List (MethodName × Nat) := [(⟨"RoadHouseModel$CorridorCellsModel", "isBridged", "(I)Z"⟩, 32), (⟨"RoadHouseModel$CorridorCellsModel", "look", "(IIII)Z"⟩, 32), (⟨"RoadHouseModel$CorridorCellsModel", "onward", "(IIIII)I"⟩, 32), (⟨"RoadHouseModel$CorridorCellsModel", "step", "(II)I"⟩, 32), (⟨"RoadHouseModel$CorridorCellsModel", "may", "(IIII)Z"⟩, 32), (⟨"RoadHouseModel$CorridorCellsModel", "isClosed", "(I)Z"⟩, 32), (⟨"RoadHouseModel$CorridorCellsModel", "mayTurn", "(IIZ)Z"⟩, 32), (⟨"RoadHouseModel$CorridorCellsModel", "shares", "(I)I"⟩, 32), (⟨"RoadHouseModel$CorridorCellsModel", "price", "(II)J"⟩, 32), (⟨"RoadHouseModel$CorridorCellsModel", "valueOf", "(II)I"⟩, 32), (⟨"RoadHouseModel$CorridorCellsModel", "isBefore", "(II)Z"⟩, 32), (⟨"RoadHouseModel$CorridorCellsModel", "walk", "(I)I"⟩, 32), (⟨"RoadHouseModel$CorridorCellsModel", "costUpTo", "(J)J"⟩, 32), (⟨"RoadHouseModel$CorridorCellsModel", "cellOf", "(II)I"⟩, 32), (⟨"RoadHouseModel$CorridorCellsModel", "priceOf", "(I)J"⟩, 32), (⟨"RoadHouseModel$CorridorCellsModel", "aimOf", "(II)J"⟩, 32)]
theorem lw_r19 : ∀ q ∈ lw_privs_19, lw_okq q := List.forall_mem_cons.mpr ⟨lw_p288, List.forall_mem_cons.mpr ⟨lw_p289, List.forall_mem_cons.mpr ⟨lw_p290, List.forall_mem_cons.mpr ⟨lw_p291, List.forall_mem_cons.mpr ⟨lw_p292, List.forall_mem_cons.mpr ⟨lw_p293, List.forall_mem_cons.mpr ⟨lw_p294, List.forall_mem_cons.mpr ⟨lw_p295, List.forall_mem_cons.mpr ⟨lw_p296, List.forall_mem_cons.mpr ⟨lw_p297, List.forall_mem_cons.mpr ⟨lw_p298, List.forall_mem_cons.mpr ⟨lw_p299, List.forall_mem_cons.mpr ⟨lw_p300, List.forall_mem_cons.mpr ⟨lw_p301, List.forall_mem_cons.mpr ⟨lw_p302, List.forall_mem_cons.mpr ⟨lw_p303, fun _ h => absurd h List.not_mem_nil⟩⟩⟩⟩⟩⟩⟩⟩⟩⟩⟩⟩⟩⟩⟩⟩
theorem lw_p304 : lw_okq (⟨"RoadHouseModel", "noteCell", "(IIIIJ)V"⟩, 19) := ⟨⟨by decide +kernel, by decide +kernel⟩, List.mem_of_getElem? (i := 2952) (by decide +kernel), List.mem_of_getElem? (i := 4080) (by decide +kernel), List.mem_of_getElem? (i := 4081) (by decide +kernel)⟩
theorem lw_p305 : lw_okq (⟨"RoadHouseModel", "earthCall", "(IIIIII)J"⟩, 19) := ⟨⟨by decide +kernel, by decide +kernel⟩, List.mem_of_getElem? (i := 2952) (by decide +kernel), List.mem_of_getElem? (i := 4084) (by decide +kernel), List.mem_of_getElem? (i := 4085) (by decide +kernel)⟩
theorem lw_p306 : lw_okq (⟨"RoadHouseModel$HaulFlowsModel", "drop", "()V"⟩, 38) := ⟨⟨by decide +kernel, by decide +kernel⟩, List.mem_of_getElem? (i := 3062) (by decide +kernel), List.mem_of_getElem? (i := 4099) (by decide +kernel), List.mem_of_getElem? (i := 4100) (by decide +kernel)⟩
theorem lw_p307 : lw_okq (⟨"RoadHouseModel$HaulFlowsModel", "noFill", "(I)Z"⟩, 38) := ⟨⟨by decide +kernel, by decide +kernel⟩, List.mem_of_getElem? (i := 3062) (by decide +kernel), List.mem_of_getElem? (i := 4116) (by decide +kernel), List.mem_of_getElem? (i := 4117) (by decide +kernel)⟩
theorem lw_p308 : lw_okq (⟨"RoadHouseModel$HaulFlowsModel", "noWay", "(I)Z"⟩, 38) := ⟨⟨by decide +kernel, by decide +kernel⟩, List.mem_of_getElem? (i := 3062) (by decide +kernel), List.mem_of_getElem? (i := 4128) (by decide +kernel), List.mem_of_getElem? (i := 4129) (by decide +kernel)⟩
theorem lw_p309 : lw_okq (⟨"RoadHouseModel$HaulFlowsModel", "sources", "()I"⟩, 38) := ⟨⟨by decide +kernel, by decide +kernel⟩, List.mem_of_getElem? (i := 3062) (by decide +kernel), List.mem_of_getElem? (i := 4145) (by decide +kernel), List.mem_of_getElem? (i := 4146) (by decide +kernel)⟩
theorem lw_p310 : lw_okq (⟨"RoadHouseModel$HaulFlowsModel", "lay", "(IIII)V"⟩, 38) := ⟨⟨by decide +kernel, by decide +kernel⟩, List.mem_of_getElem? (i := 3062) (by decide +kernel), List.mem_of_getElem? (i := 4149) (by decide +kernel), List.mem_of_getElem? (i := 4150) (by decide +kernel)⟩
theorem lw_p311 : lw_okq (⟨"RoadHouseModel$HaulFlowsModel", "gives", "(I)J"⟩, 38) := ⟨⟨by decide +kernel, by decide +kernel⟩, List.mem_of_getElem? (i := 3062) (by decide +kernel), List.mem_of_getElem? (i := 4153) (by decide +kernel), List.mem_of_getElem? (i := 4154) (by decide +kernel)⟩
theorem lw_p312 : lw_okq (⟨"RoadHouseModel$HaulFlowsModel", "arc", "(IIJJ)V"⟩, 38) := ⟨⟨by decide +kernel, by decide +kernel⟩, List.mem_of_getElem? (i := 3062) (by decide +kernel), List.mem_of_getElem? (i := 4157) (by decide +kernel), List.mem_of_getElem? (i := 4158) (by decide +kernel)⟩
theorem lw_p313 : lw_okq (⟨"RoadHouseModel$HaulFlowsModel", "serves", "(II)Z"⟩, 38) := ⟨⟨by decide +kernel, by decide +kernel⟩, List.mem_of_getElem? (i := 3062) (by decide +kernel), List.mem_of_getElem? (i := 4161) (by decide +kernel), List.mem_of_getElem? (i := 4162) (by decide +kernel)⟩
theorem lw_p314 : lw_okq (⟨"RoadHouseModel$HaulFlowsModel", "priceOf", "(III)J"⟩, 38) := ⟨⟨by decide +kernel, by decide +kernel⟩, List.mem_of_getElem? (i := 3062) (by decide +kernel), List.mem_of_getElem? (i := 4165) (by decide +kernel), List.mem_of_getElem? (i := 4166) (by decide +kernel)⟩
theorem lw_p315 : lw_okq (⟨"RoadHouseModel$HaulFlowsModel", "metreOf", "(I)I"⟩, 38) := ⟨⟨by decide +kernel, by decide +kernel⟩, List.mem_of_getElem? (i := 3062) (by decide +kernel), List.mem_of_getElem? (i := 4169) (by decide +kernel), List.mem_of_getElem? (i := 4170) (by decide +kernel)⟩
theorem lw_p316 : lw_okq (⟨"RoadHouseModel$HaulFlowsModel", "sendAll", "()V"⟩, 38) := ⟨⟨by decide +kernel, by decide +kernel⟩, List.mem_of_getElem? (i := 3062) (by decide +kernel), List.mem_of_getElem? (i := 4176) (by decide +kernel), List.mem_of_getElem? (i := 4177) (by decide +kernel)⟩
theorem lw_p317 : lw_okq (⟨"RoadHouseModel$HaulFlowsModel", "walk", "(II)V"⟩, 38) := ⟨⟨by decide +kernel, by decide +kernel⟩, List.mem_of_getElem? (i := 3062) (by decide +kernel), List.mem_of_getElem? (i := 4180) (by decide +kernel), List.mem_of_getElem? (i := 4181) (by decide +kernel)⟩
theorem lw_p318 : lw_okq (⟨"RoadHouseModel$HaulFlowsModel", "go", "(IIJ)J"⟩, 38) := ⟨⟨by decide +kernel, by decide +kernel⟩, List.mem_of_getElem? (i := 3062) (by decide +kernel), List.mem_of_getElem? (i := 4184) (by decide +kernel), List.mem_of_getElem? (i := 4185) (by decide +kernel)⟩
theorem lw_p319 : lw_okq (⟨"RoadHouseModel$HaulFlowsModel", "wanted", "()J"⟩, 38) := ⟨⟨by decide +kernel, by decide +kernel⟩, List.mem_of_getElem? (i := 3062) (by decide +kernel), List.mem_of_getElem? (i := 4188) (by decide +kernel), List.mem_of_getElem? (i := 4189) (by decide +kernel)⟩
def lw_privs_20 : List (MethodName × Nat) := [(⟨"RoadHouseModel", "noteCell", "(IIIIJ)V"⟩, 19), (⟨"RoadHouseModel", "earthCall", "(IIIIII)J"⟩, 19), (⟨"RoadHouseModel$HaulFlowsModel", "drop", "()V"⟩, 38), (⟨"RoadHouseModel$HaulFlowsModel", "noFill", "(I)Z"⟩, 38), (⟨"RoadHouseModel$HaulFlowsModel", "noWay", "(I)Z"⟩, 38), (⟨"RoadHouseModel$HaulFlowsModel", "sources", "()I"⟩, 38), (⟨"RoadHouseModel$HaulFlowsModel", "lay", "(IIII)V"⟩, 38), (⟨"RoadHouseModel$HaulFlowsModel", "gives", "(I)J"⟩, 38), (⟨"RoadHouseModel$HaulFlowsModel", "arc", "(IIJJ)V"⟩, 38), (⟨"RoadHouseModel$HaulFlowsModel", "serves", "(II)Z"⟩, 38), (⟨"RoadHouseModel$HaulFlowsModel", "priceOf", "(III)J"⟩, 38), (⟨"RoadHouseModel$HaulFlowsModel", "metreOf", "(I)I"⟩, 38), (⟨"RoadHouseModel$HaulFlowsModel", "sendAll", "()V"⟩, 38), (⟨"RoadHouseModel$HaulFlowsModel", "walk", "(II)V"⟩, 38), (⟨"RoadHouseModel$HaulFlowsModel", "go", "(IIJ)J"⟩, 38), (⟨"RoadHouseModel$HaulFlowsModel", "wanted", "()J"⟩, 38)]
theorem lw_r20 : ∀ q ∈ lw_privs_20, lw_okq q := List.forall_mem_cons.mpr ⟨lw_p304, List.forall_mem_cons.mpr ⟨lw_p305, List.forall_mem_cons.mpr ⟨lw_p306, List.forall_mem_cons.mpr ⟨lw_p307, List.forall_mem_cons.mpr ⟨lw_p308, List.forall_mem_cons.mpr ⟨lw_p309, List.forall_mem_cons.mpr ⟨lw_p310, List.forall_mem_cons.mpr ⟨lw_p311, List.forall_mem_cons.mpr ⟨lw_p312, List.forall_mem_cons.mpr ⟨lw_p313, List.forall_mem_cons.mpr ⟨lw_p314, List.forall_mem_cons.mpr ⟨lw_p315, List.forall_mem_cons.mpr ⟨lw_p316, List.forall_mem_cons.mpr ⟨lw_p317, List.forall_mem_cons.mpr ⟨lw_p318, List.forall_mem_cons.mpr ⟨lw_p319, fun _ h => absurd h List.not_mem_nil⟩⟩⟩⟩⟩⟩⟩⟩⟩⟩⟩⟩⟩⟩⟩⟩
theorem lw_p320 : lw_okq (⟨"RoadHouseModel$HaulFlowsModel", "firstOfAll", "()V"⟩, 38) := ⟨⟨by decide +kernel, by decide +kernel⟩, List.mem_of_getElem? (i := 3062) (by decide +kernel), List.mem_of_getElem? (i := 4192) (by decide +kernel), List.mem_of_getElem? (i := 4193) (by decide +kernel)⟩
theorem lw_p321 : lw_okq (⟨"RoadHouseModel$HaulFlowsModel", "noSource", "(I)Z"⟩, 38) := ⟨⟨by decide +kernel, by decide +kernel⟩, List.mem_of_getElem? (i := 3062) (by decide +kernel), List.mem_of_getElem? (i := 4200) (by decide +kernel), List.mem_of_getElem? (i := 4201) (by decide +kernel)⟩
theorem lw_p322 : lw_okq (⟨"RoadHouseModel$HaulFlowsModel", "more", "(JI)J"⟩, 38) := ⟨⟨by decide +kernel, by decide +kernel⟩, List.mem_of_getElem? (i := 3062) (by decide +kernel), List.mem_of_getElem? (i := 4213) (by decide +kernel), List.mem_of_getElem? (i := 4214) (by decide +kernel)⟩
theorem lw_p323 : lw_okq (⟨"RoadHouseModel", "beamsCall", "(IIIIII)J"⟩, 19) := ⟨⟨by decide +kernel, by decide +kernel⟩, List.mem_of_getElem? (i := 2952) (by decide +kernel), List.mem_of_getElem? (i := 4245) (by decide +kernel), List.mem_of_getElem? (i := 4246) (by decide +kernel)⟩
theorem lw_p324 : lw_okq (⟨"RoadHouseModel$InfluenceRowsModel", "readNode", "(I)Z"⟩, 26) := ⟨⟨by decide +kernel, by decide +kernel⟩, List.mem_of_getElem? (i := 3184) (by decide +kernel), List.mem_of_getElem? (i := 4257) (by decide +kernel), List.mem_of_getElem? (i := 4258) (by decide +kernel)⟩
theorem lw_p325 : lw_okq (⟨"RoadHouseModel$InfluenceRowsModel", "sign", "()I"⟩, 26) := ⟨⟨by decide +kernel, by decide +kernel⟩, List.mem_of_getElem? (i := 3184) (by decide +kernel), List.mem_of_getElem? (i := 4261) (by decide +kernel), List.mem_of_getElem? (i := 4262) (by decide +kernel)⟩
theorem lw_p326 : lw_okq (⟨"RoadHouseModel$InfluenceRowsModel", "readBeam", "(I)Z"⟩, 26) := ⟨⟨by decide +kernel, by decide +kernel⟩, List.mem_of_getElem? (i := 3184) (by decide +kernel), List.mem_of_getElem? (i := 4265) (by decide +kernel), List.mem_of_getElem? (i := 4266) (by decide +kernel)⟩
theorem lw_p327 : lw_okq (⟨"RoadHouseModel$InfluenceRowsModel", "readNumber", "()I"⟩, 26) := ⟨⟨by decide +kernel, by decide +kernel⟩, List.mem_of_getElem? (i := 3184) (by decide +kernel), List.mem_of_getElem? (i := 4269) (by decide +kernel), List.mem_of_getElem? (i := 4270) (by decide +kernel)⟩
theorem lw_p328 : lw_okq (⟨"RoadHouseModel$InfluenceRowsModel", "isDigit", "(I)Z"⟩, 26) := ⟨⟨by decide +kernel, by decide +kernel⟩, List.mem_of_getElem? (i := 3184) (by decide +kernel), List.mem_of_getElem? (i := 4273) (by decide +kernel), List.mem_of_getElem? (i := 4274) (by decide +kernel)⟩
theorem lw_p329 : lw_okq (⟨"RoadHouseModel$InfluenceRowsModel", "thrownAt", "(II)Z"⟩, 26) := ⟨⟨by decide +kernel, by decide +kernel⟩, List.mem_of_getElem? (i := 3184) (by decide +kernel), List.mem_of_getElem? (i := 4281) (by decide +kernel), List.mem_of_getElem? (i := 4282) (by decide +kernel)⟩
theorem lw_p330 : lw_okq (⟨"RoadHouseModel$InfluenceRowsModel", "isFirm", "()Z"⟩, 26) := ⟨⟨by decide +kernel, by decide +kernel⟩, List.mem_of_getElem? (i := 3184) (by decide +kernel), List.mem_of_getElem? (i := 4298) (by decide +kernel), List.mem_of_getElem? (i := 4299) (by decide +kernel)⟩
theorem lw_p331 : lw_okq (⟨"RoadHouseModel$InfluenceRowsModel", "solveAll", "()V"⟩, 26) := ⟨⟨by decide +kernel, by decide +kernel⟩, List.mem_of_getElem? (i := 3184) (by decide +kernel), List.mem_of_getElem? (i := 4302) (by decide +kernel), List.mem_of_getElem? (i := 4303) (by decide +kernel)⟩
theorem lw_p332 : lw_okq (⟨"RoadHouseModel$InfluenceRowsModel", "small", "(IJ)V"⟩, 26) := ⟨⟨by decide +kernel, by decide +kernel⟩, List.mem_of_getElem? (i := 3184) (by decide +kernel), List.mem_of_getElem? (i := 4306) (by decide +kernel), List.mem_of_getElem? (i := 4307) (by decide +kernel)⟩
theorem lw_p333 : lw_okq (⟨"RoadHouseModel$InfluenceRowsModel", "heights", "(I)V"⟩, 26) := ⟨⟨by decide +kernel, by decide +kernel⟩, List.mem_of_getElem? (i := 3184) (by decide +kernel), List.mem_of_getElem? (i := 4311) (by decide +kernel), List.mem_of_getElem? (i := 4312) (by decide +kernel)⟩
theorem lw_p334 : lw_okq (⟨"RoadHouseModel$InfluenceRowsModel", "put", "(IIIII)V"⟩, 26) := ⟨⟨by decide +kernel, by decide +kernel⟩, List.mem_of_getElem? (i := 3184) (by decide +kernel), List.mem_of_getElem? (i := 4315) (by decide +kernel), List.mem_of_getElem? (i := 4316) (by decide +kernel)⟩
theorem lw_p335 : lw_okq (⟨"RoadHouseModel$InfluenceRowsModel", "coefficient", "(IIII)V"⟩, 26) := ⟨⟨by decide +kernel, by decide +kernel⟩, List.mem_of_getElem? (i := 3184) (by decide +kernel), List.mem_of_getElem? (i := 4319) (by decide +kernel), List.mem_of_getElem? (i := 4320) (by decide +kernel)⟩
def lw_privs_21 : List (MethodName × Nat) := [(⟨"RoadHouseModel$HaulFlowsModel", "firstOfAll", "()V"⟩, 38), (⟨"RoadHouseModel$HaulFlowsModel", "noSource", "(I)Z"⟩, 38), (⟨"RoadHouseModel$HaulFlowsModel", "more", "(JI)J"⟩, 38), (⟨"RoadHouseModel", "beamsCall", "(IIIIII)J"⟩, 19), (⟨"RoadHouseModel$InfluenceRowsModel", "readNode", "(I)Z"⟩, 26), (⟨"RoadHouseModel$InfluenceRowsModel", "sign", "()I"⟩, 26), (⟨"RoadHouseModel$InfluenceRowsModel", "readBeam", "(I)Z"⟩, 26), (⟨"RoadHouseModel$InfluenceRowsModel", "readNumber", "()I"⟩, 26), (⟨"RoadHouseModel$InfluenceRowsModel", "isDigit", "(I)Z"⟩, 26), (⟨"RoadHouseModel$InfluenceRowsModel", "thrownAt", "(II)Z"⟩, 26), (⟨"RoadHouseModel$InfluenceRowsModel", "isFirm", "()Z"⟩, 26), (⟨"RoadHouseModel$InfluenceRowsModel", "solveAll", "()V"⟩, 26), (⟨"RoadHouseModel$InfluenceRowsModel", "small", "(IJ)V"⟩, 26), (⟨"RoadHouseModel$InfluenceRowsModel", "heights", "(I)V"⟩, 26), (⟨"RoadHouseModel$InfluenceRowsModel", "put", "(IIIII)V"⟩, 26), (⟨"RoadHouseModel$InfluenceRowsModel", "coefficient", "(IIII)V"⟩, 26)]
theorem lw_r21 : ∀ q ∈ lw_privs_21, lw_okq q := List.forall_mem_cons.mpr ⟨lw_p320, List.forall_mem_cons.mpr ⟨lw_p321, List.forall_mem_cons.mpr ⟨lw_p322, List.forall_mem_cons.mpr ⟨lw_p323, List.forall_mem_cons.mpr ⟨lw_p324, List.forall_mem_cons.mpr ⟨lw_p325, List.forall_mem_cons.mpr ⟨lw_p326, List.forall_mem_cons.mpr ⟨lw_p327, List.forall_mem_cons.mpr ⟨lw_p328, List.forall_mem_cons.mpr ⟨lw_p329, List.forall_mem_cons.mpr ⟨lw_p330, List.forall_mem_cons.mpr ⟨lw_p331, List.forall_mem_cons.mpr ⟨lw_p332, List.forall_mem_cons.mpr ⟨lw_p333, List.forall_mem_cons.mpr ⟨lw_p334, List.forall_mem_cons.mpr ⟨lw_p335, fun _ h => absurd h List.not_mem_nil⟩⟩⟩⟩⟩⟩⟩⟩⟩⟩⟩⟩⟩⟩⟩⟩
theorem lw_p336 : lw_okq (⟨"RoadHouseModel$InfluenceRowsModel", "fraction", "(IIJJ)V"⟩, 26) := ⟨⟨by decide +kernel, by decide +kernel⟩, List.mem_of_getElem? (i := 3184) (by decide +kernel), List.mem_of_getElem? (i := 4326) (by decide +kernel), List.mem_of_getElem? (i := 4327) (by decide +kernel)⟩
theorem lw_p337 : lw_okq (⟨"RoadHouseModel$InfluenceRowsModel", "reduce", "(II)V"⟩, 26) := ⟨⟨by decide +kernel, by decide +kernel⟩, List.mem_of_getElem? (i := 3184) (by decide +kernel), List.mem_of_getElem? (i := 4330) (by decide +kernel), List.mem_of_getElem? (i := 4331) (by decide +kernel)⟩
theorem lw_p338 : lw_okq (⟨"RoadHouseModel$InfluenceRowsModel", "divisorOf", "(II)V"⟩, 26) := ⟨⟨by decide +kernel, by decide +kernel⟩, List.mem_of_getElem? (i := 3184) (by decide +kernel), List.mem_of_getElem? (i := 4334) (by decide +kernel), List.mem_of_getElem? (i := 4335) (by decide +kernel)⟩
theorem lw_p339 : lw_okq (⟨"RoadHouseModel$InfluenceRowsModel", "copy", "(II)V"⟩, 26) := ⟨⟨by decide +kernel, by decide +kernel⟩, List.mem_of_getElem? (i := 3184) (by decide +kernel), List.mem_of_getElem? (i := 4338) (by decide +kernel), List.mem_of_getElem? (i := 4339) (by decide +kernel)⟩
theorem lw_p340 : lw_okq (⟨"RoadHouseModel$InfluenceRowsModel", "isEven", "(I)Z"⟩, 26) := ⟨⟨by decide +kernel, by decide +kernel⟩, List.mem_of_getElem? (i := 3184) (by decide +kernel), List.mem_of_getElem? (i := 4342) (by decide +kernel), List.mem_of_getElem? (i := 4343) (by decide +kernel)⟩
theorem lw_p341 : lw_okq (⟨"RoadHouseModel$InfluenceRowsModel", "limb", "(II)I"⟩, 26) := ⟨⟨by decide +kernel, by decide +kernel⟩, List.mem_of_getElem? (i := 3184) (by decide +kernel), List.mem_of_getElem? (i := 4346) (by decide +kernel), List.mem_of_getElem? (i := 4347) (by decide +kernel)⟩
theorem lw_p342 : lw_okq (⟨"RoadHouseModel$InfluenceRowsModel", "halve", "(I)V"⟩, 26) := ⟨⟨by decide +kernel, by decide +kernel⟩, List.mem_of_getElem? (i := 3184) (by decide +kernel), List.mem_of_getElem? (i := 4350) (by decide +kernel), List.mem_of_getElem? (i := 4351) (by decide +kernel)⟩
theorem lw_p343 : lw_okq (⟨"RoadHouseModel$InfluenceRowsModel", "trim", "(II)V"⟩, 26) := ⟨⟨by decide +kernel, by decide +kernel⟩, List.mem_of_getElem? (i := 3184) (by decide +kernel), List.mem_of_getElem? (i := 4354) (by decide +kernel), List.mem_of_getElem? (i := 4355) (by decide +kernel)⟩
theorem lw_p344 : lw_okq (⟨"RoadHouseModel$InfluenceRowsModel", "compare", "(II)I"⟩, 26) := ⟨⟨by decide +kernel, by decide +kernel⟩, List.mem_of_getElem? (i := 3184) (by decide +kernel), List.mem_of_getElem? (i := 4359) (by decide +kernel), List.mem_of_getElem? (i := 4360) (by decide +kernel)⟩
theorem lw_p345 : lw_okq (⟨"RoadHouseModel$InfluenceRowsModel", "longer", "(II)I"⟩, 26) := ⟨⟨by decide +kernel, by decide +kernel⟩, List.mem_of_getElem? (i := 3184) (by decide +kernel), List.mem_of_getElem? (i := 4363) (by decide +kernel), List.mem_of_getElem? (i := 4364) (by decide +kernel)⟩
theorem lw_p346 : lw_okq (⟨"RoadHouseModel$InfluenceRowsModel", "takePlain", "(II)V"⟩, 26) := ⟨⟨by decide +kernel, by decide +kernel⟩, List.mem_of_getElem? (i := 3184) (by decide +kernel), List.mem_of_getElem? (i := 4367) (by decide +kernel), List.mem_of_getElem? (i := 4368) (by decide +kernel)⟩
theorem lw_p347 : lw_okq (⟨"RoadHouseModel$InfluenceRowsModel", "addPlain", "(II)V"⟩, 26) := ⟨⟨by decide +kernel, by decide +kernel⟩, List.mem_of_getElem? (i := 3184) (by decide +kernel), List.mem_of_getElem? (i := 4372) (by decide +kernel), List.mem_of_getElem? (i := 4373) (by decide +kernel)⟩
theorem lw_p348 : lw_okq (⟨"RoadHouseModel$InfluenceRowsModel", "exact", "(I)V"⟩, 26) := ⟨⟨by decide +kernel, by decide +kernel⟩, List.mem_of_getElem? (i := 3184) (by decide +kernel), List.mem_of_getElem? (i := 4376) (by decide +kernel), List.mem_of_getElem? (i := 4377) (by decide +kernel)⟩
theorem lw_p349 : lw_okq (⟨"RoadHouseModel$InfluenceRowsModel", "bits", "(I)I"⟩, 26) := ⟨⟨by decide +kernel, by decide +kernel⟩, List.mem_of_getElem? (i := 3184) (by decide +kernel), List.mem_of_getElem? (i := 4380) (by decide +kernel), List.mem_of_getElem? (i := 4381) (by decide +kernel)⟩
theorem lw_p350 : lw_okq (⟨"RoadHouseModel$InfluenceRowsModel", "addFraction", "(IIII)V"⟩, 26) := ⟨⟨by decide +kernel, by decide +kernel⟩, List.mem_of_getElem? (i := 3184) (by decide +kernel), List.mem_of_getElem? (i := 4387) (by decide +kernel), List.mem_of_getElem? (i := 4388) (by decide +kernel)⟩
theorem lw_p351 : lw_okq (⟨"RoadHouseModel$InfluenceRowsModel", "product", "(III)V"⟩, 26) := ⟨⟨by decide +kernel, by decide +kernel⟩, List.mem_of_getElem? (i := 3184) (by decide +kernel), List.mem_of_getElem? (i := 4391) (by decide +kernel), List.mem_of_getElem? (i := 4392) (by decide +kernel)⟩
def lw_privs_22 : List (MethodName × Nat) := [(⟨"RoadHouseModel$InfluenceRowsModel", "fraction", "(IIJJ)V"⟩, 26), (⟨"RoadHouseModel$InfluenceRowsModel", "reduce", "(II)V"⟩, 26), (⟨"RoadHouseModel$InfluenceRowsModel", "divisorOf", "(II)V"⟩, 26), (⟨"RoadHouseModel$InfluenceRowsModel", "copy", "(II)V"⟩, 26), (⟨"RoadHouseModel$InfluenceRowsModel", "isEven", "(I)Z"⟩, 26), (⟨"RoadHouseModel$InfluenceRowsModel", "limb", "(II)I"⟩, 26), (⟨"RoadHouseModel$InfluenceRowsModel", "halve", "(I)V"⟩, 26), (⟨"RoadHouseModel$InfluenceRowsModel", "trim", "(II)V"⟩, 26), (⟨"RoadHouseModel$InfluenceRowsModel", "compare", "(II)I"⟩, 26), (⟨"RoadHouseModel$InfluenceRowsModel", "longer", "(II)I"⟩, 26), (⟨"RoadHouseModel$InfluenceRowsModel", "takePlain", "(II)V"⟩, 26), (⟨"RoadHouseModel$InfluenceRowsModel", "addPlain", "(II)V"⟩, 26), (⟨"RoadHouseModel$InfluenceRowsModel", "exact", "(I)V"⟩, 26), (⟨"RoadHouseModel$InfluenceRowsModel", "bits", "(I)I"⟩, 26), (⟨"RoadHouseModel$InfluenceRowsModel", "addFraction", "(IIII)V"⟩, 26), (⟨"RoadHouseModel$InfluenceRowsModel", "product", "(III)V"⟩, 26)]
theorem lw_r22 : ∀ q ∈ lw_privs_22, lw_okq q := List.forall_mem_cons.mpr ⟨lw_p336, List.forall_mem_cons.mpr ⟨lw_p337, List.forall_mem_cons.mpr ⟨lw_p338, List.forall_mem_cons.mpr ⟨lw_p339, List.forall_mem_cons.mpr ⟨lw_p340, List.forall_mem_cons.mpr ⟨lw_p341, List.forall_mem_cons.mpr ⟨lw_p342, List.forall_mem_cons.mpr ⟨lw_p343, List.forall_mem_cons.mpr ⟨lw_p344, List.forall_mem_cons.mpr ⟨lw_p345, List.forall_mem_cons.mpr ⟨lw_p346, List.forall_mem_cons.mpr ⟨lw_p347, List.forall_mem_cons.mpr ⟨lw_p348, List.forall_mem_cons.mpr ⟨lw_p349, List.forall_mem_cons.mpr ⟨lw_p350, List.forall_mem_cons.mpr ⟨lw_p351, fun _ h => absurd h List.not_mem_nil⟩⟩⟩⟩⟩⟩⟩⟩⟩⟩⟩⟩⟩⟩⟩⟩
theorem lw_p352 : lw_okq (⟨"RoadHouseModel$InfluenceRowsModel", "add", "(II)V"⟩, 26) := ⟨⟨by decide +kernel, by decide +kernel⟩, List.mem_of_getElem? (i := 3184) (by decide +kernel), List.mem_of_getElem? (i := 4395) (by decide +kernel), List.mem_of_getElem? (i := 4396) (by decide +kernel)⟩
theorem lw_p353 : lw_okq (⟨"RoadHouseModel$InfluenceRowsModel", "own", "(IIII)V"⟩, 26) := ⟨⟨by decide +kernel, by decide +kernel⟩, List.mem_of_getElem? (i := 3184) (by decide +kernel), List.mem_of_getElem? (i := 4399) (by decide +kernel), List.mem_of_getElem? (i := 4400) (by decide +kernel)⟩
theorem lw_p354 : lw_okq (⟨"RoadHouseModel$InfluenceRowsModel", "grow", "(IIJJ)V"⟩, 26) := ⟨⟨by decide +kernel, by decide +kernel⟩, List.mem_of_getElem? (i := 3184) (by decide +kernel), List.mem_of_getElem? (i := 4404) (by decide +kernel), List.mem_of_getElem? (i := 4405) (by decide +kernel)⟩
theorem lw_p355 : lw_okq (⟨"RoadHouseModel$InfluenceRowsModel", "next", "()V"⟩, 26) := ⟨⟨by decide +kernel, by decide +kernel⟩, List.mem_of_getElem? (i := 3184) (by decide +kernel), List.mem_of_getElem? (i := 4408) (by decide +kernel), List.mem_of_getElem? (i := 4409) (by decide +kernel)⟩
theorem lw_p356 : lw_okq (⟨"RoadHouseModel$InfluenceRowsModel", "turns", "(I)V"⟩, 26) := ⟨⟨by decide +kernel, by decide +kernel⟩, List.mem_of_getElem? (i := 3184) (by decide +kernel), List.mem_of_getElem? (i := 4412) (by decide +kernel), List.mem_of_getElem? (i := 4413) (by decide +kernel)⟩
theorem lw_p357 : lw_okq (⟨"RoadHouseModel$InfluenceRowsModel", "exchange", "(II)V"⟩, 26) := ⟨⟨by decide +kernel, by decide +kernel⟩, List.mem_of_getElem? (i := 3184) (by decide +kernel), List.mem_of_getElem? (i := 4416) (by decide +kernel), List.mem_of_getElem? (i := 4417) (by decide +kernel)⟩
theorem lw_p358 : lw_okq (⟨"RoadHouseModel$InfluenceRowsModel", "divideFraction", "(IIII)V"⟩, 26) := ⟨⟨by decide +kernel, by decide +kernel⟩, List.mem_of_getElem? (i := 3184) (by decide +kernel), List.mem_of_getElem? (i := 4420) (by decide +kernel), List.mem_of_getElem? (i := 4421) (by decide +kernel)⟩
theorem lw_p359 : lw_okq (⟨"RoadHouseModel$InfluenceRowsModel", "takeRow", "(II)V"⟩, 26) := ⟨⟨by decide +kernel, by decide +kernel⟩, List.mem_of_getElem? (i := 3184) (by decide +kernel), List.mem_of_getElem? (i := 4424) (by decide +kernel), List.mem_of_getElem? (i := 4425) (by decide +kernel)⟩
theorem lw_p360 : lw_okq (⟨"RoadHouseModel$InfluenceRowsModel", "timesFraction", "(IIII)V"⟩, 26) := ⟨⟨by decide +kernel, by decide +kernel⟩, List.mem_of_getElem? (i := 3184) (by decide +kernel), List.mem_of_getElem? (i := 4428) (by decide +kernel), List.mem_of_getElem? (i := 4429) (by decide +kernel)⟩
theorem lw_p361 : lw_okq (⟨"RoadHouseModel$InfluenceRowsModel", "isLoose", "(I)Z"⟩, 26) := ⟨⟨by decide +kernel, by decide +kernel⟩, List.mem_of_getElem? (i := 3184) (by decide +kernel), List.mem_of_getElem? (i := 4432) (by decide +kernel), List.mem_of_getElem? (i := 4433) (by decide +kernel)⟩
theorem lw_p362 : lw_okq (⟨"RoadHouseModel$InfluenceRowsModel", "moves", "(III)Z"⟩, 26) := ⟨⟨by decide +kernel, by decide +kernel⟩, List.mem_of_getElem? (i := 3184) (by decide +kernel), List.mem_of_getElem? (i := 4436) (by decide +kernel), List.mem_of_getElem? (i := 4437) (by decide +kernel)⟩
theorem lw_p363 : lw_okq (⟨"RoadHouseModel$InfluenceRowsModel", "noNode", "(I)Z"⟩, 26) := ⟨⟨by decide +kernel, by decide +kernel⟩, List.mem_of_getElem? (i := 3184) (by decide +kernel), List.mem_of_getElem? (i := 4448) (by decide +kernel), List.mem_of_getElem? (i := 4449) (by decide +kernel)⟩
theorem lw_p364 : lw_okq (⟨"RoadHouseModel$InfluenceRowsModel", "noBeam", "(I)Z"⟩, 26) := ⟨⟨by decide +kernel, by decide +kernel⟩, List.mem_of_getElem? (i := 3184) (by decide +kernel), List.mem_of_getElem? (i := 4452) (by decide +kernel), List.mem_of_getElem? (i := 4453) (by decide +kernel)⟩
theorem lw_p365 : lw_okq (⟨"RoadHouseModel$InfluenceRowsModel", "noRow", "(I)Z"⟩, 26) := ⟨⟨by decide +kernel, by decide +kernel⟩, List.mem_of_getElem? (i := 3184) (by decide +kernel), List.mem_of_getElem? (i := 4460) (by decide +kernel), List.mem_of_getElem? (i := 4461) (by decide +kernel)⟩
theorem lw_p366 : lw_okq (⟨"RoadHouseModel$InfluenceRowsModel", "value", "(III)V"⟩, 26) := ⟨⟨by decide +kernel, by decide +kernel⟩, List.mem_of_getElem? (i := 3184) (by decide +kernel), List.mem_of_getElem? (i := 4468) (by decide +kernel), List.mem_of_getElem? (i := 4469) (by decide +kernel)⟩
theorem lw_p367 : lw_okq (⟨"RoadHouseModel$InfluenceRowsModel", "has", "(IIIII)V"⟩, 26) := ⟨⟨by decide +kernel, by decide +kernel⟩, List.mem_of_getElem? (i := 3184) (by decide +kernel), List.mem_of_getElem? (i := 4472) (by decide +kernel), List.mem_of_getElem? (i := 4473) (by decide +kernel)⟩
def lw_privs_23 : List (MethodName × Nat) := [(⟨"RoadHouseModel$InfluenceRowsModel", "add", "(II)V"⟩, 26), (⟨"RoadHouseModel$InfluenceRowsModel", "own", "(IIII)V"⟩, 26), (⟨"RoadHouseModel$InfluenceRowsModel", "grow", "(IIJJ)V"⟩, 26), (⟨"RoadHouseModel$InfluenceRowsModel", "next", "()V"⟩, 26), (⟨"RoadHouseModel$InfluenceRowsModel", "turns", "(I)V"⟩, 26), (⟨"RoadHouseModel$InfluenceRowsModel", "exchange", "(II)V"⟩, 26), (⟨"RoadHouseModel$InfluenceRowsModel", "divideFraction", "(IIII)V"⟩, 26), (⟨"RoadHouseModel$InfluenceRowsModel", "takeRow", "(II)V"⟩, 26), (⟨"RoadHouseModel$InfluenceRowsModel", "timesFraction", "(IIII)V"⟩, 26), (⟨"RoadHouseModel$InfluenceRowsModel", "isLoose", "(I)Z"⟩, 26), (⟨"RoadHouseModel$InfluenceRowsModel", "moves", "(III)Z"⟩, 26), (⟨"RoadHouseModel$InfluenceRowsModel", "noNode", "(I)Z"⟩, 26), (⟨"RoadHouseModel$InfluenceRowsModel", "noBeam", "(I)Z"⟩, 26), (⟨"RoadHouseModel$InfluenceRowsModel", "noRow", "(I)Z"⟩, 26), (⟨"RoadHouseModel$InfluenceRowsModel", "value", "(III)V"⟩, 26), (⟨"RoadHouseModel$InfluenceRowsModel", "has", "(IIIII)V"⟩, 26)]
theorem lw_r23 : ∀ q ∈ lw_privs_23, lw_okq q := List.forall_mem_cons.mpr ⟨lw_p352, List.forall_mem_cons.mpr ⟨lw_p353, List.forall_mem_cons.mpr ⟨lw_p354, List.forall_mem_cons.mpr ⟨lw_p355, List.forall_mem_cons.mpr ⟨lw_p356, List.forall_mem_cons.mpr ⟨lw_p357, List.forall_mem_cons.mpr ⟨lw_p358, List.forall_mem_cons.mpr ⟨lw_p359, List.forall_mem_cons.mpr ⟨lw_p360, List.forall_mem_cons.mpr ⟨lw_p361, List.forall_mem_cons.mpr ⟨lw_p362, List.forall_mem_cons.mpr ⟨lw_p363, List.forall_mem_cons.mpr ⟨lw_p364, List.forall_mem_cons.mpr ⟨lw_p365, List.forall_mem_cons.mpr ⟨lw_p366, List.forall_mem_cons.mpr ⟨lw_p367, fun _ h => absurd h List.not_mem_nil⟩⟩⟩⟩⟩⟩⟩⟩⟩⟩⟩⟩⟩⟩⟩⟩
theorem lw_p368 : lw_okq (⟨"RoadHouseModel$InfluenceRowsModel", "told", "(III)J"⟩, 26) := ⟨⟨by decide +kernel, by decide +kernel⟩, List.mem_of_getElem? (i := 3184) (by decide +kernel), List.mem_of_getElem? (i := 4476) (by decide +kernel), List.mem_of_getElem? (i := 4477) (by decide +kernel)⟩
theorem lw_p369 : lw_okq (⟨"RoadHouseModel$InfluenceRowsModel", "divide", "(IJ)J"⟩, 26) := ⟨⟨by decide +kernel, by decide +kernel⟩, List.mem_of_getElem? (i := 3184) (by decide +kernel), List.mem_of_getElem? (i := 4482) (by decide +kernel), List.mem_of_getElem? (i := 4483) (by decide +kernel)⟩
theorem lw_p370 : lw_okq (⟨"RoadHouseModel$InfluenceRowsModel", "addPiece", "(I)V"⟩, 26) := ⟨⟨by decide +kernel, by decide +kernel⟩, List.mem_of_getElem? (i := 3184) (by decide +kernel), List.mem_of_getElem? (i := 4490) (by decide +kernel), List.mem_of_getElem? (i := 4491) (by decide +kernel)⟩
theorem lw_p371 : lw_okq (⟨"RoadHouseModel", "trainsCall", "(IIIIII)J"⟩, 19) := ⟨⟨by decide +kernel, by decide +kernel⟩, List.mem_of_getElem? (i := 2952) (by decide +kernel), List.mem_of_getElem? (i := 4521) (by decide +kernel), List.mem_of_getElem? (i := 4522) (by decide +kernel)⟩
theorem lw_p372 : lw_okq (⟨"RoadHouseModel$TrainWorstModel", "forget", "()V"⟩, 35) := ⟨⟨by decide +kernel, by decide +kernel⟩, List.mem_of_getElem? (i := 3271) (by decide +kernel), List.mem_of_getElem? (i := 4533) (by decide +kernel), List.mem_of_getElem? (i := 4534) (by decide +kernel)⟩
theorem lw_p373 : lw_okq (⟨"RoadHouseModel$TrainWorstModel", "noTrain", "(I)Z"⟩, 35) := ⟨⟨by decide +kernel, by decide +kernel⟩, List.mem_of_getElem? (i := 3271) (by decide +kernel), List.mem_of_getElem? (i := 4545) (by decide +kernel), List.mem_of_getElem? (i := 4546) (by decide +kernel)⟩
theorem lw_p374 : lw_okq (⟨"RoadHouseModel$TrainWorstModel", "prepare", "()V"⟩, 35) := ⟨⟨by decide +kernel, by decide +kernel⟩, List.mem_of_getElem? (i := 3271) (by decide +kernel), List.mem_of_getElem? (i := 4559) (by decide +kernel), List.mem_of_getElem? (i := 4560) (by decide +kernel)⟩
theorem lw_p375 : lw_okq (⟨"RoadHouseModel$TrainWorstModel", "small", "(IJ)V"⟩, 35) := ⟨⟨by decide +kernel, by decide +kernel⟩, List.mem_of_getElem? (i := 3271) (by decide +kernel), List.mem_of_getElem? (i := 4563) (by decide +kernel), List.mem_of_getElem? (i := 4564) (by decide +kernel)⟩
theorem lw_p376 : lw_okq (⟨"RoadHouseModel$TrainWorstModel", "rest", "(IJ)J"⟩, 35) := ⟨⟨by decide +kernel, by decide +kernel⟩, List.mem_of_getElem? (i := 3271) (by decide +kernel), List.mem_of_getElem? (i := 4568) (by decide +kernel), List.mem_of_getElem? (i := 4569) (by decide +kernel)⟩
theorem lw_p377 : lw_okq (⟨"RoadHouseModel$TrainWorstModel", "times", "(IJ)V"⟩, 35) := ⟨⟨by decide +kernel, by decide +kernel⟩, List.mem_of_getElem? (i := 3271) (by decide +kernel), List.mem_of_getElem? (i := 4575) (by decide +kernel), List.mem_of_getElem? (i := 4576) (by decide +kernel)⟩
theorem lw_p378 : lw_okq (⟨"RoadHouseModel$TrainWorstModel", "product", "(III)V"⟩, 35) := ⟨⟨by decide +kernel, by decide +kernel⟩, List.mem_of_getElem? (i := 3271) (by decide +kernel), List.mem_of_getElem? (i := 4579) (by decide +kernel), List.mem_of_getElem? (i := 4580) (by decide +kernel)⟩
theorem lw_p379 : lw_okq (⟨"RoadHouseModel$TrainWorstModel", "trim", "(II)V"⟩, 35) := ⟨⟨by decide +kernel, by decide +kernel⟩, List.mem_of_getElem? (i := 3271) (by decide +kernel), List.mem_of_getElem? (i := 4583) (by decide +kernel), List.mem_of_getElem? (i := 4584) (by decide +kernel)⟩
theorem lw_p380 : lw_okq (⟨"RoadHouseModel$TrainWorstModel", "copy", "(II)V"⟩, 35) := ⟨⟨by decide +kernel, by decide +kernel⟩, List.mem_of_getElem? (i := 3271) (by decide +kernel), List.mem_of_getElem? (i := 4587) (by decide +kernel), List.mem_of_getElem? (i := 4588) (by decide +kernel)⟩
theorem lw_p381 : lw_okq (⟨"RoadHouseModel$TrainWorstModel", "divide", "(IJ)J"⟩, 35) := ⟨⟨by decide +kernel, by decide +kernel⟩, List.mem_of_getElem? (i := 3271) (by decide +kernel), List.mem_of_getElem? (i := 4591) (by decide +kernel), List.mem_of_getElem? (i := 4592) (by decide +kernel)⟩
theorem lw_p382 : lw_okq (⟨"RoadHouseModel$TrainWorstModel", "gather", "(IZ)V"⟩, 35) := ⟨⟨by decide +kernel, by decide +kernel⟩, List.mem_of_getElem? (i := 3271) (by decide +kernel), List.mem_of_getElem? (i := 4595) (by decide +kernel), List.mem_of_getElem? (i := 4596) (by decide +kernel)⟩
theorem lw_p383 : lw_okq (⟨"RoadHouseModel$TrainWorstModel", "addEffect", "(IIZ)V"⟩, 35) := ⟨⟨by decide +kernel, by decide +kernel⟩, List.mem_of_getElem? (i := 3271) (by decide +kernel), List.mem_of_getElem? (i := 4599) (by decide +kernel), List.mem_of_getElem? (i := 4600) (by decide +kernel)⟩
def lw_privs_24 : List (MethodName × Nat) := [(⟨"RoadHouseModel$InfluenceRowsModel", "told", "(III)J"⟩, 26), (⟨"RoadHouseModel$InfluenceRowsModel", "divide", "(IJ)J"⟩, 26), (⟨"RoadHouseModel$InfluenceRowsModel", "addPiece", "(I)V"⟩, 26), (⟨"RoadHouseModel", "trainsCall", "(IIIIII)J"⟩, 19), (⟨"RoadHouseModel$TrainWorstModel", "forget", "()V"⟩, 35), (⟨"RoadHouseModel$TrainWorstModel", "noTrain", "(I)Z"⟩, 35), (⟨"RoadHouseModel$TrainWorstModel", "prepare", "()V"⟩, 35), (⟨"RoadHouseModel$TrainWorstModel", "small", "(IJ)V"⟩, 35), (⟨"RoadHouseModel$TrainWorstModel", "rest", "(IJ)J"⟩, 35), (⟨"RoadHouseModel$TrainWorstModel", "times", "(IJ)V"⟩, 35), (⟨"RoadHouseModel$TrainWorstModel", "product", "(III)V"⟩, 35), (⟨"RoadHouseModel$TrainWorstModel", "trim", "(II)V"⟩, 35), (⟨"RoadHouseModel$TrainWorstModel", "copy", "(II)V"⟩, 35), (⟨"RoadHouseModel$TrainWorstModel", "divide", "(IJ)J"⟩, 35), (⟨"RoadHouseModel$TrainWorstModel", "gather", "(IZ)V"⟩, 35), (⟨"RoadHouseModel$TrainWorstModel", "addEffect", "(IIZ)V"⟩, 35)]
theorem lw_r24 : ∀ q ∈ lw_privs_24, lw_okq q := List.forall_mem_cons.mpr ⟨lw_p368, List.forall_mem_cons.mpr ⟨lw_p369, List.forall_mem_cons.mpr ⟨lw_p370, List.forall_mem_cons.mpr ⟨lw_p371, List.forall_mem_cons.mpr ⟨lw_p372, List.forall_mem_cons.mpr ⟨lw_p373, List.forall_mem_cons.mpr ⟨lw_p374, List.forall_mem_cons.mpr ⟨lw_p375, List.forall_mem_cons.mpr ⟨lw_p376, List.forall_mem_cons.mpr ⟨lw_p377, List.forall_mem_cons.mpr ⟨lw_p378, List.forall_mem_cons.mpr ⟨lw_p379, List.forall_mem_cons.mpr ⟨lw_p380, List.forall_mem_cons.mpr ⟨lw_p381, List.forall_mem_cons.mpr ⟨lw_p382, List.forall_mem_cons.mpr ⟨lw_p383, fun _ h => absurd h List.not_mem_nil⟩⟩⟩⟩⟩⟩⟩⟩⟩⟩⟩⟩⟩⟩⟩⟩
theorem lw_p384 : lw_okq (⟨"RoadHouseModel$TrainWorstModel", "addValue", "(IJ)V"⟩, 35) := ⟨⟨by decide +kernel, by decide +kernel⟩, List.mem_of_getElem? (i := 3271) (by decide +kernel), List.mem_of_getElem? (i := 4603) (by decide +kernel), List.mem_of_getElem? (i := 4604) (by decide +kernel)⟩
theorem lw_p385 : lw_okq (⟨"RoadHouseModel$TrainWorstModel", "add", "(II)V"⟩, 35) := ⟨⟨by decide +kernel, by decide +kernel⟩, List.mem_of_getElem? (i := 3271) (by decide +kernel), List.mem_of_getElem? (i := 4607) (by decide +kernel), List.mem_of_getElem? (i := 4608) (by decide +kernel)⟩
theorem lw_p386 : lw_okq (⟨"RoadHouseModel$TrainWorstModel", "addPlain", "(II)V"⟩, 35) := ⟨⟨by decide +kernel, by decide +kernel⟩, List.mem_of_getElem? (i := 3271) (by decide +kernel), List.mem_of_getElem? (i := 4611) (by decide +kernel), List.mem_of_getElem? (i := 4612) (by decide +kernel)⟩
theorem lw_p387 : lw_okq (⟨"RoadHouseModel$TrainWorstModel", "longer", "(II)I"⟩, 35) := ⟨⟨by decide +kernel, by decide +kernel⟩, List.mem_of_getElem? (i := 3271) (by decide +kernel), List.mem_of_getElem? (i := 4615) (by decide +kernel), List.mem_of_getElem? (i := 4616) (by decide +kernel)⟩
theorem lw_p388 : lw_okq (⟨"RoadHouseModel$TrainWorstModel", "limb", "(II)I"⟩, 35) := ⟨⟨by decide +kernel, by decide +kernel⟩, List.mem_of_getElem? (i := 3271) (by decide +kernel), List.mem_of_getElem? (i := 4619) (by decide +kernel), List.mem_of_getElem? (i := 4620) (by decide +kernel)⟩
theorem lw_p389 : lw_okq (⟨"RoadHouseModel$TrainWorstModel", "compare", "(II)I"⟩, 35) := ⟨⟨by decide +kernel, by decide +kernel⟩, List.mem_of_getElem? (i := 3271) (by decide +kernel), List.mem_of_getElem? (i := 4624) (by decide +kernel), List.mem_of_getElem? (i := 4625) (by decide +kernel)⟩
theorem lw_p390 : lw_okq (⟨"RoadHouseModel$TrainWorstModel", "takePlain", "(II)V"⟩, 35) := ⟨⟨by decide +kernel, by decide +kernel⟩, List.mem_of_getElem? (i := 3271) (by decide +kernel), List.mem_of_getElem? (i := 4628) (by decide +kernel), List.mem_of_getElem? (i := 4629) (by decide +kernel)⟩
theorem lw_p391 : lw_okq (⟨"RoadHouseModel$TrainWorstModel", "order", "(II)I"⟩, 35) := ⟨⟨by decide +kernel, by decide +kernel⟩, List.mem_of_getElem? (i := 3271) (by decide +kernel), List.mem_of_getElem? (i := 4632) (by decide +kernel), List.mem_of_getElem? (i := 4633) (by decide +kernel)⟩
theorem lw_p392 : lw_okq (⟨"RoadHouseModel$TrainWorstModel", "keep", "(IIZ)V"⟩, 35) := ⟨⟨by decide +kernel, by decide +kernel⟩, List.mem_of_getElem? (i := 3271) (by decide +kernel), List.mem_of_getElem? (i := 4636) (by decide +kernel), List.mem_of_getElem? (i := 4637) (by decide +kernel)⟩
theorem lw_p393 : lw_okq (⟨"RoadHouseModel$TrainWorstModel", "tell", "(II)J"⟩, 35) := ⟨⟨by decide +kernel, by decide +kernel⟩, List.mem_of_getElem? (i := 3271) (by decide +kernel), List.mem_of_getElem? (i := 4649) (by decide +kernel), List.mem_of_getElem? (i := 4650) (by decide +kernel)⟩
theorem lw_p394 : lw_okq (⟨"RoadHouseModel$TrainWorstModel", "reduce", "(II)V"⟩, 35) := ⟨⟨by decide +kernel, by decide +kernel⟩, List.mem_of_getElem? (i := 3271) (by decide +kernel), List.mem_of_getElem? (i := 4653) (by decide +kernel), List.mem_of_getElem? (i := 4654) (by decide +kernel)⟩
theorem lw_p395 : lw_okq (⟨"RoadHouseModel$TrainWorstModel", "divisorOf", "(II)V"⟩, 35) := ⟨⟨by decide +kernel, by decide +kernel⟩, List.mem_of_getElem? (i := 3271) (by decide +kernel), List.mem_of_getElem? (i := 4657) (by decide +kernel), List.mem_of_getElem? (i := 4658) (by decide +kernel)⟩
theorem lw_p396 : lw_okq (⟨"RoadHouseModel$TrainWorstModel", "isEven", "(I)Z"⟩, 35) := ⟨⟨by decide +kernel, by decide +kernel⟩, List.mem_of_getElem? (i := 3271) (by decide +kernel), List.mem_of_getElem? (i := 4661) (by decide +kernel), List.mem_of_getElem? (i := 4662) (by decide +kernel)⟩
theorem lw_p397 : lw_okq (⟨"RoadHouseModel$TrainWorstModel", "halve", "(I)V"⟩, 35) := ⟨⟨by decide +kernel, by decide +kernel⟩, List.mem_of_getElem? (i := 3271) (by decide +kernel), List.mem_of_getElem? (i := 4665) (by decide +kernel), List.mem_of_getElem? (i := 4666) (by decide +kernel)⟩
theorem lw_p398 : lw_okq (⟨"RoadHouseModel$TrainWorstModel", "exact", "(I)V"⟩, 35) := ⟨⟨by decide +kernel, by decide +kernel⟩, List.mem_of_getElem? (i := 3271) (by decide +kernel), List.mem_of_getElem? (i := 4669) (by decide +kernel), List.mem_of_getElem? (i := 4670) (by decide +kernel)⟩
theorem lw_p399 : lw_okq (⟨"RoadHouseModel$TrainWorstModel", "bits", "(I)I"⟩, 35) := ⟨⟨by decide +kernel, by decide +kernel⟩, List.mem_of_getElem? (i := 3271) (by decide +kernel), List.mem_of_getElem? (i := 4673) (by decide +kernel), List.mem_of_getElem? (i := 4674) (by decide +kernel)⟩
def lw_privs_25 : List (MethodName × Nat) := [(⟨"RoadHouseModel$TrainWorstModel", "addValue", "(IJ)V"⟩, 35), (⟨"RoadHouseModel$TrainWorstModel", "add", "(II)V"⟩, 35), (⟨"RoadHouseModel$TrainWorstModel", "addPlain", "(II)V"⟩, 35), (⟨"RoadHouseModel$TrainWorstModel", "longer", "(II)I"⟩, 35), (⟨"RoadHouseModel$TrainWorstModel", "limb", "(II)I"⟩, 35), (⟨"RoadHouseModel$TrainWorstModel", "compare", "(II)I"⟩, 35), (⟨"RoadHouseModel$TrainWorstModel", "takePlain", "(II)V"⟩, 35), (⟨"RoadHouseModel$TrainWorstModel", "order", "(II)I"⟩, 35), (⟨"RoadHouseModel$TrainWorstModel", "keep", "(IIZ)V"⟩, 35), (⟨"RoadHouseModel$TrainWorstModel", "tell", "(II)J"⟩, 35), (⟨"RoadHouseModel$TrainWorstModel", "reduce", "(II)V"⟩, 35), (⟨"RoadHouseModel$TrainWorstModel", "divisorOf", "(II)V"⟩, 35), (⟨"RoadHouseModel$TrainWorstModel", "isEven", "(I)Z"⟩, 35), (⟨"RoadHouseModel$TrainWorstModel", "halve", "(I)V"⟩, 35), (⟨"RoadHouseModel$TrainWorstModel", "exact", "(I)V"⟩, 35), (⟨"RoadHouseModel$TrainWorstModel", "bits", "(I)I"⟩, 35)]
theorem lw_r25 : ∀ q ∈ lw_privs_25, lw_okq q := List.forall_mem_cons.mpr ⟨lw_p384, List.forall_mem_cons.mpr ⟨lw_p385, List.forall_mem_cons.mpr ⟨lw_p386, List.forall_mem_cons.mpr ⟨lw_p387, List.forall_mem_cons.mpr ⟨lw_p388, List.forall_mem_cons.mpr ⟨lw_p389, List.forall_mem_cons.mpr ⟨lw_p390, List.forall_mem_cons.mpr ⟨lw_p391, List.forall_mem_cons.mpr ⟨lw_p392, List.forall_mem_cons.mpr ⟨lw_p393, List.forall_mem_cons.mpr ⟨lw_p394, List.forall_mem_cons.mpr ⟨lw_p395, List.forall_mem_cons.mpr ⟨lw_p396, List.forall_mem_cons.mpr ⟨lw_p397, List.forall_mem_cons.mpr ⟨lw_p398, List.forall_mem_cons.mpr ⟨lw_p399, fun _ h => absurd h List.not_mem_nil⟩⟩⟩⟩⟩⟩⟩⟩⟩⟩⟩⟩⟩⟩⟩⟩
theorem lw_p400 : lw_okq (⟨"RoadHouseModel$TrainWorstModel", "told", "(III)J"⟩, 35) := ⟨⟨by decide +kernel, by decide +kernel⟩, List.mem_of_getElem? (i := 3271) (by decide +kernel), List.mem_of_getElem? (i := 4677) (by decide +kernel), List.mem_of_getElem? (i := 4678) (by decide +kernel)⟩
theorem lw_p401 : lw_okq (⟨"RoadHouseModel$TrainWorstModel", "laneSum", "(I)V"⟩, 35) := ⟨⟨by decide +kernel, by decide +kernel⟩, List.mem_of_getElem? (i := 3271) (by decide +kernel), List.mem_of_getElem? (i := 4694) (by decide +kernel), List.mem_of_getElem? (i := 4695) (by decide +kernel)⟩
theorem lw_p402 : lw_okq (⟨"RoadHouseModel$TrainWorstModel", "area", "()V"⟩, 35) := ⟨⟨by decide +kernel, by decide +kernel⟩, List.mem_of_getElem? (i := 3271) (by decide +kernel), List.mem_of_getElem? (i := 4702) (by decide +kernel), List.mem_of_getElem? (i := 4703) (by decide +kernel)⟩
theorem lw_p403 : lw_okq (⟨"RoadHouseModel$TrainWorstModel", "addFraction", "(IIII)V"⟩, 35) := ⟨⟨by decide +kernel, by decide +kernel⟩, List.mem_of_getElem? (i := 3271) (by decide +kernel), List.mem_of_getElem? (i := 4710) (by decide +kernel), List.mem_of_getElem? (i := 4711) (by decide +kernel)⟩
theorem lw_p404 : lw_okq (⟨"RoadHouseModel$TrainWorstModel", "stretch", "(I)I"⟩, 35) := ⟨⟨by decide +kernel, by decide +kernel⟩, List.mem_of_getElem? (i := 3271) (by decide +kernel), List.mem_of_getElem? (i := 4718) (by decide +kernel), List.mem_of_getElem? (i := 4719) (by decide +kernel)⟩
theorem lw_p405 : lw_okq (⟨"RoadHouseModel$TrainWorstModel", "meets", "(I)J"⟩, 35) := ⟨⟨by decide +kernel, by decide +kernel⟩, List.mem_of_getElem? (i := 3271) (by decide +kernel), List.mem_of_getElem? (i := 4722) (by decide +kernel), List.mem_of_getElem? (i := 4723) (by decide +kernel)⟩
theorem lw_p406 : lw_okq (⟨"RoadHouseModel$TrainWorstModel", "sign", "(I)I"⟩, 35) := ⟨⟨by decide +kernel, by decide +kernel⟩, List.mem_of_getElem? (i := 3271) (by decide +kernel), List.mem_of_getElem? (i := 4738) (by decide +kernel), List.mem_of_getElem? (i := 4739) (by decide +kernel)⟩
theorem lw_p407 : lw_okq (⟨"RoadHouseModel$TrainWorstModel", "work", "(I)V"⟩, 35) := ⟨⟨by decide +kernel, by decide +kernel⟩, List.mem_of_getElem? (i := 3271) (by decide +kernel), List.mem_of_getElem? (i := 4750) (by decide +kernel), List.mem_of_getElem? (i := 4751) (by decide +kernel)⟩
theorem lw_p408 : lw_okq (⟨"RoadHouseModel", "stressCall", "(IIIIII)J"⟩, 19) := ⟨⟨by decide +kernel, by decide +kernel⟩, List.mem_of_getElem? (i := 2952) (by decide +kernel), List.mem_of_getElem? (i := 4784) (by decide +kernel), List.mem_of_getElem? (i := 4785) (by decide +kernel)⟩
theorem lw_p409 : lw_okq (⟨"RoadHouseModel$StressTurnsModel", "feed", "(I)V"⟩, 25) := ⟨⟨by decide +kernel, by decide +kernel⟩, List.mem_of_getElem? (i := 3382) (by decide +kernel), List.mem_of_getElem? (i := 4794) (by decide +kernel), List.mem_of_getElem? (i := 4795) (by decide +kernel)⟩
theorem lw_p410 : lw_okq (⟨"RoadHouseModel$StressTurnsModel", "rangeOf", "(I)I"⟩, 25) := ⟨⟨by decide +kernel, by decide +kernel⟩, List.mem_of_getElem? (i := 3382) (by decide +kernel), List.mem_of_getElem? (i := 4810) (by decide +kernel), List.mem_of_getElem? (i := 4811) (by decide +kernel)⟩
theorem lw_p411 : lw_okq (⟨"RoadHouseModel$StressTurnsModel", "shareTold", "(IIJI)J"⟩, 25) := ⟨⟨by decide +kernel, by decide +kernel⟩, List.mem_of_getElem? (i := 3382) (by decide +kernel), List.mem_of_getElem? (i := 4850) (by decide +kernel), List.mem_of_getElem? (i := 4851) (by decide +kernel)⟩
theorem lw_p412 : lw_okq (⟨"RoadHouseModel$StressTurnsModel", "shareOf", "(IIJ)V"⟩, 25) := ⟨⟨by decide +kernel, by decide +kernel⟩, List.mem_of_getElem? (i := 3382) (by decide +kernel), List.mem_of_getElem? (i := 4854) (by decide +kernel), List.mem_of_getElem? (i := 4855) (by decide +kernel)⟩
theorem lw_p413 : lw_okq (⟨"RoadHouseModel$StressTurnsModel", "countHalves", "(II)V"⟩, 25) := ⟨⟨by decide +kernel, by decide +kernel⟩, List.mem_of_getElem? (i := 3382) (by decide +kernel), List.mem_of_getElem? (i := 4858) (by decide +kernel), List.mem_of_getElem? (i := 4859) (by decide +kernel)⟩
theorem lw_p414 : lw_okq (⟨"RoadHouseModel$StressTurnsModel", "lineOf", "(IJ)I"⟩, 25) := ⟨⟨by decide +kernel, by decide +kernel⟩, List.mem_of_getElem? (i := 3382) (by decide +kernel), List.mem_of_getElem? (i := 4862) (by decide +kernel), List.mem_of_getElem? (i := 4863) (by decide +kernel)⟩
theorem lw_p415 : lw_okq (⟨"RoadHouseModel$StressTurnsModel", "takePrimes", "(J)V"⟩, 25) := ⟨⟨by decide +kernel, by decide +kernel⟩, List.mem_of_getElem? (i := 3382) (by decide +kernel), List.mem_of_getElem? (i := 4888) (by decide +kernel), List.mem_of_getElem? (i := 4889) (by decide +kernel)⟩
def lw_privs_26 : List (MethodName × Nat) := [(⟨"RoadHouseModel$TrainWorstModel", "told", "(III)J"⟩, 35), (⟨"RoadHouseModel$TrainWorstModel", "laneSum", "(I)V"⟩, 35), (⟨"RoadHouseModel$TrainWorstModel", "area", "()V"⟩, 35), (⟨"RoadHouseModel$TrainWorstModel", "addFraction", "(IIII)V"⟩, 35), (⟨"RoadHouseModel$TrainWorstModel", "stretch", "(I)I"⟩, 35), (⟨"RoadHouseModel$TrainWorstModel", "meets", "(I)J"⟩, 35), (⟨"RoadHouseModel$TrainWorstModel", "sign", "(I)I"⟩, 35), (⟨"RoadHouseModel$TrainWorstModel", "work", "(I)V"⟩, 35), (⟨"RoadHouseModel", "stressCall", "(IIIIII)J"⟩, 19), (⟨"RoadHouseModel$StressTurnsModel", "feed", "(I)V"⟩, 25), (⟨"RoadHouseModel$StressTurnsModel", "rangeOf", "(I)I"⟩, 25), (⟨"RoadHouseModel$StressTurnsModel", "shareTold", "(IIJI)J"⟩, 25), (⟨"RoadHouseModel$StressTurnsModel", "shareOf", "(IIJ)V"⟩, 25), (⟨"RoadHouseModel$StressTurnsModel", "countHalves", "(II)V"⟩, 25), (⟨"RoadHouseModel$StressTurnsModel", "lineOf", "(IJ)I"⟩, 25), (⟨"RoadHouseModel$StressTurnsModel", "takePrimes", "(J)V"⟩, 25)]
theorem lw_r26 : ∀ q ∈ lw_privs_26, lw_okq q := List.forall_mem_cons.mpr ⟨lw_p400, List.forall_mem_cons.mpr ⟨lw_p401, List.forall_mem_cons.mpr ⟨lw_p402, List.forall_mem_cons.mpr ⟨lw_p403, List.forall_mem_cons.mpr ⟨lw_p404, List.forall_mem_cons.mpr ⟨lw_p405, List.forall_mem_cons.mpr ⟨lw_p406, List.forall_mem_cons.mpr ⟨lw_p407, List.forall_mem_cons.mpr ⟨lw_p408, List.forall_mem_cons.mpr ⟨lw_p409, List.forall_mem_cons.mpr ⟨lw_p410, List.forall_mem_cons.mpr ⟨lw_p411, List.forall_mem_cons.mpr ⟨lw_p412, List.forall_mem_cons.mpr ⟨lw_p413, List.forall_mem_cons.mpr ⟨lw_p414, List.forall_mem_cons.mpr ⟨lw_p415, fun _ h => absurd h List.not_mem_nil⟩⟩⟩⟩⟩⟩⟩⟩⟩⟩⟩⟩⟩⟩⟩⟩
theorem lw_p416 : lw_okq (⟨"RoadHouseModel$StressTurnsModel", "told", "(I)J"⟩, 25) := ⟨⟨by decide +kernel, by decide +kernel⟩, List.mem_of_getElem? (i := 3382) (by decide +kernel), List.mem_of_getElem? (i := 4892) (by decide +kernel), List.mem_of_getElem? (i := 4893) (by decide +kernel)⟩
theorem lw_p417 : lw_okq (⟨"RoadHouseModel$StressTurnsModel", "isBelow", "(JJ)Z"⟩, 25) := ⟨⟨by decide +kernel, by decide +kernel⟩, List.mem_of_getElem? (i := 3382) (by decide +kernel), List.mem_of_getElem? (i := 4918) (by decide +kernel), List.mem_of_getElem? (i := 4919) (by decide +kernel)⟩
theorem lw_p418 : lw_okq (⟨"RoadHouseModel$StressTurnsModel", "planAll", "(I)V"⟩, 25) := ⟨⟨by decide +kernel, by decide +kernel⟩, List.mem_of_getElem? (i := 3382) (by decide +kernel), List.mem_of_getElem? (i := 4939) (by decide +kernel), List.mem_of_getElem? (i := 4940) (by decide +kernel)⟩
theorem lw_p419 : lw_okq (⟨"RoadHouseModel", "signalsCall", "(IIIIII)J"⟩, 19) := ⟨⟨by decide +kernel, by decide +kernel⟩, List.mem_of_getElem? (i := 2952) (by decide +kernel), List.mem_of_getElem? (i := 4951) (by decide +kernel), List.mem_of_getElem? (i := 4952) (by decide +kernel)⟩
theorem lw_p420 : lw_okq (⟨"RoadHouseModel$SignalProofsModel", "thrownAt", "(I)Z"⟩, 30) := ⟨⟨by decide +kernel, by decide +kernel⟩, List.mem_of_getElem? (i := 3464) (by decide +kernel), List.mem_of_getElem? (i := 4960) (by decide +kernel), List.mem_of_getElem? (i := 4961) (by decide +kernel)⟩
theorem lw_p421 : lw_okq (⟨"RoadHouseModel$SignalProofsModel", "sign", "(I)I"⟩, 30) := ⟨⟨by decide +kernel, by decide +kernel⟩, List.mem_of_getElem? (i := 3464) (by decide +kernel), List.mem_of_getElem? (i := 4980) (by decide +kernel), List.mem_of_getElem? (i := 4981) (by decide +kernel)⟩
theorem lw_p422 : lw_okq (⟨"RoadHouseModel$SignalProofsModel", "number", "(III)I"⟩, 30) := ⟨⟨by decide +kernel, by decide +kernel⟩, List.mem_of_getElem? (i := 3464) (by decide +kernel), List.mem_of_getElem? (i := 4984) (by decide +kernel), List.mem_of_getElem? (i := 4985) (by decide +kernel)⟩
theorem lw_p423 : lw_okq (⟨"RoadHouseModel$SignalProofsModel", "tell", "(II)Z"⟩, 30) := ⟨⟨by decide +kernel, by decide +kernel⟩, List.mem_of_getElem? (i := 3464) (by decide +kernel), List.mem_of_getElem? (i := 4999) (by decide +kernel), List.mem_of_getElem? (i := 5000) (by decide +kernel)⟩
theorem lw_p424 : lw_okq (⟨"RoadHouseModel$SignalProofsModel", "eventAt", "(I)I"⟩, 30) := ⟨⟨by decide +kernel, by decide +kernel⟩, List.mem_of_getElem? (i := 3464) (by decide +kernel), List.mem_of_getElem? (i := 5003) (by decide +kernel), List.mem_of_getElem? (i := 5004) (by decide +kernel)⟩
theorem lw_p425 : lw_okq (⟨"RoadHouseModel$SignalProofsModel", "copyFrom", "([I)V"⟩, 30) := ⟨⟨by decide +kernel, by decide +kernel⟩, List.mem_of_getElem? (i := 3464) (by decide +kernel), List.mem_of_getElem? (i := 5015) (by decide +kernel), List.mem_of_getElem? (i := 5016) (by decide +kernel)⟩
theorem lw_p426 : lw_okq (⟨"RoadHouseModel$SignalProofsModel", "pass", "(I)I"⟩, 30) := ⟨⟨by decide +kernel, by decide +kernel⟩, List.mem_of_getElem? (i := 3464) (by decide +kernel), List.mem_of_getElem? (i := 5019) (by decide +kernel), List.mem_of_getElem? (i := 5020) (by decide +kernel)⟩
theorem lw_p427 : lw_okq (⟨"RoadHouseModel$SignalProofsModel", "shownNow", "()I"⟩, 30) := ⟨⟨by decide +kernel, by decide +kernel⟩, List.mem_of_getElem? (i := 3464) (by decide +kernel), List.mem_of_getElem? (i := 5023) (by decide +kernel), List.mem_of_getElem? (i := 5024) (by decide +kernel)⟩
theorem lw_p428 : lw_okq (⟨"RoadHouseModel$SignalProofsModel", "groupsNext", "()I"⟩, 30) := ⟨⟨by decide +kernel, by decide +kernel⟩, List.mem_of_getElem? (i := 3464) (by decide +kernel), List.mem_of_getElem? (i := 5027) (by decide +kernel), List.mem_of_getElem? (i := 5028) (by decide +kernel)⟩
theorem lw_p429 : lw_okq (⟨"RoadHouseModel$SignalProofsModel", "enter", "(I)V"⟩, 30) := ⟨⟨by decide +kernel, by decide +kernel⟩, List.mem_of_getElem? (i := 3464) (by decide +kernel), List.mem_of_getElem? (i := 5031) (by decide +kernel), List.mem_of_getElem? (i := 5032) (by decide +kernel)⟩
theorem lw_p430 : lw_okq (⟨"RoadHouseModel$SignalProofsModel", "ends", "()Z"⟩, 30) := ⟨⟨by decide +kernel, by decide +kernel⟩, List.mem_of_getElem? (i := 3464) (by decide +kernel), List.mem_of_getElem? (i := 5035) (by decide +kernel), List.mem_of_getElem? (i := 5036) (by decide +kernel)⟩
theorem lw_p431 : lw_okq (⟨"RoadHouseModel$SignalProofsModel", "leave", "()V"⟩, 30) := ⟨⟨by decide +kernel, by decide +kernel⟩, List.mem_of_getElem? (i := 3464) (by decide +kernel), List.mem_of_getElem? (i := 5039) (by decide +kernel), List.mem_of_getElem? (i := 5040) (by decide +kernel)⟩
def lw_privs_27 : List (MethodName × Nat) := [(⟨"RoadHouseModel$StressTurnsModel", "told", "(I)J"⟩, 25), (⟨"RoadHouseModel$StressTurnsModel", "isBelow", "(JJ)Z"⟩, 25), (⟨"RoadHouseModel$StressTurnsModel", "planAll", "(I)V"⟩, 25), (⟨"RoadHouseModel", "signalsCall", "(IIIIII)J"⟩, 19), (⟨"RoadHouseModel$SignalProofsModel", "thrownAt", "(I)Z"⟩, 30), (⟨"RoadHouseModel$SignalProofsModel", "sign", "(I)I"⟩, 30), (⟨"RoadHouseModel$SignalProofsModel", "number", "(III)I"⟩, 30), (⟨"RoadHouseModel$SignalProofsModel", "tell", "(II)Z"⟩, 30), (⟨"RoadHouseModel$SignalProofsModel", "eventAt", "(I)I"⟩, 30), (⟨"RoadHouseModel$SignalProofsModel", "copyFrom", "([I)V"⟩, 30), (⟨"RoadHouseModel$SignalProofsModel", "pass", "(I)I"⟩, 30), (⟨"RoadHouseModel$SignalProofsModel", "shownNow", "()I"⟩, 30), (⟨"RoadHouseModel$SignalProofsModel", "groupsNext", "()I"⟩, 30), (⟨"RoadHouseModel$SignalProofsModel", "enter", "(I)V"⟩, 30), (⟨"RoadHouseModel$SignalProofsModel", "ends", "()Z"⟩, 30), (⟨"RoadHouseModel$SignalProofsModel", "leave", "()V"⟩, 30)]
theorem lw_r27 : ∀ q ∈ lw_privs_27, lw_okq q := List.forall_mem_cons.mpr ⟨lw_p416, List.forall_mem_cons.mpr ⟨lw_p417, List.forall_mem_cons.mpr ⟨lw_p418, List.forall_mem_cons.mpr ⟨lw_p419, List.forall_mem_cons.mpr ⟨lw_p420, List.forall_mem_cons.mpr ⟨lw_p421, List.forall_mem_cons.mpr ⟨lw_p422, List.forall_mem_cons.mpr ⟨lw_p423, List.forall_mem_cons.mpr ⟨lw_p424, List.forall_mem_cons.mpr ⟨lw_p425, List.forall_mem_cons.mpr ⟨lw_p426, List.forall_mem_cons.mpr ⟨lw_p427, List.forall_mem_cons.mpr ⟨lw_p428, List.forall_mem_cons.mpr ⟨lw_p429, List.forall_mem_cons.mpr ⟨lw_p430, List.forall_mem_cons.mpr ⟨lw_p431, fun _ h => absurd h List.not_mem_nil⟩⟩⟩⟩⟩⟩⟩⟩⟩⟩⟩⟩⟩⟩⟩⟩
theorem lw_p432 : lw_okq (⟨"RoadHouseModel$SignalProofsModel", "faultNow", "()I"⟩, 30) := ⟨⟨by decide +kernel, by decide +kernel⟩, List.mem_of_getElem? (i := 3464) (by decide +kernel), List.mem_of_getElem? (i := 5043) (by decide +kernel), List.mem_of_getElem? (i := 5044) (by decide +kernel)⟩
theorem lw_p433 : lw_okq (⟨"RoadHouseModel$SignalProofsModel", "find", "()I"⟩, 30) := ⟨⟨by decide +kernel, by decide +kernel⟩, List.mem_of_getElem? (i := 3464) (by decide +kernel), List.mem_of_getElem? (i := 5051) (by decide +kernel), List.mem_of_getElem? (i := 5052) (by decide +kernel)⟩
theorem lw_p434 : lw_okq (⟨"RoadHouseModel$SignalProofsModel", "key", "()I"⟩, 30) := ⟨⟨by decide +kernel, by decide +kernel⟩, List.mem_of_getElem? (i := 3464) (by decide +kernel), List.mem_of_getElem? (i := 5055) (by decide +kernel), List.mem_of_getElem? (i := 5056) (by decide +kernel)⟩
theorem lw_p435 : lw_okq (⟨"RoadHouseModel$SignalProofsModel", "add", "(II)V"⟩, 30) := ⟨⟨by decide +kernel, by decide +kernel⟩, List.mem_of_getElem? (i := 3464) (by decide +kernel), List.mem_of_getElem? (i := 5067) (by decide +kernel), List.mem_of_getElem? (i := 5068) (by decide +kernel)⟩
theorem lw_p436 : lw_okq (⟨"RoadHouseModel$SignalProofsModel", "load", "(I)V"⟩, 30) := ⟨⟨by decide +kernel, by decide +kernel⟩, List.mem_of_getElem? (i := 3464) (by decide +kernel), List.mem_of_getElem? (i := 5071) (by decide +kernel), List.mem_of_getElem? (i := 5072) (by decide +kernel)⟩
theorem lw_p437 : lw_okq (⟨"RoadHouseModel$SignalProofsModel", "longestOf", "(I)I"⟩, 30) := ⟨⟨by decide +kernel, by decide +kernel⟩, List.mem_of_getElem? (i := 3464) (by decide +kernel), List.mem_of_getElem? (i := 5087) (by decide +kernel), List.mem_of_getElem? (i := 5088) (by decide +kernel)⟩
theorem lw_p438 : lw_okq (⟨"RoadHouseModel$SignalProofsModel", "waitsAt", "(II)Z"⟩, 30) := ⟨⟨by decide +kernel, by decide +kernel⟩, List.mem_of_getElem? (i := 3464) (by decide +kernel), List.mem_of_getElem? (i := 5091) (by decide +kernel), List.mem_of_getElem? (i := 5092) (by decide +kernel)⟩
theorem lw_p439 : lw_okq (⟨"RoadHouseModel", "carsCall", "(IIIIII)J"⟩, 19) := ⟨⟨by decide +kernel, by decide +kernel⟩, List.mem_of_getElem? (i := 2952) (by decide +kernel), List.mem_of_getElem? (i := 5116) (by decide +kernel), List.mem_of_getElem? (i := 5117) (by decide +kernel)⟩
theorem lw_p440 : lw_okq (⟨"RoadHouseModel$StreetCellsModel", "noCell", "(I)Z"⟩, 32) := ⟨⟨by decide +kernel, by decide +kernel⟩, List.mem_of_getElem? (i := 3588) (by decide +kernel), List.mem_of_getElem? (i := 5124) (by decide +kernel), List.mem_of_getElem? (i := 5125) (by decide +kernel)⟩
theorem lw_p441 : lw_okq (⟨"RoadHouseModel$StreetCellsModel", "find", "(II)I"⟩, 32) := ⟨⟨by decide +kernel, by decide +kernel⟩, List.mem_of_getElem? (i := 3588) (by decide +kernel), List.mem_of_getElem? (i := 5137) (by decide +kernel), List.mem_of_getElem? (i := 5138) (by decide +kernel)⟩
theorem lw_p442 : lw_okq (⟨"RoadHouseModel$StreetCellsModel", "many", "(IZ)I"⟩, 32) := ⟨⟨by decide +kernel, by decide +kernel⟩, List.mem_of_getElem? (i := 3588) (by decide +kernel), List.mem_of_getElem? (i := 5141) (by decide +kernel), List.mem_of_getElem? (i := 5142) (by decide +kernel)⟩
theorem lw_p443 : lw_okq (⟨"RoadHouseModel$StreetCellsModel", "isPast", "(II)Z"⟩, 32) := ⟨⟨by decide +kernel, by decide +kernel⟩, List.mem_of_getElem? (i := 3588) (by decide +kernel), List.mem_of_getElem? (i := 5166) (by decide +kernel), List.mem_of_getElem? (i := 5167) (by decide +kernel)⟩
theorem lw_p444 : lw_okq (⟨"RoadHouseModel$StreetCellsModel", "set", "(IIIIII)Z"⟩, 32) := ⟨⟨by decide +kernel, by decide +kernel⟩, List.mem_of_getElem? (i := 3588) (by decide +kernel), List.mem_of_getElem? (i := 5174) (by decide +kernel), List.mem_of_getElem? (i := 5175) (by decide +kernel)⟩
theorem lw_p445 : lw_okq (⟨"RoadHouseModel$StreetCellsModel", "step", "()V"⟩, 32) := ⟨⟨by decide +kernel, by decide +kernel⟩, List.mem_of_getElem? (i := 3588) (by decide +kernel), List.mem_of_getElem? (i := 5183) (by decide +kernel), List.mem_of_getElem? (i := 5184) (by decide +kernel)⟩
theorem lw_p446 : lw_okq (⟨"RoadHouseModel$StreetCellsModel", "comes", "()V"⟩, 32) := ⟨⟨by decide +kernel, by decide +kernel⟩, List.mem_of_getElem? (i := 3588) (by decide +kernel), List.mem_of_getElem? (i := 5187) (by decide +kernel), List.mem_of_getElem? (i := 5188) (by decide +kernel)⟩
theorem lw_p447 : lw_okq (⟨"RoadHouseModel$StreetCellsModel", "bounds", "()V"⟩, 32) := ⟨⟨by decide +kernel, by decide +kernel⟩, List.mem_of_getElem? (i := 3588) (by decide +kernel), List.mem_of_getElem? (i := 5191) (by decide +kernel), List.mem_of_getElem? (i := 5192) (by decide +kernel)⟩
def lw_privs_28 : List (MethodName × Nat) := [(⟨"RoadHouseModel$SignalProofsModel", "faultNow", "()I"⟩, 30), (⟨"RoadHouseModel$SignalProofsModel", "find", "()I"⟩, 30), (⟨"RoadHouseModel$SignalProofsModel", "key", "()I"⟩, 30), (⟨"RoadHouseModel$SignalProofsModel", "add", "(II)V"⟩, 30), (⟨"RoadHouseModel$SignalProofsModel", "load", "(I)V"⟩, 30), (⟨"RoadHouseModel$SignalProofsModel", "longestOf", "(I)I"⟩, 30), (⟨"RoadHouseModel$SignalProofsModel", "waitsAt", "(II)Z"⟩, 30), (⟨"RoadHouseModel", "carsCall", "(IIIIII)J"⟩, 19), (⟨"RoadHouseModel$StreetCellsModel", "noCell", "(I)Z"⟩, 32), (⟨"RoadHouseModel$StreetCellsModel", "find", "(II)I"⟩, 32), (⟨"RoadHouseModel$StreetCellsModel", "many", "(IZ)I"⟩, 32), (⟨"RoadHouseModel$StreetCellsModel", "isPast", "(II)Z"⟩, 32), (⟨"RoadHouseModel$StreetCellsModel", "set", "(IIIIII)Z"⟩, 32), (⟨"RoadHouseModel$StreetCellsModel", "step", "()V"⟩, 32), (⟨"RoadHouseModel$StreetCellsModel", "comes", "()V"⟩, 32), (⟨"RoadHouseModel$StreetCellsModel", "bounds", "()V"⟩, 32)]
theorem lw_r28 : ∀ q ∈ lw_privs_28, lw_okq q := List.forall_mem_cons.mpr ⟨lw_p432, List.forall_mem_cons.mpr ⟨lw_p433, List.forall_mem_cons.mpr ⟨lw_p434, List.forall_mem_cons.mpr ⟨lw_p435, List.forall_mem_cons.mpr ⟨lw_p436, List.forall_mem_cons.mpr ⟨lw_p437, List.forall_mem_cons.mpr ⟨lw_p438, List.forall_mem_cons.mpr ⟨lw_p439, List.forall_mem_cons.mpr ⟨lw_p440, List.forall_mem_cons.mpr ⟨lw_p441, List.forall_mem_cons.mpr ⟨lw_p442, List.forall_mem_cons.mpr ⟨lw_p443, List.forall_mem_cons.mpr ⟨lw_p444, List.forall_mem_cons.mpr ⟨lw_p445, List.forall_mem_cons.mpr ⟨lw_p446, List.forall_mem_cons.mpr ⟨lw_p447, fun _ h => absurd h List.not_mem_nil⟩⟩⟩⟩⟩⟩⟩⟩⟩⟩⟩⟩⟩⟩⟩⟩
theorem lw_p448 : lw_okq (⟨"RoadHouseModel$StreetCellsModel", "holds", "(II)I"⟩, 32) := ⟨⟨by decide +kernel, by decide +kernel⟩, List.mem_of_getElem? (i := 3588) (by decide +kernel), List.mem_of_getElem? (i := 5195) (by decide +kernel), List.mem_of_getElem? (i := 5196) (by decide +kernel)⟩
theorem lw_p449 : lw_okq (⟨"RoadHouseModel$StreetCellsModel", "wants", "()V"⟩, 32) := ⟨⟨by decide +kernel, by decide +kernel⟩, List.mem_of_getElem? (i := 3588) (by decide +kernel), List.mem_of_getElem? (i := 5203) (by decide +kernel), List.mem_of_getElem? (i := 5204) (by decide +kernel)⟩
theorem lw_p450 : lw_okq (⟨"RoadHouseModel$StreetCellsModel", "take", "()V"⟩, 32) := ⟨⟨by decide +kernel, by decide +kernel⟩, List.mem_of_getElem? (i := 3588) (by decide +kernel), List.mem_of_getElem? (i := 5207) (by decide +kernel), List.mem_of_getElem? (i := 5208) (by decide +kernel)⟩
theorem lw_p451 : lw_okq (⟨"RoadHouseModel", "contractCall", "(IIIIII)J"⟩, 19) := ⟨⟨by decide +kernel, by decide +kernel⟩, List.mem_of_getElem? (i := 2952) (by decide +kernel), List.mem_of_getElem? (i := 5284) (by decide +kernel), List.mem_of_getElem? (i := 5285) (by decide +kernel)⟩
theorem lw_p452 : lw_okq (⟨"RoadHouseModel$RateQuantitiesModel", "split", "()V"⟩, 40) := ⟨⟨by decide +kernel, by decide +kernel⟩, List.mem_of_getElem? (i := 3691) (by decide +kernel), List.mem_of_getElem? (i := 5296) (by decide +kernel), List.mem_of_getElem? (i := 5297) (by decide +kernel)⟩
theorem lw_p453 : lw_okq (⟨"RoadHouseModel$RateQuantitiesModel", "readItem", "()Z"⟩, 40) := ⟨⟨by decide +kernel, by decide +kernel⟩, List.mem_of_getElem? (i := 3691) (by decide +kernel), List.mem_of_getElem? (i := 5303) (by decide +kernel), List.mem_of_getElem? (i := 5304) (by decide +kernel)⟩
theorem lw_p454 : lw_okq (⟨"RoadHouseModel$RateQuantitiesModel", "isName", "(I)Z"⟩, 40) := ⟨⟨by decide +kernel, by decide +kernel⟩, List.mem_of_getElem? (i := 3691) (by decide +kernel), List.mem_of_getElem? (i := 5307) (by decide +kernel), List.mem_of_getElem? (i := 5308) (by decide +kernel)⟩
theorem lw_p455 : lw_okq (⟨"RoadHouseModel$RateQuantitiesModel", "sortOf", "(I)I"⟩, 40) := ⟨⟨by decide +kernel, by decide +kernel⟩, List.mem_of_getElem? (i := 3691) (by decide +kernel), List.mem_of_getElem? (i := 5311) (by decide +kernel), List.mem_of_getElem? (i := 5312) (by decide +kernel)⟩
theorem lw_p456 : lw_okq (⟨"RoadHouseModel$RateQuantitiesModel", "length", "(I)I"⟩, 40) := ⟨⟨by decide +kernel, by decide +kernel⟩, List.mem_of_getElem? (i := 3691) (by decide +kernel), List.mem_of_getElem? (i := 5315) (by decide +kernel), List.mem_of_getElem? (i := 5316) (by decide +kernel)⟩
theorem lw_p457 : lw_okq (⟨"RoadHouseModel$RateQuantitiesModel", "is", "([III)Z"⟩, 40) := ⟨⟨by decide +kernel, by decide +kernel⟩, List.mem_of_getElem? (i := 3691) (by decide +kernel), List.mem_of_getElem? (i := 5319) (by decide +kernel), List.mem_of_getElem? (i := 5320) (by decide +kernel)⟩
theorem lw_p458 : lw_okq (⟨"RoadHouseModel$RateQuantitiesModel", "readExpression", "()Z"⟩, 40) := ⟨⟨by decide +kernel, by decide +kernel⟩, List.mem_of_getElem? (i := 3691) (by decide +kernel), List.mem_of_getElem? (i := 5323) (by decide +kernel), List.mem_of_getElem? (i := 5324) (by decide +kernel)⟩
theorem lw_p459 : lw_okq (⟨"RoadHouseModel$RateQuantitiesModel", "variable", "([II)I"⟩, 40) := ⟨⟨by decide +kernel, by decide +kernel⟩, List.mem_of_getElem? (i := 3691) (by decide +kernel), List.mem_of_getElem? (i := 5327) (by decide +kernel), List.mem_of_getElem? (i := 5328) (by decide +kernel)⟩
theorem lw_p460 : lw_okq (⟨"RoadHouseModel$RateQuantitiesModel", "isSign", "([II)Z"⟩, 40) := ⟨⟨by decide +kernel, by decide +kernel⟩, List.mem_of_getElem? (i := 3691) (by decide +kernel), List.mem_of_getElem? (i := 5331) (by decide +kernel), List.mem_of_getElem? (i := 5332) (by decide +kernel)⟩
theorem lw_p461 : lw_okq (⟨"RoadHouseModel$RateQuantitiesModel", "numberOf", "([II)I"⟩, 40) := ⟨⟨by decide +kernel, by decide +kernel⟩, List.mem_of_getElem? (i := 3691) (by decide +kernel), List.mem_of_getElem? (i := 5335) (by decide +kernel), List.mem_of_getElem? (i := 5336) (by decide +kernel)⟩
theorem lw_p462 : lw_okq (⟨"RoadHouseModel$RateQuantitiesModel", "noItem", "(I)Z"⟩, 40) := ⟨⟨by decide +kernel, by decide +kernel⟩, List.mem_of_getElem? (i := 3691) (by decide +kernel), List.mem_of_getElem? (i := 5348) (by decide +kernel), List.mem_of_getElem? (i := 5349) (by decide +kernel)⟩
theorem lw_p463 : lw_okq (⟨"RoadHouseModel$RateQuantitiesModel", "tellTrouble", "(III)V"⟩, 40) := ⟨⟨by decide +kernel, by decide +kernel⟩, List.mem_of_getElem? (i := 3691) (by decide +kernel), List.mem_of_getElem? (i := 5352) (by decide +kernel), List.mem_of_getElem? (i := 5353) (by decide +kernel)⟩
def lw_privs_29 : List (MethodName × Nat) := [(⟨"RoadHouseModel$StreetCellsModel", "holds", "(II)I"⟩, 32), (⟨"RoadHouseModel$StreetCellsModel", "wants", "()V"⟩, 32), (⟨"RoadHouseModel$StreetCellsModel", "take", "()V"⟩, 32), (⟨"RoadHouseModel", "contractCall", "(IIIIII)J"⟩, 19), (⟨"RoadHouseModel$RateQuantitiesModel", "split", "()V"⟩, 40), (⟨"RoadHouseModel$RateQuantitiesModel", "readItem", "()Z"⟩, 40), (⟨"RoadHouseModel$RateQuantitiesModel", "isName", "(I)Z"⟩, 40), (⟨"RoadHouseModel$RateQuantitiesModel", "sortOf", "(I)I"⟩, 40), (⟨"RoadHouseModel$RateQuantitiesModel", "length", "(I)I"⟩, 40), (⟨"RoadHouseModel$RateQuantitiesModel", "is", "([III)Z"⟩, 40), (⟨"RoadHouseModel$RateQuantitiesModel", "readExpression", "()Z"⟩, 40), (⟨"RoadHouseModel$RateQuantitiesModel", "variable", "([II)I"⟩, 40), (⟨"RoadHouseModel$RateQuantitiesModel", "isSign", "([II)Z"⟩, 40), (⟨"RoadHouseModel$RateQuantitiesModel", "numberOf", "([II)I"⟩, 40), (⟨"RoadHouseModel$RateQuantitiesModel", "noItem", "(I)Z"⟩, 40), (⟨"RoadHouseModel$RateQuantitiesModel", "tellTrouble", "(III)V"⟩, 40)]
theorem lw_r29 : ∀ q ∈ lw_privs_29, lw_okq q := List.forall_mem_cons.mpr ⟨lw_p448, List.forall_mem_cons.mpr ⟨lw_p449, List.forall_mem_cons.mpr ⟨lw_p450, List.forall_mem_cons.mpr ⟨lw_p451, List.forall_mem_cons.mpr ⟨lw_p452, List.forall_mem_cons.mpr ⟨lw_p453, List.forall_mem_cons.mpr ⟨lw_p454, List.forall_mem_cons.mpr ⟨lw_p455, List.forall_mem_cons.mpr ⟨lw_p456, List.forall_mem_cons.mpr ⟨lw_p457, List.forall_mem_cons.mpr ⟨lw_p458, List.forall_mem_cons.mpr ⟨lw_p459, List.forall_mem_cons.mpr ⟨lw_p460, List.forall_mem_cons.mpr ⟨lw_p461, List.forall_mem_cons.mpr ⟨lw_p462, List.forall_mem_cons.mpr ⟨lw_p463, fun _ h => absurd h List.not_mem_nil⟩⟩⟩⟩⟩⟩⟩⟩⟩⟩⟩⟩⟩⟩⟩⟩
theorem lw_p464 : lw_okq (⟨"RoadHouseModel$RateQuantitiesModel", "noShape", "(I)Z"⟩, 40) := ⟨⟨by decide +kernel, by decide +kernel⟩, List.mem_of_getElem? (i := 3691) (by decide +kernel), List.mem_of_getElem? (i := 5367) (by decide +kernel), List.mem_of_getElem? (i := 5368) (by decide +kernel)⟩
theorem lw_p465 : lw_okq (⟨"RoadHouseModel$RateQuantitiesModel", "add", "(IIII)V"⟩, 40) := ⟨⟨by decide +kernel, by decide +kernel⟩, List.mem_of_getElem? (i := 3691) (by decide +kernel), List.mem_of_getElem? (i := 5374) (by decide +kernel), List.mem_of_getElem? (i := 5375) (by decide +kernel)⟩
theorem lw_p466 : lw_okq (⟨"RoadHouseModel$RateQuantitiesModel", "measure", "(I[II)J"⟩, 40) := ⟨⟨by decide +kernel, by decide +kernel⟩, List.mem_of_getElem? (i := 3691) (by decide +kernel), List.mem_of_getElem? (i := 5378) (by decide +kernel), List.mem_of_getElem? (i := 5379) (by decide +kernel)⟩
theorem lw_p467 : lw_okq (⟨"RoadHouseModel$RateQuantitiesModel", "join", "(I)V"⟩, 40) := ⟨⟨by decide +kernel, by decide +kernel⟩, List.mem_of_getElem? (i := 3691) (by decide +kernel), List.mem_of_getElem? (i := 5382) (by decide +kernel), List.mem_of_getElem? (i := 5383) (by decide +kernel)⟩
theorem lw_p468 : lw_okq (⟨"RoadHouseModel$RateQuantitiesModel", "sum", "(III)J"⟩, 40) := ⟨⟨by decide +kernel, by decide +kernel⟩, List.mem_of_getElem? (i := 3691) (by decide +kernel), List.mem_of_getElem? (i := 5395) (by decide +kernel), List.mem_of_getElem? (i := 5396) (by decide +kernel)⟩
theorem lw_p469 : lw_okq (⟨"RoadHouseModel$RateQuantitiesModel", "isPlain", "(I)Z"⟩, 40) := ⟨⟨by decide +kernel, by decide +kernel⟩, List.mem_of_getElem? (i := 3691) (by decide +kernel), List.mem_of_getElem? (i := 5399) (by decide +kernel), List.mem_of_getElem? (i := 5400) (by decide +kernel)⟩
theorem lw_p470 : lw_okq (⟨"RoadHouseModel$RateQuantitiesModel", "told", "(II)J"⟩, 40) := ⟨⟨by decide +kernel, by decide +kernel⟩, List.mem_of_getElem? (i := 3691) (by decide +kernel), List.mem_of_getElem? (i := 5413) (by decide +kernel), List.mem_of_getElem? (i := 5414) (by decide +kernel)⟩
theorem lw_p471 : lw_okq (⟨"RoadHouseModel$RateQuantitiesModel", "gross", "(I)J"⟩, 40) := ⟨⟨by decide +kernel, by decide +kernel⟩, List.mem_of_getElem? (i := 3691) (by decide +kernel), List.mem_of_getElem? (i := 5417) (by decide +kernel), List.mem_of_getElem? (i := 5418) (by decide +kernel)⟩
theorem lw_p472 : lw_okq (⟨"RoadHouseModel$RateQuantitiesModel", "rateIn", "(II)J"⟩, 40) := ⟨⟨by decide +kernel, by decide +kernel⟩, List.mem_of_getElem? (i := 3691) (by decide +kernel), List.mem_of_getElem? (i := 5421) (by decide +kernel), List.mem_of_getElem? (i := 5422) (by decide +kernel)⟩
theorem lw_p473 : lw_okq (⟨"RoadHouseModel$RateQuantitiesModel", "keptIn", "(I)J"⟩, 40) := ⟨⟨by decide +kernel, by decide +kernel⟩, List.mem_of_getElem? (i := 3691) (by decide +kernel), List.mem_of_getElem? (i := 5425) (by decide +kernel), List.mem_of_getElem? (i := 5426) (by decide +kernel)⟩
theorem lw_p474 : lw_okq (⟨"RoadHouseModel$RateQuantitiesModel", "keptTo", "(I)J"⟩, 40) := ⟨⟨by decide +kernel, by decide +kernel⟩, List.mem_of_getElem? (i := 3691) (by decide +kernel), List.mem_of_getElem? (i := 5429) (by decide +kernel), List.mem_of_getElem? (i := 5430) (by decide +kernel)⟩
theorem lw_p475 : lw_okq (⟨"RoadHouseModel$RateQuantitiesModel", "told2", "(I)J"⟩, 40) := ⟨⟨by decide +kernel, by decide +kernel⟩, List.mem_of_getElem? (i := 3691) (by decide +kernel), List.mem_of_getElem? (i := 5433) (by decide +kernel), List.mem_of_getElem? (i := 5434) (by decide +kernel)⟩
theorem lw_p476 : lw_okq (⟨"RoadHouseModel$RateQuantitiesModel", "plainOf", "(I)I"⟩, 40) := ⟨⟨by decide +kernel, by decide +kernel⟩, List.mem_of_getElem? (i := 3691) (by decide +kernel), List.mem_of_getElem? (i := 5486) (by decide +kernel), List.mem_of_getElem? (i := 5487) (by decide +kernel)⟩
theorem lw_p477 : lw_okq (⟨"RoadHouseModel$RateQuantitiesModel", "put", "(I)V"⟩, 40) := ⟨⟨by decide +kernel, by decide +kernel⟩, List.mem_of_getElem? (i := 3691) (by decide +kernel), List.mem_of_getElem? (i := 5506) (by decide +kernel), List.mem_of_getElem? (i := 5507) (by decide +kernel)⟩
theorem lw_p478 : lw_okq (⟨"RoadHouseModel$RateQuantitiesModel", "putNumber", "(J)V"⟩, 40) := ⟨⟨by decide +kernel, by decide +kernel⟩, List.mem_of_getElem? (i := 3691) (by decide +kernel), List.mem_of_getElem? (i := 5510) (by decide +kernel), List.mem_of_getElem? (i := 5511) (by decide +kernel)⟩
theorem lw_p479 : lw_okq (⟨"RoadHouseModel$StressTurnsModel", "rate", "()D"⟩, 25) := ⟨⟨by decide +kernel, by decide +kernel⟩, List.mem_of_getElem? (i := 3382) (by decide +kernel), List.mem_of_getElem? (i := 5538) (by decide +kernel), List.mem_of_getElem? (i := 5539) (by decide +kernel)⟩
def lw_privs_30 : List (MethodName × Nat) := [(⟨"RoadHouseModel$RateQuantitiesModel", "noShape", "(I)Z"⟩, 40), (⟨"RoadHouseModel$RateQuantitiesModel", "add", "(IIII)V"⟩, 40), (⟨"RoadHouseModel$RateQuantitiesModel", "measure", "(I[II)J"⟩, 40), (⟨"RoadHouseModel$RateQuantitiesModel", "join", "(I)V"⟩, 40), (⟨"RoadHouseModel$RateQuantitiesModel", "sum", "(III)J"⟩, 40), (⟨"RoadHouseModel$RateQuantitiesModel", "isPlain", "(I)Z"⟩, 40), (⟨"RoadHouseModel$RateQuantitiesModel", "told", "(II)J"⟩, 40), (⟨"RoadHouseModel$RateQuantitiesModel", "gross", "(I)J"⟩, 40), (⟨"RoadHouseModel$RateQuantitiesModel", "rateIn", "(II)J"⟩, 40), (⟨"RoadHouseModel$RateQuantitiesModel", "keptIn", "(I)J"⟩, 40), (⟨"RoadHouseModel$RateQuantitiesModel", "keptTo", "(I)J"⟩, 40), (⟨"RoadHouseModel$RateQuantitiesModel", "told2", "(I)J"⟩, 40), (⟨"RoadHouseModel$RateQuantitiesModel", "plainOf", "(I)I"⟩, 40), (⟨"RoadHouseModel$RateQuantitiesModel", "put", "(I)V"⟩, 40), (⟨"RoadHouseModel$RateQuantitiesModel", "putNumber", "(J)V"⟩, 40), (⟨"RoadHouseModel$StressTurnsModel", "rate", "()D"⟩, 25)]
theorem lw_r30 : ∀ q ∈ lw_privs_30, lw_okq q := List.forall_mem_cons.mpr ⟨lw_p464, List.forall_mem_cons.mpr ⟨lw_p465, List.forall_mem_cons.mpr ⟨lw_p466, List.forall_mem_cons.mpr ⟨lw_p467, List.forall_mem_cons.mpr ⟨lw_p468, List.forall_mem_cons.mpr ⟨lw_p469, List.forall_mem_cons.mpr ⟨lw_p470, List.forall_mem_cons.mpr ⟨lw_p471, List.forall_mem_cons.mpr ⟨lw_p472, List.forall_mem_cons.mpr ⟨lw_p473, List.forall_mem_cons.mpr ⟨lw_p474, List.forall_mem_cons.mpr ⟨lw_p475, List.forall_mem_cons.mpr ⟨lw_p476, List.forall_mem_cons.mpr ⟨lw_p477, List.forall_mem_cons.mpr ⟨lw_p478, List.forall_mem_cons.mpr ⟨lw_p479, fun _ h => absurd h List.not_mem_nil⟩⟩⟩⟩⟩⟩⟩⟩⟩⟩⟩⟩⟩⟩⟩⟩
theorem lw_p480 : lw_okq (⟨"RoadHouseModel", "readWay", "()Z"⟩, 19) := ⟨⟨by decide +kernel, by decide +kernel⟩, List.mem_of_getElem? (i := 2952) (by decide +kernel), List.mem_of_getElem? (i := 5558) (by decide +kernel), List.mem_of_getElem? (i := 5559) (by decide +kernel)⟩
theorem lw_p481 : lw_okq (⟨"RoadHouseModel", "isBridged", "(I)Z"⟩, 19) := ⟨⟨by decide +kernel, by decide +kernel⟩, List.mem_of_getElem? (i := 2952) (by decide +kernel), List.mem_of_getElem? (i := 5562) (by decide +kernel), List.mem_of_getElem? (i := 5563) (by decide +kernel)⟩
theorem lw_p482 : lw_okq (⟨"RoadHouseModel", "writeNumber", "(I)V"⟩, 19) := ⟨⟨by decide +kernel, by decide +kernel⟩, List.mem_of_getElem? (i := 2952) (by decide +kernel), List.mem_of_getElem? (i := 5572) (by decide +kernel), List.mem_of_getElem? (i := 5573) (by decide +kernel)⟩
def lw_privs_31 : List (MethodName × Nat) := [(⟨"RoadHouseModel", "readWay", "()Z"⟩, 19), (⟨"RoadHouseModel", "isBridged", "(I)Z"⟩, 19), (⟨"RoadHouseModel", "writeNumber", "(I)V"⟩, 19)]
theorem lw_r31 : ∀ q ∈ lw_privs_31, lw_okq q := List.forall_mem_cons.mpr ⟨lw_p480, List.forall_mem_cons.mpr ⟨lw_p481, List.forall_mem_cons.mpr ⟨lw_p482, fun _ h => absurd h List.not_mem_nil⟩⟩⟩
def lw_privs : List (MethodName × Nat) := lw_privs_1 ++ (lw_privs_2 ++ (lw_privs_3 ++ (lw_privs_4 ++ (lw_privs_5 ++ (lw_privs_6 ++ (lw_privs_7 ++ (lw_privs_8 ++ (lw_privs_9 ++ (lw_privs_10 ++ (lw_privs_11 ++ (lw_privs_12 ++ (lw_privs_13 ++ (lw_privs_14 ++ (lw_privs_15 ++ (lw_privs_16 ++ (lw_privs_17 ++ (lw_privs_18 ++ (lw_privs_19 ++ (lw_privs_20 ++ (lw_privs_21 ++ (lw_privs_22 ++ (lw_privs_23 ++ (lw_privs_24 ++ (lw_privs_25 ++ (lw_privs_26 ++ (lw_privs_27 ++ (lw_privs_28 ++ (lw_privs_29 ++ (lw_privs_30 ++ (lw_privs_31))))))))))))))))))))))))))))))
def lw_tbl : List Cond := k2_sels lw_privs ++ tables_1
theorem lw_privs_ok : ∀ q ∈ lw_privs, lw_okq q := by
  show ∀ q ∈ lw_privs_1 ++ (lw_privs_2 ++ (lw_privs_3 ++ (lw_privs_4 ++ (lw_privs_5 ++ (lw_privs_6 ++ (lw_privs_7 ++ (lw_privs_8 ++ (lw_privs_9 ++ (lw_privs_10 ++ (lw_privs_11 ++ (lw_privs_12 ++ (lw_privs_13 ++ (lw_privs_14 ++ (lw_privs_15 ++ (lw_privs_16 ++ (lw_privs_17 ++ (lw_privs_18 ++ (lw_privs_19 ++ (lw_privs_20 ++ (lw_privs_21 ++ (lw_privs_22 ++ (lw_privs_23 ++ (lw_privs_24 ++ (lw_privs_25 ++ (lw_privs_26 ++ (lw_privs_27 ++ (lw_privs_28 ++ (lw_privs_29 ++ (lw_privs_30 ++ (lw_privs_31)))))))))))))))))))))))))))))), lw_okq q
  exact List.forall_mem_append.mpr ⟨lw_r1, List.forall_mem_append.mpr ⟨lw_r2, List.forall_mem_append.mpr ⟨lw_r3, List.forall_mem_append.mpr ⟨lw_r4, List.forall_mem_append.mpr ⟨lw_r5, List.forall_mem_append.mpr ⟨lw_r6, List.forall_mem_append.mpr ⟨lw_r7, List.forall_mem_append.mpr ⟨lw_r8, List.forall_mem_append.mpr ⟨lw_r9, List.forall_mem_append.mpr ⟨lw_r10, List.forall_mem_append.mpr ⟨lw_r11, List.forall_mem_append.mpr ⟨lw_r12, List.forall_mem_append.mpr ⟨lw_r13, List.forall_mem_append.mpr ⟨lw_r14, List.forall_mem_append.mpr ⟨lw_r15, List.forall_mem_append.mpr ⟨lw_r16, List.forall_mem_append.mpr ⟨lw_r17, List.forall_mem_append.mpr ⟨lw_r18, List.forall_mem_append.mpr ⟨lw_r19, List.forall_mem_append.mpr ⟨lw_r20, List.forall_mem_append.mpr ⟨lw_r21, List.forall_mem_append.mpr ⟨lw_r22, List.forall_mem_append.mpr ⟨lw_r23, List.forall_mem_append.mpr ⟨lw_r24, List.forall_mem_append.mpr ⟨lw_r25, List.forall_mem_append.mpr ⟨lw_r26, List.forall_mem_append.mpr ⟨lw_r27, List.forall_mem_append.mpr ⟨lw_r28, List.forall_mem_append.mpr ⟨lw_r29, List.forall_mem_append.mpr ⟨lw_r30, lw_r31⟩⟩⟩⟩⟩⟩⟩⟩⟩⟩⟩⟩⟩⟩⟩⟩⟩⟩⟩⟩⟩⟩⟩⟩⟩⟩⟩⟩⟩⟩
/-- the streams that the claim lets the run draw from -/
abbrev lw_cs : List Choice := [Jvm.Choice.named "NaN.bits"]
theorem lw_bits : nanBits ∈ lw_cs := by first | decide | exact List.mem_cons_self | simp [lw_cs, nanBits]
-- ===== end of PART A; then your names; then what follows =====
/-! ===== BEGIN printed: names, fields, word lists, decode rows ===== -/
def RX0 : String := "RoadHouse$Beams"
def TX0 : u_T := fun k => match k with
  | 0 => ("RoadHouse$Beams", "beams", "I", false)
  | 1 => ("RoadHouse$Beams", "size", "[[I", true)
  | 2 => ("RoadHouse$Beams", "hinged", "[Z", true)
  | 3 => ("RoadHouse$Beams", "held", "[Z", true)
  | 4 => ("RoadHouse$Beams", "settled", "[I", true)
  | 5 => ("RoadHouse$Beams", "row", "[[I", true)
  | 6 => ("RoadHouse$Beams", "rows", "I", false)
  | 7 => ("RoadHouse$Beams", "text", "[C", true)
  | 8 => ("RoadHouse$Beams", "signs", "I", false)
  | 9 => ("RoadHouse$Beams", "fresh", "Z", false)
  | 10 => ("RoadHouse$Beams", "loose", "Z", false)
  | 11 => ("RoadHouse$Beams", "looseMove", "[Z", true)
  | 12 => ("RoadHouse$Beams", "free", "I", false)
  | 13 => ("RoadHouse$Beams", "moveOf", "[I", true)
  | 14 => ("RoadHouse$Beams", "scale", "J", false)
  | 15 => ("RoadHouse$Beams", "force", "[[J", true)
  | 16 => ("RoadHouse$Beams", "grid", "[LRoadHouse$Big;", true)
  | 17 => ("RoadHouse$Beams", "point", "[LRoadHouse$Big;", true)
  | 18 => ("RoadHouse$Beams", "aid", "[LRoadHouse$Big;", true)
  | 19 => ("RoadHouse$Beams", "load", "[J", true)
  | 20 => ("RoadHouse$Beams", "counts", "[J", true)
  | _ => ("RoadHouse$Beams", "told", "LRoadHouse$Ratio;", true)
def tyX0 : Nat → FieldType := fun k => match k with
  | 0 => .int
  | 1 => .array (.array .int)
  | 2 => .array .boolean
  | 3 => .array .boolean
  | 4 => .array .int
  | 5 => .array (.array .int)
  | 6 => .int
  | 7 => .array .char
  | 8 => .int
  | 9 => .boolean
  | 10 => .boolean
  | 11 => .array .boolean
  | 12 => .int
  | 13 => .array .int
  | 14 => .long
  | 15 => .array (.array .long)
  | 16 => .array (.object "RoadHouse$Big")
  | 17 => .array (.object "RoadHouse$Big")
  | 18 => .array (.object "RoadHouse$Big")
  | 19 => .array .long
  | 20 => .array .long
  | _ => .object "RoadHouse$Ratio"
abbrev wsX00 : List Cond := u_ws RX0 TX0 22
theorem nmX0 : ∀ a, a < 22 → ∀ b, b < 22 → a ≠ b → (TX0 a).2.1 ≠ (TX0 b).2.1 := by decide +kernel
theorem tyX0_ok : ∀ k, k < 22 → parseFieldDescriptor (TX0 k).2.2.1 = some (tyX0 k) := by decide +kernel
abbrev cX0_init : ByteArray := prog_2_method_1_code
def yX0_init : MethodName := ⟨RX0, "<init>", "()V"⟩
abbrev cX0_answer : ByteArray := prog_2_method_2_code
def yX0_answer : MethodName := ⟨RX0, "answer", "(IIIII)J"⟩
abbrev cX0_beamCount : ByteArray := prog_2_method_3_code
def yX0_beamCount : MethodName := ⟨RX0, "beamCount", "()I"⟩
abbrev cX0_lengthAt : ByteArray := prog_2_method_4_code
def yX0_lengthAt : MethodName := ⟨RX0, "lengthAt", "(I)I"⟩
abbrev cX0_forgetText : ByteArray := prog_2_method_5_code
def yX0_forgetText : MethodName := ⟨RX0, "forgetText", "()V"⟩
abbrev cX0_collect : ByteArray := prog_2_method_6_code
def yX0_collect : MethodName := ⟨RX0, "collect", "(I)Z"⟩
abbrev cX0_signAt : ByteArray := prog_2_method_7_code
def yX0_signAt : MethodName := ⟨RX0, "signAt", "(I)C"⟩
abbrev cX0_numberAt : ByteArray := prog_2_method_8_code
def yX0_numberAt : MethodName := ⟨RX0, "numberAt", "(I)I"⟩
abbrev cX0_isNode : ByteArray := prog_2_method_9_code
def yX0_isNode : MethodName := ⟨RX0, "isNode", "(C)Z"⟩
abbrev cX0_read : ByteArray := prog_2_method_10_code
def yX0_read : MethodName := ⟨RX0, "read", "()J"⟩
abbrev cX0_wrongSign : ByteArray := prog_2_method_11_code
def yX0_wrongSign : MethodName := ⟨RX0, "wrongSign", "()I"⟩
abbrev cX0_take : ByteArray := prog_2_method_12_code
def yX0_take : MethodName := ⟨RX0, "take", "()V"⟩
abbrev cX0_takeNode : ByteArray := prog_2_method_13_code
def yX0_takeNode : MethodName := ⟨RX0, "takeNode", "(IC)V"⟩
abbrev cX0_setMember : ByteArray := prog_2_method_14_code
def yX0_setMember : MethodName := ⟨RX0, "setMember", "(III)Z"⟩
abbrev cX0_setSupport : ByteArray := prog_2_method_15_code
def yX0_setSupport : MethodName := ⟨RX0, "setSupport", "(IIZ)Z"⟩
abbrev cX0_setHinge : ByteArray := prog_2_method_16_code
def yX0_setHinge : MethodName := ⟨RX0, "setHinge", "(IIZ)Z"⟩
abbrev cX0_heldInHeight : ByteArray := prog_2_method_17_code
def yX0_heldInHeight : MethodName := ⟨RX0, "heldInHeight", "(I)Z"⟩
abbrev cX0_solve : ByteArray := prog_2_method_18_code
def yX0_solve : MethodName := ⟨RX0, "solve", "()J"⟩
abbrev cX0_isLoose : ByteArray := prog_2_method_19_code
def yX0_isLoose : MethodName := ⟨RX0, "isLoose", "(I)Z"⟩
abbrev cX0_looseNode : ByteArray := prog_2_method_20_code
def yX0_looseNode : MethodName := ⟨RX0, "looseNode", "(I)J"⟩
abbrev cX0_cell : ByteArray := prog_2_method_21_code
def yX0_cell : MethodName := ⟨RX0, "cell", "(II)LRoadHouse$Big;"⟩
abbrev cX0_prepare : ByteArray := prog_2_method_22_code
def yX0_prepare : MethodName := ⟨RX0, "prepare", "()V"⟩
abbrev cX0_hasStiffEnd : ByteArray := prog_2_method_23_code
def yX0_hasStiffEnd : MethodName := ⟨RX0, "hasStiffEnd", "(I)Z"⟩
abbrev cX0_gatherForces : ByteArray := prog_2_method_24_code
def yX0_gatherForces : MethodName := ⟨RX0, "gatherForces", "()V"⟩
abbrev cX0_endForce : ByteArray := prog_2_method_25_code
def yX0_endForce : MethodName := ⟨RX0, "endForce", "(III)I"⟩
abbrev cX0_shearShare : ByteArray := prog_2_method_26_code
def yX0_shearShare : MethodName := ⟨RX0, "shearShare", "(II)I"⟩
abbrev cX0_invert : ByteArray := prog_2_method_27_code
def yX0_invert : MethodName := ⟨RX0, "invert", "()V"⟩
abbrev cX0_eliminate : ByteArray := prog_2_method_28_code
def yX0_eliminate : MethodName := ⟨RX0, "eliminate", "(II)V"⟩
abbrev cX0_tellRow : ByteArray := prog_2_method_29_code
def yX0_tellRow : MethodName := ⟨RX0, "tellRow", "(III)J"⟩
abbrev cX0_isTold : ByteArray := prog_2_method_30_code
def yX0_isTold : MethodName := ⟨RX0, "isTold", "(I)Z"⟩
abbrev cX0_inside : ByteArray := prog_2_method_31_code
def yX0_inside : MethodName := ⟨RX0, "inside", "(I)Z"⟩
abbrev cX0_setLoad : ByteArray := prog_2_method_32_code
def yX0_setLoad : MethodName := ⟨RX0, "setLoad", "(II)V"⟩
abbrev cX0_fixedForce : ByteArray := prog_2_method_33_code
def yX0_fixedForce : MethodName := ⟨RX0, "fixedForce", "(III)I"⟩
abbrev cX0_setCounts : ByteArray := prog_2_method_34_code
def yX0_setCounts : MethodName := ⟨RX0, "setCounts", "(IIIII)V"⟩
abbrev cX0_addShear : ByteArray := prog_2_method_35_code
def yX0_addShear : MethodName := ⟨RX0, "addShear", "(IIJ)V"⟩
abbrev cX0_addMoment : ByteArray := prog_2_method_36_code
def yX0_addMoment : MethodName := ⟨RX0, "addMoment", "(IIJ)V"⟩
abbrev cX0_value : ByteArray := prog_2_method_37_code
def yX0_value : MethodName := ⟨RX0, "value", "(LRoadHouse$Big;[III)V"⟩
abbrev cX0_lowerPart : ByteArray := prog_2_method_38_code
def yX0_lowerPart : MethodName := ⟨RX0, "lowerPart", "(LRoadHouse$Big;)V"⟩
abbrev cX0_nothing : ByteArray := prog_2_method_39_code
def yX0_nothing : MethodName := ⟨RX0, "nothing", "(I)J"⟩
abbrev cX0_valueAt : ByteArray := prog_2_method_40_code
def yX0_valueAt : MethodName := ⟨RX0, "valueAt", "(IIII)J"⟩
abbrev cX0_thousandths : ByteArray := prog_2_method_41_code
def yX0_thousandths : MethodName := ⟨RX0, "thousandths", "(II)J"⟩
abbrev cX0_area : ByteArray := prog_2_method_42_code
def yX0_area : MethodName := ⟨RX0, "area", "(III)J"⟩
abbrev cX0_shrinkPoints : ByteArray := prog_2_method_43_code
def yX0_shrinkPoints : MethodName := ⟨RX0, "shrinkPoints", "()V"⟩
abbrev cX0_addPiece : ByteArray := prog_2_method_44_code
def yX0_addPiece : MethodName := ⟨RX0, "addPiece", "(LRoadHouse$Big;LRoadHouse$Big;I)V"⟩
abbrev cX0_asked : ByteArray := prog_2_method_45_code
def yX0_asked : MethodName := ⟨RX0, "asked", "(III)[I"⟩
abbrev cX0_turned : ByteArray := prog_2_method_46_code
def yX0_turned : MethodName := ⟨RX0, "turned", "(I)Z"⟩
abbrev cX0_sumsAreOne : ByteArray := prog_2_method_47_code
def yX0_sumsAreOne : MethodName := ⟨RX0, "sumsAreOne", "()Z"⟩
abbrev cX0_settle : ByteArray := prog_2_method_48_code
def yX0_settle : MethodName := ⟨RX0, "settle", "(II)Z"⟩
abbrev cX0_settledMove : ByteArray := prog_2_method_49_code
def yX0_settledMove : MethodName := ⟨RX0, "settledMove", "(IIII)J"⟩
abbrev cX0_moveBySettling : ByteArray := prog_2_method_50_code
def yX0_moveBySettling : MethodName := ⟨RX0, "moveBySettling", "(I)V"⟩
abbrev cX0_count : ByteArray := prog_2_method_51_code
def yX0_count : MethodName := ⟨RX0, "count", "(I)J"⟩
def RX1 : String := "RoadHouse$Big"
def TX1 : u_T := fun k => match k with
  | 0 => ("RoadHouse$Big", "d", "[I", true)
  | 1 => ("RoadHouse$Big", "len", "I", false)
  | _ => ("RoadHouse$Big", "sign", "I", false)
def tyX1 : Nat → FieldType := fun k => match k with
  | 0 => .array .int
  | 1 => .int
  | _ => .int
abbrev wsX10 : List Cond := u_ws RX1 TX1 3
theorem nmX1 : ∀ a, a < 3 → ∀ b, b < 3 → a ≠ b → (TX1 a).2.1 ≠ (TX1 b).2.1 := by decide +kernel
theorem tyX1_ok : ∀ k, k < 3 → parseFieldDescriptor (TX1 k).2.2.1 = some (tyX1 k) := by decide +kernel
abbrev cX1_init : ByteArray := prog_3_method_1_code
def yX1_init : MethodName := ⟨RX1, "<init>", "(I)V"⟩
abbrev cX1_set : ByteArray := prog_3_method_2_code
def yX1_set : MethodName := ⟨RX1, "set", "(J)V"⟩
abbrev cX1_copy : ByteArray := prog_3_method_3_code
def yX1_copy : MethodName := ⟨RX1, "copy", "(LRoadHouse$Big;)V"⟩
abbrev cX1_trim : ByteArray := prog_3_method_4_code
def yX1_trim : MethodName := ⟨RX1, "trim", "(I)V"⟩
abbrev cX1_compareSize : ByteArray := prog_3_method_5_code
def yX1_compareSize : MethodName := ⟨RX1, "compareSize", "(LRoadHouse$Big;)I"⟩
abbrev cX1_compare : ByteArray := prog_3_method_6_code
def yX1_compare : MethodName := ⟨RX1, "compare", "(LRoadHouse$Big;)I"⟩
abbrev cX1_add : ByteArray := prog_3_method_7_code
def yX1_add : MethodName := ⟨RX1, "add", "(LRoadHouse$Big;I)V"⟩
abbrev cX1_product : ByteArray := prog_3_method_8_code
def yX1_product : MethodName := ⟨RX1, "product", "(LRoadHouse$Big;J)V"⟩
abbrev cX1_product_ : ByteArray := prog_3_method_9_code
def yX1_product_ : MethodName := ⟨RX1, "product", "(LRoadHouse$Big;LRoadHouse$Big;)V"⟩
abbrev cX1_addRow : ByteArray := prog_3_method_10_code
def yX1_addRow : MethodName := ⟨RX1, "addRow", "(LRoadHouse$Big;JI)V"⟩
abbrev cX1_divideSmall : ByteArray := prog_3_method_11_code
def yX1_divideSmall : MethodName := ⟨RX1, "divideSmall", "(I)I"⟩
abbrev cX1_divide : ByteArray := prog_3_method_12_code
def yX1_divide : MethodName := ⟨RX1, "divide", "(LRoadHouse$Big;LRoadHouse$Big;LRoadHouse$Big;)V"⟩
abbrev cX1_shifted : ByteArray := prog_3_method_13_code
def yX1_shifted : MethodName := ⟨RX1, "shifted", "(LRoadHouse$Big;II)I"⟩
abbrev cX1_quotientLimb : ByteArray := prog_3_method_14_code
def yX1_quotientLimb : MethodName := ⟨RX1, "quotientLimb", "(LRoadHouse$Big;II)I"⟩
def RX2 : String := "RoadHouse$Cars"
def TX2 : u_T := fun k => match k with
  | 0 => ("RoadHouse$Cars", "cell", "[[I", true)
  | 1 => ("RoadHouse$Cars", "join", "[[I", true)
  | 2 => ("RoadHouse$Cars", "joins", "I", false)
  | 3 => ("RoadHouse$Cars", "joinsFrom", "[[I", true)
  | 4 => ("RoadHouse$Cars", "joinsTo", "[[I", true)
  | 5 => ("RoadHouse$Cars", "setting", "[[I", true)
  | 6 => ("RoadHouse$Cars", "settings", "I", false)
  | 7 => ("RoadHouse$Cars", "coming", "[[I", true)
  | 8 => ("RoadHouse$Cars", "comings", "I", false)
  | 9 => ("RoadHouse$Cars", "read", "[[I", true)
  | 10 => ("RoadHouse$Cars", "reads", "I", false)
  | 11 => ("RoadHouse$Cars", "rule", "[[I", true)
  | 12 => ("RoadHouse$Cars", "rules", "I", false)
  | 13 => ("RoadHouse$Cars", "now", "[J", true)
  | 14 => ("RoadHouse$Cars", "saved", "[[J", true)
  | 15 => ("RoadHouse$Cars", "saves", "I", false)
  | 16 => ("RoadHouse$Cars", "cap", "[J", true)
  | 17 => ("RoadHouse$Cars", "can", "[J", true)
  | 18 => ("RoadHouse$Cars", "sent", "[J", true)
  | 19 => ("RoadHouse$Cars", "takes", "[J", true)
  | 20 => ("RoadHouse$Cars", "valid", "[[I", true)
  | _ => ("RoadHouse$Cars", "wanted", "[J", true)
def tyX2 : Nat → FieldType := fun k => match k with
  | 0 => .array (.array .int)
  | 1 => .array (.array .int)
  | 2 => .int
  | 3 => .array (.array .int)
  | 4 => .array (.array .int)
  | 5 => .array (.array .int)
  | 6 => .int
  | 7 => .array (.array .int)
  | 8 => .int
  | 9 => .array (.array .int)
  | 10 => .int
  | 11 => .array (.array .int)
  | 12 => .int
  | 13 => .array .long
  | 14 => .array (.array .long)
  | 15 => .int
  | 16 => .array .long
  | 17 => .array .long
  | 18 => .array .long
  | 19 => .array .long
  | 20 => .array (.array .int)
  | _ => .array .long
abbrev wsX20 : List Cond := u_ws RX2 TX2 22
theorem nmX2 : ∀ a, a < 22 → ∀ b, b < 22 → a ≠ b → (TX2 a).2.1 ≠ (TX2 b).2.1 := by decide +kernel
theorem tyX2_ok : ∀ k, k < 22 → parseFieldDescriptor (TX2 k).2.2.1 = some (tyX2 k) := by decide +kernel
abbrev cX2_init : ByteArray := prog_4_method_1_code
def yX2_init : MethodName := ⟨RX2, "<init>", "()V"⟩
abbrev cX2_answer : ByteArray := prog_4_method_2_code
def yX2_answer : MethodName := ⟨RX2, "answer", "(IIIII)J"⟩
abbrev cX2_isCell : ByteArray := prog_4_method_3_code
def yX2_isCell : MethodName := ⟨RX2, "isCell", "(I)Z"⟩
abbrev cX2_isFraction : ByteArray := prog_4_method_4_code
def yX2_isFraction : MethodName := ⟨RX2, "isFraction", "(II)Z"⟩
abbrev cX2_stepsDone : ByteArray := prog_4_method_5_code
def yX2_stepsDone : MethodName := ⟨RX2, "stepsDone", "()I"⟩
abbrev cX2_stepsLeft : ByteArray := prog_4_method_6_code
def yX2_stepsLeft : MethodName := ⟨RX2, "stepsLeft", "()Z"⟩
abbrev cX2_isToCome : ByteArray := prog_4_method_7_code
def yX2_isToCome : MethodName := ⟨RX2, "isToCome", "(I)Z"⟩
abbrev cX2_wasDone : ByteArray := prog_4_method_8_code
def yX2_wasDone : MethodName := ⟨RX2, "wasDone", "(I)Z"⟩
abbrev cX2_setCell : ByteArray := prog_4_method_9_code
def yX2_setCell : MethodName := ⟨RX2, "setCell", "(IIII)Z"⟩
abbrev cX2_joinOf : ByteArray := prog_4_method_10_code
def yX2_joinOf : MethodName := ⟨RX2, "joinOf", "(II)I"⟩
abbrev cX2_joinCells : ByteArray := prog_4_method_11_code
def yX2_joinCells : MethodName := ⟨RX2, "joinCells", "(II)Z"⟩
abbrev cX2_sortJoins : ByteArray := prog_4_method_12_code
def yX2_sortJoins : MethodName := ⟨RX2, "sortJoins", "(I)V"⟩
abbrev cX2_goesBefore : ByteArray := prog_4_method_13_code
def yX2_goesBefore : MethodName := ⟨RX2, "goesBefore", "(II)Z"⟩
abbrev cX2_setShare : ByteArray := prog_4_method_14_code
def yX2_setShare : MethodName := ⟨RX2, "setShare", "(IIII)Z"⟩
abbrev cX2_setRank : ByteArray := prog_4_method_15_code
def yX2_setRank : MethodName := ⟨RX2, "setRank", "(III)Z"⟩
abbrev cX2_put : ByteArray := prog_4_method_16_code
def yX2_put : MethodName := ⟨RX2, "put", "(II)Z"⟩
abbrev cX2_tellComing : ByteArray := prog_4_method_17_code
def yX2_tellComing : MethodName := ⟨RX2, "tellComing", "(III)Z"⟩
abbrev cX2_setSignal : ByteArray := prog_4_method_18_code
def yX2_setSignal : MethodName := ⟨RX2, "setSignal", "(IIZ)Z"⟩
abbrev cX2_set : ByteArray := prog_4_method_19_code
def yX2_set : MethodName := ⟨RX2, "set", "(IIIII)Z"⟩
abbrev cX2_run : ByteArray := prog_4_method_20_code
def yX2_run : MethodName := ⟨RX2, "run", "(I)J"⟩
abbrev cX2_step : ByteArray := prog_4_method_21_code
def yX2_step : MethodName := ⟨RX2, "step", "()V"⟩
abbrev cX2_findSettings : ByteArray := prog_4_method_22_code
def yX2_findSettings : MethodName := ⟨RX2, "findSettings", "(I)V"⟩
abbrev cX2_sends : ByteArray := prog_4_method_23_code
def yX2_sends : MethodName := ⟨RX2, "sends", "(II)Z"⟩
abbrev cX2_holdCells : ByteArray := prog_4_method_24_code
def yX2_holdCells : MethodName := ⟨RX2, "holdCells", "(I)V"⟩
abbrev cX2_shareOut : ByteArray := prog_4_method_25_code
def yX2_shareOut : MethodName := ⟨RX2, "shareOut", "(I)V"⟩
abbrev cX2_cellOf : ByteArray := prog_4_method_26_code
def yX2_cellOf : MethodName := ⟨RX2, "cellOf", "(I)I"⟩
abbrev cX2_moveInto : ByteArray := prog_4_method_27_code
def yX2_moveInto : MethodName := ⟨RX2, "moveInto", "(I)V"⟩
abbrev cX2_finish : ByteArray := prog_4_method_28_code
def yX2_finish : MethodName := ⟨RX2, "finish", "(I)V"⟩
abbrev cX2_allKept : ByteArray := prog_4_method_29_code
def yX2_allKept : MethodName := ⟨RX2, "allKept", "()Z"⟩
abbrev cX2_restOf : ByteArray := prog_4_method_30_code
def yX2_restOf : MethodName := ⟨RX2, "restOf", "(III)J"⟩
abbrev cX2_setMeter : ByteArray := prog_4_method_31_code
def yX2_setMeter : MethodName := ⟨RX2, "setMeter", "(II)J"⟩
abbrev cX2_setLane : ByteArray := prog_4_method_32_code
def yX2_setLane : MethodName := ⟨RX2, "setLane", "(III)J"⟩
abbrev cX2_tellRead : ByteArray := prog_4_method_33_code
def yX2_tellRead : MethodName := ⟨RX2, "tellRead", "(III)Z"⟩
abbrev cX2_differs : ByteArray := prog_4_method_34_code
def yX2_differs : MethodName := ⟨RX2, "differs", "(II)J"⟩
abbrev cX2_addRule : ByteArray := prog_4_method_35_code
def yX2_addRule : MethodName := ⟨RX2, "addRule", "(III)Z"⟩
abbrev cX2_save : ByteArray := prog_4_method_36_code
def yX2_save : MethodName := ⟨RX2, "save", "()J"⟩
abbrev cX2_goBack : ByteArray := prog_4_method_37_code
def yX2_goBack : MethodName := ⟨RX2, "goBack", "(I)Z"⟩
abbrev cX2_over : ByteArray := prog_4_method_38_code
def yX2_over : MethodName := ⟨RX2, "over", "(I)J"⟩
abbrev cX2_toll : ByteArray := prog_4_method_39_code
def yX2_toll : MethodName := ⟨RX2, "toll", "(II)J"⟩
def RX3 : String := "RoadHouse$Contract"
def TX3 : u_T := fun k => match k with
  | 0 => ("RoadHouse$Contract", "text", "[C", true)
  | 1 => ("RoadHouse$Contract", "signs", "I", false)
  | 2 => ("RoadHouse$Contract", "word", "[[I", true)
  | 3 => ("RoadHouse$Contract", "words", "I", false)
  | 4 => ("RoadHouse$Contract", "item", "[[I", true)
  | 5 => ("RoadHouse$Contract", "items", "I", false)
  | 6 => ("RoadHouse$Contract", "shape", "[[I", true)
  | 7 => ("RoadHouse$Contract", "shapes", "I", false)
  | 8 => ("RoadHouse$Contract", "entry", "[[I", true)
  | 9 => ("RoadHouse$Contract", "measured", "[J", true)
  | 10 => ("RoadHouse$Contract", "entries", "I", false)
  | 11 => ("RoadHouse$Contract", "change", "[[I", true)
  | 12 => ("RoadHouse$Contract", "changes", "I", false)
  | 13 => ("RoadHouse$Contract", "index", "[[I", true)
  | 14 => ("RoadHouse$Contract", "backMonth", "I", false)
  | 15 => ("RoadHouse$Contract", "penalty", "[[I", true)
  | 16 => ("RoadHouse$Contract", "penalties", "I", false)
  | 17 => ("RoadHouse$Contract", "weight", "[I", true)
  | 18 => ("RoadHouse$Contract", "open", "[[I", true)
  | 19 => ("RoadHouse$Contract", "opens", "I", false)
  | 20 => ("RoadHouse$Contract", "divided", "Z", false)
  | 21 => ("RoadHouse$Contract", "stack", "[J", true)
  | _ => ("RoadHouse$Contract", "written", "[C", true)
def tyX3 : Nat → FieldType := fun k => match k with
  | 0 => .array .char
  | 1 => .int
  | 2 => .array (.array .int)
  | 3 => .int
  | 4 => .array (.array .int)
  | 5 => .int
  | 6 => .array (.array .int)
  | 7 => .int
  | 8 => .array (.array .int)
  | 9 => .array .long
  | 10 => .int
  | 11 => .array (.array .int)
  | 12 => .int
  | 13 => .array (.array .int)
  | 14 => .int
  | 15 => .array (.array .int)
  | 16 => .int
  | 17 => .array .int
  | 18 => .array (.array .int)
  | 19 => .int
  | 20 => .boolean
  | 21 => .array .long
  | _ => .array .char
abbrev wsX30 : List Cond := u_ws RX3 TX3 23
theorem nmX3 : ∀ a, a < 23 → ∀ b, b < 23 → a ≠ b → (TX3 a).2.1 ≠ (TX3 b).2.1 := by decide +kernel
theorem tyX3_ok : ∀ k, k < 23 → parseFieldDescriptor (TX3 k).2.2.1 = some (tyX3 k) := by decide +kernel
abbrev cX3_init : ByteArray := prog_5_method_1_code
def yX3_init : MethodName := ⟨RX3, "<init>", "()V"⟩
abbrev cX3_answer : ByteArray := prog_5_method_2_code
def yX3_answer : MethodName := ⟨RX3, "answer", "(IIIII)J"⟩
abbrev cX3_isMonth : ByteArray := prog_5_method_3_code
def yX3_isMonth : MethodName := ⟨RX3, "isMonth", "(I)Z"⟩
abbrev cX3_isItem : ByteArray := prog_5_method_4_code
def yX3_isItem : MethodName := ⟨RX3, "isItem", "(I)Z"⟩
abbrev cX3_isShape : ByteArray := prog_5_method_5_code
def yX3_isShape : MethodName := ⟨RX3, "isShape", "(I)Z"⟩
abbrev cX3_collect : ByteArray := prog_5_method_6_code
def yX3_collect : MethodName := ⟨RX3, "collect", "(I)Z"⟩
abbrev cX3_kindOfSign : ByteArray := prog_5_method_7_code
def yX3_kindOfSign : MethodName := ⟨RX3, "kindOfSign", "(C)C"⟩
abbrev cX3_findWords : ByteArray := prog_5_method_8_code
def yX3_findWords : MethodName := ⟨RX3, "findWords", "()V"⟩
abbrev cX3_kindOf : ByteArray := prog_5_method_9_code
def yX3_kindOf : MethodName := ⟨RX3, "kindOf", "(I)I"⟩
abbrev cX3_lengthOf : ByteArray := prog_5_method_10_code
def yX3_lengthOf : MethodName := ⟨RX3, "lengthOf", "(I)I"⟩
abbrev cX3_signOf : ByteArray := prog_5_method_11_code
def yX3_signOf : MethodName := ⟨RX3, "signOf", "(II)C"⟩
abbrev cX3_numberOf : ByteArray := prog_5_method_12_code
def yX3_numberOf : MethodName := ⟨RX3, "numberOf", "(I)I"⟩
abbrev cX3_read : ByteArray := prog_5_method_13_code
def yX3_read : MethodName := ⟨RX3, "read", "()J"⟩
abbrev cX3_takeItem : ByteArray := prog_5_method_14_code
def yX3_takeItem : MethodName := ⟨RX3, "takeItem", "(II)I"⟩
abbrev cX3_takeName : ByteArray := prog_5_method_15_code
def yX3_takeName : MethodName := ⟨RX3, "takeName", "(II)Z"⟩
abbrev cX3_takeExpression : ByteArray := prog_5_method_16_code
def yX3_takeExpression : MethodName := ⟨RX3, "takeExpression", "(I[I)I"⟩
abbrev cX3_takeWaiting : ByteArray := prog_5_method_17_code
def yX3_takeWaiting : MethodName := ⟨RX3, "takeWaiting", "([III)I"⟩
abbrev cX3_rankOf : ByteArray := prog_5_method_18_code
def yX3_rankOf : MethodName := ⟨RX3, "rankOf", "(J)I"⟩
abbrev cX3_thing : ByteArray := prog_5_method_19_code
def yX3_thing : MethodName := ⟨RX3, "thing", "(I)I"⟩
abbrev cX3_measure : ByteArray := prog_5_method_20_code
def yX3_measure : MethodName := ⟨RX3, "measure", "(I[II)J"⟩
abbrev cX3_joined : ByteArray := prog_5_method_21_code
def yX3_joined : MethodName := ⟨RX3, "joined", "(JJC)J"⟩
abbrev cX3_tellOpen : ByteArray := prog_5_method_22_code
def yX3_tellOpen : MethodName := ⟨RX3, "tellOpen", "(III)V"⟩
abbrev cX3_setRate : ByteArray := prog_5_method_23_code
def yX3_setRate : MethodName := ⟨RX3, "setRate", "(II)J"⟩
abbrev cX3_isSize : ByteArray := prog_5_method_24_code
def yX3_isSize : MethodName := ⟨RX3, "isSize", "(I)Z"⟩
abbrev cX3_addShape : ByteArray := prog_5_method_25_code
def yX3_addShape : MethodName := ⟨RX3, "addShape", "(IIII)I"⟩
abbrev cX3_addPlain : ByteArray := prog_5_method_26_code
def yX3_addPlain : MethodName := ⟨RX3, "addPlain", "(III)Z"⟩
abbrev cX3_addEntry : ByteArray := prog_5_method_27_code
def yX3_addEntry : MethodName := ⟨RX3, "addEntry", "(IIII)V"⟩
abbrev cX3_correct : ByteArray := prog_5_method_28_code
def yX3_correct : MethodName := ⟨RX3, "correct", "(III)J"⟩
abbrev cX3_addDifference : ByteArray := prog_5_method_29_code
def yX3_addDifference : MethodName := ⟨RX3, "addDifference", "(IIII)V"⟩
abbrev cX3_isOf : ByteArray := prog_5_method_30_code
def yX3_isOf : MethodName := ⟨RX3, "isOf", "(III)Z"⟩
abbrev cX3_quantity : ByteArray := prog_5_method_31_code
def yX3_quantity : MethodName := ⟨RX3, "quantity", "(II)J"⟩
abbrev cX3_walked : ByteArray := prog_5_method_32_code
def yX3_walked : MethodName := ⟨RX3, "walked", "(II)J"⟩
abbrev cX3_quantityPart : ByteArray := prog_5_method_33_code
def yX3_quantityPart : MethodName := ⟨RX3, "quantityPart", "(IIIZ)J"⟩
abbrev cX3_walksAgree : ByteArray := prog_5_method_34_code
def yX3_walksAgree : MethodName := ⟨RX3, "walksAgree", "()Z"⟩
abbrev cX3_rateOf : ByteArray := prog_5_method_35_code
def yX3_rateOf : MethodName := ⟨RX3, "rateOf", "(II)J"⟩
abbrev cX3_gross : ByteArray := prog_5_method_36_code
def yX3_gross : MethodName := ⟨RX3, "gross", "(I)J"⟩
abbrev cX3_kept : ByteArray := prog_5_method_37_code
def yX3_kept : MethodName := ⟨RX3, "kept", "(I)J"⟩
abbrev cX3_keptUpTo : ByteArray := prog_5_method_38_code
def yX3_keptUpTo : MethodName := ⟨RX3, "keptUpTo", "(I)J"⟩
abbrev cX3_stillKept : ByteArray := prog_5_method_39_code
def yX3_stillKept : MethodName := ⟨RX3, "stillKept", "(I)J"⟩
abbrev cX3_penaltiesOf : ByteArray := prog_5_method_40_code
def yX3_penaltiesOf : MethodName := ⟨RX3, "penaltiesOf", "(I)J"⟩
abbrev cX3_pay : ByteArray := prog_5_method_41_code
def yX3_pay : MethodName := ⟨RX3, "pay", "(II)J"⟩
abbrev cX3_sumOfPay : ByteArray := prog_5_method_42_code
def yX3_sumOfPay : MethodName := ⟨RX3, "sumOfPay", "(II)J"⟩
abbrev cX3_areTwice : ByteArray := prog_5_method_43_code
def yX3_areTwice : MethodName := ⟨RX3, "areTwice", "([I[I)Z"⟩
abbrev cX3_twice : ByteArray := prog_5_method_44_code
def yX3_twice : MethodName := ⟨RX3, "twice", "(II)J"⟩
abbrev cX3_addChange : ByteArray := prog_5_method_45_code
def yX3_addChange : MethodName := ⟨RX3, "addChange", "(IIII)J"⟩
abbrev cX3_setIndex : ByteArray := prog_5_method_46_code
def yX3_setIndex : MethodName := ⟨RX3, "setIndex", "(III)Z"⟩
abbrev cX3_setKeep : ByteArray := prog_5_method_47_code
def yX3_setKeep : MethodName := ⟨RX3, "setKeep", "(II)Z"⟩
abbrev cX3_setBack : ByteArray := prog_5_method_48_code
def yX3_setBack : MethodName := ⟨RX3, "setBack", "(I)J"⟩
abbrev cX3_addPenalty : ByteArray := prog_5_method_49_code
def yX3_addPenalty : MethodName := ⟨RX3, "addPenalty", "(III)Z"⟩
abbrev cX3_setFirm : ByteArray := prog_5_method_50_code
def yX3_setFirm : MethodName := ⟨RX3, "setFirm", "(II)Z"⟩
abbrev cX3_shareOf : ByteArray := prog_5_method_51_code
def yX3_shareOf : MethodName := ⟨RX3, "shareOf", "(II)J"⟩
abbrev cX3_dispute : ByteArray := prog_5_method_52_code
def yX3_dispute : MethodName := ⟨RX3, "dispute", "(II)J"⟩
abbrev cX3_hasOther : ByteArray := prog_5_method_53_code
def yX3_hasOther : MethodName := ⟨RX3, "hasOther", "(I)Z"⟩
abbrev cX3_plainEntries : ByteArray := prog_5_method_54_code
def yX3_plainEntries : MethodName := ⟨RX3, "plainEntries", "(I)J"⟩
abbrev cX3_sign : ByteArray := prog_5_method_55_code
def yX3_sign : MethodName := ⟨RX3, "sign", "(I)J"⟩
abbrev cX3_write : ByteArray := prog_5_method_56_code
def yX3_write : MethodName := ⟨RX3, "write", "(IC)I"⟩
abbrev cX3_writeNumber : ByteArray := prog_5_method_57_code
def yX3_writeNumber : MethodName := ⟨RX3, "writeNumber", "(IJ)I"⟩
def RX4 : String := "RoadHouse$Earth"
def TX4 : u_T := fun k => match k with
  | 0 => ("RoadHouse$Earth", "size", "[I", true)
  | 1 => ("RoadHouse$Earth", "cut", "[[I", true)
  | 2 => ("RoadHouse$Earth", "pit", "[[I", true)
  | 3 => ("RoadHouse$Earth", "fill", "[[I", true)
  | 4 => ("RoadHouse$Earth", "way", "[[I", true)
  | 5 => ("RoadHouse$Earth", "swell", "[[I", true)
  | 6 => ("RoadHouse$Earth", "unfit", "[I", true)
  | 7 => ("RoadHouse$Earth", "most", "[I", true)
  | 8 => ("RoadHouse$Earth", "state", "I", false)
  | 9 => ("RoadHouse$Earth", "clashing", "I", false)
  | 10 => ("RoadHouse$Earth", "plan", "[[J", true)
  | 11 => ("RoadHouse$Earth", "flow", "[[J", true)
  | 12 => ("RoadHouse$Earth", "unit", "[[J", true)
  | 13 => ("RoadHouse$Earth", "used", "[J", true)
  | 14 => ("RoadHouse$Earth", "frozen", "[I", true)
  | 15 => ("RoadHouse$Earth", "far", "[J", true)
  | 16 => ("RoadHouse$Earth", "from", "[I", true)
  | 17 => ("RoadHouse$Earth", "pipe", "[[J", true)
  | 18 => ("RoadHouse$Earth", "queue", "[I", true)
  | _ => ("RoadHouse$Earth", "reached", "[I", true)
def tyX4 : Nat → FieldType := fun k => match k with
  | 0 => .array .int
  | 1 => .array (.array .int)
  | 2 => .array (.array .int)
  | 3 => .array (.array .int)
  | 4 => .array (.array .int)
  | 5 => .array (.array .int)
  | 6 => .array .int
  | 7 => .array .int
  | 8 => .int
  | 9 => .int
  | 10 => .array (.array .long)
  | 11 => .array (.array .long)
  | 12 => .array (.array .long)
  | 13 => .array .long
  | 14 => .array .int
  | 15 => .array .long
  | 16 => .array .int
  | 17 => .array (.array .long)
  | 18 => .array .int
  | _ => .array .int
abbrev wsX40 : List Cond := u_ws RX4 TX4 20
theorem nmX4 : ∀ a, a < 20 → ∀ b, b < 20 → a ≠ b → (TX4 a).2.1 ≠ (TX4 b).2.1 := by decide +kernel
theorem tyX4_ok : ∀ k, k < 20 → parseFieldDescriptor (TX4 k).2.2.1 = some (tyX4 k) := by decide +kernel
abbrev cX4_init : ByteArray := prog_6_method_1_code
def yX4_init : MethodName := ⟨RX4, "<init>", "()V"⟩
abbrev cX4_answer : ByteArray := prog_6_method_2_code
def yX4_answer : MethodName := ⟨RX4, "answer", "(IIIII)J"⟩
abbrev cX4_cuts : ByteArray := prog_6_method_3_code
def yX4_cuts : MethodName := ⟨RX4, "cuts", "()I"⟩
abbrev cX4_pits : ByteArray := prog_6_method_4_code
def yX4_pits : MethodName := ⟨RX4, "pits", "()I"⟩
abbrev cX4_fillCount : ByteArray := prog_6_method_5_code
def yX4_fillCount : MethodName := ⟨RX4, "fillCount", "()I"⟩
abbrev cX4_sources : ByteArray := prog_6_method_6_code
def yX4_sources : MethodName := ⟨RX4, "sources", "()I"⟩
abbrev cX4_isMetre : ByteArray := prog_6_method_7_code
def yX4_isMetre : MethodName := ⟨RX4, "isMetre", "(I)Z"⟩
abbrev cX4_isWeek : ByteArray := prog_6_method_8_code
def yX4_isWeek : MethodName := ⟨RX4, "isWeek", "(I)Z"⟩
abbrev cX4_addCut : ByteArray := prog_6_method_9_code
def yX4_addCut : MethodName := ⟨RX4, "addCut", "(IIII)I"⟩
abbrev cX4_addFill : ByteArray := prog_6_method_10_code
def yX4_addFill : MethodName := ⟨RX4, "addFill", "(III)I"⟩
abbrev cX4_setSwell : ByteArray := prog_6_method_11_code
def yX4_setSwell : MethodName := ⟨RX4, "setSwell", "(III)Z"⟩
abbrev cX4_setFit : ByteArray := prog_6_method_12_code
def yX4_setFit : MethodName := ⟨RX4, "setFit", "(IIZ)Z"⟩
abbrev cX4_addWay : ByteArray := prog_6_method_13_code
def yX4_addWay : MethodName := ⟨RX4, "addWay", "(III)J"⟩
abbrev cX4_barWay : ByteArray := prog_6_method_14_code
def yX4_barWay : MethodName := ⟨RX4, "barWay", "(III)Z"⟩
abbrev cX4_addPit : ByteArray := prog_6_method_15_code
def yX4_addPit : MethodName := ⟨RX4, "addPit", "(II)J"⟩
abbrev cX4_setMost : ByteArray := prog_6_method_16_code
def yX4_setMost : MethodName := ⟨RX4, "setMost", "(II)Z"⟩
abbrev cX4_hasPlan : ByteArray := prog_6_method_17_code
def yX4_hasPlan : MethodName := ⟨RX4, "hasPlan", "()Z"⟩
abbrev cX4_weekOfFill : ByteArray := prog_6_method_18_code
def yX4_weekOfFill : MethodName := ⟨RX4, "weekOfFill", "(I)I"⟩
abbrev cX4_planned : ByteArray := prog_6_method_19_code
def yX4_planned : MethodName := ⟨RX4, "planned", "(II)J"⟩
abbrev cX4_gives : ByteArray := prog_6_method_20_code
def yX4_gives : MethodName := ⟨RX4, "gives", "(I)J"⟩
abbrev cX4_metreOf : ByteArray := prog_6_method_21_code
def yX4_metreOf : MethodName := ⟨RX4, "metreOf", "(I)I"⟩
abbrev cX4_serves : ByteArray := prog_6_method_22_code
def yX4_serves : MethodName := ⟨RX4, "serves", "(II)Z"⟩
abbrev cX4_apart : ByteArray := prog_6_method_23_code
def yX4_apart : MethodName := ⟨RX4, "apart", "(II)I"⟩
abbrev cX4_unitCost : ByteArray := prog_6_method_24_code
def yX4_unitCost : MethodName := ⟨RX4, "unitCost", "(III)J"⟩
abbrev cX4_priceUnits : ByteArray := prog_6_method_25_code
def yX4_priceUnits : MethodName := ⟨RX4, "priceUnits", "(I)V"⟩
abbrev cX4_run : ByteArray := prog_6_method_26_code
def yX4_run : MethodName := ⟨RX4, "run", "(I)J"⟩
abbrev cX4_weeksSuffice : ByteArray := prog_6_method_27_code
def yX4_weeksSuffice : MethodName := ⟨RX4, "weeksSuffice", "(I)Z"⟩
abbrev cX4_planFlow : ByteArray := prog_6_method_28_code
def yX4_planFlow : MethodName := ⟨RX4, "planFlow", "()Z"⟩
abbrev cX4_preferFirst : ByteArray := prog_6_method_29_code
def yX4_preferFirst : MethodName := ⟨RX4, "preferFirst", "()V"⟩
abbrev cX4_cheapest : ByteArray := prog_6_method_30_code
def yX4_cheapest : MethodName := ⟨RX4, "cheapest", "(II)Z"⟩
abbrev cX4_shorten : ByteArray := prog_6_method_31_code
def yX4_shorten : MethodName := ⟨RX4, "shorten", "(IIJ)Z"⟩
abbrev cX4_push : ByteArray := prog_6_method_32_code
def yX4_push : MethodName := ⟨RX4, "push", "(IIJ)J"⟩
abbrev cX4_room : ByteArray := prog_6_method_33_code
def yX4_room : MethodName := ⟨RX4, "room", "(II)J"⟩
abbrev cX4_change : ByteArray := prog_6_method_34_code
def yX4_change : MethodName := ⟨RX4, "change", "(IIJ)V"⟩
abbrev cX4_findClashes : ByteArray := prog_6_method_35_code
def yX4_findClashes : MethodName := ⟨RX4, "findClashes", "()V"⟩
abbrev cX4_reaches : ByteArray := prog_6_method_36_code
def yX4_reaches : MethodName := ⟨RX4, "reaches", "(II)Z"⟩
abbrev cX4_fillPipes : ByteArray := prog_6_method_37_code
def yX4_fillPipes : MethodName := ⟨RX4, "fillPipes", "()V"⟩
abbrev cX4_movedPart : ByteArray := prog_6_method_38_code
def yX4_movedPart : MethodName := ⟨RX4, "movedPart", "(III)J"⟩
abbrev cX4_costPart : ByteArray := prog_6_method_39_code
def yX4_costPart : MethodName := ⟨RX4, "costPart", "(I)J"⟩
abbrev cX4_takeUpPlan : ByteArray := prog_6_method_40_code
def yX4_takeUpPlan : MethodName := ⟨RX4, "takeUpPlan", "()V"⟩
abbrev cX4_dual : ByteArray := prog_6_method_41_code
def yX4_dual : MethodName := ⟨RX4, "dual", "(III)J"⟩
abbrev cX4_clash : ByteArray := prog_6_method_42_code
def yX4_clash : MethodName := ⟨RX4, "clash", "(I)J"⟩
abbrev cX4_closure : ByteArray := prog_6_method_43_code
def yX4_closure : MethodName := ⟨RX4, "closure", "(II)J"⟩
abbrev cX4_listed : ByteArray := prog_6_method_44_code
def yX4_listed : MethodName := ⟨RX4, "listed", "(III)J"⟩
abbrev cX4_mass : ByteArray := prog_6_method_45_code
def yX4_mass : MethodName := ⟨RX4, "mass", "(II)J"⟩
abbrev cX4_check : ByteArray := prog_6_method_46_code
def yX4_check : MethodName := ⟨RX4, "check", "()J"⟩
abbrev cX4_checkWeeks : ByteArray := prog_6_method_47_code
def yX4_checkWeeks : MethodName := ⟨RX4, "checkWeeks", "()J"⟩
abbrev cX4_levelOf : ByteArray := prog_6_method_48_code
def yX4_levelOf : MethodName := ⟨RX4, "levelOf", "(II)J"⟩
def RX5 : String := "RoadHouse$Ratio"
def TX5 : u_T := fun k => match k with
  | 0 => ("RoadHouse$Ratio", "up", "LRoadHouse$Big;", true)
  | 1 => ("RoadHouse$Ratio", "low", "LRoadHouse$Big;", true)
  | 2 => ("RoadHouse$Ratio", "x", "LRoadHouse$Big;", true)
  | 3 => ("RoadHouse$Ratio", "y", "LRoadHouse$Big;", true)
  | 4 => ("RoadHouse$Ratio", "q", "LRoadHouse$Big;", true)
  | _ => ("RoadHouse$Ratio", "s", "LRoadHouse$Big;", true)
def tyX5 : Nat → FieldType := fun k => match k with
  | 0 => .object "RoadHouse$Big"
  | 1 => .object "RoadHouse$Big"
  | 2 => .object "RoadHouse$Big"
  | 3 => .object "RoadHouse$Big"
  | 4 => .object "RoadHouse$Big"
  | _ => .object "RoadHouse$Big"
abbrev wsX50 : List Cond := u_ws RX5 TX5 6
theorem nmX5 : ∀ a, a < 6 → ∀ b, b < 6 → a ≠ b → (TX5 a).2.1 ≠ (TX5 b).2.1 := by decide +kernel
theorem tyX5_ok : ∀ k, k < 6 → parseFieldDescriptor (TX5 k).2.2.1 = some (tyX5 k) := by decide +kernel
abbrev cX5_init : ByteArray := prog_7_method_1_code
def yX5_init : MethodName := ⟨RX5, "<init>", "(I)V"⟩
abbrev cX5_set : ByteArray := prog_7_method_2_code
def yX5_set : MethodName := ⟨RX5, "set", "(JJ)V"⟩
abbrev cX5_greatestCommon : ByteArray := prog_7_method_3_code
def yX5_greatestCommon : MethodName := ⟨RX5, "greatestCommon", "(LRoadHouse$Big;LRoadHouse$Big;)LRoadHouse$Big;"⟩
abbrev cX5_twoLimbs : ByteArray := prog_7_method_4_code
def yX5_twoLimbs : MethodName := ⟨RX5, "twoLimbs", "(LRoadHouse$Big;)J"⟩
abbrev cX5_shrink : ByteArray := prog_7_method_5_code
def yX5_shrink : MethodName := ⟨RX5, "shrink", "(LRoadHouse$Big;LRoadHouse$Big;)V"⟩
abbrev cX5_reduce : ByteArray := prog_7_method_6_code
def yX5_reduce : MethodName := ⟨RX5, "reduce", "()V"⟩
abbrev cX5_add : ByteArray := prog_7_method_7_code
def yX5_add : MethodName := ⟨RX5, "add", "(JJ)V"⟩
abbrev cX5_add_ : ByteArray := prog_7_method_8_code
def yX5_add_ : MethodName := ⟨RX5, "add", "(LRoadHouse$Big;LRoadHouse$Big;)V"⟩
abbrev cX5_times : ByteArray := prog_7_method_9_code
def yX5_times : MethodName := ⟨RX5, "times", "(JJ)V"⟩
abbrev cX5_part : ByteArray := prog_7_method_10_code
def yX5_part : MethodName := ⟨RX5, "part", "(I)J"⟩
abbrev cX5_limb32 : ByteArray := prog_7_method_11_code
def yX5_limb32 : MethodName := ⟨RX5, "limb32", "(LRoadHouse$Big;I)J"⟩
def RX6 : String := "RoadHouse$Search"
def TX6 : u_T := fun k => match k with
  | 0 => ("RoadHouse$Search", "shared", "[Z", true)
  | 1 => ("RoadHouse$Search", "lastCost", "J", false)
  | 2 => ("RoadHouse$Search", "price", "[J", true)
  | 3 => ("RoadHouse$Search", "cost", "[J", false)
  | 4 => ("RoadHouse$Search", "count", "[J", false)
  | 5 => ("RoadHouse$Search", "heap", "[I", false)
  | 6 => ("RoadHouse$Search", "spot", "[I", false)
  | 7 => ("RoadHouse$Search", "open", "I", false)
  | 8 => ("RoadHouse$Search", "grid", "LRoadHouse$Way;", false)
  | 9 => ("RoadHouse$Search", "start", "I", false)
  | _ => ("RoadHouse$Search", "kinds", "I", false)
def tyX6 : Nat → FieldType := fun k => match k with
  | 0 => .array .boolean
  | 1 => .long
  | 2 => .array .long
  | 3 => .array .long
  | 4 => .array .long
  | 5 => .array .int
  | 6 => .array .int
  | 7 => .int
  | 8 => .object "RoadHouse$Way"
  | 9 => .int
  | _ => .int
abbrev wsX60 : List Cond := u_ws RX6 TX6 11
theorem nmX6 : ∀ a, a < 11 → ∀ b, b < 11 → a ≠ b → (TX6 a).2.1 ≠ (TX6 b).2.1 := by decide +kernel
theorem tyX6_ok : ∀ k, k < 11 → parseFieldDescriptor (TX6 k).2.2.1 = some (tyX6 k) := by decide +kernel
abbrev cX6_init : ByteArray := prog_8_method_1_code
def yX6_init : MethodName := ⟨RX6, "<init>", "()V"⟩
abbrev cX6_shareNone : ByteArray := prog_8_method_2_code
def yX6_shareNone : MethodName := ⟨RX6, "shareNone", "()V"⟩
abbrev cX6_label : ByteArray := prog_8_method_3_code
def yX6_label : MethodName := ⟨RX6, "label", "(IIII)I"⟩
abbrev cX6_makeRoom : ByteArray := prog_8_method_4_code
def yX6_makeRoom : MethodName := ⟨RX6, "makeRoom", "(I)V"⟩
abbrev cX6_closeLabels : ByteArray := prog_8_method_5_code
def yX6_closeLabels : MethodName := ⟨RX6, "closeLabels", "(LRoadHouse$Way;IIII)I"⟩
abbrev cX6_closeFirst : ByteArray := prog_8_method_6_code
def yX6_closeFirst : MethodName := ⟨RX6, "closeFirst", "()I"⟩
abbrev cX6_before : ByteArray := prog_8_method_7_code
def yX6_before : MethodName := ⟨RX6, "before", "(II)Z"⟩
abbrev cX6_sink : ByteArray := prog_8_method_8_code
def yX6_sink : MethodName := ⟨RX6, "sink", "()V"⟩
abbrev cX6_offer : ByteArray := prog_8_method_9_code
def yX6_offer : MethodName := ⟨RX6, "offer", "(IJJ)V"⟩
abbrev cX6_offerBefore : ByteArray := prog_8_method_10_code
def yX6_offerBefore : MethodName := ⟨RX6, "offerBefore", "(I)V"⟩
abbrev cX6_cellsFrom : ByteArray := prog_8_method_11_code
def yX6_cellsFrom : MethodName := ⟨RX6, "cellsFrom", "(I)[I"⟩
abbrev cX6_nextOf : ByteArray := prog_8_method_12_code
def yX6_nextOf : MethodName := ⟨RX6, "nextOf", "(I)I"⟩
def RX7 : String := "RoadHouse$Signals"
def TX7 : u_T := fun k => match k with
  | 0 => ("RoadHouse$Signals", "groups", "I", false)
  | 1 => ("RoadHouse$Signals", "clashes", "[I", true)
  | 2 => ("RoadHouse$Signals", "clear", "[[I", true)
  | 3 => ("RoadHouse$Signals", "least", "[I", true)
  | 4 => ("RoadHouse$Signals", "most", "[I", true)
  | 5 => ("RoadHouse$Signals", "plans", "I", false)
  | 6 => ("RoadHouse$Signals", "phases", "[I", true)
  | 7 => ("RoadHouse$Signals", "phase", "[[I", true)
  | 8 => ("RoadHouse$Signals", "text", "[C", true)
  | 9 => ("RoadHouse$Signals", "signs", "I", false)
  | 10 => ("RoadHouse$Signals", "told", "[[I", true)
  | 11 => ("RoadHouse$Signals", "toldCount", "I", false)
  | 12 => ("RoadHouse$Signals", "machine", "[I", true)
  | 13 => ("RoadHouse$Signals", "probe", "[I", true)
  | 14 => ("RoadHouse$Signals", "seconds", "I", false)
  | 15 => ("RoadHouse$Signals", "proof", "I", false)
  | 16 => ("RoadHouse$Signals", "states", "I", false)
  | 17 => ("RoadHouse$Signals", "state", "[J", true)
  | 18 => ("RoadHouse$Signals", "found", "[[I", true)
  | 19 => ("RoadHouse$Signals", "slot", "[I", true)
  | 20 => ("RoadHouse$Signals", "way", "[I", true)
  | _ => ("RoadHouse$Signals", "last", "[I", true)
def tyX7 : Nat → FieldType := fun k => match k with
  | 0 => .int
  | 1 => .array .int
  | 2 => .array (.array .int)
  | 3 => .array .int
  | 4 => .array .int
  | 5 => .int
  | 6 => .array .int
  | 7 => .array (.array .int)
  | 8 => .array .char
  | 9 => .int
  | 10 => .array (.array .int)
  | 11 => .int
  | 12 => .array .int
  | 13 => .array .int
  | 14 => .int
  | 15 => .int
  | 16 => .int
  | 17 => .array .long
  | 18 => .array (.array .int)
  | 19 => .array .int
  | 20 => .array .int
  | _ => .array .int
abbrev wsX70 : List Cond := u_ws RX7 TX7 22
theorem nmX7 : ∀ a, a < 22 → ∀ b, b < 22 → a ≠ b → (TX7 a).2.1 ≠ (TX7 b).2.1 := by decide +kernel
theorem tyX7_ok : ∀ k, k < 22 → parseFieldDescriptor (TX7 k).2.2.1 = some (tyX7 k) := by decide +kernel
abbrev cX7_init : ByteArray := prog_9_method_1_code
def yX7_init : MethodName := ⟨RX7, "<init>", "()V"⟩
abbrev cX7_answer : ByteArray := prog_9_method_2_code
def yX7_answer : MethodName := ⟨RX7, "answer", "(IIII)J"⟩
abbrev cX7_begin : ByteArray := prog_9_method_3_code
def yX7_begin : MethodName := ⟨RX7, "begin", "(I)V"⟩
abbrev cX7_clearAll : ByteArray := prog_9_method_4_code
def yX7_clearAll : MethodName := ⟨RX7, "clearAll", "(I)V"⟩
abbrev cX7_restart : ByteArray := prog_9_method_5_code
def yX7_restart : MethodName := ⟨RX7, "restart", "()V"⟩
abbrev cX7_forgetProof : ByteArray := prog_9_method_6_code
def yX7_forgetProof : MethodName := ⟨RX7, "forgetProof", "()V"⟩
abbrev cX7_setFirst : ByteArray := prog_9_method_7_code
def yX7_setFirst : MethodName := ⟨RX7, "setFirst", "([I)V"⟩
abbrev cX7_testGroup : ByteArray := prog_9_method_8_code
def yX7_testGroup : MethodName := ⟨RX7, "testGroup", "(I)V"⟩
abbrev cX7_setClash : ByteArray := prog_9_method_9_code
def yX7_setClash : MethodName := ⟨RX7, "setClash", "(III)Z"⟩
abbrev cX7_setTime : ByteArray := prog_9_method_10_code
def yX7_setTime : MethodName := ⟨RX7, "setTime", "([IIII)Z"⟩
abbrev cX7_collect : ByteArray := prog_9_method_11_code
def yX7_collect : MethodName := ⟨RX7, "collect", "(I)Z"⟩
abbrev cX7_signAt : ByteArray := prog_9_method_12_code
def yX7_signAt : MethodName := ⟨RX7, "signAt", "(I)C"⟩
abbrev cX7_digitsAt : ByteArray := prog_9_method_13_code
def yX7_digitsAt : MethodName := ⟨RX7, "digitsAt", "(I)I"⟩
abbrev cX7_numberAt : ByteArray := prog_9_method_14_code
def yX7_numberAt : MethodName := ⟨RX7, "numberAt", "(III)I"⟩
abbrev cX7_read : ByteArray := prog_9_method_15_code
def yX7_read : MethodName := ⟨RX7, "read", "()J"⟩
abbrev cX7_takePlan : ByteArray := prog_9_method_16_code
def yX7_takePlan : MethodName := ⟨RX7, "takePlan", "([I)I"⟩
abbrev cX7_tell : ByteArray := prog_9_method_17_code
def yX7_tell : MethodName := ⟨RX7, "tell", "(II)Z"⟩
abbrev cX7_eventOf : ByteArray := prog_9_method_18_code
def yX7_eventOf : MethodName := ⟨RX7, "eventOf", "(I)I"⟩
abbrev cX7_hasPlan : ByteArray := prog_9_method_19_code
def yX7_hasPlan : MethodName := ⟨RX7, "hasPlan", "()Z"⟩
abbrev cX7_groups : ByteArray := prog_9_method_20_code
def yX7_groups : MethodName := ⟨RX7, "groups", "()I"⟩
abbrev cX7_isShown : ByteArray := prog_9_method_21_code
def yX7_isShown : MethodName := ⟨RX7, "isShown", "(I)Z"⟩
abbrev cX7_bitsOf : ByteArray := prog_9_method_22_code
def yX7_bitsOf : MethodName := ⟨RX7, "bitsOf", "(II)I"⟩
abbrev cX7_shownBy : ByteArray := prog_9_method_23_code
def yX7_shownBy : MethodName := ⟨RX7, "shownBy", "([I)I"⟩
abbrev cX7_nextSecond : ByteArray := prog_9_method_24_code
def yX7_nextSecond : MethodName := ⟨RX7, "nextSecond", "()I"⟩
abbrev cX7_goOn : ByteArray := prog_9_method_25_code
def yX7_goOn : MethodName := ⟨RX7, "goOn", "([II)I"⟩
abbrev cX7_endsNow : ByteArray := prog_9_method_26_code
def yX7_endsNow : MethodName := ⟨RX7, "endsNow", "([I)Z"⟩
abbrev cX7_endPhase : ByteArray := prog_9_method_27_code
def yX7_endPhase : MethodName := ⟨RX7, "endPhase", "([I)Z"⟩
abbrev cX7_beginPhase : ByteArray := prog_9_method_28_code
def yX7_beginPhase : MethodName := ⟨RX7, "beginPhase", "([I)I"⟩
abbrev cX7_has : ByteArray := prog_9_method_29_code
def yX7_has : MethodName := ⟨RX7, "has", "(II)Z"⟩
abbrev cX7_faultOf : ByteArray := prog_9_method_30_code
def yX7_faultOf : MethodName := ⟨RX7, "faultOf", "([IIZ)I"⟩
abbrev cX7_toldOf : ByteArray := prog_9_method_31_code
def yX7_toldOf : MethodName := ⟨RX7, "toldOf", "(I)J"⟩
abbrev cX7_pack : ByteArray := prog_9_method_32_code
def yX7_pack : MethodName := ⟨RX7, "pack", "([I)J"⟩
abbrev cX7_unpack : ByteArray := prog_9_method_33_code
def yX7_unpack : MethodName := ⟨RX7, "unpack", "(J[I)V"⟩
abbrev cX7_bitsFor : ByteArray := prog_9_method_34_code
def yX7_bitsFor : MethodName := ⟨RX7, "bitsFor", "(I)I"⟩
abbrev cX7_slotOf : ByteArray := prog_9_method_35_code
def yX7_slotOf : MethodName := ⟨RX7, "slotOf", "(J)I"⟩
abbrev cX7_numberOf : ByteArray := prog_9_method_36_code
def yX7_numberOf : MethodName := ⟨RX7, "numberOf", "(J)I"⟩
abbrev cX7_addState : ByteArray := prog_9_method_37_code
def yX7_addState : MethodName := ⟨RX7, "addState", "(JII)V"⟩
abbrev cX7_prove : ByteArray := prog_9_method_38_code
def yX7_prove : MethodName := ⟨RX7, "prove", "(I)J"⟩
abbrev cX7_noteFault : ByteArray := prog_9_method_39_code
def yX7_noteFault : MethodName := ⟨RX7, "noteFault", "(III)V"⟩
abbrev cX7_rowOfFault : ByteArray := prog_9_method_40_code
def yX7_rowOfFault : MethodName := ⟨RX7, "rowOfFault", "(II)J"⟩
abbrev cX7_waitsIn : ByteArray := prog_9_method_41_code
def yX7_waitsIn : MethodName := ⟨RX7, "waitsIn", "(II)Z"⟩
abbrev cX7_longest : ByteArray := prog_9_method_42_code
def yX7_longest : MethodName := ⟨RX7, "longest", "(I)I"⟩
abbrev cX7_longestBehind : ByteArray := prog_9_method_43_code
def yX7_longestBehind : MethodName := ⟨RX7, "longestBehind", "(I)I"⟩
abbrev cX7_ring : ByteArray := prog_9_method_44_code
def yX7_ring : MethodName := ⟨RX7, "ring", "(I)J"⟩
abbrev cX7_allAnswered : ByteArray := prog_9_method_45_code
def yX7_allAnswered : MethodName := ⟨RX7, "allAnswered", "()Z"⟩
abbrev cX7_same : ByteArray := prog_9_method_46_code
def yX7_same : MethodName := ⟨RX7, "same", "(I)Z"⟩
abbrev cX7_clearingTime : ByteArray := prog_9_method_47_code
def yX7_clearingTime : MethodName := ⟨RX7, "clearingTime", "(III)J"⟩
def RX8 : String := "RoadHouse$Stress"
def TX8 : u_T := fun k => match k with
  | 0 => ("RoadHouse$Stress", "row", "[I", true)
  | 1 => ("RoadHouse$Stress", "values", "I", false)
  | 2 => ("RoadHouse$Stress", "rest", "[I", true)
  | 3 => ("RoadHouse$Stress", "rests", "I", false)
  | 4 => ("RoadHouse$Stress", "turn", "[[I", true)
  | 5 => ("RoadHouse$Stress", "turns", "I", false)
  | 6 => ("RoadHouse$Stress", "anew", "[I", true)
  | 7 => ("RoadHouse$Stress", "range", "[[I", true)
  | 8 => ("RoadHouse$Stress", "cycles", "[[I", true)
  | 9 => ("RoadHouse$Stress", "lines", "[I", true)
  | 10 => ("RoadHouse$Stress", "cutOff", "[I", true)
  | 11 => ("RoadHouse$Stress", "hot", "[I", true)
  | 12 => ("RoadHouse$Stress", "cents", "[I", true)
  | 13 => ("RoadHouse$Stress", "repeats", "I", false)
  | 14 => ("RoadHouse$Stress", "history", "[[I", true)
  | 15 => ("RoadHouse$Stress", "mends", "I", false)
  | 16 => ("RoadHouse$Stress", "crackFrom", "D", false)
  | 17 => ("RoadHouse$Stress", "crackSteps", "I", false)
  | 18 => ("RoadHouse$Stress", "least", "[J", true)
  | 19 => ("RoadHouse$Stress", "fewest", "[I", true)
  | 20 => ("RoadHouse$Stress", "told", "LRoadHouse$Ratio;", true)
  | _ => ("RoadHouse$Stress", "worn", "LRoadHouse$Big;", true)
def tyX8 : Nat → FieldType := fun k => match k with
  | 0 => .array .int
  | 1 => .int
  | 2 => .array .int
  | 3 => .int
  | 4 => .array (.array .int)
  | 5 => .int
  | 6 => .array .int
  | 7 => .array (.array .int)
  | 8 => .array (.array .int)
  | 9 => .array .int
  | 10 => .array .int
  | 11 => .array .int
  | 12 => .array .int
  | 13 => .int
  | 14 => .array (.array .int)
  | 15 => .int
  | 16 => .double
  | 17 => .int
  | 18 => .array .long
  | 19 => .array .int
  | 20 => .object "RoadHouse$Ratio"
  | _ => .object "RoadHouse$Big"
abbrev wsX80 : List Cond := u_ws RX8 TX8 22
theorem nmX8 : ∀ a, a < 22 → ∀ b, b < 22 → a ≠ b → (TX8 a).2.1 ≠ (TX8 b).2.1 := by decide +kernel
theorem tyX8_ok : ∀ k, k < 22 → parseFieldDescriptor (TX8 k).2.2.1 = some (tyX8 k) := by decide +kernel
abbrev cX8_init : ByteArray := prog_10_method_1_code
def yX8_init : MethodName := ⟨RX8, "<init>", "()V"⟩
abbrev cX8_answer : ByteArray := prog_10_method_2_code
def yX8_answer : MethodName := ⟨RX8, "answer", "(IIII)J"⟩
abbrev cX8_apart : ByteArray := prog_10_method_3_code
def yX8_apart : MethodName := ⟨RX8, "apart", "(II)I"⟩
abbrev cX8_feed : ByteArray := prog_10_method_4_code
def yX8_feed : MethodName := ⟨RX8, "feed", "(I)Z"⟩
abbrev cX8_addPoint : ByteArray := prog_10_method_5_code
def yX8_addPoint : MethodName := ⟨RX8, "addPoint", "([III)I"⟩
abbrev cX8_closesTurn : ByteArray := prog_10_method_6_code
def yX8_closesTurn : MethodName := ⟨RX8, "closesTurn", "([II)Z"⟩
abbrev cX8_dropTurn : ByteArray := prog_10_method_7_code
def yX8_dropTurn : MethodName := ⟨RX8, "dropTurn", "([II)I"⟩
abbrev cX8_sameAnew : ByteArray := prog_10_method_8_code
def yX8_sameAnew : MethodName := ⟨RX8, "sameAnew", "()Z"⟩
abbrev cX8_turnRange : ByteArray := prog_10_method_9_code
def yX8_turnRange : MethodName := ⟨RX8, "turnRange", "(I)I"⟩
abbrev cX8_halfRange : ByteArray := prog_10_method_10_code
def yX8_halfRange : MethodName := ⟨RX8, "halfRange", "(I)I"⟩
abbrev cX8_turnPart : ByteArray := prog_10_method_11_code
def yX8_turnPart : MethodName := ⟨RX8, "turnPart", "(II)J"⟩
abbrev cX8_addLine : ByteArray := prog_10_method_12_code
def yX8_addLine : MethodName := ⟨RX8, "addLine", "(III)Z"⟩
abbrev cX8_setCutOff : ByteArray := prog_10_method_13_code
def yX8_setCutOff : MethodName := ⟨RX8, "setCutOff", "(II)Z"⟩
abbrev cX8_setHot : ByteArray := prog_10_method_14_code
def yX8_setHot : MethodName := ⟨RX8, "setHot", "(II)Z"⟩
abbrev cX8_setRepeats : ByteArray := prog_10_method_15_code
def yX8_setRepeats : MethodName := ⟨RX8, "setRepeats", "(I)Z"⟩
abbrev cX8_setCost : ByteArray := prog_10_method_16_code
def yX8_setCost : MethodName := ⟨RX8, "setCost", "(II)Z"⟩
abbrev cX8_bears : ByteArray := prog_10_method_17_code
def yX8_bears : MethodName := ⟨RX8, "bears", "(II)I"⟩
abbrev cX8_sumShares : ByteArray := prog_10_method_18_code
def yX8_sumShares : MethodName := ⟨RX8, "sumShares", "(III)V"⟩
abbrev cX8_shares : ByteArray := prog_10_method_19_code
def yX8_shares : MethodName := ⟨RX8, "shares", "(IIII)J"⟩
abbrev cX8_years : ByteArray := prog_10_method_20_code
def yX8_years : MethodName := ⟨RX8, "years", "(II)J"⟩
abbrev cX8_span : ByteArray := prog_10_method_21_code
def yX8_span : MethodName := ⟨RX8, "span", "(I)J"⟩
abbrev cX8_bolt : ByteArray := prog_10_method_22_code
def yX8_bolt : MethodName := ⟨RX8, "bolt", "(I)J"⟩
abbrev cX8_inspect : ByteArray := prog_10_method_23_code
def yX8_inspect : MethodName := ⟨RX8, "inspect", "(I)J"⟩
abbrev cX8_squared : ByteArray := prog_10_method_24_code
def yX8_squared : MethodName := ⟨RX8, "squared", "(I)J"⟩
abbrev cX8_mend : ByteArray := prog_10_method_25_code
def yX8_mend : MethodName := ⟨RX8, "mend", "(I)Z"⟩
abbrev cX8_bornBetween : ByteArray := prog_10_method_26_code
def yX8_bornBetween : MethodName := ⟨RX8, "bornBetween", "(ID)D"⟩
abbrev cX8_rate : ByteArray := prog_10_method_27_code
def yX8_rate : MethodName := ⟨RX8, "rate", "()D"⟩
abbrev cX8_yearsToGrow : ByteArray := prog_10_method_28_code
def yX8_yearsToGrow : MethodName := ⟨RX8, "yearsToGrow", "(DDI)I"⟩
abbrev cX8_sizeBehind : ByteArray := prog_10_method_29_code
def yX8_sizeBehind : MethodName := ⟨RX8, "sizeBehind", "(I)D"⟩
def RX9 : String := "RoadHouse$Trains"
def TX9 : u_T := fun k => match k with
  | 0 => ("RoadHouse$Trains", "corners", "I", false)
  | 1 => ("RoadHouse$Trains", "corner", "[[I", true)
  | 2 => ("RoadHouse$Trains", "trains", "I", false)
  | 3 => ("RoadHouse$Trains", "lanes", "I", false)
  | 4 => ("RoadHouse$Trains", "cases", "I", false)
  | 5 => ("RoadHouse$Trains", "signs", "I", false)
  | 6 => ("RoadHouse$Trains", "tried", "I", false)
  | 7 => ("RoadHouse$Trains", "axles", "[I", true)
  | 8 => ("RoadHouse$Trains", "behind", "[[I", true)
  | 9 => ("RoadHouse$Trains", "load", "[[I", true)
  | 10 => ("RoadHouse$Trains", "gap", "[[I", true)
  | 11 => ("RoadHouse$Trains", "lane", "[[I", true)
  | 12 => ("RoadHouse$Trains", "text", "[C", true)
  | 13 => ("RoadHouse$Trains", "counted", "[[I", true)
  | 14 => ("RoadHouse$Trains", "some", "Z", false)
  | 15 => ("RoadHouse$Trains", "place", "[I", true)
  | 16 => ("RoadHouse$Trains", "list", "[I", true)
  | 17 => ("RoadHouse$Trains", "firstList", "[I", true)
  | 18 => ("RoadHouse$Trains", "fresh", "Z", false)
  | 19 => ("RoadHouse$Trains", "number", "[LRoadHouse$Big;", true)
  | 20 => ("RoadHouse$Trains", "share", "[LRoadHouse$Big;", true)
  | _ => ("RoadHouse$Trains", "told", "LRoadHouse$Ratio;", true)
def tyX9 : Nat → FieldType := fun k => match k with
  | 0 => .int
  | 1 => .array (.array .int)
  | 2 => .int
  | 3 => .int
  | 4 => .int
  | 5 => .int
  | 6 => .int
  | 7 => .array .int
  | 8 => .array (.array .int)
  | 9 => .array (.array .int)
  | 10 => .array (.array .int)
  | 11 => .array (.array .int)
  | 12 => .array .char
  | 13 => .array (.array .int)
  | 14 => .boolean
  | 15 => .array .int
  | 16 => .array .int
  | 17 => .array .int
  | 18 => .boolean
  | 19 => .array (.object "RoadHouse$Big")
  | 20 => .array (.object "RoadHouse$Big")
  | _ => .object "RoadHouse$Ratio"
abbrev wsX90 : List Cond := u_ws RX9 TX9 22
theorem nmX9 : ∀ a, a < 22 → ∀ b, b < 22 → a ≠ b → (TX9 a).2.1 ≠ (TX9 b).2.1 := by decide +kernel
theorem tyX9_ok : ∀ k, k < 22 → parseFieldDescriptor (TX9 k).2.2.1 = some (tyX9 k) := by decide +kernel
abbrev cX9_init : ByteArray := prog_11_method_1_code
def yX9_init : MethodName := ⟨RX9, "<init>", "()V"⟩
abbrev cX9_answer : ByteArray := prog_11_method_2_code
def yX9_answer : MethodName := ⟨RX9, "answer", "(IIII)J"⟩
abbrev cX9_nothing : ByteArray := prog_11_method_3_code
def yX9_nothing : MethodName := ⟨RX9, "nothing", "(I)J"⟩
abbrev cX9_forgetRun : ByteArray := prog_11_method_4_code
def yX9_forgetRun : MethodName := ⟨RX9, "forgetRun", "()V"⟩
abbrev cX9_clearRow : ByteArray := prog_11_method_5_code
def yX9_clearRow : MethodName := ⟨RX9, "clearRow", "()V"⟩
abbrev cX9_addCorner : ByteArray := prog_11_method_6_code
def yX9_addCorner : MethodName := ⟨RX9, "addCorner", "(III)Z"⟩
abbrev cX9_addTrain : ByteArray := prog_11_method_7_code
def yX9_addTrain : MethodName := ⟨RX9, "addTrain", "()J"⟩
abbrev cX9_isTrain : ByteArray := prog_11_method_8_code
def yX9_isTrain : MethodName := ⟨RX9, "isTrain", "(I)Z"⟩
abbrev cX9_addAxle : ByteArray := prog_11_method_9_code
def yX9_addAxle : MethodName := ⟨RX9, "addAxle", "(III)Z"⟩
abbrev cX9_setGap : ByteArray := prog_11_method_10_code
def yX9_setGap : MethodName := ⟨RX9, "setGap", "(III)Z"⟩
abbrev cX9_addLane : ByteArray := prog_11_method_11_code
def yX9_addLane : MethodName := ⟨RX9, "addLane", "(II)J"⟩
abbrev cX9_worstNumber : ByteArray := prog_11_method_12_code
def yX9_worstNumber : MethodName := ⟨RX9, "worstNumber", "()LRoadHouse$Big;"⟩
abbrev cX9_effectNumber : ByteArray := prog_11_method_13_code
def yX9_effectNumber : MethodName := ⟨RX9, "effectNumber", "()LRoadHouse$Big;"⟩
abbrev cX9_divisor : ByteArray := prog_11_method_14_code
def yX9_divisor : MethodName := ⟨RX9, "divisor", "()LRoadHouse$Big;"⟩
abbrev cX9_pieceDivisor : ByteArray := prog_11_method_15_code
def yX9_pieceDivisor : MethodName := ⟨RX9, "pieceDivisor", "(I)I"⟩
abbrev cX9_prepare : ByteArray := prog_11_method_16_code
def yX9_prepare : MethodName := ⟨RX9, "prepare", "()V"⟩
abbrev cX9_prepareArea : ByteArray := prog_11_method_17_code
def yX9_prepareArea : MethodName := ⟨RX9, "prepareArea", "()V"⟩
abbrev cX9_addPiece : ByteArray := prog_11_method_18_code
def yX9_addPiece : MethodName := ⟨RX9, "addPiece", "(IJJ)V"⟩
abbrev cX9_addEffect : ByteArray := prog_11_method_19_code
def yX9_addEffect : MethodName := ⟨RX9, "addEffect", "(LRoadHouse$Big;IIZ)V"⟩
abbrev cX9_listPlaces : ByteArray := prog_11_method_20_code
def yX9_listPlaces : MethodName := ⟨RX9, "listPlaces", "(IZ)I"⟩
abbrev cX9_listOnce : ByteArray := prog_11_method_21_code
def yX9_listOnce : MethodName := ⟨RX9, "listOnce", "(II)I"⟩
abbrev cX9_effect : ByteArray := prog_11_method_22_code
def yX9_effect : MethodName := ⟨RX9, "effect", "(IIZ)V"⟩
abbrev cX9_worse : ByteArray := prog_11_method_23_code
def yX9_worse : MethodName := ⟨RX9, "worse", "()Z"⟩
abbrev cX9_run : ByteArray := prog_11_method_24_code
def yX9_run : MethodName := ⟨RX9, "run", "(IZ)J"⟩
abbrev cX9_between : ByteArray := prog_11_method_25_code
def yX9_between : MethodName := ⟨RX9, "between", "(II)J"⟩
abbrev cX9_listGaps : ByteArray := prog_11_method_26_code
def yX9_listGaps : MethodName := ⟨RX9, "listGaps", "(II)I"⟩
abbrev cX9_worst : ByteArray := prog_11_method_27_code
def yX9_worst : MethodName := ⟨RX9, "worst", "(I)J"⟩
abbrev cX9_placePart : ByteArray := prog_11_method_28_code
def yX9_placePart : MethodName := ⟨RX9, "placePart", "(I)J"⟩
abbrev cX9_laneSum : ByteArray := prog_11_method_29_code
def yX9_laneSum : MethodName := ⟨RX9, "laneSum", "(II)J"⟩
abbrev cX9_worstOnLanes : ByteArray := prog_11_method_30_code
def yX9_worstOnLanes : MethodName := ⟨RX9, "worstOnLanes", "(II)J"⟩
abbrev cX9_patch : ByteArray := prog_11_method_31_code
def yX9_patch : MethodName := ⟨RX9, "patch", "(II)J"⟩
abbrev cX9_stretch : ByteArray := prog_11_method_32_code
def yX9_stretch : MethodName := ⟨RX9, "stretch", "(II)J"⟩
abbrev cX9_crossing : ByteArray := prog_11_method_33_code
def yX9_crossing : MethodName := ⟨RX9, "crossing", "(II)I"⟩
abbrev cX9_collect : ByteArray := prog_11_method_34_code
def yX9_collect : MethodName := ⟨RX9, "collect", "(I)Z"⟩
abbrev cX9_signAt : ByteArray := prog_11_method_35_code
def yX9_signAt : MethodName := ⟨RX9, "signAt", "(I)C"⟩
abbrev cX9_isDigit : ByteArray := prog_11_method_36_code
def yX9_isDigit : MethodName := ⟨RX9, "isDigit", "(C)Z"⟩
abbrev cX9_readCases : ByteArray := prog_11_method_37_code
def yX9_readCases : MethodName := ⟨RX9, "readCases", "()J"⟩
abbrev cX9_wrongSign : ByteArray := prog_11_method_38_code
def yX9_wrongSign : MethodName := ⟨RX9, "wrongSign", "()I"⟩
abbrev cX9_takeCases : ByteArray := prog_11_method_39_code
def yX9_takeCases : MethodName := ⟨RX9, "takeCases", "()V"⟩
abbrev cX9_caseNumber : ByteArray := prog_11_method_40_code
def yX9_caseNumber : MethodName := ⟨RX9, "caseNumber", "(ILRoadHouse$Big;)V"⟩
abbrev cX9_caseDivisor : ByteArray := prog_11_method_41_code
def yX9_caseDivisor : MethodName := ⟨RX9, "caseDivisor", "(LRoadHouse$Big;)V"⟩
abbrev cX9_caseOf : ByteArray := prog_11_method_42_code
def yX9_caseOf : MethodName := ⟨RX9, "caseOf", "(II)J"⟩
abbrev cX9_caseByRank : ByteArray := prog_11_method_43_code
def yX9_caseByRank : MethodName := ⟨RX9, "caseByRank", "(I)J"⟩
abbrev cX9_forwardPlaces : ByteArray := prog_11_method_44_code
def yX9_forwardPlaces : MethodName := ⟨RX9, "forwardPlaces", "(I)I"⟩
abbrev cX9_tellEffect : ByteArray := prog_11_method_45_code
def yX9_tellEffect : MethodName := ⟨RX9, "tellEffect", "(II)Z"⟩
abbrev cX9_fatigue : ByteArray := prog_11_method_46_code
def yX9_fatigue : MethodName := ⟨RX9, "fatigue", "(III)J"⟩
abbrev cX9_wholeEffect : ByteArray := prog_11_method_47_code
def yX9_wholeEffect : MethodName := ⟨RX9, "wholeEffect", "(II)J"⟩
abbrev cX9_brake : ByteArray := prog_11_method_48_code
def yX9_brake : MethodName := ⟨RX9, "brake", "(I)J"⟩
abbrev cX9_cornersAreWorst : ByteArray := prog_11_method_49_code
def yX9_cornersAreWorst : MethodName := ⟨RX9, "cornersAreWorst", "()Z"⟩
def RX10 : String := "RoadHouse$Way"
def TX10 : u_T := fun k => match k with
  | 0 => ("RoadHouse$Way", "cost", "[I", true)
  | 1 => ("RoadHouse$Way", "level", "[I", true)
  | 2 => ("RoadHouse$Way", "barred", "[Z", true)
  | 3 => ("RoadHouse$Way", "most", "[I", true)
  | 4 => ("RoadHouse$Way", "cents", "[I", true)
  | 5 => ("RoadHouse$Way", "zone", "[I", true)
  | 6 => ("RoadHouse$Way", "marks", "[I", true)
  | 7 => ("RoadHouse$Way", "value", "[[I", true)
  | 8 => ("RoadHouse$Way", "above", "[I", true)
  | 9 => ("RoadHouse$Way", "below", "[I", true)
  | 10 => ("RoadHouse$Way", "reach", "I", false)
  | 11 => ("RoadHouse$Way", "slope", "I", false)
  | 12 => ("RoadHouse$Way", "turn", "I", false)
  | 13 => ("RoadHouse$Way", "found", "[[I", true)
  | 14 => ("RoadHouse$Way", "foundCount", "I", false)
  | 15 => ("RoadHouse$Way", "nodes", "I", false)
  | 16 => ("RoadHouse$Way", "proved", "Z", false)
  | 17 => ("RoadHouse$Way", "bound", "J", false)
  | _ => ("RoadHouse$Way", "search", "LRoadHouse$Search;", true)
def tyX10 : Nat → FieldType := fun k => match k with
  | 0 => .array .int
  | 1 => .array .int
  | 2 => .array .boolean
  | 3 => .array .int
  | 4 => .array .int
  | 5 => .array .int
  | 6 => .array .int
  | 7 => .array (.array .int)
  | 8 => .array .int
  | 9 => .array .int
  | 10 => .int
  | 11 => .int
  | 12 => .int
  | 13 => .array (.array .int)
  | 14 => .int
  | 15 => .int
  | 16 => .boolean
  | 17 => .long
  | _ => .object "RoadHouse$Search"
abbrev wsX100 : List Cond := u_ws RX10 TX10 19
theorem nmX10 : ∀ a, a < 19 → ∀ b, b < 19 → a ≠ b → (TX10 a).2.1 ≠ (TX10 b).2.1 := by decide +kernel
theorem tyX10_ok : ∀ k, k < 19 → parseFieldDescriptor (TX10 k).2.2.1 = some (tyX10 k) := by decide +kernel
abbrev cX10_init : ByteArray := prog_12_method_1_code
def yX10_init : MethodName := ⟨RX10, "<init>", "()V"⟩
abbrev cX10_answer : ByteArray := prog_12_method_2_code
def yX10_answer : MethodName := ⟨RX10, "answer", "(IIIIII)J"⟩
abbrev cX10_inGrid : ByteArray := prog_12_method_3_code
def yX10_inGrid : MethodName := ⟨RX10, "inGrid", "(II)Z"⟩
abbrev cX10_setCell : ByteArray := prog_12_method_4_code
def yX10_setCell : MethodName := ⟨RX10, "setCell", "(IIII)Z"⟩
abbrev cX10_setBarred : ByteArray := prog_12_method_5_code
def yX10_setBarred : MethodName := ⟨RX10, "setBarred", "(II)Z"⟩
abbrev cX10_setMoves : ByteArray := prog_12_method_6_code
def yX10_setMoves : MethodName := ⟨RX10, "setMoves", "(III)Z"⟩
abbrev cX10_setValue : ByteArray := prog_12_method_7_code
def yX10_setValue : MethodName := ⟨RX10, "setValue", "(IIII)Z"⟩
abbrev cX10_setWeight : ByteArray := prog_12_method_8_code
def yX10_setWeight : MethodName := ⟨RX10, "setWeight", "(III)Z"⟩
abbrev cX10_setBridge : ByteArray := prog_12_method_9_code
def yX10_setBridge : MethodName := ⟨RX10, "setBridge", "(IIII)Z"⟩
abbrev cX10_mark : ByteArray := prog_12_method_10_code
def yX10_mark : MethodName := ⟨RX10, "mark", "(IIII)J"⟩
abbrev cX10_setZone : ByteArray := prog_12_method_11_code
def yX10_setZone : MethodName := ⟨RX10, "setZone", "(III)J"⟩
abbrev cX10_bridged : ByteArray := prog_12_method_12_code
def yX10_bridged : MethodName := ⟨RX10, "bridged", "(I)Z"⟩
abbrev cX10_passable : ByteArray := prog_12_method_13_code
def yX10_passable : MethodName := ⟨RX10, "passable", "(I)Z"⟩
abbrev cX10_slopeKept : ByteArray := prog_12_method_14_code
def yX10_slopeKept : MethodName := ⟨RX10, "slopeKept", "(II)Z"⟩
abbrev cX10_turnKept : ByteArray := prog_12_method_15_code
def yX10_turnKept : MethodName := ⟨RX10, "turnKept", "(IIZ)Z"⟩
abbrev cX10_differ : ByteArray := prog_12_method_16_code
def yX10_differ : MethodName := ⟨RX10, "differ", "(II)I"⟩
abbrev cX10_cellAt : ByteArray := prog_12_method_17_code
def yX10_cellAt : MethodName := ⟨RX10, "cellAt", "(III)I"⟩
abbrev cX10_headingOf : ByteArray := prog_12_method_18_code
def yX10_headingOf : MethodName := ⟨RX10, "headingOf", "(II)I"⟩
abbrev cX10_aimValue : ByteArray := prog_12_method_19_code
def yX10_aimValue : MethodName := ⟨RX10, "aimValue", "(II)J"⟩
abbrev cX10_price : ByteArray := prog_12_method_20_code
def yX10_price : MethodName := ⟨RX10, "price", "(I)J"⟩
abbrev cX10_find : ByteArray := prog_12_method_21_code
def yX10_find : MethodName := ⟨RX10, "find", "(IIIII)J"⟩
abbrev cX10_findUnlike : ByteArray := prog_12_method_22_code
def yX10_findUnlike : MethodName := ⟨RX10, "findUnlike", "(II)J"⟩
abbrev cX10_searchWay : ByteArray := prog_12_method_23_code
def yX10_searchWay : MethodName := ⟨RX10, "searchWay", "(III)J"⟩
abbrev cX10_atHand : ByteArray := prog_12_method_24_code
def yX10_atHand : MethodName := ⟨RX10, "atHand", "()Z"⟩
abbrev cX10_hand : ByteArray := prog_12_method_25_code
def yX10_hand : MethodName := ⟨RX10, "hand", "()[I"⟩
abbrev cX10_places : ByteArray := prog_12_method_26_code
def yX10_places : MethodName := ⟨RX10, "places", "()I"⟩
abbrev cX10_metre : ByteArray := prog_12_method_27_code
def yX10_metre : MethodName := ⟨RX10, "metre", "(I)I"⟩
abbrev cX10_levelAt : ByteArray := prog_12_method_28_code
def yX10_levelAt : MethodName := ⟨RX10, "levelAt", "(I)I"⟩
abbrev cX10_bridgedAt : ByteArray := prog_12_method_29_code
def yX10_bridgedAt : MethodName := ⟨RX10, "bridgedAt", "(I)Z"⟩
abbrev cX10_bridgedRow : ByteArray := prog_12_method_30_code
def yX10_bridgedRow : MethodName := ⟨RX10, "bridgedRow", "(I)I"⟩
abbrev cX10_placeOf : ByteArray := prog_12_method_31_code
def yX10_placeOf : MethodName := ⟨RX10, "placeOf", "(II)J"⟩
abbrev cX10_costOf : ByteArray := prog_12_method_32_code
def yX10_costOf : MethodName := ⟨RX10, "costOf", "([I)J"⟩
abbrev cX10_costPart : ByteArray := prog_12_method_33_code
def yX10_costPart : MethodName := ⟨RX10, "costPart", "(I)J"⟩
abbrev cX10_aimOf : ByteArray := prog_12_method_34_code
def yX10_aimOf : MethodName := ⟨RX10, "aimOf", "([II)J"⟩
abbrev cX10_spanOf : ByteArray := prog_12_method_35_code
def yX10_spanOf : MethodName := ⟨RX10, "spanOf", "(III)J"⟩
abbrev cX10_zoneSum : ByteArray := prog_12_method_36_code
def yX10_zoneSum : MethodName := ⟨RX10, "zoneSum", "(I)J"⟩
abbrev cX10_turnsOf : ByteArray := prog_12_method_37_code
def yX10_turnsOf : MethodName := ⟨RX10, "turnsOf", "()J"⟩
abbrev cX10_keeps : ByteArray := prog_12_method_38_code
def yX10_keeps : MethodName := ⟨RX10, "keeps", "()Z"⟩
def RX11 : String := "RoadHouse"
def TX11 : u_T := fun k => match k with
  | 0 => ("RoadHouse", "ways", "LRoadHouse$Way;", true)
  | 1 => ("RoadHouse", "soil", "LRoadHouse$Earth;", true)
  | 2 => ("RoadHouse", "beams", "LRoadHouse$Beams;", true)
  | 3 => ("RoadHouse", "trains", "LRoadHouse$Trains;", true)
  | 4 => ("RoadHouse", "stress", "LRoadHouse$Stress;", true)
  | 5 => ("RoadHouse", "signals", "LRoadHouse$Signals;", true)
  | 6 => ("RoadHouse", "cars", "LRoadHouse$Cars;", true)
  | 7 => ("RoadHouse", "contract", "LRoadHouse$Contract;", true)
  | 8 => ("RoadHouse", "cellGreen", "[Z", true)
  | _ => ("RoadHouse", "goodCalls", "I", false)
def tyX11 : Nat → FieldType := fun k => match k with
  | 0 => .object "RoadHouse$Way"
  | 1 => .object "RoadHouse$Earth"
  | 2 => .object "RoadHouse$Beams"
  | 3 => .object "RoadHouse$Trains"
  | 4 => .object "RoadHouse$Stress"
  | 5 => .object "RoadHouse$Signals"
  | 6 => .object "RoadHouse$Cars"
  | 7 => .object "RoadHouse$Contract"
  | 8 => .array .boolean
  | _ => .int
abbrev wsX110 : List Cond := u_ws RX11 TX11 10
theorem nmX11 : ∀ a, a < 10 → ∀ b, b < 10 → a ≠ b → (TX11 a).2.1 ≠ (TX11 b).2.1 := by decide +kernel
theorem tyX11_ok : ∀ k, k < 10 → parseFieldDescriptor (TX11 k).2.2.1 = some (tyX11 k) := by decide +kernel
abbrev cX11_init : ByteArray := prog_1_method_1_code
def yX11_init : MethodName := ⟨RX11, "<init>", "()V"⟩
abbrev cX11_act : ByteArray := prog_1_method_2_code
def yX11_act : MethodName := ⟨RX11, "act", "(IIIIII)J"⟩
abbrev cX11_logJoin : ByteArray := prog_1_method_3_code
def yX11_logJoin : MethodName := ⟨RX11, "logJoin", "(ID)D"⟩
abbrev cX11_crack : ByteArray := prog_1_method_4_code
def yX11_crack : MethodName := ⟨RX11, "crack", "(DDI)I"⟩
abbrev cX11_crackAt : ByteArray := prog_1_method_5_code
def yX11_crackAt : MethodName := ⟨RX11, "crackAt", "(I)D"⟩
abbrev cX11_earth : ByteArray := prog_1_method_6_code
def yX11_earth : MethodName := ⟨RX11, "earth", "(II)I"⟩
abbrev cX11_bridge : ByteArray := prog_1_method_7_code
def yX11_bridge : MethodName := ⟨RX11, "bridge", "(II)I"⟩
abbrev cX11_collectNumber : ByteArray := prog_1_method_8_code
def yX11_collectNumber : MethodName := ⟨RX11, "collectNumber", "(I)V"⟩
abbrev cX11_rowOf : ByteArray := prog_1_method_9_code
def yX11_rowOf : MethodName := ⟨RX11, "rowOf", "(I)I"⟩
abbrev cX11_pass : ByteArray := prog_1_method_10_code
def yX11_pass : MethodName := ⟨RX11, "pass", "(I)I"⟩
abbrev cX11_drive : ByteArray := prog_1_method_11_code
def yX11_drive : MethodName := ⟨RX11, "drive", "(I)I"⟩
abbrev cX11_tellCells : ByteArray := prog_1_method_12_code
def yX11_tellCells : MethodName := ⟨RX11, "tellCells", "()V"⟩
abbrev cX11_bill : ByteArray := prog_1_method_13_code
def yX11_bill : MethodName := ⟨RX11, "bill", "(I)I"⟩
abbrev cX11_whole : ByteArray := prog_1_method_14_code
def yX11_whole : MethodName := ⟨RX11, "whole", "(I)I"⟩
abbrev cX11_common : ByteArray := prog_1_method_15_code
def yX11_common : MethodName := ⟨RX11, "common", "(JJ)J"⟩
def RX12 : String := "RoadHouseModel$CorridorCellsModel"
def TX12 : u_T := fun k => match k with
  | 0 => ("RoadHouseModel$CorridorCellsModel", "w", "I", true)
  | 1 => ("RoadHouseModel$CorridorCellsModel", "h", "I", true)
  | 2 => ("RoadHouseModel$CorridorCellsModel", "costs", "[I", true)
  | 3 => ("RoadHouseModel$CorridorCellsModel", "levels", "[I", true)
  | 4 => ("RoadHouseModel$CorridorCellsModel", "zones", "[I", true)
  | 5 => ("RoadHouseModel$CorridorCellsModel", "mosts", "[I", true)
  | 6 => ("RoadHouseModel$CorridorCellsModel", "cents", "[I", true)
  | 7 => ("RoadHouseModel$CorridorCellsModel", "barred", "[Z", true)
  | 8 => ("RoadHouseModel$CorridorCellsModel", "values", "[I", true)
  | 9 => ("RoadHouseModel$CorridorCellsModel", "marks", "[I", true)
  | 10 => ("RoadHouseModel$CorridorCellsModel", "aboves", "[I", true)
  | 11 => ("RoadHouseModel$CorridorCellsModel", "belows", "[I", true)
  | 12 => ("RoadHouseModel$CorridorCellsModel", "reach", "I", false)
  | 13 => ("RoadHouseModel$CorridorCellsModel", "slope", "I", false)
  | 14 => ("RoadHouseModel$CorridorCellsModel", "turn", "I", false)
  | 15 => ("RoadHouseModel$CorridorCellsModel", "best", "[J", true)
  | 16 => ("RoadHouseModel$CorridorCellsModel", "bestTurns", "[I", true)
  | 17 => ("RoadHouseModel$CorridorCellsModel", "bestMoves", "[I", true)
  | 18 => ("RoadHouseModel$CorridorCellsModel", "known", "[Z", true)
  | 19 => ("RoadHouseModel$CorridorCellsModel", "shared", "[Z", true)
  | 20 => ("RoadHouseModel$CorridorCellsModel", "first", "I", false)
  | 21 => ("RoadHouseModel$CorridorCellsModel", "goal", "I", false)
  | 22 => ("RoadHouseModel$CorridorCellsModel", "most", "I", false)
  | 23 => ("RoadHouseModel$CorridorCellsModel", "found", "I", false)
  | 24 => ("RoadHouseModel$CorridorCellsModel", "firsts", "[I", true)
  | 25 => ("RoadHouseModel$CorridorCellsModel", "moves", "[I", true)
  | 26 => ("RoadHouseModel$CorridorCellsModel", "headings", "[B", true)
  | 27 => ("RoadHouseModel$CorridorCellsModel", "hasRun", "Z", false)
  | 28 => ("RoadHouseModel$CorridorCellsModel", "proved", "Z", false)
  | 29 => ("RoadHouseModel$CorridorCellsModel", "bound", "J", false)
  | 30 => ("RoadHouseModel$CorridorCellsModel", "nodes", "J", false)
  | _ => ("RoadHouseModel$CorridorCellsModel", "thrown", "I", false)
def tyX12 : Nat → FieldType := fun k => match k with
  | 0 => .int
  | 1 => .int
  | 2 => .array .int
  | 3 => .array .int
  | 4 => .array .int
  | 5 => .array .int
  | 6 => .array .int
  | 7 => .array .boolean
  | 8 => .array .int
  | 9 => .array .int
  | 10 => .array .int
  | 11 => .array .int
  | 12 => .int
  | 13 => .int
  | 14 => .int
  | 15 => .array .long
  | 16 => .array .int
  | 17 => .array .int
  | 18 => .array .boolean
  | 19 => .array .boolean
  | 20 => .int
  | 21 => .int
  | 22 => .int
  | 23 => .int
  | 24 => .array .int
  | 25 => .array .int
  | 26 => .array .byte
  | 27 => .boolean
  | 28 => .boolean
  | 29 => .long
  | 30 => .long
  | _ => .int
abbrev wsX120 : List Cond := u_ws RX12 TX12 32
theorem nmX12 : ∀ a, a < 32 → ∀ b, b < 32 → a ≠ b → (TX12 a).2.1 ≠ (TX12 b).2.1 := by decide +kernel
theorem tyX12_ok : ∀ k, k < 32 → parseFieldDescriptor (TX12 k).2.2.1 = some (tyX12 k) := by decide +kernel
abbrev cX12_init : ByteArray := prog_15_method_1_code
def yX12_init : MethodName := ⟨RX12, "<init>", "(II)V"⟩
abbrev cX12_noCell : ByteArray := prog_15_method_3_code
def yX12_noCell : MethodName := ⟨RX12, "noCell", "(II)Z"⟩
abbrev cX12_isOut : ByteArray := prog_15_method_4_code
def yX12_isOut : MethodName := ⟨RX12, "isOut", "(JJJ)Z"⟩
abbrev cX12_cell : ByteArray := prog_15_method_5_code
def yX12_cell : MethodName := ⟨RX12, "cell", "(IIII)Z"⟩
abbrev cX12_bar : ByteArray := prog_15_method_6_code
def yX12_bar : MethodName := ⟨RX12, "bar", "(II)Z"⟩
abbrev cX12_moves : ByteArray := prog_15_method_7_code
def yX12_moves : MethodName := ⟨RX12, "moves", "(III)Z"⟩
abbrev cX12_aim : ByteArray := prog_15_method_8_code
def yX12_aim : MethodName := ⟨RX12, "aim", "(IIIJ)Z"⟩
abbrev cX12_weight : ByteArray := prog_15_method_9_code
def yX12_weight : MethodName := ⟨RX12, "weight", "(IJJ)Z"⟩
abbrev cX12_bridge : ByteArray := prog_15_method_10_code
def yX12_bridge : MethodName := ⟨RX12, "bridge", "(IIIJ)Z"⟩
abbrev cX12_mark : ByteArray := prog_15_method_11_code
def yX12_mark : MethodName := ⟨RX12, "mark", "(IIII)I"⟩
abbrev cX12_zone : ByteArray := prog_15_method_12_code
def yX12_zone : MethodName := ⟨RX12, "zone", "(III)I"⟩
abbrev cX12_dx : ByteArray := prog_15_method_13_code
def yX12_dx : MethodName := ⟨RX12, "dx", "(I)I"⟩
abbrev cX12_dy : ByteArray := prog_15_method_14_code
def yX12_dy : MethodName := ⟨RX12, "dy", "(I)I"⟩
abbrev cX12_length : ByteArray := prog_15_method_15_code
def yX12_length : MethodName := ⟨RX12, "length", "(I)I"⟩
abbrev cX12_step : ByteArray := prog_15_method_16_code
def yX12_step : MethodName := ⟨RX12, "step", "(II)I"⟩
abbrev cX12_isBridged : ByteArray := prog_15_method_17_code
def yX12_isBridged : MethodName := ⟨RX12, "isBridged", "(I)Z"⟩
abbrev cX12_isClosed : ByteArray := prog_15_method_18_code
def yX12_isClosed : MethodName := ⟨RX12, "isClosed", "(I)Z"⟩
abbrev cX12_isHeading : ByteArray := prog_15_method_19_code
def yX12_isHeading : MethodName := ⟨RX12, "isHeading", "(I)Z"⟩
abbrev cX12_mayTurn : ByteArray := prog_15_method_20_code
def yX12_mayTurn : MethodName := ⟨RX12, "mayTurn", "(IIZ)Z"⟩
abbrev cX12_may : ByteArray := prog_15_method_21_code
def yX12_may : MethodName := ⟨RX12, "may", "(IIII)Z"⟩
abbrev cX12_valueOf : ByteArray := prog_15_method_22_code
def yX12_valueOf : MethodName := ⟨RX12, "valueOf", "(II)I"⟩
abbrev cX12_price : ByteArray := prog_15_method_23_code
def yX12_price : MethodName := ⟨RX12, "price", "(II)J"⟩
abbrev cX12_label : ByteArray := prog_15_method_24_code
def yX12_label : MethodName := ⟨RX12, "label", "(IIII)I"⟩
abbrev cX12_isRun : ByteArray := prog_15_method_25_code
def yX12_isRun : MethodName := ⟨RX12, "isRun", "(II)Z"⟩
abbrev cX12_shares : ByteArray := prog_15_method_26_code
def yX12_shares : MethodName := ⟨RX12, "shares", "(I)I"⟩
abbrev cX12_onward : ByteArray := prog_15_method_27_code
def yX12_onward : MethodName := ⟨RX12, "onward", "(IIIII)I"⟩
abbrev cX12_look : ByteArray := prog_15_method_28_code
def yX12_look : MethodName := ⟨RX12, "look", "(IIII)Z"⟩
abbrev cX12_findAll : ByteArray := prog_15_method_29_code
def yX12_findAll : MethodName := ⟨RX12, "findAll", "()V"⟩
abbrev cX12_isBefore : ByteArray := prog_15_method_30_code
def yX12_isBefore : MethodName := ⟨RX12, "isBefore", "(II)Z"⟩
abbrev cX12_costUpTo : ByteArray := prog_15_method_31_code
def yX12_costUpTo : MethodName := ⟨RX12, "costUpTo", "(J)J"⟩
abbrev cX12_search : ByteArray := prog_15_method_32_code
def yX12_search : MethodName := ⟨RX12, "search", "(III)I"⟩
abbrev cX12_walk : ByteArray := prog_15_method_33_code
def yX12_walk : MethodName := ⟨RX12, "walk", "(I)I"⟩
abbrev cX12_noEnd : ByteArray := prog_15_method_34_code
def yX12_noEnd : MethodName := ⟨RX12, "noEnd", "(II)Z"⟩
abbrev cX12_run : ByteArray := prog_15_method_35_code
def yX12_run : MethodName := ⟨RX12, "run", "(IIIIJ)I"⟩
abbrev cX12_cellOf : ByteArray := prog_15_method_36_code
def yX12_cellOf : MethodName := ⟨RX12, "cellOf", "(II)I"⟩
abbrev cX12_unlike : ByteArray := prog_15_method_37_code
def yX12_unlike : MethodName := ⟨RX12, "unlike", "(JJ)I"⟩
abbrev cX12_bound : ByteArray := prog_15_method_38_code
def yX12_bound : MethodName := ⟨RX12, "bound", "()J"⟩
abbrev cX12_proved : ByteArray := prog_15_method_39_code
def yX12_proved : MethodName := ⟨RX12, "proved", "()Z"⟩
abbrev cX12_at : ByteArray := prog_15_method_40_code
def yX12_at : MethodName := ⟨RX12, "at", "(II)I"⟩
abbrev cX12_common : ByteArray := prog_15_method_41_code
def yX12_common : MethodName := ⟨RX12, "common", "(JJ)J"⟩
abbrev cX12_priceOf : ByteArray := prog_15_method_42_code
def yX12_priceOf : MethodName := ⟨RX12, "priceOf", "(I)J"⟩
abbrev cX12_cost : ByteArray := prog_15_method_43_code
def yX12_cost : MethodName := ⟨RX12, "cost", "(I)J"⟩
abbrev cX12_aimOf : ByteArray := prog_15_method_44_code
def yX12_aimOf : MethodName := ⟨RX12, "aimOf", "(II)J"⟩
abbrev cX12_isLessPart : ByteArray := prog_15_method_45_code
def yX12_isLessPart : MethodName := ⟨RX12, "isLessPart", "(JJJJ)Z"⟩
abbrev cX12_span : ByteArray := prog_15_method_46_code
def yX12_span : MethodName := ⟨RX12, "span", "(III)J"⟩
abbrev cX12_sum : ByteArray := prog_15_method_47_code
def yX12_sum : MethodName := ⟨RX12, "sum", "(I)J"⟩
abbrev cX12_turns : ByteArray := prog_15_method_48_code
def yX12_turns : MethodName := ⟨RX12, "turns", "()I"⟩
abbrev cX12_keeps : ByteArray := prog_15_method_49_code
def yX12_keeps : MethodName := ⟨RX12, "keeps", "()Z"⟩
def RX13 : String := "RoadHouseModel$HaulFlowsModel"
def TX13 : u_T := fun k => match k with
  | 0 => ("RoadHouseModel$HaulFlowsModel", "fault", "I", false)
  | 1 => ("RoadHouseModel$HaulFlowsModel", "cuts", "I", false)
  | 2 => ("RoadHouseModel$HaulFlowsModel", "cutVolume", "[I", true)
  | 3 => ("RoadHouseModel$HaulFlowsModel", "cutKind", "[I", true)
  | 4 => ("RoadHouseModel$HaulFlowsModel", "cutWeek", "[I", true)
  | 5 => ("RoadHouseModel$HaulFlowsModel", "cutMetre", "[I", true)
  | 6 => ("RoadHouseModel$HaulFlowsModel", "pits", "I", false)
  | 7 => ("RoadHouseModel$HaulFlowsModel", "pitMetre", "[I", true)
  | 8 => ("RoadHouseModel$HaulFlowsModel", "pitCents", "[I", true)
  | 9 => ("RoadHouseModel$HaulFlowsModel", "fills", "I", false)
  | 10 => ("RoadHouseModel$HaulFlowsModel", "fillVolume", "[I", true)
  | 11 => ("RoadHouseModel$HaulFlowsModel", "fillWeek", "[I", true)
  | 12 => ("RoadHouseModel$HaulFlowsModel", "fillMetre", "[I", true)
  | 13 => ("RoadHouseModel$HaulFlowsModel", "ways", "I", false)
  | 14 => ("RoadHouseModel$HaulFlowsModel", "wayFrom", "[I", true)
  | 15 => ("RoadHouseModel$HaulFlowsModel", "wayTo", "[I", true)
  | 16 => ("RoadHouseModel$HaulFlowsModel", "wayCents", "[I", true)
  | 17 => ("RoadHouseModel$HaulFlowsModel", "barred", "[Z", true)
  | 18 => ("RoadHouseModel$HaulFlowsModel", "above", "[J", true)
  | 19 => ("RoadHouseModel$HaulFlowsModel", "below", "[J", true)
  | 20 => ("RoadHouseModel$HaulFlowsModel", "unfit", "[Z", true)
  | 21 => ("RoadHouseModel$HaulFlowsModel", "mosts", "[J", true)
  | 22 => ("RoadHouseModel$HaulFlowsModel", "arcs", "I", false)
  | 23 => ("RoadHouseModel$HaulFlowsModel", "begin", "[I", true)
  | 24 => ("RoadHouseModel$HaulFlowsModel", "finish", "[I", true)
  | 25 => ("RoadHouseModel$HaulFlowsModel", "most", "[J", true)
  | 26 => ("RoadHouseModel$HaulFlowsModel", "price", "[J", true)
  | 27 => ("RoadHouseModel$HaulFlowsModel", "flow", "[J", true)
  | 28 => ("RoadHouseModel$HaulFlowsModel", "done", "[Z", true)
  | 29 => ("RoadHouseModel$HaulFlowsModel", "far", "[J", true)
  | 30 => ("RoadHouseModel$HaulFlowsModel", "by", "[I", true)
  | 31 => ("RoadHouseModel$HaulFlowsModel", "sent", "J", false)
  | 32 => ("RoadHouseModel$HaulFlowsModel", "spent", "J", false)
  | 33 => ("RoadHouseModel$HaulFlowsModel", "planned", "Z", false)
  | 34 => ("RoadHouseModel$HaulFlowsModel", "clashed", "Z", false)
  | 35 => ("RoadHouseModel$HaulFlowsModel", "planCost", "J", false)
  | 36 => ("RoadHouseModel$HaulFlowsModel", "planFlow", "J", false)
  | _ => ("RoadHouseModel$HaulFlowsModel", "plan", "[J", true)
def tyX13 : Nat → FieldType := fun k => match k with
  | 0 => .int
  | 1 => .int
  | 2 => .array .int
  | 3 => .array .int
  | 4 => .array .int
  | 5 => .array .int
  | 6 => .int
  | 7 => .array .int
  | 8 => .array .int
  | 9 => .int
  | 10 => .array .int
  | 11 => .array .int
  | 12 => .array .int
  | 13 => .int
  | 14 => .array .int
  | 15 => .array .int
  | 16 => .array .int
  | 17 => .array .boolean
  | 18 => .array .long
  | 19 => .array .long
  | 20 => .array .boolean
  | 21 => .array .long
  | 22 => .int
  | 23 => .array .int
  | 24 => .array .int
  | 25 => .array .long
  | 26 => .array .long
  | 27 => .array .long
  | 28 => .array .boolean
  | 29 => .array .long
  | 30 => .array .int
  | 31 => .long
  | 32 => .long
  | 33 => .boolean
  | 34 => .boolean
  | 35 => .long
  | 36 => .long
  | _ => .array .long
abbrev wsX130 : List Cond := u_ws RX13 TX13 38
theorem nmX13 : ∀ a, a < 38 → ∀ b, b < 38 → a ≠ b → (TX13 a).2.1 ≠ (TX13 b).2.1 := by decide +kernel
theorem tyX13_ok : ∀ k, k < 38 → parseFieldDescriptor (TX13 k).2.2.1 = some (tyX13 k) := by decide +kernel
abbrev cX13_init : ByteArray := prog_16_method_1_code
def yX13_init : MethodName := ⟨RX13, "<init>", "()V"⟩
abbrev cX13_thrown : ByteArray := prog_16_method_2_code
def yX13_thrown : MethodName := ⟨RX13, "thrown", "()I"⟩
abbrev cX13_drop : ByteArray := prog_16_method_3_code
def yX13_drop : MethodName := ⟨RX13, "drop", "()V"⟩
abbrev cX13_isOut : ByteArray := prog_16_method_4_code
def yX13_isOut : MethodName := ⟨RX13, "isOut", "(JJJ)Z"⟩
abbrev cX13_cut : ByteArray := prog_16_method_5_code
def yX13_cut : MethodName := ⟨RX13, "cut", "(JIIJ)I"⟩
abbrev cX13_fill : ByteArray := prog_16_method_6_code
def yX13_fill : MethodName := ⟨RX13, "fill", "(JIJ)I"⟩
abbrev cX13_swell : ByteArray := prog_16_method_7_code
def yX13_swell : MethodName := ⟨RX13, "swell", "(IJJ)Z"⟩
abbrev cX13_noFill : ByteArray := prog_16_method_8_code
def yX13_noFill : MethodName := ⟨RX13, "noFill", "(I)Z"⟩
abbrev cX13_fits : ByteArray := prog_16_method_9_code
def yX13_fits : MethodName := ⟨RX13, "fits", "(IIZ)Z"⟩
abbrev cX13_way : ByteArray := prog_16_method_10_code
def yX13_way : MethodName := ⟨RX13, "way", "(JJJ)I"⟩
abbrev cX13_noWay : ByteArray := prog_16_method_11_code
def yX13_noWay : MethodName := ⟨RX13, "noWay", "(I)Z"⟩
abbrev cX13_bar : ByteArray := prog_16_method_12_code
def yX13_bar : MethodName := ⟨RX13, "bar", "(III)Z"⟩
abbrev cX13_borrow : ByteArray := prog_16_method_13_code
def yX13_borrow : MethodName := ⟨RX13, "borrow", "(JJ)I"⟩
abbrev cX13_most : ByteArray := prog_16_method_14_code
def yX13_most : MethodName := ⟨RX13, "most", "(IJ)Z"⟩
abbrev cX13_sources : ByteArray := prog_16_method_15_code
def yX13_sources : MethodName := ⟨RX13, "sources", "()I"⟩
abbrev cX13_gives : ByteArray := prog_16_method_16_code
def yX13_gives : MethodName := ⟨RX13, "gives", "(I)J"⟩
abbrev cX13_metreOf : ByteArray := prog_16_method_17_code
def yX13_metreOf : MethodName := ⟨RX13, "metreOf", "(I)I"⟩
abbrev cX13_serves : ByteArray := prog_16_method_18_code
def yX13_serves : MethodName := ⟨RX13, "serves", "(II)Z"⟩
abbrev cX13_apart : ByteArray := prog_16_method_19_code
def yX13_apart : MethodName := ⟨RX13, "apart", "(JJ)J"⟩
abbrev cX13_priceOf : ByteArray := prog_16_method_20_code
def yX13_priceOf : MethodName := ⟨RX13, "priceOf", "(III)J"⟩
abbrev cX13_arc : ByteArray := prog_16_method_21_code
def yX13_arc : MethodName := ⟨RX13, "arc", "(IIJJ)V"⟩
abbrev cX13_lay : ByteArray := prog_16_method_22_code
def yX13_lay : MethodName := ⟨RX13, "lay", "(IIII)V"⟩
abbrev cX13_walk : ByteArray := prog_16_method_23_code
def yX13_walk : MethodName := ⟨RX13, "walk", "(II)V"⟩
abbrev cX13_go : ByteArray := prog_16_method_24_code
def yX13_go : MethodName := ⟨RX13, "go", "(IIJ)J"⟩
abbrev cX13_sendAll : ByteArray := prog_16_method_25_code
def yX13_sendAll : MethodName := ⟨RX13, "sendAll", "()V"⟩
abbrev cX13_wanted : ByteArray := prog_16_method_26_code
def yX13_wanted : MethodName := ⟨RX13, "wanted", "()J"⟩
abbrev cX13_firstOfAll : ByteArray := prog_16_method_27_code
def yX13_firstOfAll : MethodName := ⟨RX13, "firstOfAll", "()V"⟩
abbrev cX13_run : ByteArray := prog_16_method_28_code
def yX13_run : MethodName := ⟨RX13, "run", "(I)I"⟩
abbrev cX13_noSource : ByteArray := prog_16_method_29_code
def yX13_noSource : MethodName := ⟨RX13, "noSource", "(I)Z"⟩
abbrev cX13_moved : ByteArray := prog_16_method_30_code
def yX13_moved : MethodName := ⟨RX13, "moved", "(III)J"⟩
abbrev cX13_cost : ByteArray := prog_16_method_31_code
def yX13_cost : MethodName := ⟨RX13, "cost", "(I)J"⟩
abbrev cX13_more : ByteArray := prog_16_method_32_code
def yX13_more : MethodName := ⟨RX13, "more", "(JI)J"⟩
abbrev cX13_dual : ByteArray := prog_16_method_33_code
def yX13_dual : MethodName := ⟨RX13, "dual", "(III)J"⟩
abbrev cX13_clash : ByteArray := prog_16_method_34_code
def yX13_clash : MethodName := ⟨RX13, "clash", "(I)I"⟩
abbrev cX13_closure : ByteArray := prog_16_method_35_code
def yX13_closure : MethodName := ⟨RX13, "closure", "(II)J"⟩
abbrev cX13_list : ByteArray := prog_16_method_36_code
def yX13_list : MethodName := ⟨RX13, "list", "(III)I"⟩
abbrev cX13_mass : ByteArray := prog_16_method_37_code
def yX13_mass : MethodName := ⟨RX13, "mass", "(JI)J"⟩
abbrev cX13_check : ByteArray := prog_16_method_38_code
def yX13_check : MethodName := ⟨RX13, "check", "()I"⟩
abbrev cX13_level : ByteArray := prog_16_method_39_code
def yX13_level : MethodName := ⟨RX13, "level", "(II)J"⟩
def RX14 : String := "RoadHouseModel$InfluenceRowsModel"
def TX14 : u_T := fun k => match k with
  | 0 => ("RoadHouseModel$InfluenceRowsModel", "fault", "I", false)
  | 1 => ("RoadHouseModel$InfluenceRowsModel", "z", "[I", true)
  | 2 => ("RoadHouseModel$InfluenceRowsModel", "signs", "[I", true)
  | 3 => ("RoadHouseModel$InfluenceRowsModel", "m", "I", false)
  | 4 => ("RoadHouseModel$InfluenceRowsModel", "lengths", "[I", true)
  | 5 => ("RoadHouseModel$InfluenceRowsModel", "stiffs", "[I", true)
  | 6 => ("RoadHouseModel$InfluenceRowsModel", "high", "[Z", true)
  | 7 => ("RoadHouseModel$InfluenceRowsModel", "turn", "[Z", true)
  | 8 => ("RoadHouseModel$InfluenceRowsModel", "hinges", "[Z", true)
  | 9 => ("RoadHouseModel$InfluenceRowsModel", "settles", "[I", true)
  | 10 => ("RoadHouseModel$InfluenceRowsModel", "size", "I", false)
  | 11 => ("RoadHouseModel$InfluenceRowsModel", "text", "[I", true)
  | 12 => ("RoadHouseModel$InfluenceRowsModel", "rows", "I", false)
  | 13 => ("RoadHouseModel$InfluenceRowsModel", "rowWhat", "[I", true)
  | 14 => ("RoadHouseModel$InfluenceRowsModel", "rowMember", "[I", true)
  | 15 => ("RoadHouseModel$InfluenceRowsModel", "rowPlace", "[I", true)
  | 16 => ("RoadHouseModel$InfluenceRowsModel", "solved", "Z", false)
  | 17 => ("RoadHouseModel$InfluenceRowsModel", "equations", "I", false)
  | 18 => ("RoadHouseModel$InfluenceRowsModel", "rank", "I", false)
  | 19 => ("RoadHouseModel$InfluenceRowsModel", "tells", "[I", true)
  | 20 => ("RoadHouseModel$InfluenceRowsModel", "at", "I", false)
  | 21 => ("RoadHouseModel$InfluenceRowsModel", "readLength", "[I", true)
  | 22 => ("RoadHouseModel$InfluenceRowsModel", "readStiff", "[I", true)
  | 23 => ("RoadHouseModel$InfluenceRowsModel", "readHigh", "[Z", true)
  | 24 => ("RoadHouseModel$InfluenceRowsModel", "readTurn", "[Z", true)
  | _ => ("RoadHouseModel$InfluenceRowsModel", "readHinge", "[Z", true)
def tyX14 : Nat → FieldType := fun k => match k with
  | 0 => .int
  | 1 => .array .int
  | 2 => .array .int
  | 3 => .int
  | 4 => .array .int
  | 5 => .array .int
  | 6 => .array .boolean
  | 7 => .array .boolean
  | 8 => .array .boolean
  | 9 => .array .int
  | 10 => .int
  | 11 => .array .int
  | 12 => .int
  | 13 => .array .int
  | 14 => .array .int
  | 15 => .array .int
  | 16 => .boolean
  | 17 => .int
  | 18 => .int
  | 19 => .array .int
  | 20 => .int
  | 21 => .array .int
  | 22 => .array .int
  | 23 => .array .boolean
  | 24 => .array .boolean
  | _ => .array .boolean
abbrev wsX140 : List Cond := u_ws RX14 TX14 26
theorem nmX14 : ∀ a, a < 26 → ∀ b, b < 26 → a ≠ b → (TX14 a).2.1 ≠ (TX14 b).2.1 := by decide +kernel
theorem tyX14_ok : ∀ k, k < 26 → parseFieldDescriptor (TX14 k).2.2.1 = some (tyX14 k) := by decide +kernel
abbrev cX14_init : ByteArray := prog_17_method_1_code
def yX14_init : MethodName := ⟨RX14, "<init>", "()V"⟩
abbrev cX14_thrown : ByteArray := prog_17_method_2_code
def yX14_thrown : MethodName := ⟨RX14, "thrown", "()I"⟩
abbrev cX14_small : ByteArray := prog_17_method_3_code
def yX14_small : MethodName := ⟨RX14, "small", "(IJ)V"⟩
abbrev cX14_copy : ByteArray := prog_17_method_4_code
def yX14_copy : MethodName := ⟨RX14, "copy", "(II)V"⟩
abbrev cX14_limb : ByteArray := prog_17_method_5_code
def yX14_limb : MethodName := ⟨RX14, "limb", "(II)I"⟩
abbrev cX14_trim : ByteArray := prog_17_method_6_code
def yX14_trim : MethodName := ⟨RX14, "trim", "(II)V"⟩
abbrev cX14_longer : ByteArray := prog_17_method_7_code
def yX14_longer : MethodName := ⟨RX14, "longer", "(II)I"⟩
abbrev cX14_compare : ByteArray := prog_17_method_8_code
def yX14_compare : MethodName := ⟨RX14, "compare", "(II)I"⟩
abbrev cX14_addPlain : ByteArray := prog_17_method_10_code
def yX14_addPlain : MethodName := ⟨RX14, "addPlain", "(II)V"⟩
abbrev cX14_takePlain : ByteArray := prog_17_method_11_code
def yX14_takePlain : MethodName := ⟨RX14, "takePlain", "(II)V"⟩
abbrev cX14_add : ByteArray := prog_17_method_12_code
def yX14_add : MethodName := ⟨RX14, "add", "(II)V"⟩
abbrev cX14_product : ByteArray := prog_17_method_13_code
def yX14_product : MethodName := ⟨RX14, "product", "(III)V"⟩
abbrev cX14_divide : ByteArray := prog_17_method_15_code
def yX14_divide : MethodName := ⟨RX14, "divide", "(IJ)J"⟩
abbrev cX14_isEven : ByteArray := prog_17_method_17_code
def yX14_isEven : MethodName := ⟨RX14, "isEven", "(I)Z"⟩
abbrev cX14_halve : ByteArray := prog_17_method_18_code
def yX14_halve : MethodName := ⟨RX14, "halve", "(I)V"⟩
abbrev cX14_bits : ByteArray := prog_17_method_19_code
def yX14_bits : MethodName := ⟨RX14, "bits", "(I)I"⟩
abbrev cX14_divisorOf : ByteArray := prog_17_method_20_code
def yX14_divisorOf : MethodName := ⟨RX14, "divisorOf", "(II)V"⟩
abbrev cX14_exact : ByteArray := prog_17_method_21_code
def yX14_exact : MethodName := ⟨RX14, "exact", "(I)V"⟩
abbrev cX14_reduce : ByteArray := prog_17_method_22_code
def yX14_reduce : MethodName := ⟨RX14, "reduce", "(II)V"⟩
abbrev cX14_addFraction : ByteArray := prog_17_method_23_code
def yX14_addFraction : MethodName := ⟨RX14, "addFraction", "(IIII)V"⟩
abbrev cX14_told : ByteArray := prog_17_method_24_code
def yX14_told : MethodName := ⟨RX14, "told", "(III)J"⟩
abbrev cX14_fraction : ByteArray := prog_17_method_25_code
def yX14_fraction : MethodName := ⟨RX14, "fraction", "(IIJJ)V"⟩
abbrev cX14_timesFraction : ByteArray := prog_17_method_26_code
def yX14_timesFraction : MethodName := ⟨RX14, "timesFraction", "(IIII)V"⟩
abbrev cX14_divideFraction : ByteArray := prog_17_method_27_code
def yX14_divideFraction : MethodName := ⟨RX14, "divideFraction", "(IIII)V"⟩
abbrev cX14_unit : ByteArray := prog_17_method_28_code
def yX14_unit : MethodName := ⟨RX14, "unit", "(I)Z"⟩
abbrev cX14_sign : ByteArray := prog_17_method_29_code
def yX14_sign : MethodName := ⟨RX14, "sign", "()I"⟩
abbrev cX14_readNode : ByteArray := prog_17_method_30_code
def yX14_readNode : MethodName := ⟨RX14, "readNode", "(I)Z"⟩
abbrev cX14_isDigit : ByteArray := prog_17_method_31_code
def yX14_isDigit : MethodName := ⟨RX14, "isDigit", "(I)Z"⟩
abbrev cX14_readNumber : ByteArray := prog_17_method_32_code
def yX14_readNumber : MethodName := ⟨RX14, "readNumber", "()I"⟩
abbrev cX14_readBeam : ByteArray := prog_17_method_33_code
def yX14_readBeam : MethodName := ⟨RX14, "readBeam", "(I)Z"⟩
abbrev cX14_read : ByteArray := prog_17_method_34_code
def yX14_read : MethodName := ⟨RX14, "read", "()I"⟩
abbrev cX14_thrownAt : ByteArray := prog_17_method_35_code
def yX14_thrownAt : MethodName := ⟨RX14, "thrownAt", "(II)Z"⟩
abbrev cX14_member : ByteArray := prog_17_method_36_code
def yX14_member : MethodName := ⟨RX14, "member", "(IJJ)Z"⟩
abbrev cX14_support : ByteArray := prog_17_method_37_code
def yX14_support : MethodName := ⟨RX14, "support", "(IIZ)Z"⟩
abbrev cX14_hinge : ByteArray := prog_17_method_38_code
def yX14_hinge : MethodName := ⟨RX14, "hinge", "(IIZ)Z"⟩
abbrev cX14_cell : ByteArray := prog_17_method_39_code
def yX14_cell : MethodName := ⟨RX14, "cell", "(II)I"⟩
abbrev cX14_grow : ByteArray := prog_17_method_40_code
def yX14_grow : MethodName := ⟨RX14, "grow", "(IIJJ)V"⟩
abbrev cX14_put : ByteArray := prog_17_method_41_code
def yX14_put : MethodName := ⟨RX14, "put", "(IIIII)V"⟩
abbrev cX14_coefficient : ByteArray := prog_17_method_42_code
def yX14_coefficient : MethodName := ⟨RX14, "coefficient", "(IIII)V"⟩
abbrev cX14_own : ByteArray := prog_17_method_43_code
def yX14_own : MethodName := ⟨RX14, "own", "(IIII)V"⟩
abbrev cX14_next : ByteArray := prog_17_method_44_code
def yX14_next : MethodName := ⟨RX14, "next", "()V"⟩
abbrev cX14_heights : ByteArray := prog_17_method_45_code
def yX14_heights : MethodName := ⟨RX14, "heights", "(I)V"⟩
abbrev cX14_turns : ByteArray := prog_17_method_46_code
def yX14_turns : MethodName := ⟨RX14, "turns", "(I)V"⟩
abbrev cX14_exchange : ByteArray := prog_17_method_47_code
def yX14_exchange : MethodName := ⟨RX14, "exchange", "(II)V"⟩
abbrev cX14_solveAll : ByteArray := prog_17_method_48_code
def yX14_solveAll : MethodName := ⟨RX14, "solveAll", "()V"⟩
abbrev cX14_takeRow : ByteArray := prog_17_method_49_code
def yX14_takeRow : MethodName := ⟨RX14, "takeRow", "(II)V"⟩
abbrev cX14_isFirm : ByteArray := prog_17_method_50_code
def yX14_isFirm : MethodName := ⟨RX14, "isFirm", "()Z"⟩
abbrev cX14_moves : ByteArray := prog_17_method_51_code
def yX14_moves : MethodName := ⟨RX14, "moves", "(III)Z"⟩
abbrev cX14_isLoose : ByteArray := prog_17_method_52_code
def yX14_isLoose : MethodName := ⟨RX14, "isLoose", "(I)Z"⟩
abbrev cX14_solve : ByteArray := prog_17_method_53_code
def yX14_solve : MethodName := ⟨RX14, "solve", "()I"⟩
abbrev cX14_loose : ByteArray := prog_17_method_54_code
def yX14_loose : MethodName := ⟨RX14, "loose", "(I)I"⟩
abbrev cX14_noBeam : ByteArray := prog_17_method_55_code
def yX14_noBeam : MethodName := ⟨RX14, "noBeam", "(I)Z"⟩
abbrev cX14_noNode : ByteArray := prog_17_method_56_code
def yX14_noNode : MethodName := ⟨RX14, "noNode", "(I)Z"⟩
abbrev cX14_row : ByteArray := prog_17_method_57_code
def yX14_row : MethodName := ⟨RX14, "row", "(III)I"⟩
abbrev cX14_has : ByteArray := prog_17_method_58_code
def yX14_has : MethodName := ⟨RX14, "has", "(IIIII)V"⟩
abbrev cX14_value : ByteArray := prog_17_method_59_code
def yX14_value : MethodName := ⟨RX14, "value", "(III)V"⟩
abbrev cX14_none : ByteArray := prog_17_method_60_code
def yX14_none : MethodName := ⟨RX14, "none", "(I)J"⟩
abbrev cX14_noRow : ByteArray := prog_17_method_61_code
def yX14_noRow : MethodName := ⟨RX14, "noRow", "(I)Z"⟩
abbrev cX14_at : ByteArray := prog_17_method_62_code
def yX14_at : MethodName := ⟨RX14, "at", "(IIII)J"⟩
abbrev cX14_area : ByteArray := prog_17_method_63_code
def yX14_area : MethodName := ⟨RX14, "area", "(III)J"⟩
abbrev cX14_addPiece : ByteArray := prog_17_method_64_code
def yX14_addPiece : MethodName := ⟨RX14, "addPiece", "(I)V"⟩
abbrev cX14_turned : ByteArray := prog_17_method_65_code
def yX14_turned : MethodName := ⟨RX14, "turned", "(I)Z"⟩
abbrev cX14_sums : ByteArray := prog_17_method_66_code
def yX14_sums : MethodName := ⟨RX14, "sums", "()Z"⟩
abbrev cX14_settled : ByteArray := prog_17_method_67_code
def yX14_settled : MethodName := ⟨RX14, "settled", "(IJ)Z"⟩
abbrev cX14_move : ByteArray := prog_17_method_68_code
def yX14_move : MethodName := ⟨RX14, "move", "(IJJI)J"⟩
abbrev cX14_count : ByteArray := prog_17_method_69_code
def yX14_count : MethodName := ⟨RX14, "count", "(I)I"⟩
def RX15 : String := "RoadHouseModel$RateQuantitiesModel"
def TX15 : u_T := fun k => match k with
  | 0 => ("RoadHouseModel$RateQuantitiesModel", "fault", "I", false)
  | 1 => ("RoadHouseModel$RateQuantitiesModel", "letters", "I", false)
  | 2 => ("RoadHouseModel$RateQuantitiesModel", "text", "[I", true)
  | 3 => ("RoadHouseModel$RateQuantitiesModel", "kept", "[I", true)
  | 4 => ("RoadHouseModel$RateQuantitiesModel", "words", "I", false)
  | 5 => ("RoadHouseModel$RateQuantitiesModel", "begins", "[I", true)
  | 6 => ("RoadHouseModel$RateQuantitiesModel", "ends", "[I", true)
  | 7 => ("RoadHouseModel$RateQuantitiesModel", "items", "I", false)
  | 8 => ("RoadHouseModel$RateQuantitiesModel", "names", "[I", true)
  | 9 => ("RoadHouseModel$RateQuantitiesModel", "froms", "[I", true)
  | 10 => ("RoadHouseModel$RateQuantitiesModel", "tos", "[I", true)
  | 11 => ("RoadHouseModel$RateQuantitiesModel", "steps", "[I", true)
  | 12 => ("RoadHouseModel$RateQuantitiesModel", "at", "I", false)
  | 13 => ("RoadHouseModel$RateQuantitiesModel", "step", "I", false)
  | 14 => ("RoadHouseModel$RateQuantitiesModel", "rates", "[J", true)
  | 15 => ("RoadHouseModel$RateQuantitiesModel", "counts", "[I", true)
  | 16 => ("RoadHouseModel$RateQuantitiesModel", "shapes", "I", false)
  | 17 => ("RoadHouseModel$RateQuantitiesModel", "numbers", "[I", true)
  | 18 => ("RoadHouseModel$RateQuantitiesModel", "entries", "I", false)
  | 19 => ("RoadHouseModel$RateQuantitiesModel", "entry", "[I", true)
  | 20 => ("RoadHouseModel$RateQuantitiesModel", "now", "[I", true)
  | 21 => ("RoadHouseModel$RateQuantitiesModel", "before", "[I", true)
  | 22 => ("RoadHouseModel$RateQuantitiesModel", "changes", "I", false)
  | 23 => ("RoadHouseModel$RateQuantitiesModel", "change", "[I", true)
  | 24 => ("RoadHouseModel$RateQuantitiesModel", "penalties", "I", false)
  | 25 => ("RoadHouseModel$RateQuantitiesModel", "penalty", "[I", true)
  | 26 => ("RoadHouseModel$RateQuantitiesModel", "troubles", "I", false)
  | 27 => ("RoadHouseModel$RateQuantitiesModel", "trouble", "[I", true)
  | 28 => ("RoadHouseModel$RateQuantitiesModel", "above", "[J", true)
  | 29 => ("RoadHouseModel$RateQuantitiesModel", "below", "[J", true)
  | 30 => ("RoadHouseModel$RateQuantitiesModel", "weights", "[J", true)
  | 31 => ("RoadHouseModel$RateQuantitiesModel", "keptAbove", "J", false)
  | 32 => ("RoadHouseModel$RateQuantitiesModel", "keptBelow", "J", false)
  | 33 => ("RoadHouseModel$RateQuantitiesModel", "backMonth", "I", false)
  | 34 => ("RoadHouseModel$RateQuantitiesModel", "values", "[J", true)
  | 35 => ("RoadHouseModel$RateQuantitiesModel", "signs", "[I", true)
  | 36 => ("RoadHouseModel$RateQuantitiesModel", "byNothing", "Z", false)
  | 37 => ("RoadHouseModel$RateQuantitiesModel", "written", "I", false)
  | 38 => ("RoadHouseModel$RateQuantitiesModel", "out", "[I", true)
  | _ => ("RoadHouseModel$RateQuantitiesModel", "size", "I", false)
def tyX15 : Nat → FieldType := fun k => match k with
  | 0 => .int
  | 1 => .int
  | 2 => .array .int
  | 3 => .array .int
  | 4 => .int
  | 5 => .array .int
  | 6 => .array .int
  | 7 => .int
  | 8 => .array .int
  | 9 => .array .int
  | 10 => .array .int
  | 11 => .array .int
  | 12 => .int
  | 13 => .int
  | 14 => .array .long
  | 15 => .array .int
  | 16 => .int
  | 17 => .array .int
  | 18 => .int
  | 19 => .array .int
  | 20 => .array .int
  | 21 => .array .int
  | 22 => .int
  | 23 => .array .int
  | 24 => .int
  | 25 => .array .int
  | 26 => .int
  | 27 => .array .int
  | 28 => .array .long
  | 29 => .array .long
  | 30 => .array .long
  | 31 => .long
  | 32 => .long
  | 33 => .int
  | 34 => .array .long
  | 35 => .array .int
  | 36 => .boolean
  | 37 => .int
  | 38 => .array .int
  | _ => .int
abbrev wsX150 : List Cond := u_ws RX15 TX15 40
theorem nmX15 : ∀ a, a < 40 → ∀ b, b < 40 → a ≠ b → (TX15 a).2.1 ≠ (TX15 b).2.1 := by decide +kernel
theorem tyX15_ok : ∀ k, k < 40 → parseFieldDescriptor (TX15 k).2.2.1 = some (tyX15 k) := by decide +kernel
abbrev cX15_init : ByteArray := prog_18_method_1_code
def yX15_init : MethodName := ⟨RX15, "<init>", "()V"⟩
abbrev cX15_thrown : ByteArray := prog_18_method_2_code
def yX15_thrown : MethodName := ⟨RX15, "thrown", "()I"⟩
abbrev cX15_isOut : ByteArray := prog_18_method_3_code
def yX15_isOut : MethodName := ⟨RX15, "isOut", "(JJJ)Z"⟩
abbrev cX15_unit : ByteArray := prog_18_method_4_code
def yX15_unit : MethodName := ⟨RX15, "unit", "(I)Z"⟩
abbrev cX15_sort : ByteArray := prog_18_method_5_code
def yX15_sort : MethodName := ⟨RX15, "sort", "(I)I"⟩
abbrev cX15_split : ByteArray := prog_18_method_6_code
def yX15_split : MethodName := ⟨RX15, "split", "()V"⟩
abbrev cX15_is : ByteArray := prog_18_method_7_code
def yX15_is : MethodName := ⟨RX15, "is", "([III)Z"⟩
abbrev cX15_length : ByteArray := prog_18_method_8_code
def yX15_length : MethodName := ⟨RX15, "length", "(I)I"⟩
abbrev cX15_sortOf : ByteArray := prog_18_method_9_code
def yX15_sortOf : MethodName := ⟨RX15, "sortOf", "(I)I"⟩
abbrev cX15_numberOf : ByteArray := prog_18_method_10_code
def yX15_numberOf : MethodName := ⟨RX15, "numberOf", "([II)I"⟩
abbrev cX15_isName : ByteArray := prog_18_method_11_code
def yX15_isName : MethodName := ⟨RX15, "isName", "(I)Z"⟩
abbrev cX15_variable : ByteArray := prog_18_method_12_code
def yX15_variable : MethodName := ⟨RX15, "variable", "([II)I"⟩
abbrev cX15_isSign : ByteArray := prog_18_method_13_code
def yX15_isSign : MethodName := ⟨RX15, "isSign", "([II)Z"⟩
abbrev cX15_readExpression : ByteArray := prog_18_method_14_code
def yX15_readExpression : MethodName := ⟨RX15, "readExpression", "()Z"⟩
abbrev cX15_readItem : ByteArray := prog_18_method_15_code
def yX15_readItem : MethodName := ⟨RX15, "readItem", "()Z"⟩
abbrev cX15_read : ByteArray := prog_18_method_16_code
def yX15_read : MethodName := ⟨RX15, "read", "()I"⟩
abbrev cX15_rank : ByteArray := prog_18_method_17_code
def yX15_rank : MethodName := ⟨RX15, "rank", "(I)I"⟩
abbrev cX15_join : ByteArray := prog_18_method_18_code
def yX15_join : MethodName := ⟨RX15, "join", "(I)V"⟩
abbrev cX15_measure : ByteArray := prog_18_method_19_code
def yX15_measure : MethodName := ⟨RX15, "measure", "(I[II)J"⟩
abbrev cX15_tellTrouble : ByteArray := prog_18_method_20_code
def yX15_tellTrouble : MethodName := ⟨RX15, "tellTrouble", "(III)V"⟩
abbrev cX15_noItem : ByteArray := prog_18_method_21_code
def yX15_noItem : MethodName := ⟨RX15, "noItem", "(I)Z"⟩
abbrev cX15_noMonth : ByteArray := prog_18_method_22_code
def yX15_noMonth : MethodName := ⟨RX15, "noMonth", "(I)Z"⟩
abbrev cX15_noShape : ByteArray := prog_18_method_23_code
def yX15_noShape : MethodName := ⟨RX15, "noShape", "(I)Z"⟩
abbrev cX15_rate : ByteArray := prog_18_method_24_code
def yX15_rate : MethodName := ⟨RX15, "rate", "(IJ)I"⟩
abbrev cX15_shape : ByteArray := prog_18_method_25_code
def yX15_shape : MethodName := ⟨RX15, "shape", "(IJJJ)I"⟩
abbrev cX15_add : ByteArray := prog_18_method_26_code
def yX15_add : MethodName := ⟨RX15, "add", "(IIII)V"⟩
abbrev cX15_into : ByteArray := prog_18_method_27_code
def yX15_into : MethodName := ⟨RX15, "into", "(III)Z"⟩
abbrev cX15_isPlain : ByteArray := prog_18_method_28_code
def yX15_isPlain : MethodName := ⟨RX15, "isPlain", "(I)Z"⟩
abbrev cX15_sum : ByteArray := prog_18_method_29_code
def yX15_sum : MethodName := ⟨RX15, "sum", "(III)J"⟩
abbrev cX15_quantity : ByteArray := prog_18_method_30_code
def yX15_quantity : MethodName := ⟨RX15, "quantity", "(III)J"⟩
abbrev cX15_walked : ByteArray := prog_18_method_31_code
def yX15_walked : MethodName := ⟨RX15, "walked", "(III)J"⟩
abbrev cX15_rateIn : ByteArray := prog_18_method_32_code
def yX15_rateIn : MethodName := ⟨RX15, "rateIn", "(II)J"⟩
abbrev cX15_gross : ByteArray := prog_18_method_33_code
def yX15_gross : MethodName := ⟨RX15, "gross", "(I)J"⟩
abbrev cX15_keptIn : ByteArray := prog_18_method_34_code
def yX15_keptIn : MethodName := ⟨RX15, "keptIn", "(I)J"⟩
abbrev cX15_keptTo : ByteArray := prog_18_method_35_code
def yX15_keptTo : MethodName := ⟨RX15, "keptTo", "(I)J"⟩
abbrev cX15_told : ByteArray := prog_18_method_36_code
def yX15_told : MethodName := ⟨RX15, "told", "(II)J"⟩
abbrev cX15_told2 : ByteArray := prog_18_method_37_code
def yX15_told2 : MethodName := ⟨RX15, "told2", "(I)J"⟩
abbrev cX15_pay : ByteArray := prog_18_method_38_code
def yX15_pay : MethodName := ⟨RX15, "pay", "(II)J"⟩
abbrev cX15_final2 : ByteArray := prog_18_method_39_code
def yX15_final2 : MethodName := ⟨RX15, "final2", "(I)J"⟩
abbrev cX15_advance : ByteArray := prog_18_method_40_code
def yX15_advance : MethodName := ⟨RX15, "advance", "(I)J"⟩
abbrev cX15_change : ByteArray := prog_18_method_41_code
def yX15_change : MethodName := ⟨RX15, "change", "(IJJI)I"⟩
abbrev cX15_index : ByteArray := prog_18_method_42_code
def yX15_index : MethodName := ⟨RX15, "index", "(IJJ)Z"⟩
abbrev cX15_keep : ByteArray := prog_18_method_43_code
def yX15_keep : MethodName := ⟨RX15, "keep", "(JJ)Z"⟩
abbrev cX15_kept : ByteArray := prog_18_method_44_code
def yX15_kept : MethodName := ⟨RX15, "kept", "(I)J"⟩
abbrev cX15_back : ByteArray := prog_18_method_45_code
def yX15_back : MethodName := ⟨RX15, "back", "(I)J"⟩
abbrev cX15_penalty : ByteArray := prog_18_method_46_code
def yX15_penalty : MethodName := ⟨RX15, "penalty", "(IIJ)Z"⟩
abbrev cX15_firm : ByteArray := prog_18_method_47_code
def yX15_firm : MethodName := ⟨RX15, "firm", "(IJ)Z"⟩
abbrev cX15_share : ByteArray := prog_18_method_48_code
def yX15_share : MethodName := ⟨RX15, "share", "(II)J"⟩
abbrev cX15_correct : ByteArray := prog_18_method_49_code
def yX15_correct : MethodName := ⟨RX15, "correct", "(IJI)I"⟩
abbrev cX15_plainOf : ByteArray := prog_18_method_50_code
def yX15_plainOf : MethodName := ⟨RX15, "plainOf", "(I)I"⟩
abbrev cX15_twice : ByteArray := prog_18_method_51_code
def yX15_twice : MethodName := ⟨RX15, "twice", "(II)I"⟩
abbrev cX15_dispute : ByteArray := prog_18_method_52_code
def yX15_dispute : MethodName := ⟨RX15, "dispute", "(II)I"⟩
abbrev cX15_open : ByteArray := prog_18_method_53_code
def yX15_open : MethodName := ⟨RX15, "open", "(II)I"⟩
abbrev cX15_item : ByteArray := prog_18_method_54_code
def yX15_item : MethodName := ⟨RX15, "item", "(I)I"⟩
abbrev cX15_put : ByteArray := prog_18_method_55_code
def yX15_put : MethodName := ⟨RX15, "put", "(I)V"⟩
abbrev cX15_putNumber : ByteArray := prog_18_method_56_code
def yX15_putNumber : MethodName := ⟨RX15, "putNumber", "(J)V"⟩
abbrev cX15_write : ByteArray := prog_18_method_57_code
def yX15_write : MethodName := ⟨RX15, "write", "(I)I"⟩
def RX16 : String := "RoadHouseModel$SignalProofsModel"
def TX16 : u_T := fun k => match k with
  | 0 => ("RoadHouseModel$SignalProofsModel", "fault", "I", false)
  | 1 => ("RoadHouseModel$SignalProofsModel", "n", "I", false)
  | 2 => ("RoadHouseModel$SignalProofsModel", "least", "[I", true)
  | 3 => ("RoadHouseModel$SignalProofsModel", "most", "[I", true)
  | 4 => ("RoadHouseModel$SignalProofsModel", "clashes", "[Z", true)
  | 5 => ("RoadHouseModel$SignalProofsModel", "clears", "[I", true)
  | 6 => ("RoadHouseModel$SignalProofsModel", "plans", "I", false)
  | 7 => ("RoadHouseModel$SignalProofsModel", "phases", "[I", true)
  | 8 => ("RoadHouseModel$SignalProofsModel", "told", "[I", true)
  | 9 => ("RoadHouseModel$SignalProofsModel", "readPhase", "[I", true)
  | 10 => ("RoadHouseModel$SignalProofsModel", "size", "I", false)
  | 11 => ("RoadHouseModel$SignalProofsModel", "text", "[I", true)
  | 12 => ("RoadHouseModel$SignalProofsModel", "machine", "[I", true)
  | 13 => ("RoadHouseModel$SignalProofsModel", "state", "[I", true)
  | 14 => ("RoadHouseModel$SignalProofsModel", "seconds", "I", false)
  | 15 => ("RoadHouseModel$SignalProofsModel", "many", "I", false)
  | 16 => ("RoadHouseModel$SignalProofsModel", "when", "[I", true)
  | 17 => ("RoadHouseModel$SignalProofsModel", "what", "[I", true)
  | 18 => ("RoadHouseModel$SignalProofsModel", "tooEarly", "Z", false)
  | 19 => ("RoadHouseModel$SignalProofsModel", "tooShort", "Z", false)
  | 20 => ("RoadHouseModel$SignalProofsModel", "proof", "I", false)
  | 21 => ("RoadHouseModel$SignalProofsModel", "found", "I", false)
  | 22 => ("RoadHouseModel$SignalProofsModel", "rows", "[I", true)
  | 23 => ("RoadHouseModel$SignalProofsModel", "keys", "[I", true)
  | 24 => ("RoadHouseModel$SignalProofsModel", "from", "[I", true)
  | 25 => ("RoadHouseModel$SignalProofsModel", "by", "[I", true)
  | 26 => ("RoadHouseModel$SignalProofsModel", "leads", "[I", true)
  | 27 => ("RoadHouseModel$SignalProofsModel", "faultFrom", "I", false)
  | 28 => ("RoadHouseModel$SignalProofsModel", "faultBy", "I", false)
  | _ => ("RoadHouseModel$SignalProofsModel", "waits", "[I", true)
def tyX16 : Nat → FieldType := fun k => match k with
  | 0 => .int
  | 1 => .int
  | 2 => .array .int
  | 3 => .array .int
  | 4 => .array .boolean
  | 5 => .array .int
  | 6 => .int
  | 7 => .array .int
  | 8 => .array .int
  | 9 => .array .int
  | 10 => .int
  | 11 => .array .int
  | 12 => .array .int
  | 13 => .array .int
  | 14 => .int
  | 15 => .int
  | 16 => .array .int
  | 17 => .array .int
  | 18 => .boolean
  | 19 => .boolean
  | 20 => .int
  | 21 => .int
  | 22 => .array .int
  | 23 => .array .int
  | 24 => .array .int
  | 25 => .array .int
  | 26 => .array .int
  | 27 => .int
  | 28 => .int
  | _ => .array .int
abbrev wsX160 : List Cond := u_ws RX16 TX16 30
theorem nmX16 : ∀ a, a < 30 → ∀ b, b < 30 → a ≠ b → (TX16 a).2.1 ≠ (TX16 b).2.1 := by decide +kernel
theorem tyX16_ok : ∀ k, k < 30 → parseFieldDescriptor (TX16 k).2.2.1 = some (tyX16 k) := by decide +kernel
abbrev cX16_init : ByteArray := prog_19_method_1_code
def yX16_init : MethodName := ⟨RX16, "<init>", "()V"⟩
abbrev cX16_thrown : ByteArray := prog_19_method_2_code
def yX16_thrown : MethodName := ⟨RX16, "thrown", "()I"⟩
abbrev cX16_forget : ByteArray := prog_19_method_3_code
def yX16_forget : MethodName := ⟨RX16, "forget", "()V"⟩
abbrev cX16_copyTo : ByteArray := prog_19_method_4_code
def yX16_copyTo : MethodName := ⟨RX16, "copyTo", "([I)V"⟩
abbrev cX16_copyFrom : ByteArray := prog_19_method_5_code
def yX16_copyFrom : MethodName := ⟨RX16, "copyFrom", "([I)V"⟩
abbrev cX16_begin : ByteArray := prog_19_method_6_code
def yX16_begin : MethodName := ⟨RX16, "begin", "(I)V"⟩
abbrev cX16_thrownAt : ByteArray := prog_19_method_7_code
def yX16_thrownAt : MethodName := ⟨RX16, "thrownAt", "(I)Z"⟩
abbrev cX16_clash : ByteArray := prog_19_method_8_code
def yX16_clash : MethodName := ⟨RX16, "clash", "(III)Z"⟩
abbrev cX16_least : ByteArray := prog_19_method_9_code
def yX16_least : MethodName := ⟨RX16, "least", "(II)Z"⟩
abbrev cX16_most : ByteArray := prog_19_method_10_code
def yX16_most : MethodName := ⟨RX16, "most", "(II)Z"⟩
abbrev cX16_unit : ByteArray := prog_19_method_11_code
def yX16_unit : MethodName := ⟨RX16, "unit", "(I)Z"⟩
abbrev cX16_sign : ByteArray := prog_19_method_12_code
def yX16_sign : MethodName := ⟨RX16, "sign", "(I)I"⟩
abbrev cX16_number : ByteArray := prog_19_method_13_code
def yX16_number : MethodName := ⟨RX16, "number", "(III)I"⟩
abbrev cX16_digits : ByteArray := prog_19_method_14_code
def yX16_digits : MethodName := ⟨RX16, "digits", "(I)I"⟩
abbrev cX16_read : ByteArray := prog_19_method_15_code
def yX16_read : MethodName := ⟨RX16, "read", "()I"⟩
abbrev cX16_program : ByteArray := prog_19_method_16_code
def yX16_program : MethodName := ⟨RX16, "program", "()I"⟩
abbrev cX16_part : ByteArray := prog_19_method_17_code
def yX16_part : MethodName := ⟨RX16, "part", "(III)I"⟩
abbrev cX16_groupsNow : ByteArray := prog_19_method_18_code
def yX16_groupsNow : MethodName := ⟨RX16, "groupsNow", "()I"⟩
abbrev cX16_groupsNext : ByteArray := prog_19_method_19_code
def yX16_groupsNext : MethodName := ⟨RX16, "groupsNext", "()I"⟩
abbrev cX16_shownNow : ByteArray := prog_19_method_20_code
def yX16_shownNow : MethodName := ⟨RX16, "shownNow", "()I"⟩
abbrev cX16_in : ByteArray := prog_19_method_21_code
def yX16_in : MethodName := ⟨RX16, "in", "(II)Z"⟩
abbrev cX16_first : ByteArray := prog_19_method_22_code
def yX16_first : MethodName := ⟨RX16, "first", "()V"⟩
abbrev cX16_pass : ByteArray := prog_19_method_23_code
def yX16_pass : MethodName := ⟨RX16, "pass", "(I)I"⟩
abbrev cX16_ends : ByteArray := prog_19_method_24_code
def yX16_ends : MethodName := ⟨RX16, "ends", "()Z"⟩
abbrev cX16_leave : ByteArray := prog_19_method_25_code
def yX16_leave : MethodName := ⟨RX16, "leave", "()V"⟩
abbrev cX16_enter : ByteArray := prog_19_method_26_code
def yX16_enter : MethodName := ⟨RX16, "enter", "(I)V"⟩
abbrev cX16_faultNow : ByteArray := prog_19_method_27_code
def yX16_faultNow : MethodName := ⟨RX16, "faultNow", "()I"⟩
abbrev cX16_eventAt : ByteArray := prog_19_method_28_code
def yX16_eventAt : MethodName := ⟨RX16, "eventAt", "(I)I"⟩
abbrev cX16_tell : ByteArray := prog_19_method_29_code
def yX16_tell : MethodName := ⟨RX16, "tell", "(II)Z"⟩
abbrev cX16_call : ByteArray := prog_19_method_30_code
def yX16_call : MethodName := ⟨RX16, "call", "(II)Z"⟩
abbrev cX16_plan : ByteArray := prog_19_method_31_code
def yX16_plan : MethodName := ⟨RX16, "plan", "(II)Z"⟩
abbrev cX16_second : ByteArray := prog_19_method_32_code
def yX16_second : MethodName := ⟨RX16, "second", "()I"⟩
abbrev cX16_told : ByteArray := prog_19_method_33_code
def yX16_told : MethodName := ⟨RX16, "told", "(I)I"⟩
abbrev cX16_shown : ByteArray := prog_19_method_34_code
def yX16_shown : MethodName := ⟨RX16, "shown", "(I)I"⟩
abbrev cX16_key : ByteArray := prog_19_method_35_code
def yX16_key : MethodName := ⟨RX16, "key", "()I"⟩
abbrev cX16_find : ByteArray := prog_19_method_36_code
def yX16_find : MethodName := ⟨RX16, "find", "()I"⟩
abbrev cX16_add : ByteArray := prog_19_method_37_code
def yX16_add : MethodName := ⟨RX16, "add", "(II)V"⟩
abbrev cX16_load : ByteArray := prog_19_method_38_code
def yX16_load : MethodName := ⟨RX16, "load", "(I)V"⟩
abbrev cX16_prove : ByteArray := prog_19_method_39_code
def yX16_prove : MethodName := ⟨RX16, "prove", "(I)I"⟩
abbrev cX16_states : ByteArray := prog_19_method_40_code
def yX16_states : MethodName := ⟨RX16, "states", "()I"⟩
abbrev cX16_row : ByteArray := prog_19_method_41_code
def yX16_row : MethodName := ⟨RX16, "row", "(II)I"⟩
abbrev cX16_waitsAt : ByteArray := prog_19_method_42_code
def yX16_waitsAt : MethodName := ⟨RX16, "waitsAt", "(II)Z"⟩
abbrev cX16_longestOf : ByteArray := prog_19_method_43_code
def yX16_longestOf : MethodName := ⟨RX16, "longestOf", "(I)I"⟩
abbrev cX16_longest : ByteArray := prog_19_method_44_code
def yX16_longest : MethodName := ⟨RX16, "longest", "(I)I"⟩
abbrev cX16_ring : ByteArray := prog_19_method_45_code
def yX16_ring : MethodName := ⟨RX16, "ring", "(I)I"⟩
abbrev cX16_answered : ByteArray := prog_19_method_46_code
def yX16_answered : MethodName := ⟨RX16, "answered", "()Z"⟩
abbrev cX16_same : ByteArray := prog_19_method_47_code
def yX16_same : MethodName := ⟨RX16, "same", "(I)Z"⟩
abbrev cX16_from : ByteArray := prog_19_method_48_code
def yX16_from : MethodName := ⟨RX16, "from", "(JJI)I"⟩
def RX17 : String := "RoadHouseModel$StreetCellsModel"
def TX17 : u_T := fun k => match k with
  | 0 => ("RoadHouseModel$StreetCellsModel", "n", "I", true)
  | 1 => ("RoadHouseModel$StreetCellsModel", "room", "[I", true)
  | 2 => ("RoadHouseModel$StreetCellsModel", "most", "[I", true)
  | 3 => ("RoadHouseModel$StreetCellsModel", "speed", "[I", true)
  | 4 => ("RoadHouseModel$StreetCellsModel", "least", "[I", true)
  | 5 => ("RoadHouseModel$StreetCellsModel", "lane", "[I", true)
  | 6 => ("RoadHouseModel$StreetCellsModel", "joins", "I", false)
  | 7 => ("RoadHouseModel$StreetCellsModel", "from", "[I", true)
  | 8 => ("RoadHouseModel$StreetCellsModel", "to", "[I", true)
  | 9 => ("RoadHouseModel$StreetCellsModel", "above", "[I", true)
  | 10 => ("RoadHouseModel$StreetCellsModel", "below", "[I", true)
  | 11 => ("RoadHouseModel$StreetCellsModel", "rank", "[I", true)
  | 12 => ("RoadHouseModel$StreetCellsModel", "wanted", "[I", true)
  | 13 => ("RoadHouseModel$StreetCellsModel", "taken", "[I", true)
  | 14 => ("RoadHouseModel$StreetCellsModel", "settings", "I", false)
  | 15 => ("RoadHouseModel$StreetCellsModel", "setting", "[I", true)
  | 16 => ("RoadHouseModel$StreetCellsModel", "entries", "I", false)
  | 17 => ("RoadHouseModel$StreetCellsModel", "entry", "[I", true)
  | 18 => ("RoadHouseModel$StreetCellsModel", "measures", "I", false)
  | 19 => ("RoadHouseModel$StreetCellsModel", "measure", "[I", true)
  | 20 => ("RoadHouseModel$StreetCellsModel", "rules", "I", false)
  | 21 => ("RoadHouseModel$StreetCellsModel", "rule", "[I", true)
  | 22 => ("RoadHouseModel$StreetCellsModel", "now", "[J", true)
  | 23 => ("RoadHouseModel$StreetCellsModel", "kept", "[J", true)
  | 24 => ("RoadHouseModel$StreetCellsModel", "saves", "I", false)
  | 25 => ("RoadHouseModel$StreetCellsModel", "cap", "[I", true)
  | 26 => ("RoadHouseModel$StreetCellsModel", "can", "[I", true)
  | 27 => ("RoadHouseModel$StreetCellsModel", "sends", "[I", true)
  | 28 => ("RoadHouseModel$StreetCellsModel", "takes", "[I", true)
  | 29 => ("RoadHouseModel$StreetCellsModel", "held", "[Z", true)
  | 30 => ("RoadHouseModel$StreetCellsModel", "gains", "[I", true)
  | _ => ("RoadHouseModel$StreetCellsModel", "thrown", "I", false)
def tyX17 : Nat → FieldType := fun k => match k with
  | 0 => .int
  | 1 => .array .int
  | 2 => .array .int
  | 3 => .array .int
  | 4 => .array .int
  | 5 => .array .int
  | 6 => .int
  | 7 => .array .int
  | 8 => .array .int
  | 9 => .array .int
  | 10 => .array .int
  | 11 => .array .int
  | 12 => .array .int
  | 13 => .array .int
  | 14 => .int
  | 15 => .array .int
  | 16 => .int
  | 17 => .array .int
  | 18 => .int
  | 19 => .array .int
  | 20 => .int
  | 21 => .array .int
  | 22 => .array .long
  | 23 => .array .long
  | 24 => .int
  | 25 => .array .int
  | 26 => .array .int
  | 27 => .array .int
  | 28 => .array .int
  | 29 => .array .boolean
  | 30 => .array .int
  | _ => .int
abbrev wsX170 : List Cond := u_ws RX17 TX17 32
theorem nmX17 : ∀ a, a < 32 → ∀ b, b < 32 → a ≠ b → (TX17 a).2.1 ≠ (TX17 b).2.1 := by decide +kernel
theorem tyX17_ok : ∀ k, k < 32 → parseFieldDescriptor (TX17 k).2.2.1 = some (tyX17 k) := by decide +kernel
abbrev cX17_init : ByteArray := prog_20_method_1_code
def yX17_init : MethodName := ⟨RX17, "<init>", "(I)V"⟩
abbrev cX17_noCell : ByteArray := prog_20_method_3_code
def yX17_noCell : MethodName := ⟨RX17, "noCell", "(I)Z"⟩
abbrev cX17_isOut : ByteArray := prog_20_method_4_code
def yX17_isOut : MethodName := ⟨RX17, "isOut", "(JJJ)Z"⟩
abbrev cX17_cell : ByteArray := prog_20_method_5_code
def yX17_cell : MethodName := ⟨RX17, "cell", "(IIII)Z"⟩
abbrev cX17_find : ByteArray := prog_20_method_6_code
def yX17_find : MethodName := ⟨RX17, "find", "(II)I"⟩
abbrev cX17_many : ByteArray := prog_20_method_7_code
def yX17_many : MethodName := ⟨RX17, "many", "(IZ)I"⟩
abbrev cX17_joinCells : ByteArray := prog_20_method_8_code
def yX17_joinCells : MethodName := ⟨RX17, "joinCells", "(II)Z"⟩
abbrev cX17_noPart : ByteArray := prog_20_method_9_code
def yX17_noPart : MethodName := ⟨RX17, "noPart", "(JJ)Z"⟩
abbrev cX17_share : ByteArray := prog_20_method_10_code
def yX17_share : MethodName := ⟨RX17, "share", "(IIJJ)Z"⟩
abbrev cX17_rank : ByteArray := prog_20_method_11_code
def yX17_rank : MethodName := ⟨RX17, "rank", "(III)Z"⟩
abbrev cX17_put : ByteArray := prog_20_method_12_code
def yX17_put : MethodName := ⟨RX17, "put", "(II)Z"⟩
abbrev cX17_isPast : ByteArray := prog_20_method_13_code
def yX17_isPast : MethodName := ⟨RX17, "isPast", "(II)Z"⟩
abbrev cX17_enters : ByteArray := prog_20_method_14_code
def yX17_enters : MethodName := ⟨RX17, "enters", "(III)Z"⟩
abbrev cX17_set : ByteArray := prog_20_method_15_code
def yX17_set : MethodName := ⟨RX17, "set", "(IIIIII)Z"⟩
abbrev cX17_signal : ByteArray := prog_20_method_16_code
def yX17_signal : MethodName := ⟨RX17, "signal", "(IIZ)Z"⟩
abbrev cX17_close : ByteArray := prog_20_method_17_code
def yX17_close : MethodName := ⟨RX17, "close", "(IIJJ)Z"⟩
abbrev cX17_meter : ByteArray := prog_20_method_18_code
def yX17_meter : MethodName := ⟨RX17, "meter", "(II)I"⟩
abbrev cX17_lane : ByteArray := prog_20_method_19_code
def yX17_lane : MethodName := ⟨RX17, "lane", "(III)I"⟩
abbrev cX17_rule : ByteArray := prog_20_method_20_code
def yX17_rule : MethodName := ⟨RX17, "rule", "(III)Z"⟩
abbrev cX17_holds : ByteArray := prog_20_method_21_code
def yX17_holds : MethodName := ⟨RX17, "holds", "(II)I"⟩
abbrev cX17_lesser : ByteArray := prog_20_method_22_code
def yX17_lesser : MethodName := ⟨RX17, "lesser", "(JJ)I"⟩
abbrev cX17_comes : ByteArray := prog_20_method_23_code
def yX17_comes : MethodName := ⟨RX17, "comes", "()V"⟩
abbrev cX17_bounds : ByteArray := prog_20_method_24_code
def yX17_bounds : MethodName := ⟨RX17, "bounds", "()V"⟩
abbrev cX17_wants : ByteArray := prog_20_method_25_code
def yX17_wants : MethodName := ⟨RX17, "wants", "()V"⟩
abbrev cX17_take : ByteArray := prog_20_method_26_code
def yX17_take : MethodName := ⟨RX17, "take", "()V"⟩
abbrev cX17_step : ByteArray := prog_20_method_27_code
def yX17_step : MethodName := ⟨RX17, "step", "()V"⟩
abbrev cX17_run : ByteArray := prog_20_method_28_code
def yX17_run : MethodName := ⟨RX17, "run", "(I)I"⟩
abbrev cX17_in : ByteArray := prog_20_method_29_code
def yX17_in : MethodName := ⟨RX17, "in", "(I)I"⟩
abbrev cX17_out : ByteArray := prog_20_method_30_code
def yX17_out : MethodName := ⟨RX17, "out", "()J"⟩
abbrev cX17_kept : ByteArray := prog_20_method_31_code
def yX17_kept : MethodName := ⟨RX17, "kept", "()Z"⟩
abbrev cX17_delay : ByteArray := prog_20_method_32_code
def yX17_delay : MethodName := ⟨RX17, "delay", "(I)J"⟩
abbrev cX17_moved : ByteArray := prog_20_method_33_code
def yX17_moved : MethodName := ⟨RX17, "moved", "(II)I"⟩
abbrev cX17_rest : ByteArray := prog_20_method_34_code
def yX17_rest : MethodName := ⟨RX17, "rest", "(III)J"⟩
abbrev cX17_read : ByteArray := prog_20_method_35_code
def yX17_read : MethodName := ⟨RX17, "read", "(III)Z"⟩
abbrev cX17_differs : ByteArray := prog_20_method_36_code
def yX17_differs : MethodName := ⟨RX17, "differs", "(II)I"⟩
abbrev cX17_acted : ByteArray := prog_20_method_37_code
def yX17_acted : MethodName := ⟨RX17, "acted", "(I)I"⟩
abbrev cX17_save : ByteArray := prog_20_method_38_code
def yX17_save : MethodName := ⟨RX17, "save", "()I"⟩
abbrev cX17_back : ByteArray := prog_20_method_39_code
def yX17_back : MethodName := ⟨RX17, "back", "(I)Z"⟩
abbrev cX17_over : ByteArray := prog_20_method_40_code
def yX17_over : MethodName := ⟨RX17, "over", "(I)I"⟩
abbrev cX17_toll : ByteArray := prog_20_method_41_code
def yX17_toll : MethodName := ⟨RX17, "toll", "(II)J"⟩
def RX18 : String := "RoadHouseModel$StressTurnsModel"
def TX18 : u_T := fun k => match k with
  | 0 => ("RoadHouseModel$StressTurnsModel", "size", "I", false)
  | 1 => ("RoadHouseModel$StressTurnsModel", "row", "[I", true)
  | 2 => ("RoadHouseModel$StressTurnsModel", "points", "I", false)
  | 3 => ("RoadHouseModel$StressTurnsModel", "point", "[I", true)
  | 4 => ("RoadHouseModel$StressTurnsModel", "turns", "I", false)
  | 5 => ("RoadHouseModel$StressTurnsModel", "from", "[I", true)
  | 6 => ("RoadHouseModel$StressTurnsModel", "to", "[I", true)
  | 7 => ("RoadHouseModel$StressTurnsModel", "when", "[I", true)
  | 8 => ("RoadHouseModel$StressTurnsModel", "lines", "[I", true)
  | 9 => ("RoadHouseModel$StressTurnsModel", "ranges", "[J", true)
  | 10 => ("RoadHouseModel$StressTurnsModel", "cycles", "[J", true)
  | 11 => ("RoadHouseModel$StressTurnsModel", "cutOffs", "[J", true)
  | 12 => ("RoadHouseModel$StressTurnsModel", "above", "J", false)
  | 13 => ("RoadHouseModel$StressTurnsModel", "below", "J", false)
  | 14 => ("RoadHouseModel$StressTurnsModel", "repeats", "J", false)
  | 15 => ("RoadHouseModel$StressTurnsModel", "costs", "[J", true)
  | 16 => ("RoadHouseModel$StressTurnsModel", "mends", "I", false)
  | 17 => ("RoadHouseModel$StressTurnsModel", "history", "[I", true)
  | 18 => ("RoadHouseModel$StressTurnsModel", "crackFrom", "D", false)
  | 19 => ("RoadHouseModel$StressTurnsModel", "crackSteps", "I", false)
  | 20 => ("RoadHouseModel$StressTurnsModel", "halves", "[I", true)
  | 21 => ("RoadHouseModel$StressTurnsModel", "upper", "[I", true)
  | 22 => ("RoadHouseModel$StressTurnsModel", "lower", "[I", true)
  | 23 => ("RoadHouseModel$StressTurnsModel", "other", "[I", true)
  | _ => ("RoadHouseModel$StressTurnsModel", "plans", "[J", true)
def tyX18 : Nat → FieldType := fun k => match k with
  | 0 => .int
  | 1 => .array .int
  | 2 => .int
  | 3 => .array .int
  | 4 => .int
  | 5 => .array .int
  | 6 => .array .int
  | 7 => .array .int
  | 8 => .array .int
  | 9 => .array .long
  | 10 => .array .long
  | 11 => .array .long
  | 12 => .long
  | 13 => .long
  | 14 => .long
  | 15 => .array .long
  | 16 => .int
  | 17 => .array .int
  | 18 => .double
  | 19 => .int
  | 20 => .array .int
  | 21 => .array .int
  | 22 => .array .int
  | 23 => .array .int
  | _ => .array .long
abbrev wsX180 : List Cond := u_ws RX18 TX18 25
theorem nmX18 : ∀ a, a < 25 → ∀ b, b < 25 → a ≠ b → (TX18 a).2.1 ≠ (TX18 b).2.1 := by decide +kernel
theorem tyX18_ok : ∀ k, k < 25 → parseFieldDescriptor (TX18 k).2.2.1 = some (tyX18 k) := by decide +kernel
abbrev cX18_init : ByteArray := prog_21_method_1_code
def yX18_init : MethodName := ⟨RX18, "<init>", "()V"⟩
abbrev cX18_apart : ByteArray := prog_21_method_2_code
def yX18_apart : MethodName := ⟨RX18, "apart", "(II)I"⟩
abbrev cX18_feed : ByteArray := prog_21_method_3_code
def yX18_feed : MethodName := ⟨RX18, "feed", "(I)V"⟩
abbrev cX18_value : ByteArray := prog_21_method_4_code
def yX18_value : MethodName := ⟨RX18, "value", "(J)Z"⟩
abbrev cX18_turns : ByteArray := prog_21_method_5_code
def yX18_turns : MethodName := ⟨RX18, "turns", "()I"⟩
abbrev cX18_rangeOf : ByteArray := prog_21_method_6_code
def yX18_rangeOf : MethodName := ⟨RX18, "rangeOf", "(I)I"⟩
abbrev cX18_turn : ByteArray := prog_21_method_7_code
def yX18_turn : MethodName := ⟨RX18, "turn", "(II)J"⟩
abbrev cX18_rest : ByteArray := prog_21_method_8_code
def yX18_rest : MethodName := ⟨RX18, "rest", "(I)I"⟩
abbrev cX18_rests : ByteArray := prog_21_method_9_code
def yX18_rests : MethodName := ⟨RX18, "rests", "()I"⟩
abbrev cX18_pieces : ByteArray := prog_21_method_10_code
def yX18_pieces : MethodName := ⟨RX18, "pieces", "()Z"⟩
abbrev cX18_noClass : ByteArray := prog_21_method_11_code
def yX18_noClass : MethodName := ⟨RX18, "noClass", "(I)Z"⟩
abbrev cX18_row : ByteArray := prog_21_method_12_code
def yX18_row : MethodName := ⟨RX18, "row", "(IJJ)Z"⟩
abbrev cX18_cutOff : ByteArray := prog_21_method_13_code
def yX18_cutOff : MethodName := ⟨RX18, "cutOff", "(IJ)Z"⟩
abbrev cX18_hot : ByteArray := prog_21_method_14_code
def yX18_hot : MethodName := ⟨RX18, "hot", "(JJ)Z"⟩
abbrev cX18_lineOf : ByteArray := prog_21_method_15_code
def yX18_lineOf : MethodName := ⟨RX18, "lineOf", "(IJ)I"⟩
abbrev cX18_countHalves : ByteArray := prog_21_method_16_code
def yX18_countHalves : MethodName := ⟨RX18, "countHalves", "(II)V"⟩
abbrev cX18_set : ByteArray := prog_21_method_17_code
def yX18_set : MethodName := ⟨RX18, "set", "([II)V"⟩
abbrev cX18_times : ByteArray := prog_21_method_18_code
def yX18_times : MethodName := ⟨RX18, "times", "([IJ)V"⟩
abbrev cX18_restBy : ByteArray := prog_21_method_19_code
def yX18_restBy : MethodName := ⟨RX18, "restBy", "([IJ)J"⟩
abbrev cX18_divide : ByteArray := prog_21_method_20_code
def yX18_divide : MethodName := ⟨RX18, "divide", "([IJ)V"⟩
abbrev cX18_add : ByteArray := prog_21_method_21_code
def yX18_add : MethodName := ⟨RX18, "add", "([I[I)V"⟩
abbrev cX18_divisor : ByteArray := prog_21_method_22_code
def yX18_divisor : MethodName := ⟨RX18, "divisor", "(JJ)J"⟩
abbrev cX18_shareOf : ByteArray := prog_21_method_23_code
def yX18_shareOf : MethodName := ⟨RX18, "shareOf", "(IIJ)V"⟩
abbrev cX18_takePrimes : ByteArray := prog_21_method_24_code
def yX18_takePrimes : MethodName := ⟨RX18, "takePrimes", "(J)V"⟩
abbrev cX18_limbs : ByteArray := prog_21_method_25_code
def yX18_limbs : MethodName := ⟨RX18, "limbs", "([II)J"⟩
abbrev cX18_told : ByteArray := prog_21_method_26_code
def yX18_told : MethodName := ⟨RX18, "told", "(I)J"⟩
abbrev cX18_noPart : ByteArray := prog_21_method_27_code
def yX18_noPart : MethodName := ⟨RX18, "noPart", "(I)Z"⟩
abbrev cX18_shareTold : ByteArray := prog_21_method_28_code
def yX18_shareTold : MethodName := ⟨RX18, "shareTold", "(IIJI)J"⟩
abbrev cX18_share : ByteArray := prog_21_method_29_code
def yX18_share : MethodName := ⟨RX18, "share", "(II)J"⟩
abbrev cX18_joined : ByteArray := prog_21_method_30_code
def yX18_joined : MethodName := ⟨RX18, "joined", "(II)J"⟩
abbrev cX18_repeats : ByteArray := prog_21_method_31_code
def yX18_repeats : MethodName := ⟨RX18, "repeats", "(J)Z"⟩
abbrev cX18_total : ByteArray := prog_21_method_32_code
def yX18_total : MethodName := ⟨RX18, "total", "(I)J"⟩
abbrev cX18_isBelow : ByteArray := prog_21_method_33_code
def yX18_isBelow : MethodName := ⟨RX18, "isBelow", "(JJ)Z"⟩
abbrev cX18_years : ByteArray := prog_21_method_34_code
def yX18_years : MethodName := ⟨RX18, "years", "(IJ)I"⟩
abbrev cX18_span : ByteArray := prog_21_method_35_code
def yX18_span : MethodName := ⟨RX18, "span", "(I)J"⟩
abbrev cX18_bolt : ByteArray := prog_21_method_36_code
def yX18_bolt : MethodName := ⟨RX18, "bolt", "(I)I"⟩
abbrev cX18_logJoin : ByteArray := prog_21_method_37_code
def yX18_logJoin : MethodName := ⟨RX18, "logJoin", "(ID)D"⟩
abbrev cX18_rate : ByteArray := prog_21_method_38_code
def yX18_rate : MethodName := ⟨RX18, "rate", "()D"⟩
abbrev cX18_grown : ByteArray := prog_21_method_39_code
def yX18_grown : MethodName := ⟨RX18, "grown", "(DDI)D"⟩
abbrev cX18_crack : ByteArray := prog_21_method_40_code
def yX18_crack : MethodName := ⟨RX18, "crack", "(DDI)I"⟩
abbrev cX18_crackAt : ByteArray := prog_21_method_41_code
def yX18_crackAt : MethodName := ⟨RX18, "crackAt", "(I)D"⟩
abbrev cX18_cost : ByteArray := prog_21_method_42_code
def yX18_cost : MethodName := ⟨RX18, "cost", "(IJ)Z"⟩
abbrev cX18_planAll : ByteArray := prog_21_method_43_code
def yX18_planAll : MethodName := ⟨RX18, "planAll", "(I)V"⟩
abbrev cX18_inspect : ByteArray := prog_21_method_44_code
def yX18_inspect : MethodName := ⟨RX18, "inspect", "(I)I"⟩
abbrev cX18_mend : ByteArray := prog_21_method_45_code
def yX18_mend : MethodName := ⟨RX18, "mend", "(I)Z"⟩
abbrev cX18_history : ByteArray := prog_21_method_46_code
def yX18_history : MethodName := ⟨RX18, "history", "(II)I"⟩
def RX19 : String := "RoadHouseModel$TrainWorstModel"
def TX19 : u_T := fun k => match k with
  | 0 => ("RoadHouseModel$TrainWorstModel", "z", "[I", true)
  | 1 => ("RoadHouseModel$TrainWorstModel", "signs", "[I", true)
  | 2 => ("RoadHouseModel$TrainWorstModel", "corners", "I", false)
  | 3 => ("RoadHouseModel$TrainWorstModel", "at", "[I", true)
  | 4 => ("RoadHouseModel$TrainWorstModel", "above", "[J", true)
  | 5 => ("RoadHouseModel$TrainWorstModel", "below", "[J", true)
  | 6 => ("RoadHouseModel$TrainWorstModel", "prepared", "Z", false)
  | 7 => ("RoadHouseModel$TrainWorstModel", "trains", "I", false)
  | 8 => ("RoadHouseModel$TrainWorstModel", "axles", "[I", true)
  | 9 => ("RoadHouseModel$TrainWorstModel", "behind", "[I", true)
  | 10 => ("RoadHouseModel$TrainWorstModel", "loads", "[I", true)
  | 11 => ("RoadHouseModel$TrainWorstModel", "least", "[I", true)
  | 12 => ("RoadHouseModel$TrainWorstModel", "most", "[I", true)
  | 13 => ("RoadHouseModel$TrainWorstModel", "has", "Z", false)
  | 14 => ("RoadHouseModel$TrainWorstModel", "worstTrain", "I", false)
  | 15 => ("RoadHouseModel$TrainWorstModel", "worstAt", "I", false)
  | 16 => ("RoadHouseModel$TrainWorstModel", "worstBack", "Z", false)
  | 17 => ("RoadHouseModel$TrainWorstModel", "second", "I", false)
  | 18 => ("RoadHouseModel$TrainWorstModel", "secondAt", "I", false)
  | 19 => ("RoadHouseModel$TrainWorstModel", "both", "Z", false)
  | 20 => ("RoadHouseModel$TrainWorstModel", "tried", "J", false)
  | 21 => ("RoadHouseModel$TrainWorstModel", "lanes", "I", false)
  | 22 => ("RoadHouseModel$TrainWorstModel", "laneAbove", "[J", true)
  | 23 => ("RoadHouseModel$TrainWorstModel", "laneBelow", "[J", true)
  | 24 => ("RoadHouseModel$TrainWorstModel", "size", "I", false)
  | 25 => ("RoadHouseModel$TrainWorstModel", "text", "[I", true)
  | 26 => ("RoadHouseModel$TrainWorstModel", "cases", "I", false)
  | 27 => ("RoadHouseModel$TrainWorstModel", "terms", "[I", true)
  | 28 => ("RoadHouseModel$TrainWorstModel", "term", "[I", true)
  | 29 => ("RoadHouseModel$TrainWorstModel", "readTerms", "[I", true)
  | 30 => ("RoadHouseModel$TrainWorstModel", "read", "[I", true)
  | 31 => ("RoadHouseModel$TrainWorstModel", "many", "I", false)
  | 32 => ("RoadHouseModel$TrainWorstModel", "places", "[I", true)
  | 33 => ("RoadHouseModel$TrainWorstModel", "gaps", "I", false)
  | _ => ("RoadHouseModel$TrainWorstModel", "gap", "[I", true)
def tyX19 : Nat → FieldType := fun k => match k with
  | 0 => .array .int
  | 1 => .array .int
  | 2 => .int
  | 3 => .array .int
  | 4 => .array .long
  | 5 => .array .long
  | 6 => .boolean
  | 7 => .int
  | 8 => .array .int
  | 9 => .array .int
  | 10 => .array .int
  | 11 => .array .int
  | 12 => .array .int
  | 13 => .boolean
  | 14 => .int
  | 15 => .int
  | 16 => .boolean
  | 17 => .int
  | 18 => .int
  | 19 => .boolean
  | 20 => .long
  | 21 => .int
  | 22 => .array .long
  | 23 => .array .long
  | 24 => .int
  | 25 => .array .int
  | 26 => .int
  | 27 => .array .int
  | 28 => .array .int
  | 29 => .array .int
  | 30 => .array .int
  | 31 => .int
  | 32 => .array .int
  | 33 => .int
  | _ => .array .int
abbrev wsX190 : List Cond := u_ws RX19 TX19 35
theorem nmX19 : ∀ a, a < 35 → ∀ b, b < 35 → a ≠ b → (TX19 a).2.1 ≠ (TX19 b).2.1 := by decide +kernel
theorem tyX19_ok : ∀ k, k < 35 → parseFieldDescriptor (TX19 k).2.2.1 = some (tyX19 k) := by decide +kernel
abbrev cX19_init : ByteArray := prog_22_method_1_code
def yX19_init : MethodName := ⟨RX19, "<init>", "()V"⟩
abbrev cX19_small : ByteArray := prog_22_method_2_code
def yX19_small : MethodName := ⟨RX19, "small", "(IJ)V"⟩
abbrev cX19_copy : ByteArray := prog_22_method_3_code
def yX19_copy : MethodName := ⟨RX19, "copy", "(II)V"⟩
abbrev cX19_limb : ByteArray := prog_22_method_4_code
def yX19_limb : MethodName := ⟨RX19, "limb", "(II)I"⟩
abbrev cX19_trim : ByteArray := prog_22_method_5_code
def yX19_trim : MethodName := ⟨RX19, "trim", "(II)V"⟩
abbrev cX19_longer : ByteArray := prog_22_method_6_code
def yX19_longer : MethodName := ⟨RX19, "longer", "(II)I"⟩
abbrev cX19_compare : ByteArray := prog_22_method_7_code
def yX19_compare : MethodName := ⟨RX19, "compare", "(II)I"⟩
abbrev cX19_order : ByteArray := prog_22_method_8_code
def yX19_order : MethodName := ⟨RX19, "order", "(II)I"⟩
abbrev cX19_addPlain : ByteArray := prog_22_method_9_code
def yX19_addPlain : MethodName := ⟨RX19, "addPlain", "(II)V"⟩
abbrev cX19_takePlain : ByteArray := prog_22_method_10_code
def yX19_takePlain : MethodName := ⟨RX19, "takePlain", "(II)V"⟩
abbrev cX19_add : ByteArray := prog_22_method_11_code
def yX19_add : MethodName := ⟨RX19, "add", "(II)V"⟩
abbrev cX19_product : ByteArray := prog_22_method_12_code
def yX19_product : MethodName := ⟨RX19, "product", "(III)V"⟩
abbrev cX19_times : ByteArray := prog_22_method_13_code
def yX19_times : MethodName := ⟨RX19, "times", "(IJ)V"⟩
abbrev cX19_divide : ByteArray := prog_22_method_14_code
def yX19_divide : MethodName := ⟨RX19, "divide", "(IJ)J"⟩
abbrev cX19_rest : ByteArray := prog_22_method_15_code
def yX19_rest : MethodName := ⟨RX19, "rest", "(IJ)J"⟩
abbrev cX19_isEven : ByteArray := prog_22_method_16_code
def yX19_isEven : MethodName := ⟨RX19, "isEven", "(I)Z"⟩
abbrev cX19_halve : ByteArray := prog_22_method_17_code
def yX19_halve : MethodName := ⟨RX19, "halve", "(I)V"⟩
abbrev cX19_bits : ByteArray := prog_22_method_18_code
def yX19_bits : MethodName := ⟨RX19, "bits", "(I)I"⟩
abbrev cX19_divisorOf : ByteArray := prog_22_method_19_code
def yX19_divisorOf : MethodName := ⟨RX19, "divisorOf", "(II)V"⟩
abbrev cX19_exact : ByteArray := prog_22_method_20_code
def yX19_exact : MethodName := ⟨RX19, "exact", "(I)V"⟩
abbrev cX19_reduce : ByteArray := prog_22_method_21_code
def yX19_reduce : MethodName := ⟨RX19, "reduce", "(II)V"⟩
abbrev cX19_addFraction : ByteArray := prog_22_method_22_code
def yX19_addFraction : MethodName := ⟨RX19, "addFraction", "(IIII)V"⟩
abbrev cX19_told : ByteArray := prog_22_method_23_code
def yX19_told : MethodName := ⟨RX19, "told", "(III)J"⟩
abbrev cX19_common : ByteArray := prog_22_method_24_code
def yX19_common : MethodName := ⟨RX19, "common", "(JJ)J"⟩
abbrev cX19_forget : ByteArray := prog_22_method_25_code
def yX19_forget : MethodName := ⟨RX19, "forget", "()V"⟩
abbrev cX19_row : ByteArray := prog_22_method_26_code
def yX19_row : MethodName := ⟨RX19, "row", "(JJJ)Z"⟩
abbrev cX19_prepare : ByteArray := prog_22_method_27_code
def yX19_prepare : MethodName := ⟨RX19, "prepare", "()V"⟩
abbrev cX19_addValue : ByteArray := prog_22_method_28_code
def yX19_addValue : MethodName := ⟨RX19, "addValue", "(IJ)V"⟩
abbrev cX19_noTrain : ByteArray := prog_22_method_29_code
def yX19_noTrain : MethodName := ⟨RX19, "noTrain", "(I)Z"⟩
abbrev cX19_train : ByteArray := prog_22_method_30_code
def yX19_train : MethodName := ⟨RX19, "train", "()I"⟩
abbrev cX19_axle : ByteArray := prog_22_method_31_code
def yX19_axle : MethodName := ⟨RX19, "axle", "(IJJ)Z"⟩
abbrev cX19_gap : ByteArray := prog_22_method_32_code
def yX19_gap : MethodName := ⟨RX19, "gap", "(IJJ)Z"⟩
abbrev cX19_addEffect : ByteArray := prog_22_method_33_code
def yX19_addEffect : MethodName := ⟨RX19, "addEffect", "(IIZ)V"⟩
abbrev cX19_gather : ByteArray := prog_22_method_34_code
def yX19_gather : MethodName := ⟨RX19, "gather", "(IZ)V"⟩
abbrev cX19_keep : ByteArray := prog_22_method_35_code
def yX19_keep : MethodName := ⟨RX19, "keep", "(IIZ)V"⟩
abbrev cX19_run : ByteArray := prog_22_method_36_code
def yX19_run : MethodName := ⟨RX19, "run", "(IZ)I"⟩
abbrev cX19_none : ByteArray := prog_22_method_37_code
def yX19_none : MethodName := ⟨RX19, "none", "(I)J"⟩
abbrev cX19_tell : ByteArray := prog_22_method_38_code
def yX19_tell : MethodName := ⟨RX19, "tell", "(II)J"⟩
abbrev cX19_worst : ByteArray := prog_22_method_39_code
def yX19_worst : MethodName := ⟨RX19, "worst", "(I)J"⟩
abbrev cX19_place : ByteArray := prog_22_method_40_code
def yX19_place : MethodName := ⟨RX19, "place", "(I)J"⟩
abbrev cX19_lane : ByteArray := prog_22_method_41_code
def yX19_lane : MethodName := ⟨RX19, "lane", "(JJ)I"⟩
abbrev cX19_laneSum : ByteArray := prog_22_method_42_code
def yX19_laneSum : MethodName := ⟨RX19, "laneSum", "(I)V"⟩
abbrev cX19_lanes : ByteArray := prog_22_method_43_code
def yX19_lanes : MethodName := ⟨RX19, "lanes", "(II)J"⟩
abbrev cX19_plain : ByteArray := prog_22_method_44_code
def yX19_plain : MethodName := ⟨RX19, "plain", "(J)J"⟩
abbrev cX19_area : ByteArray := prog_22_method_45_code
def yX19_area : MethodName := ⟨RX19, "area", "()V"⟩
abbrev cX19_patch : ByteArray := prog_22_method_46_code
def yX19_patch : MethodName := ⟨RX19, "patch", "(JI)J"⟩
abbrev cX19_stretch : ByteArray := prog_22_method_47_code
def yX19_stretch : MethodName := ⟨RX19, "stretch", "(I)I"⟩
abbrev cX19_meets : ByteArray := prog_22_method_48_code
def yX19_meets : MethodName := ⟨RX19, "meets", "(I)J"⟩
abbrev cX19_covered : ByteArray := prog_22_method_49_code
def yX19_covered : MethodName := ⟨RX19, "covered", "(II)J"⟩
abbrev cX19_vehicles : ByteArray := prog_22_method_50_code
def yX19_vehicles : MethodName := ⟨RX19, "vehicles", "(I)I"⟩
abbrev cX19_unit : ByteArray := prog_22_method_51_code
def yX19_unit : MethodName := ⟨RX19, "unit", "(I)Z"⟩
abbrev cX19_sign : ByteArray := prog_22_method_52_code
def yX19_sign : MethodName := ⟨RX19, "sign", "(I)I"⟩
abbrev cX19_rules : ByteArray := prog_22_method_53_code
def yX19_rules : MethodName := ⟨RX19, "rules", "()I"⟩
abbrev cX19_cases : ByteArray := prog_22_method_54_code
def yX19_cases : MethodName := ⟨RX19, "cases", "()I"⟩
abbrev cX19_work : ByteArray := prog_22_method_55_code
def yX19_work : MethodName := ⟨RX19, "work", "(I)V"⟩
abbrev cX19_caseOf : ByteArray := prog_22_method_56_code
def yX19_caseOf : MethodName := ⟨RX19, "caseOf", "(II)J"⟩
abbrev cX19_by : ByteArray := prog_22_method_57_code
def yX19_by : MethodName := ⟨RX19, "by", "(I)I"⟩
abbrev cX19_between : ByteArray := prog_22_method_58_code
def yX19_between : MethodName := ⟨RX19, "between", "(II)I"⟩
abbrev cX19_fatigue : ByteArray := prog_22_method_59_code
def yX19_fatigue : MethodName := ⟨RX19, "fatigue", "(III)J"⟩
abbrev cX19_brake : ByteArray := prog_22_method_60_code
def yX19_brake : MethodName := ⟨RX19, "brake", "(I)J"⟩
abbrev cX19_tried : ByteArray := prog_22_method_61_code
def yX19_tried : MethodName := ⟨RX19, "tried", "()J"⟩
abbrev cX19_corners : ByteArray := prog_22_method_62_code
def yX19_corners : MethodName := ⟨RX19, "corners", "()Z"⟩
abbrev cX19_clearRow : ByteArray := prog_22_method_63_code
def yX19_clearRow : MethodName := ⟨RX19, "clearRow", "()V"⟩
def RX20 : String := "RoadHouseModel"
def TX20 : u_T := fun k => match k with
  | 0 => ("RoadHouseModel", "fault", "I", false)
  | 1 => ("RoadHouseModel", "way", "LRoadHouseModel$CorridorCellsModel;", true)
  | 2 => ("RoadHouseModel", "earth", "LRoadHouseModel$HaulFlowsModel;", true)
  | 3 => ("RoadHouseModel", "beams", "LRoadHouseModel$InfluenceRowsModel;", true)
  | 4 => ("RoadHouseModel", "trains", "LRoadHouseModel$TrainWorstModel;", true)
  | 5 => ("RoadHouseModel", "stress", "LRoadHouseModel$StressTurnsModel;", true)
  | 6 => ("RoadHouseModel", "signals", "LRoadHouseModel$SignalProofsModel;", true)
  | 7 => ("RoadHouseModel", "cars", "LRoadHouseModel$StreetCellsModel;", true)
  | 8 => ("RoadHouseModel", "contract", "LRoadHouseModel$RateQuantitiesModel;", true)
  | 9 => ("RoadHouseModel", "levels", "[I", true)
  | 10 => ("RoadHouseModel", "kinds", "[I", true)
  | 11 => ("RoadHouseModel", "weeks", "[I", true)
  | 12 => ("RoadHouseModel", "dark", "[Z", true)
  | 13 => ("RoadHouseModel", "places", "I", false)
  | 14 => ("RoadHouseModel", "cells", "[I", true)
  | 15 => ("RoadHouseModel", "metres", "[I", true)
  | 16 => ("RoadHouseModel", "lengths", "[I", true)
  | 17 => ("RoadHouseModel", "corners", "[J", true)
  | _ => ("RoadHouseModel", "joins", "I", false)
def tyX20 : Nat → FieldType := fun k => match k with
  | 0 => .int
  | 1 => .object "RoadHouseModel$CorridorCellsModel"
  | 2 => .object "RoadHouseModel$HaulFlowsModel"
  | 3 => .object "RoadHouseModel$InfluenceRowsModel"
  | 4 => .object "RoadHouseModel$TrainWorstModel"
  | 5 => .object "RoadHouseModel$StressTurnsModel"
  | 6 => .object "RoadHouseModel$SignalProofsModel"
  | 7 => .object "RoadHouseModel$StreetCellsModel"
  | 8 => .object "RoadHouseModel$RateQuantitiesModel"
  | 9 => .array .int
  | 10 => .array .int
  | 11 => .array .int
  | 12 => .array .boolean
  | 13 => .int
  | 14 => .array .int
  | 15 => .array .int
  | 16 => .array .int
  | 17 => .array .long
  | _ => .int
abbrev wsX200 : List Cond := u_ws RX20 TX20 19
theorem nmX20 : ∀ a, a < 19 → ∀ b, b < 19 → a ≠ b → (TX20 a).2.1 ≠ (TX20 b).2.1 := by decide +kernel
theorem tyX20_ok : ∀ k, k < 19 → parseFieldDescriptor (TX20 k).2.2.1 = some (tyX20 k) := by decide +kernel
abbrev cX20_init : ByteArray := prog_14_method_1_code
def yX20_init : MethodName := ⟨RX20, "<init>", "()V"⟩
abbrev cX20_truth : ByteArray := prog_14_method_3_code
def yX20_truth : MethodName := ⟨RX20, "truth", "(Z)J"⟩
abbrev cX20_act : ByteArray := prog_14_method_4_code
def yX20_act : MethodName := ⟨RX20, "act", "(IIIIII)J"⟩
abbrev cX20_noteCell : ByteArray := prog_14_method_5_code
def yX20_noteCell : MethodName := ⟨RX20, "noteCell", "(IIIIJ)V"⟩
abbrev cX20_logJoin : ByteArray := prog_14_method_6_code
def yX20_logJoin : MethodName := ⟨RX20, "logJoin", "(ID)D"⟩
abbrev cX20_crack : ByteArray := prog_14_method_7_code
def yX20_crack : MethodName := ⟨RX20, "crack", "(DDI)I"⟩
abbrev cX20_crackAt : ByteArray := prog_14_method_8_code
def yX20_crackAt : MethodName := ⟨RX20, "crackAt", "(I)D"⟩
abbrev cX20_readWay : ByteArray := prog_14_method_9_code
def yX20_readWay : MethodName := ⟨RX20, "readWay", "()Z"⟩
abbrev cX20_isBridged : ByteArray := prog_14_method_10_code
def yX20_isBridged : MethodName := ⟨RX20, "isBridged", "(I)Z"⟩
abbrev cX20_earth : ByteArray := prog_14_method_11_code
def yX20_earth : MethodName := ⟨RX20, "earth", "(II)I"⟩
abbrev cX20_writeNumber : ByteArray := prog_14_method_12_code
def yX20_writeNumber : MethodName := ⟨RX20, "writeNumber", "(I)V"⟩
abbrev cX20_bridge : ByteArray := prog_14_method_13_code
def yX20_bridge : MethodName := ⟨RX20, "bridge", "(II)I"⟩
abbrev cX20_rowOf : ByteArray := prog_14_method_14_code
def yX20_rowOf : MethodName := ⟨RX20, "rowOf", "(I)I"⟩
abbrev cX20_pass : ByteArray := prog_14_method_15_code
def yX20_pass : MethodName := ⟨RX20, "pass", "(I)I"⟩
abbrev cX20_drive : ByteArray := prog_14_method_16_code
def yX20_drive : MethodName := ⟨RX20, "drive", "(I)I"⟩
abbrev cX20_bill : ByteArray := prog_14_method_17_code
def yX20_bill : MethodName := ⟨RX20, "bill", "(I)I"⟩
abbrev cX20_whole : ByteArray := prog_14_method_18_code
def yX20_whole : MethodName := ⟨RX20, "whole", "(I)I"⟩
abbrev cX20_wayCall : ByteArray := prog_14_method_19_code
def yX20_wayCall : MethodName := ⟨RX20, "wayCall", "(IIIIII)J"⟩
abbrev cX20_earthCall : ByteArray := prog_14_method_20_code
def yX20_earthCall : MethodName := ⟨RX20, "earthCall", "(IIIIII)J"⟩
abbrev cX20_beamsCall : ByteArray := prog_14_method_21_code
def yX20_beamsCall : MethodName := ⟨RX20, "beamsCall", "(IIIIII)J"⟩
abbrev cX20_trainsCall : ByteArray := prog_14_method_22_code
def yX20_trainsCall : MethodName := ⟨RX20, "trainsCall", "(IIIIII)J"⟩
abbrev cX20_stressCall : ByteArray := prog_14_method_23_code
def yX20_stressCall : MethodName := ⟨RX20, "stressCall", "(IIIIII)J"⟩
abbrev cX20_signalsCall : ByteArray := prog_14_method_24_code
def yX20_signalsCall : MethodName := ⟨RX20, "signalsCall", "(IIIIII)J"⟩
abbrev cX20_carsCall : ByteArray := prog_14_method_25_code
def yX20_carsCall : MethodName := ⟨RX20, "carsCall", "(IIIIII)J"⟩
abbrev cX20_contractCall : ByteArray := prog_14_method_26_code
def yX20_contractCall : MethodName := ⟨RX20, "contractCall", "(IIIIII)J"⟩
def RJx145de : String := "java/io/Serializable"
def TJx145de : u_T := fun k => match k with
  | _ => ("", "", "", false)
def tyJx145de : Nat → FieldType := fun k => match k with
  | _ => .int
abbrev wsJx145de0 : List Cond := u_ws RJx145de TJx145de 0
theorem nmJx145de : ∀ a, a < 0 → ∀ b, b < 0 → a ≠ b → (TJx145de a).2.1 ≠ (TJx145de b).2.1 := by decide +kernel
theorem tyJx145de_ok : ∀ k, k < 0 → parseFieldDescriptor (TJx145de k).2.2.1 = some (tyJx145de k) := by decide +kernel
def RJ5 : String := "java/lang/AbstractStringBuilder"
def TJ5 : u_T := fun k => match k with
  | _ => ("", "", "", false)
def tyJ5 : Nat → FieldType := fun k => match k with
  | _ => .int
abbrev wsJ50 : List Cond := u_ws RJ5 TJ5 0
theorem nmJ5 : ∀ a, a < 0 → ∀ b, b < 0 → a ≠ b → (TJ5 a).2.1 ≠ (TJ5 b).2.1 := by decide +kernel
theorem tyJ5_ok : ∀ k, k < 0 → parseFieldDescriptor (TJ5 k).2.2.1 = some (tyJ5 k) := by decide +kernel
abbrev cJ5_init_d00df : ByteArray := prog_23_method_2_code
def yJ5_init_d00df : MethodName := ⟨RJ5, "<init>", "(I)V"⟩
abbrev cJ5_length_8abf5 : ByteArray := prog_23_method_6_code
def yJ5_length_8abf5 : MethodName := ⟨RJ5, "length", "()I"⟩
abbrev cJ5_ensureCapacityInternal_d00df : ByteArray := prog_23_method_9_code
def yJ5_ensureCapacityInternal_d00df : MethodName := ⟨RJ5, "ensureCapacityInternal", "(I)V"⟩
abbrev cJ5_newCapacity_0f7a4 : ByteArray := prog_23_method_10_code
def yJ5_newCapacity_0f7a4 : MethodName := ⟨RJ5, "newCapacity", "(I)I"⟩
abbrev cJ5_inflate_da8c8 : ByteArray := prog_23_method_11_code
def yJ5_inflate_da8c8 : MethodName := ⟨RJ5, "inflate", "()V"⟩
abbrev cJ5_append_cf1ce : ByteArray := prog_23_method_22_code
def yJ5_append_cf1ce : MethodName := ⟨RJ5, "append", "(Ljava/lang/String;)Ljava/lang/AbstractStringBuilder;"⟩
abbrev cJ5_appendNull_278bc : ByteArray := prog_23_method_26_code
def yJ5_appendNull_278bc : MethodName := ⟨RJ5, "appendNull", "()Ljava/lang/AbstractStringBuilder;"⟩
abbrev cJ5_append_c97b9 : ByteArray := prog_23_method_32_code
def yJ5_append_c97b9 : MethodName := ⟨RJ5, "append", "(I)Ljava/lang/AbstractStringBuilder;"⟩
abbrev cJ5_getValue_6d5f1 : ByteArray := prog_23_method_64_code
def yJ5_getValue_6d5f1 : MethodName := ⟨RJ5, "getValue", "()[B"⟩
abbrev cJ5_isLatin1_aae02 : ByteArray := prog_23_method_68_code
def yJ5_isLatin1_aae02 : MethodName := ⟨RJ5, "isLatin1", "()Z"⟩
abbrev cJ5_inflateIfNeededFor_a7421 : ByteArray := prog_23_method_71_code
def yJ5_inflateIfNeededFor_a7421 : MethodName := ⟨RJ5, "inflateIfNeededFor", "(Ljava/lang/String;)V"⟩
abbrev cJ5_putStringAt_47b60 : ByteArray := prog_23_method_73_code
def yJ5_putStringAt_47b60 : MethodName := ⟨RJ5, "putStringAt", "(ILjava/lang/String;)V"⟩
def RJx2cfe8 : String := "java/lang/Appendable"
def TJx2cfe8 : u_T := fun k => match k with
  | _ => ("", "", "", false)
def tyJx2cfe8 : Nat → FieldType := fun k => match k with
  | _ => .int
abbrev wsJx2cfe80 : List Cond := u_ws RJx2cfe8 TJx2cfe8 0
theorem nmJx2cfe8 : ∀ a, a < 0 → ∀ b, b < 0 → a ≠ b → (TJx2cfe8 a).2.1 ≠ (TJx2cfe8 b).2.1 := by decide +kernel
theorem tyJx2cfe8_ok : ∀ k, k < 0 → parseFieldDescriptor (TJx2cfe8 k).2.2.1 = some (tyJx2cfe8 k) := by decide +kernel
def RJx00060 : String := "java/lang/ArrayIndexOutOfBoundsException"
def TJx00060 : u_T := fun k => match k with
  | 0 => ("java/lang/Throwable", "cause", "Ljava/lang/Throwable;", false)
  | 1 => ("java/lang/Throwable", "stackTrace", "[Ljava/lang/StackTraceElement;", false)
  | 2 => ("java/lang/Throwable", "suppressedExceptions", "Ljava/util/List;", false)
  | 3 => ("java/lang/Throwable", "detailMessage", "Ljava/lang/String;", false)
  | 4 => ("java/lang/Throwable", "backtrace", "Ljava/lang/Object;", false)
  | _ => ("java/lang/Throwable", "depth", "I", false)
def tyJx00060 : Nat → FieldType := fun k => match k with
  | 0 => .object "java/lang/Throwable"
  | 1 => .array (.object "java/lang/StackTraceElement")
  | 2 => .object "java/util/List"
  | 3 => .object "java/lang/String"
  | 4 => .object "java/lang/Object"
  | _ => .int
abbrev wsJx000600 : List Cond := u_ws RJx00060 TJx00060 6
theorem nmJx00060 : ∀ a, a < 6 → ∀ b, b < 6 → a ≠ b → (TJx00060 a).2.1 ≠ (TJx00060 b).2.1 := by decide +kernel
theorem tyJx00060_ok : ∀ k, k < 6 → parseFieldDescriptor (TJx00060 k).2.2.1 = some (tyJx00060 k) := by decide +kernel
abbrev cJx00060_init_da8c8 : ByteArray := prog_24_method_1_code
def yJx00060_init_da8c8 : MethodName := ⟨RJx00060, "<init>", "()V"⟩
abbrev cJx00060_init_a7421 : ByteArray := prog_24_method_2_code
def yJx00060_init_a7421 : MethodName := ⟨RJx00060, "<init>", "(Ljava/lang/String;)V"⟩
abbrev cJx00060_init_d00df : ByteArray := prog_24_method_3_code
def yJx00060_init_d00df : MethodName := ⟨RJx00060, "<init>", "(I)V"⟩
def RJx9f9b0 : String := "java/lang/CharSequence"
def TJx9f9b0 : u_T := fun k => match k with
  | _ => ("", "", "", false)
def tyJx9f9b0 : Nat → FieldType := fun k => match k with
  | _ => .int
abbrev wsJx9f9b00 : List Cond := u_ws RJx9f9b0 TJx9f9b0 0
theorem nmJx9f9b0 : ∀ a, a < 0 → ∀ b, b < 0 → a ≠ b → (TJx9f9b0 a).2.1 ≠ (TJx9f9b0 b).2.1 := by decide +kernel
theorem tyJx9f9b0_ok : ∀ k, k < 0 → parseFieldDescriptor (TJx9f9b0 k).2.2.1 = some (tyJx9f9b0 k) := by decide +kernel
def RJx8e188 : String := "java/lang/Cloneable"
def TJx8e188 : u_T := fun k => match k with
  | _ => ("", "", "", false)
def tyJx8e188 : Nat → FieldType := fun k => match k with
  | _ => .int
abbrev wsJx8e1880 : List Cond := u_ws RJx8e188 TJx8e188 0
theorem nmJx8e188 : ∀ a, a < 0 → ∀ b, b < 0 → a ≠ b → (TJx8e188 a).2.1 ≠ (TJx8e188 b).2.1 := by decide +kernel
theorem tyJx8e188_ok : ∀ k, k < 0 → parseFieldDescriptor (TJx8e188 k).2.2.1 = some (tyJx8e188 k) := by decide +kernel
def RJxb160c : String := "java/lang/Comparable"
def TJxb160c : u_T := fun k => match k with
  | _ => ("", "", "", false)
def tyJxb160c : Nat → FieldType := fun k => match k with
  | _ => .int
abbrev wsJxb160c0 : List Cond := u_ws RJxb160c TJxb160c 0
theorem nmJxb160c : ∀ a, a < 0 → ∀ b, b < 0 → a ≠ b → (TJxb160c a).2.1 ≠ (TJxb160c b).2.1 := by decide +kernel
theorem tyJxb160c_ok : ∀ k, k < 0 → parseFieldDescriptor (TJxb160c k).2.2.1 = some (tyJxb160c k) := by decide +kernel
def RJ6 : String := "java/lang/Integer"
def TJ6 : u_T := fun k => match k with
  | _ => ("", "", "", false)
def tyJ6 : Nat → FieldType := fun k => match k with
  | _ => .int
abbrev wsJ60 : List Cond := u_ws RJ6 TJ6 0
theorem nmJ6 : ∀ a, a < 0 → ∀ b, b < 0 → a ≠ b → (TJ6 a).2.1 ≠ (TJ6 b).2.1 := by decide +kernel
theorem tyJ6_ok : ∀ k, k < 0 → parseFieldDescriptor (TJ6 k).2.2.1 = some (tyJ6 k) := by decide +kernel
abbrev cJ6_getChars_ba4f3 : ByteArray := prog_30_method_12_code
def yJ6_getChars_ba4f3 : MethodName := ⟨RJ6, "getChars", "(II[B)I"⟩
abbrev cJ6_stringSize_0f7a4 : ByteArray := prog_30_method_13_code
def yJ6_stringSize_0f7a4 : MethodName := ⟨RJ6, "stringSize", "(I)I"⟩
abbrev cJ6_numberOfLeadingZeros_0f7a4 : ByteArray := prog_30_method_47_code
def yJ6_numberOfLeadingZeros_0f7a4 : MethodName := ⟨RJ6, "numberOfLeadingZeros", "(I)I"⟩
def RJ9 : String := "java/lang/Math"
def TJ9 : u_T := fun k => match k with
  | _ => ("", "", "", false)
def tyJ9 : Nat → FieldType := fun k => match k with
  | _ => .int
abbrev wsJ90 : List Cond := u_ws RJ9 TJ9 0
theorem nmJ9 : ∀ a, a < 0 → ∀ b, b < 0 → a ≠ b → (TJ9 a).2.1 ≠ (TJ9 b).2.1 := by decide +kernel
theorem tyJ9_ok : ∀ k, k < 0 → parseFieldDescriptor (TJ9 k).2.2.1 = some (tyJ9 k) := by decide +kernel
abbrev cJ9_floorDiv_f86c9 : ByteArray := prog_31_method_49_code
def yJ9_floorDiv_f86c9 : MethodName := ⟨RJ9, "floorDiv", "(JJ)J"⟩
abbrev cJ9_max_7cf53 : ByteArray := prog_31_method_65_code
def yJ9_max_7cf53 : MethodName := ⟨RJ9, "max", "(II)I"⟩
abbrev cJ9_max_f86c9 : ByteArray := prog_31_method_66_code
def yJ9_max_f86c9 : MethodName := ⟨RJ9, "max", "(JJ)J"⟩
abbrev cJ9_min_7cf53 : ByteArray := prog_31_method_69_code
def yJ9_min_7cf53 : MethodName := ⟨RJ9, "min", "(II)I"⟩
abbrev cJ9_min_f86c9 : ByteArray := prog_31_method_70_code
def yJ9_min_f86c9 : MethodName := ⟨RJ9, "min", "(JJ)J"⟩
def RJxde1cd : String := "java/lang/NegativeArraySizeException"
def TJxde1cd : u_T := fun k => match k with
  | 0 => ("java/lang/Throwable", "cause", "Ljava/lang/Throwable;", false)
  | 1 => ("java/lang/Throwable", "stackTrace", "[Ljava/lang/StackTraceElement;", false)
  | 2 => ("java/lang/Throwable", "suppressedExceptions", "Ljava/util/List;", false)
  | 3 => ("java/lang/Throwable", "detailMessage", "Ljava/lang/String;", false)
  | 4 => ("java/lang/Throwable", "backtrace", "Ljava/lang/Object;", false)
  | _ => ("java/lang/Throwable", "depth", "I", false)
def tyJxde1cd : Nat → FieldType := fun k => match k with
  | 0 => .object "java/lang/Throwable"
  | 1 => .array (.object "java/lang/StackTraceElement")
  | 2 => .object "java/util/List"
  | 3 => .object "java/lang/String"
  | 4 => .object "java/lang/Object"
  | _ => .int
abbrev wsJxde1cd0 : List Cond := u_ws RJxde1cd TJxde1cd 6
theorem nmJxde1cd : ∀ a, a < 6 → ∀ b, b < 6 → a ≠ b → (TJxde1cd a).2.1 ≠ (TJxde1cd b).2.1 := by decide +kernel
theorem tyJxde1cd_ok : ∀ k, k < 6 → parseFieldDescriptor (TJxde1cd k).2.2.1 = some (tyJxde1cd k) := by decide +kernel
abbrev cJxde1cd_init_da8c8 : ByteArray := prog_32_method_1_code
def yJxde1cd_init_da8c8 : MethodName := ⟨RJxde1cd, "<init>", "()V"⟩
abbrev cJxde1cd_init_a7421 : ByteArray := prog_32_method_2_code
def yJxde1cd_init_a7421 : MethodName := ⟨RJxde1cd, "<init>", "(Ljava/lang/String;)V"⟩
def RJxd2413 : String := "java/lang/Number"
def TJxd2413 : u_T := fun k => match k with
  | _ => ("", "", "", false)
def tyJxd2413 : Nat → FieldType := fun k => match k with
  | _ => .int
abbrev wsJxd24130 : List Cond := u_ws RJxd2413 TJxd2413 0
theorem nmJxd2413 : ∀ a, a < 0 → ∀ b, b < 0 → a ≠ b → (TJxd2413 a).2.1 ≠ (TJxd2413 b).2.1 := by decide +kernel
theorem tyJxd2413_ok : ∀ k, k < 0 → parseFieldDescriptor (TJxd2413 k).2.2.1 = some (tyJxd2413 k) := by decide +kernel
def RJ0 : String := "java/lang/String"
def TJ0 : u_T := fun k => match k with
  | 0 => ("java/lang/String", "value", "[B", true)
  | 1 => ("java/lang/String", "coder", "B", true)
  | 2 => ("java/lang/String", "hash", "I", false)
  | _ => ("java/lang/String", "hashIsZero", "Z", false)
def tyJ0 : Nat → FieldType := fun k => match k with
  | 0 => .array .byte
  | 1 => .byte
  | 2 => .int
  | _ => .boolean
abbrev wsJ00 : List Cond := u_ws RJ0 TJ0 4
theorem nmJ0 : ∀ a, a < 4 → ∀ b, b < 4 → a ≠ b → (TJ0 a).2.1 ≠ (TJ0 b).2.1 := by decide +kernel
theorem tyJ0_ok : ∀ k, k < 4 → parseFieldDescriptor (TJ0 k).2.2.1 = some (tyJ0 k) := by decide +kernel
abbrev cJ0_init_81219 : ByteArray := prog_35_method_53_code
def yJ0_init_81219 : MethodName := ⟨RJ0, "<init>", "(Ljava/lang/StringBuilder;)V"⟩
abbrev cJ0_length_8abf5 : ByteArray := prog_35_method_54_code
def yJ0_length_8abf5 : MethodName := ⟨RJ0, "length", "()I"⟩
abbrev cJ0_getBytes_840e7 : ByteArray := prog_35_method_147_code
def yJ0_getBytes_840e7 : MethodName := ⟨RJ0, "getBytes", "([BIB)V"⟩
abbrev cJ0_init_db425 : ByteArray := prog_35_method_150_code
def yJ0_init_db425 : MethodName := ⟨RJ0, "<init>", "(Ljava/lang/AbstractStringBuilder;Ljava/lang/Void;)V"⟩
abbrev cJ0_coder_7d493 : ByteArray := prog_35_method_152_code
def yJ0_coder_7d493 : MethodName := ⟨RJ0, "coder", "()B"⟩
abbrev cJ0_checkBoundsOffCount_cabcc : ByteArray := prog_35_method_157_code
def yJ0_checkBoundsOffCount_cabcc : MethodName := ⟨RJ0, "checkBoundsOffCount", "(III)I"⟩
abbrev cJ0_checkBoundsBeginEnd_23922 : ByteArray := prog_35_method_158_code
def yJ0_checkBoundsBeginEnd_23922 : MethodName := ⟨RJ0, "checkBoundsBeginEnd", "(III)V"⟩
def RJ4 : String := "java/lang/StringBuilder"
def TJ4 : u_T := fun k => match k with
  | 0 => ("java/lang/AbstractStringBuilder", "value", "[B", false)
  | 1 => ("java/lang/AbstractStringBuilder", "coder", "B", false)
  | 2 => ("java/lang/AbstractStringBuilder", "maybeLatin1", "Z", false)
  | _ => ("java/lang/AbstractStringBuilder", "count", "I", false)
def tyJ4 : Nat → FieldType := fun k => match k with
  | 0 => .array .byte
  | 1 => .byte
  | 2 => .boolean
  | _ => .int
abbrev wsJ40 : List Cond := u_ws RJ4 TJ4 4
theorem nmJ4 : ∀ a, a < 4 → ∀ b, b < 4 → a ≠ b → (TJ4 a).2.1 ≠ (TJ4 b).2.1 := by decide +kernel
theorem tyJ4_ok : ∀ k, k < 4 → parseFieldDescriptor (TJ4 k).2.2.1 = some (tyJ4 k) := by decide +kernel
abbrev cJ4_init_da8c8 : ByteArray := prog_36_method_1_code
def yJ4_init_da8c8 : MethodName := ⟨RJ4, "<init>", "()V"⟩
abbrev cJ4_append_15ec4 : ByteArray := prog_36_method_7_code
def yJ4_append_15ec4 : MethodName := ⟨RJ4, "append", "(Ljava/lang/String;)Ljava/lang/StringBuilder;"⟩
abbrev cJ4_append_bf812 : ByteArray := prog_36_method_15_code
def yJ4_append_bf812 : MethodName := ⟨RJ4, "append", "(I)Ljava/lang/StringBuilder;"⟩
abbrev cJ4_toString_0e30d : ByteArray := prog_36_method_42_code
def yJ4_toString_0e30d : MethodName := ⟨RJ4, "toString", "()Ljava/lang/String;"⟩
abbrev cJ4_length_8abf5 : ByteArray := prog_36_method_93_code
def yJ4_length_8abf5 : MethodName := ⟨RJ4, "length", "()I"⟩
def RJ1 : String := "java/lang/StringLatin1"
def TJ1 : u_T := fun k => match k with
  | _ => ("", "", "", false)
def tyJ1 : Nat → FieldType := fun k => match k with
  | _ => .int
abbrev wsJ10 : List Cond := u_ws RJ1 TJ1 0
theorem nmJ1 : ∀ a, a < 0 → ∀ b, b < 0 → a ≠ b → (TJ1 a).2.1 ≠ (TJ1 b).2.1 := by decide +kernel
theorem tyJ1_ok : ∀ k, k < 0 → parseFieldDescriptor (TJ1 k).2.2.1 = some (tyJ1 k) := by decide +kernel
abbrev cJ1_inflate_0e8fd : ByteArray := prog_37_method_50_code
def yJ1_inflate_0e8fd : MethodName := ⟨RJ1, "inflate", "([BI[BII)V"⟩
def RJ2 : String := "java/lang/StringUTF16"
def TJ2 : u_T := fun k => match k with
  | _ => ("", "", "", false)
def tyJ2 : Nat → FieldType := fun k => match k with
  | _ => .int
abbrev wsJ20 : List Cond := u_ws RJ2 TJ2 0
theorem nmJ2 : ∀ a, a < 0 → ∀ b, b < 0 → a ≠ b → (TJ2 a).2.1 ≠ (TJ2 b).2.1 := by decide +kernel
theorem tyJ2_ok : ∀ k, k < 0 → parseFieldDescriptor (TJ2 k).2.2.1 = some (tyJ2 k) := by decide +kernel
abbrev cJ2_newBytesFor_77867 : ByteArray := prog_38_method_2_code
def yJ2_newBytesFor_77867 : MethodName := ⟨RJ2, "newBytesFor", "(I)[B"⟩
abbrev cJ2_newBytesLength_0f7a4 : ByteArray := prog_38_method_3_code
def yJ2_newBytesLength_0f7a4 : MethodName := ⟨RJ2, "newBytesLength", "(I)I"⟩
abbrev cJ2_putChar_b72d1 : ByteArray := prog_38_method_4_code
def yJ2_putChar_b72d1 : MethodName := ⟨RJ2, "putChar", "([BII)V"⟩
abbrev cJ2_getChar_3b067 : ByteArray := prog_38_method_5_code
def yJ2_getChar_3b067 : MethodName := ⟨RJ2, "getChar", "([BI)C"⟩
abbrev cJ2_length_9d52b : ByteArray := prog_38_method_6_code
def yJ2_length_9d52b : MethodName := ⟨RJ2, "length", "([B)I"⟩
abbrev cJ2_coderFromArrayLen_85cad : ByteArray := prog_38_method_15_code
def yJ2_coderFromArrayLen_85cad : MethodName := ⟨RJ2, "coderFromArrayLen", "([BI)B"⟩
abbrev cJ2_compress_39247 : ByteArray := prog_38_method_17_code
def yJ2_compress_39247 : MethodName := ⟨RJ2, "compress", "([BII)[B"⟩
abbrev cJ2_compress_5af95 : ByteArray := prog_38_method_22_code
def yJ2_compress_5af95 : MethodName := ⟨RJ2, "compress", "([BI[BII)I"⟩
abbrev cJ2_getChars_46870 : ByteArray := prog_38_method_77_code
def yJ2_getChars_46870 : MethodName := ⟨RJ2, "getChars", "(III[B)I"⟩
abbrev cJ2_putCharsAt_cd4e5 : ByteArray := prog_38_method_81_code
def yJ2_putCharsAt_cd4e5 : MethodName := ⟨RJ2, "putCharsAt", "([BICCCC)I"⟩
abbrev cJ2_inflate_0e8fd : ByteArray := prog_38_method_86_code
def yJ2_inflate_0e8fd : MethodName := ⟨RJ2, "inflate", "([BI[BII)V"⟩
abbrev cJ2_getChars_ba4f3 : ByteArray := prog_38_method_89_code
def yJ2_getChars_ba4f3 : MethodName := ⟨RJ2, "getChars", "(II[B)I"⟩
abbrev cJ2_checkBoundsBeginEnd_d044e : ByteArray := prog_38_method_93_code
def yJ2_checkBoundsBeginEnd_d044e : MethodName := ⟨RJ2, "checkBoundsBeginEnd", "(II[B)V"⟩
abbrev cJ2_checkBoundsOffCount_d044e : ByteArray := prog_38_method_94_code
def yJ2_checkBoundsOffCount_d044e : MethodName := ⟨RJ2, "checkBoundsOffCount", "(II[B)V"⟩
def RJ10 : String := "java/lang/System"
def TJ10 : u_T := fun k => match k with
  | _ => ("", "", "", false)
def tyJ10 : Nat → FieldType := fun k => match k with
  | _ => .int
abbrev wsJ100 : List Cond := u_ws RJ10 TJ10 0
theorem nmJ10 : ∀ a, a < 0 → ∀ b, b < 0 → a ≠ b → (TJ10 a).2.1 ≠ (TJ10 b).2.1 := by decide +kernel
theorem tyJ10_ok : ∀ k, k < 0 → parseFieldDescriptor (TJ10 k).2.2.1 = some (tyJ10 k) := by decide +kernel
def RJxfd54e : String := "java/lang/constant/Constable"
def TJxfd54e : u_T := fun k => match k with
  | _ => ("", "", "", false)
def tyJxfd54e : Nat → FieldType := fun k => match k with
  | _ => .int
abbrev wsJxfd54e0 : List Cond := u_ws RJxfd54e TJxfd54e 0
theorem nmJxfd54e : ∀ a, a < 0 → ∀ b, b < 0 → a ≠ b → (TJxfd54e a).2.1 ≠ (TJxfd54e b).2.1 := by decide +kernel
theorem tyJxfd54e_ok : ∀ k, k < 0 → parseFieldDescriptor (TJxfd54e k).2.2.1 = some (tyJxfd54e k) := by decide +kernel
def RJx3cf43 : String := "java/lang/constant/ConstantDesc"
def TJx3cf43 : u_T := fun k => match k with
  | _ => ("", "", "", false)
def tyJx3cf43 : Nat → FieldType := fun k => match k with
  | _ => .int
abbrev wsJx3cf430 : List Cond := u_ws RJx3cf43 TJx3cf43 0
theorem nmJx3cf43 : ∀ a, a < 0 → ∀ b, b < 0 → a ≠ b → (TJx3cf43 a).2.1 ≠ (TJx3cf43 b).2.1 := by decide +kernel
theorem tyJx3cf43_ok : ∀ k, k < 0 → parseFieldDescriptor (TJx3cf43 k).2.2.1 = some (tyJx3cf43 k) := by decide +kernel
def RJ7 : String := "java/util/Arrays"
def TJ7 : u_T := fun k => match k with
  | _ => ("", "", "", false)
def tyJ7 : Nat → FieldType := fun k => match k with
  | _ => .int
abbrev wsJ70 : List Cond := u_ws RJ7 TJ7 0
theorem nmJ7 : ∀ a, a < 0 → ∀ b, b < 0 → a ≠ b → (TJ7 a).2.1 ≠ (TJ7 b).2.1 := by decide +kernel
theorem tyJ7_ok : ∀ k, k < 0 → parseFieldDescriptor (TJ7 k).2.2.1 = some (tyJ7 k) := by decide +kernel
abbrev cJ7_rangeCheck_23922 : ByteArray := prog_41_method_30_code
def yJ7_rangeCheck_23922 : MethodName := ⟨RJ7, "rangeCheck", "(III)V"⟩
abbrev cJ7_fill_d0a16 : ByteArray := prog_41_method_101_code
def yJ7_fill_d0a16 : MethodName := ⟨RJ7, "fill", "([JJ)V"⟩
abbrev cJ7_fill_53178 : ByteArray := prog_41_method_103_code
def yJ7_fill_53178 : MethodName := ⟨RJ7, "fill", "([II)V"⟩
abbrev cJ7_fill_fda19 : ByteArray := prog_41_method_104_code
def yJ7_fill_fda19 : MethodName := ⟨RJ7, "fill", "([IIII)V"⟩
abbrev cJ7_copyOf_9075b : ByteArray := prog_41_method_121_code
def yJ7_copyOf_9075b : MethodName := ⟨RJ7, "copyOf", "([BI)[B"⟩
abbrev cJ7_checkLength_df160 : ByteArray := prog_41_method_131_code
def yJ7_checkLength_df160 : MethodName := ⟨RJ7, "checkLength", "(II)V"⟩
abbrev cJ7_copyOfRange_39247 : ByteArray := prog_41_method_132_code
def yJ7_copyOfRange_39247 : MethodName := ⟨RJ7, "copyOfRange", "([BII)[B"⟩
abbrev cJ7_copyOfRangeByte_39247 : ByteArray := prog_41_method_133_code
def yJ7_copyOfRangeByte_39247 : MethodName := ⟨RJ7, "copyOfRangeByte", "([BII)[B"⟩
def RJ8 : String := "jdk/internal/util/ArraysSupport"
def TJ8 : u_T := fun k => match k with
  | _ => ("", "", "", false)
def tyJ8 : Nat → FieldType := fun k => match k with
  | _ => .int
abbrev wsJ80 : List Cond := u_ws RJ8 TJ8 0
theorem nmJ8 : ∀ a, a < 0 → ∀ b, b < 0 → a ≠ b → (TJ8 a).2.1 ≠ (TJ8 b).2.1 := by decide +kernel
theorem tyJ8_ok : ∀ k, k < 0 → parseFieldDescriptor (TJ8 k).2.2.1 = some (tyJ8 k) := by decide +kernel
abbrev cJ8_newLength_cabcc : ByteArray := prog_42_method_27_code
def yJ8_newLength_cabcc : MethodName := ⟨RJ8, "newLength", "(III)I"⟩
abbrev cJ8_hugeLength_7cf53 : ByteArray := prog_42_method_28_code
def yJ8_hugeLength_7cf53 : MethodName := ⟨RJ8, "hugeLength", "(II)I"⟩
def RJ3 : String := "jdk/internal/util/Preconditions"
def TJ3 : u_T := fun k => match k with
  | _ => ("", "", "", false)
def tyJ3 : Nat → FieldType := fun k => match k with
  | _ => .int
abbrev wsJ30 : List Cond := u_ws RJ3 TJ3 0
theorem nmJ3 : ∀ a, a < 0 → ∀ b, b < 0 → a ≠ b → (TJ3 a).2.1 ≠ (TJ3 b).2.1 := by decide +kernel
theorem tyJ3_ok : ∀ k, k < 0 → parseFieldDescriptor (TJ3 k).2.2.1 = some (tyJ3 k) := by decide +kernel
abbrev cJ3_checkFromToIndex_8c36e : ByteArray := prog_43_method_12_code
def yJ3_checkFromToIndex_8c36e : MethodName := ⟨RJ3, "checkFromToIndex", "(IIILjava/util/function/BiFunction;)I"⟩
abbrev cJ3_checkFromIndexSize_8c36e : ByteArray := prog_43_method_13_code
def yJ3_checkFromIndexSize_8c36e : MethodName := ⟨RJ3, "checkFromIndexSize", "(IIILjava/util/function/BiFunction;)I"⟩
def RL : String := "RoadHouseLaw"
abbrev cL_act : ByteArray := method_3_code
def yL_act : MethodName := ⟨RL, "act", "(LRoadHouse;IIIIII[J)I"⟩
abbrev cL_law : ByteArray := code
def yL_law : MethodName := ⟨RL, "law", "([I)Z"⟩
abbrev vwCl : List vw_C := [(RJ0, TJ0, 4), (RJ4, TJ4, 4), (RJx00060, TJx00060, 6), (RJxde1cd, TJxde1cd, 6), (RX0, TX0, 22), (RX1, TX1, 3), (RX2, TX2, 22), (RX3, TX3, 23), (RX4, TX4, 20), (RX5, TX5, 6), (RX6, TX6, 11), (RX7, TX7, 22), (RX8, TX8, 22), (RX9, TX9, 22), (RX10, TX10, 19), (RX11, TX11, 10), (RX12, TX12, 32), (RX13, TX13, 38), (RX14, TX14, 26), (RX15, TX15, 40), (RX16, TX16, 30), (RX17, TX17, 32), (RX18, TX18, 25), (RX19, TX19, 35), (RX20, TX20, 19)]
