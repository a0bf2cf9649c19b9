/-! the contracts hold: by the check -/
def nt66 : List (Nat × Nat × List An) := []
/-- X10_spanOf -/
theorem ct66 : CtOk tcT cd66 := chM_of (E := (tcT, ctT, ntF nt66, [], cd66.2.2.2.1)) (n := 100000) rfl (fun _ h => absurd h List.not_mem_nil) (by decide +kernel)
def nt174 : List (Nat × Nat × List An) := [(235, 1, [(12, [], [(0, ((Int.ofNat 0), (Int.ofNat 126), 0))], 1, [], (Int.ofNat 0), [], [])]), (235, 5, [(12, [], [(0, ((Int.ofNat 0), (Int.ofNat 126), 0))], 2, [((0, (Int.ofNat 833)), 9, none)], (Int.ofNat 0), [], [])]), (239, 4, [(4, [(0, none), (1, none), (2, some (0, ((Int.negSucc 2147483647), (Int.ofNat 2147483647), 0))), (3, some (0, ((Int.ofNat 0), (Int.ofNat 4), 0)))], [], 0, [], (Int.ofNat 4), [((Int.negSucc 0), 0, 3)], [])]), (239, 15, [(15, [(0, none), (1, none), (2, some (0, ((Int.negSucc 2147483647), (Int.ofNat 2147483647), 0))), (3, none), (4, some (0, ((Int.ofNat 0), (Int.ofNat 1), 0))), (5, some (0, ((Int.negSucc 64), (Int.ofNat 61), 0)))], [], 0, [], (Int.ofNat 2147483647), [((Int.negSucc 0), 0, 2)], [])]), (239, 18, [(43, [(0, none), (1, none), (2, none), (3, none), (4, none)], [], 2, [((0, (Int.ofNat 833)), 9, none)], (Int.ofNat 0), [], [])]), (239, 20, [(43, [(0, none), (1, none), (2, none), (3, none), (4, none)], [], 1, [((0, (Int.ofNat 833)), 9, none)], (Int.ofNat 0), [], [])]), (239, 24, [(43, [(0, none), (1, none), (2, none), (3, none), (4, none)], [], 2, [((0, (Int.ofNat 833)), 9, none), ((0, (Int.ofNat 833)), 0, none)], (Int.ofNat 0), [], [])]), (239, 28, [(43, [(0, none), (1, none), (2, none), (3, none), (4, none)], [], 1, [((0, (Int.ofNat 833)), 9, none), ((0, (Int.ofNat 833)), 0, none)], (Int.ofNat 0), [], [])])]
/-- X7_takePlan -/
theorem ct174 : CtOk tcT cd174 := chM_of (E := (tcT, ctT, ntF nt174, [181, 182], cd174.2.2.2.1)) (n := 100000) rfl (List.forall_mem_cons.mpr ⟨ct181, List.forall_mem_cons.mpr ⟨ct182, fun _ h => absurd h List.not_mem_nil⟩⟩) (by decide +kernel)
def nt187 : List (Nat × Nat × List An) := [(394, 2, [(2, [(0, none), (1, some (0, ((Int.ofNat 0), (Int.ofNat 1), 0)))], [], 0, [], (Int.ofNat 1), [((Int.negSucc 0), 0, 1)], [])])]
/-- X11_tellCells -/
theorem ct187 : CtOk tcT cd187 := chM_of (E := (tcT, ctT, ntF nt187, [], cd187.2.2.2.1)) (n := 100000) rfl (fun _ h => absurd h List.not_mem_nil) (by decide +kernel)
def nt192 : List (Nat × Nat × List An) := []
/-- X3_quantityPart -/
theorem ct192 : CtOk tcT cd192 := chM_of (E := (tcT, ctT, ntF nt192, [], cd192.2.2.2.1)) (n := 100000) rfl (fun _ h => absurd h List.not_mem_nil) (by decide +kernel)
def nt196 : List (Nat × Nat × List An) := [(137, 4, [(4, [(0, none), (1, none), (2, none), (4, some (0, ((Int.ofNat 0), (Int.ofNat 12), 0)))], [], 0, [], (Int.ofNat 12), [((Int.negSucc 0), 0, 4)], [])])]
/-- X3_keptUpTo -/
theorem ct196 : CtOk tcT cd196 := chM_of (E := (tcT, ctT, ntF nt196, [203], cd196.2.2.2.1)) (n := 100000) rfl (List.forall_mem_cons.mpr ⟨ct203, fun _ h => absurd h List.not_mem_nil⟩) (by decide +kernel)
def nt199 : List (Nat × Nat × List An) := []
/-- X3_correct -/
theorem ct199 : CtOk tcT cd199 := chM_of (E := (tcT, ctT, ntF nt199, [], cd199.2.2.2.1)) (n := 100000) rfl (fun _ h => absurd h List.not_mem_nil) (by decide +kernel)
def nt211 : List (Nat × Nat × List An) := []
/-- X16_answered -/
theorem ct211 : CtOk tcT cd211 := chM_of (E := (tcT, ctT, ntF nt211, [], cd211.2.2.2.1)) (n := 100000) rfl (fun _ h => absurd h List.not_mem_nil) (by decide +kernel)
def nt2 : List (Nat × Nat × List An) := []
/-- X11_bridge -/
theorem ct2 : CtOk tcT cd2 := chM_of (E := (tcT, ctT, ntF nt2, [], cd2.2.2.2.1)) (n := 100000) rfl (fun _ h => absurd h List.not_mem_nil) (by decide +kernel)
def nt19 : List (Nat × Nat × List An) := []
/-- X9_cornersAreWorst -/
theorem ct19 : CtOk tcT cd19 := chM_of (E := (tcT, ctT, ntF nt19, [], cd19.2.2.2.1)) (n := 100000) rfl (fun _ h => absurd h List.not_mem_nil) (by decide +kernel)
def nt41 : List (Nat × Nat × List An) := []
/-- X12_at -/
theorem ct41 : CtOk tcT cd41 := chM_of (E := (tcT, ctT, ntF nt41, [], cd41.2.2.2.1)) (n := 100000) rfl (fun _ h => absurd h List.not_mem_nil) (by decide +kernel)
def nt77 : List (Nat × Nat × List An) := []
/-- X4_dual -/
theorem ct77 : CtOk tcT cd77 := chM_of (E := (tcT, ctT, ntF nt77, [], cd77.2.2.2.1)) (n := 100000) rfl (fun _ h => absurd h List.not_mem_nil) (by decide +kernel)
def nt179 : List (Nat × Nat × List An) := []
/-- X7_ring -/
theorem ct179 : CtOk tcT cd179 := chM_of (E := (tcT, ctT, ntF nt179, [], cd179.2.2.2.1)) (n := 100000) rfl (fun _ h => absurd h List.not_mem_nil) (by decide +kernel)
def nt180 : List (Nat × Nat × List An) := []
/-- X7_same -/
theorem ct180 : CtOk tcT cd180 := chM_of (E := (tcT, ctT, ntF nt180, [], cd180.2.2.2.1)) (n := 100000) rfl (fun _ h => absurd h List.not_mem_nil) (by decide +kernel)
def nt193 : List (Nat × Nat × List An) := []
/-- X3_pay -/
theorem ct193 : CtOk tcT cd193 := chM_of (E := (tcT, ctT, ntF nt193, [196, 203, 204], cd193.2.2.2.1)) (n := 100000) rfl (List.forall_mem_cons.mpr ⟨ct196, List.forall_mem_cons.mpr ⟨ct203, List.forall_mem_cons.mpr ⟨ct204, fun _ h => absurd h List.not_mem_nil⟩⟩⟩) (by decide +kernel)
def nt206 : List (Nat × Nat × List An) := []
/-- X3_takeItem -/
theorem ct206 : CtOk tcT cd206 := chM_of (E := (tcT, ctT, ntF nt206, [207], cd206.2.2.2.1)) (n := 100000) rfl (List.forall_mem_cons.mpr ⟨ct207, fun _ h => absurd h List.not_mem_nil⟩) (by decide +kernel)
def nt208 : List (Nat × Nat × List An) := []
/-- X12_keeps -/
theorem ct208 : CtOk tcT cd208 := chM_of (E := (tcT, ctT, ntF nt208, [], cd208.2.2.2.1)) (n := 100000) rfl (fun _ h => absurd h List.not_mem_nil) (by decide +kernel)
def nt14 : List (Nat × Nat × List An) := []
/-- X20_bill -/
theorem ct14 : CtOk tcT cd14 := chM_of (E := (tcT, ctT, ntF nt14, [16], cd14.2.2.2.1)) (n := 100000) rfl (List.forall_mem_cons.mpr ⟨ct16, fun _ h => absurd h List.not_mem_nil⟩) (by decide +kernel)
def nt40 : List (Nat × Nat × List An) := []
/-- X20_readWay -/
theorem ct40 : CtOk tcT cd40 := chM_of (E := (tcT, ctT, ntF nt40, [41], cd40.2.2.2.1)) (n := 100000) rfl (List.forall_mem_cons.mpr ⟨ct41, fun _ h => absurd h List.not_mem_nil⟩) (by decide +kernel)
def nt65 : List (Nat × Nat × List An) := []
/-- X10_findUnlike -/
theorem ct65 : CtOk tcT cd65 := chM_of (E := (tcT, ctT, ntF nt65, [], cd65.2.2.2.1)) (n := 100000) rfl (fun _ h => absurd h List.not_mem_nil) (by decide +kernel)
def nt79 : List (Nat × Nat × List An) := []
/-- X4_closure -/
theorem ct79 : CtOk tcT cd79 := chM_of (E := (tcT, ctT, ntF nt79, [], cd79.2.2.2.1)) (n := 100000) rfl (fun _ h => absurd h List.not_mem_nil) (by decide +kernel)
def nt129 : List (Nat × Nat × List An) := []
/-- X9_caseByRank -/
theorem ct129 : CtOk tcT cd129 := chM_of (E := (tcT, ctT, ntF nt129, [], cd129.2.2.2.1)) (n := 100000) rfl (fun _ h => absurd h List.not_mem_nil) (by decide +kernel)
def nt197 : List (Nat × Nat × List An) := [(141, 4, [(4, [(0, none), (1, none), (2, none), (3, some (1, ((Int.negSucc 9223372036854775807), (Int.ofNat 9223372036854775807), 0))), (5, some (0, ((Int.ofNat 0), (Int.ofNat 12), 0)))], [], 0, [], (Int.ofNat 12), [((Int.negSucc 0), 0, 5)], [])])]
/-- X3_sumOfPay -/
theorem ct197 : CtOk tcT cd197 := chM_of (E := (tcT, ctT, ntF nt197, [193], cd197.2.2.2.1)) (n := 100000) rfl (List.forall_mem_cons.mpr ⟨ct193, fun _ h => absurd h List.not_mem_nil⟩) (by decide +kernel)
def nt210 : List (Nat × Nat × List An) := []
/-- X19_corners -/
theorem ct210 : CtOk tcT cd210 := chM_of (E := (tcT, ctT, ntF nt210, [], cd210.2.2.2.1)) (n := 100000) rfl (fun _ h => absurd h List.not_mem_nil) (by decide +kernel)
def nt9 : List (Nat × Nat × List An) := []
/-- X20_earth -/
theorem ct9 : CtOk tcT cd9 := chM_of (E := (tcT, ctT, ntF nt9, [40], cd9.2.2.2.1)) (n := 100000) rfl (List.forall_mem_cons.mpr ⟨ct40, fun _ h => absurd h List.not_mem_nil⟩) (by decide +kernel)
def nt10 : List (Nat × Nat × List An) := []
/-- X20_bridge -/
theorem ct10 : CtOk tcT cd10 := chM_of (E := (tcT, ctT, ntF nt10, [40], cd10.2.2.2.1)) (n := 100000) rfl (List.forall_mem_cons.mpr ⟨ct40, fun _ h => absurd h List.not_mem_nil⟩) (by decide +kernel)
def nt12 : List (Nat × Nat × List An) := []
/-- X20_pass -/
theorem ct12 : CtOk tcT cd12 := chM_of (E := (tcT, ctT, ntF nt12, [42], cd12.2.2.2.1)) (n := 100000) rfl (List.forall_mem_cons.mpr ⟨ct42, fun _ h => absurd h List.not_mem_nil⟩) (by decide +kernel)
def nt13 : List (Nat × Nat × List An) := []
/-- X20_drive -/
theorem ct13 : CtOk tcT cd13 := chM_of (E := (tcT, ctT, ntF nt13, [], cd13.2.2.2.1)) (n := 100000) rfl (fun _ h => absurd h List.not_mem_nil) (by decide +kernel)
