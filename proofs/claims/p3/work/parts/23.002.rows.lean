/-! the contracts hold: by the check -/
def nt189 : List (Nat × Nat × List An) := [(251, 53, [(53, [(0, none), (1, none), (2, none), (3, none), (4, some (0, ((Int.ofNat 0), (Int.ofNat 1), 0)))], [], 0, [((0, (Int.ofNat 833)), 7, none), ((0, (Int.ofNat 845)), 0, none), ((0, (Int.ofNat 912)), 0, none), ((0, (Int.ofNat 912)), 1, none), ((0, (Int.ofNat 912)), 4, none), ((0, (Int.ofNat 912)), 5, none), ((0, (Int.ofNat 912)), 2, none), ((0, (Int.ofNat 912)), 7, none)], (Int.ofNat 1), [((Int.negSucc 0), 0, 4)], [])])]
/-- X7_beginPhase -/
theorem ct189 : CtOk tcT cd189 := chM_of (E := (tcT, ctT, ntF nt189, [], cd189.2.2.2.1)) (n := 100000) rfl (fun _ h => absurd h List.not_mem_nil) (by decide +kernel)
def nt194 : List (Nat × Nat × List An) := []
/-- X3_twice -/
theorem ct194 : CtOk tcT cd194 := chM_of (E := (tcT, ctT, ntF nt194, [], cd194.2.2.2.1)) (n := 100000) rfl (fun _ h => absurd h List.not_mem_nil) (by decide +kernel)
def nt195 : List (Nat × Nat × List An) := []
/-- X3_addChange -/
theorem ct195 : CtOk tcT cd195 := chM_of (E := (tcT, ctT, ntF nt195, [], cd195.2.2.2.1)) (n := 100000) rfl (fun _ h => absurd h List.not_mem_nil) (by decide +kernel)
def nt203 : List (Nat × Nat × List An) := []
/-- X3_gross -/
theorem ct203 : CtOk tcT cd203 := chM_of (E := (tcT, ctT, ntF nt203, [], cd203.2.2.2.1)) (n := 100000) rfl (fun _ h => absurd h List.not_mem_nil) (by decide +kernel)
def nt207 : List (Nat × Nat × List An) := []
/-- X3_takeName -/
theorem ct207 : CtOk tcT cd207 := chM_of (E := (tcT, ctT, ntF nt207, [], cd207.2.2.2.1)) (n := 100000) rfl (fun _ h => absurd h List.not_mem_nil) (by decide +kernel)
def nt16 : List (Nat × Nat × List An) := []
/-- X13_cost -/
theorem ct16 : CtOk tcT cd16 := chM_of (E := (tcT, ctT, ntF nt16, [], cd16.2.2.2.1)) (n := 100000) rfl (fun _ h => absurd h List.not_mem_nil) (by decide +kernel)
def nt17 : List (Nat × Nat × List An) := []
/-- X10_keeps -/
theorem ct17 : CtOk tcT cd17 := chM_of (E := (tcT, ctT, ntF nt17, [], cd17.2.2.2.1)) (n := 100000) rfl (fun _ h => absurd h List.not_mem_nil) (by decide +kernel)
def nt20 : List (Nat × Nat × List An) := [(272, 2, [(10, [], [(0, ((Int.ofNat 0), (Int.ofNat 2000000), 0))], 2, [((0, (Int.ofNat 618)), 1, none), ((0, (Int.ofNat 618)), 6, none), ((0, (Int.ofNat 618)), 0, none)], (Int.ofNat 0), [], [])]), (277, 6, [(6, [(0, none), (1, some (0, ((Int.ofNat 0), (Int.ofNat 300), 0))), (2, some (0, ((Int.ofNat 0), (Int.ofNat 150), 0))), (3, some (0, ((Int.ofNat 0), (Int.ofNat 300), 0)))], [], 0, [], (Int.ofNat 300), [((Int.negSucc 0), 0, 3)], [])]), (277, 19, [(19, [(0, none), (2, some (0, ((Int.ofNat 0), (Int.ofNat 150), 0))), (3, none), (1, some (0, ((Int.ofNat 1), (Int.ofNat 300), 0)))], [], 0, [((0, (Int.ofNat 618)), 1, none), ((0, (Int.ofNat 618)), 6, none), ((0, (Int.ofNat 618)), 0, none)], (Int.ofNat 150), [((Int.negSucc 0), 0, 2)], [])]), (277, 81, [(89, [(0, none), (1, none)], [(0, ((Int.ofNat 0), (Int.ofNat 1), 0))], 2, [((0, (Int.ofNat 618)), 1, none), ((0, (Int.ofNat 618)), 5, none)], (Int.ofNat 0), [], [])]), (277, 85, [(89, [(0, none), (1, none)], [(0, ((Int.ofNat 0), (Int.ofNat 1), 0))], 2, [((0, (Int.ofNat 618)), 1, none), ((0, (Int.ofNat 618)), 5, none), ((0, (Int.ofNat 618)), 3, none)], (Int.ofNat 0), [], [])]), (277, 92, [(92, [(0, none), (1, none), (3, some (0, ((Int.ofNat 0), (Int.ofNat 1), 0))), (4, some (0, ((Int.ofNat 0), (Int.ofNat 300), 0)))], [], 0, [((0, (Int.ofNat 618)), 1, none), ((0, (Int.ofNat 618)), 5, none)], (Int.ofNat 300), [((Int.negSucc 0), 0, 4)], [])]), (277, 94, [(112, [(3, none)], [], 2, [((0, (Int.ofNat 618)), 1, none), ((0, (Int.ofNat 618)), 5, none)], (Int.ofNat 0), [], [])]), (277, 96, [(112, [(3, none)], [], 1, [((0, (Int.ofNat 618)), 1, none), ((0, (Int.ofNat 618)), 5, none)], (Int.ofNat 0), [], [])]), (277, 105, [(109, [(0, none), (1, none), (4, none)], [(0, ((Int.ofNat 0), (Int.ofNat 1), 0))], 2, [((0, (Int.ofNat 618)), 1, none), ((0, (Int.ofNat 618)), 5, none), ((0, (Int.ofNat 618)), 6, none), ((0, (Int.ofNat 618)), 2, none)], (Int.ofNat 0), [], [])])]
/-- X8_sameAnew -/
theorem ct20 : CtOk tcT cd20 := chM_of (E := (tcT, ctT, ntF nt20, [152], cd20.2.2.2.1)) (n := 100000) rfl (List.forall_mem_cons.mpr ⟨ct152, fun _ h => absurd h List.not_mem_nil⟩) (by decide +kernel)
def nt76 : List (Nat × Nat × List An) := []
/-- X4_costPart -/
theorem ct76 : CtOk tcT cd76 := chM_of (E := (tcT, ctT, ntF nt76, [], cd76.2.2.2.1)) (n := 100000) rfl (fun _ h => absurd h List.not_mem_nil) (by decide +kernel)
def nt81 : List (Nat × Nat × List An) := [(200, 20, [(20, [(0, none), (1, none), (2, none), (3, some (1, ((Int.negSucc 9223372036854775807), (Int.ofNat 9223372036854775807), 0))), (5, some (0, ((Int.ofNat 0), (Int.ofNat 12), 0)))], [], 0, [], (Int.ofNat 12), [((Int.negSucc 0), 0, 5)], [])]), (200, 101, [(101, [(0, none), (1, none), (2, none), (3, some (1, ((Int.negSucc 9223372036854775807), (Int.ofNat 9223372036854775807), 0))), (5, some (0, ((Int.ofNat 0), (Int.ofNat 8), 0)))], [], 0, [((0, (Int.ofNat 34)), 0, none), ((0, (Int.ofNat 35)), 0, none), ((0, (Int.ofNat 35)), 1, none)], (Int.ofNat 8), [((Int.negSucc 0), 0, 5)], [])])]
/-- X4_mass -/
theorem ct81 : CtOk tcT cd81 := chM_of (E := (tcT, ctT, ntF nt81, [], cd81.2.2.2.1)) (n := 100000) rfl (fun _ h => absurd h List.not_mem_nil) (by decide +kernel)
def nt82 : List (Nat × Nat × List An) := []
/-- X4_check -/
theorem ct82 : CtOk tcT cd82 := chM_of (E := (tcT, ctT, ntF nt82, [], cd82.2.2.2.1)) (n := 100000) rfl (fun _ h => absurd h List.not_mem_nil) (by decide +kernel)
def nt83 : List (Nat × Nat × List An) := []
/-- X4_levelOf -/
theorem ct83 : CtOk tcT cd83 := chM_of (E := (tcT, ctT, ntF nt83, [], cd83.2.2.2.1)) (n := 100000) rfl (fun _ h => absurd h List.not_mem_nil) (by decide +kernel)
def nt84 : List (Nat × Nat × List An) := [(180, 2, [(2, [(0, none), (1, none), (2, some (0, ((Int.ofNat 0), (Int.ofNat 12), 0)))], [], 0, [], (Int.ofNat 12), [((Int.negSucc 0), 0, 2)], [])]), (180, 13, [(13, [(0, none), (1, none), (2, none), (3, some (0, ((Int.ofNat 0), (Int.ofNat 8), 0)))], [], 0, [((0, (Int.ofNat 34)), 0, none), ((0, (Int.ofNat 35)), 0, none), ((0, (Int.ofNat 35)), 1, none), ((0, (Int.ofNat 34)), 14, none)], (Int.ofNat 8), [((Int.negSucc 0), 0, 3)], [])])]
/-- X4_priceUnits -/
theorem ct84 : CtOk tcT cd84 := chM_of (E := (tcT, ctT, ntF nt84, [85], cd84.2.2.2.1)) (n := 100000) rfl (List.forall_mem_cons.mpr ⟨ct85, fun _ h => absurd h List.not_mem_nil⟩) (by decide +kernel)
def nt149 : List (Nat × Nat × List An) := [(272, 2, [(10, [], [(0, ((Int.ofNat 0), (Int.ofNat 2000000), 0))], 2, [((0, (Int.ofNat 618)), 0, none), ((0, (Int.ofNat 618)), 1, none), ((0, (Int.ofNat 618)), 2, none), ((0, (Int.ofNat 618)), 3, none), ((0, (Int.ofNat 618)), 5, none), ((0, (Int.ofNat 618)), 4, none)], (Int.ofNat 0), [], [])]), (273, 32, [(32, [(0, none)], [], 0, [((0, (Int.ofNat 618)), 0, none), ((0, (Int.ofNat 618)), 1, none), ((0, (Int.ofNat 618)), 2, none), ((0, (Int.ofNat 618)), 3, some (0, ((Int.ofNat 1), (Int.ofNat 300), 0)))], (Int.negSucc 0), [((Int.ofNat 1), 1, 3)], [])]), (273, 37, [(95, [], [], 2, [((0, (Int.ofNat 618)), 0, none), ((0, (Int.ofNat 618)), 1, none), ((0, (Int.ofNat 618)), 2, none), ((0, (Int.ofNat 618)), 3, none), ((0, (Int.ofNat 618)), 5, none), ((0, (Int.ofNat 618)), 4, none)], (Int.ofNat 0), [], [])]), (273, 43, [(95, [], [], 1, [((0, (Int.ofNat 618)), 0, none), ((0, (Int.ofNat 618)), 1, none), ((0, (Int.ofNat 618)), 2, none), ((0, (Int.ofNat 618)), 3, none), ((0, (Int.ofNat 618)), 5, none), ((0, (Int.ofNat 618)), 4, none)], (Int.ofNat 0), [], [])])]
/-- X8_feed -/
theorem ct149 : CtOk tcT cd149 := chM_of (E := (tcT, ctT, ntF nt149, [151], cd149.2.2.2.1)) (n := 100000) rfl (List.forall_mem_cons.mpr ⟨ct151, fun _ h => absurd h List.not_mem_nil⟩) (by decide +kernel)
def nt154 : List (Nat × Nat × List An) := []
/-- X8_turnPart -/
theorem ct154 : CtOk tcT cd154 := chM_of (E := (tcT, ctT, ntF nt154, [], cd154.2.2.2.1)) (n := 100000) rfl (fun _ h => absurd h List.not_mem_nil) (by decide +kernel)
def nt159 : List (Nat × Nat × List An) := [(291, 8, [(8, [(0, none), (1, none), (2, some (0, ((Int.negSucc 2147483647), (Int.ofNat 2147483647), 0))), (3, some (0, ((Int.ofNat 0), (Int.ofNat 150), 0)))], [], 0, [], (Int.ofNat 150), [((Int.negSucc 0), 0, 3)], [])]), (291, 27, [(27, [(0, none), (1, none), (2, some (0, ((Int.negSucc 2147483647), (Int.ofNat 2147483647), 0))), (3, some (0, ((Int.ofNat 0), (Int.ofNat 299), 0)))], [], 0, [((0, (Int.ofNat 618)), 5, none)], (Int.ofNat 299), [((Int.negSucc 0), 0, 3)], [])])]
/-- X8_bolt -/
theorem ct159 : CtOk tcT cd159 := chM_of (E := (tcT, ctT, ntF nt159, [], cd159.2.2.2.1)) (n := 100000) rfl (fun _ h => absurd h List.not_mem_nil) (by decide +kernel)
def nt161 : List (Nat × Nat × List An) := [(294, 47, [(47, [(0, none), (2, none), (3, some (0, ((Int.ofNat 0), (Int.ofNat 150), 0)))], [], 0, [((0, (Int.ofNat 618)), 15, none), ((0, (Int.ofNat 618)), 14, none), ((0, (Int.ofNat 618)), 5, none), ((0, (Int.ofNat 618)), 3, none)], (Int.ofNat 150), [((Int.negSucc 0), 0, 3)], [])])]
/-- X8_mend -/
theorem ct161 : CtOk tcT cd161 := chM_of (E := (tcT, ctT, ntF nt161, [], cd161.2.2.2.1)) (n := 100000) rfl (fun _ h => absurd h List.not_mem_nil) (by decide +kernel)
def nt178 : List (Nat × Nat × List An) := []
/-- X7_rowOfFault -/
theorem ct178 : CtOk tcT cd178 := chM_of (E := (tcT, ctT, ntF nt178, [], cd178.2.2.2.1)) (n := 100000) rfl (fun _ h => absurd h List.not_mem_nil) (by decide +kernel)
def nt181 : List (Nat × Nat × List An) := [(237, 15, [(15, [(0, none), (1, none), (2, none), (3, none), (4, none), (5, some (0, ((Int.negSucc 2147483647), (Int.ofNat 2147483647), 0))), (6, some (0, ((Int.negSucc 2147483647), (Int.ofNat 2147483647), 0)))], [], 0, [], (Int.ofNat 2147483647), [((Int.negSucc 0), 0, 6)], [])])]
/-- X7_numberAt -/
theorem ct181 : CtOk tcT cd181 := chM_of (E := (tcT, ctT, ntF nt181, [182], cd181.2.2.2.1)) (n := 100000) rfl (List.forall_mem_cons.mpr ⟨ct182, fun _ h => absurd h List.not_mem_nil⟩) (by decide +kernel)
def nt186 : List (Nat × Nat × List An) := [(253, 10, [(10, [(0, none), (1, none), (2, none), (3, none), (4, none), (5, some (0, ((Int.ofNat 0), (Int.ofNat 1), 0))), (6, some (0, ((Int.ofNat 0), (Int.ofNat 1), 0))), (7, some (0, ((Int.ofNat 0), (Int.ofNat 1), 0)))], [], 0, [((0, (Int.ofNat 912)), 0, none), ((0, (Int.ofNat 912)), 1, none), ((0, (Int.ofNat 833)), 7, none), ((0, (Int.ofNat 845)), 0, none), ((0, (Int.ofNat 912)), 3, none)], (Int.ofNat 1), [((Int.negSucc 0), 0, 7)], [])]), (253, 55, [(55, [(0, none), (1, none), (2, none), (3, none), (4, none), (5, some (0, ((Int.ofNat 0), (Int.ofNat 1), 0))), (6, none), (7, none), (8, some (0, ((Int.ofNat 0), (Int.ofNat 1), 0)))], [], 0, [((0, (Int.ofNat 912)), 0, none), ((0, (Int.ofNat 912)), 1, none), ((0, (Int.ofNat 833)), 7, none), ((0, (Int.ofNat 845)), 0, none), ((0, (Int.ofNat 912)), 3, none), ((0, (Int.ofNat 833)), 0, none)], (Int.ofNat 1), [((Int.negSucc 0), 0, 8)], [])])]
/-- X7_faultOf -/
theorem ct186 : CtOk tcT cd186 := chM_of (E := (tcT, ctT, ntF nt186, [], cd186.2.2.2.1)) (n := 100000) rfl (fun _ h => absurd h List.not_mem_nil) (by decide +kernel)
def nt191 : List (Nat × Nat × List An) := []
/-- X3_addPlain -/
theorem ct191 : CtOk tcT cd191 := chM_of (E := (tcT, ctT, ntF nt191, [], cd191.2.2.2.1)) (n := 100000) rfl (fun _ h => absurd h List.not_mem_nil) (by decide +kernel)
def nt200 : List (Nat × Nat × List An) := []
/-- X3_dispute -/
theorem ct200 : CtOk tcT cd200 := chM_of (E := (tcT, ctT, ntF nt200, [], cd200.2.2.2.1)) (n := 100000) rfl (fun _ h => absurd h List.not_mem_nil) (by decide +kernel)
def nt202 : List (Nat × Nat × List An) := []
/-- X3_sign -/
theorem ct202 : CtOk tcT cd202 := chM_of (E := (tcT, ctT, ntF nt202, [], cd202.2.2.2.1)) (n := 100000) rfl (fun _ h => absurd h List.not_mem_nil) (by decide +kernel)
def nt1 : List (Nat × Nat × List An) := []
/-- X11_earth -/
theorem ct1 : CtOk tcT cd1 := chM_of (E := (tcT, ctT, ntF nt1, [], cd1.2.2.2.1)) (n := 100000) rfl (fun _ h => absurd h List.not_mem_nil) (by decide +kernel)
def nt6 : List (Nat × Nat × List An) := []
/-- X11_bill -/
theorem ct6 : CtOk tcT cd6 := chM_of (E := (tcT, ctT, ntF nt6, [], cd6.2.2.2.1)) (n := 100000) rfl (fun _ h => absurd h List.not_mem_nil) (by decide +kernel)
def nt22 : List (Nat × Nat × List An) := []
/-- X3_walksAgree -/
theorem ct22 : CtOk tcT cd22 := chM_of (E := (tcT, ctT, ntF nt22, [], cd22.2.2.2.1)) (n := 100000) rfl (fun _ h => absurd h List.not_mem_nil) (by decide +kernel)
def nt25 : List (Nat × Nat × List An) := []
/-- X0_invert -/
theorem ct25 : CtOk tcT cd25 := chM_of (E := (tcT, ctT, ntF nt25, [27], cd25.2.2.2.1)) (n := 100000) rfl (List.forall_mem_cons.mpr ⟨ct27, fun _ h => absurd h List.not_mem_nil⟩) (by decide +kernel)
def nt64 : List (Nat × Nat × List An) := []
/-- X10_costPart -/
theorem ct64 : CtOk tcT cd64 := chM_of (E := (tcT, ctT, ntF nt64, [], cd64.2.2.2.1)) (n := 100000) rfl (fun _ h => absurd h List.not_mem_nil) (by decide +kernel)
