/-! the contracts hold: by the check -/
def nt21 : List (Nat × Nat × List An) := [(90, 9, [(9, [(0, none), (1, some (1, ((Int.negSucc 9223372036854775807), (Int.ofNat 9223372036854775807), 0))), (3, some (0, ((Int.ofNat 0), (Int.ofNat 1), 0))), (4, some (0, ((Int.ofNat 0), (Int.ofNat 24), 0)))], [], 0, [((0, (Int.ofNat 1319)), 13, none), ((0, (Int.ofNat 1968)), 265, none)], (Int.ofNat 24), [((Int.negSucc 0), 0, 4)], [])])]
/-- X2_allKept -/
theorem ct21 : CtOk tcT cd21 := chM_of (E := (tcT, ctT, ntF nt21, [], cd21.2.2.2.1)) (n := 100000) rfl (fun _ h => absurd h List.not_mem_nil) (by decide +kernel)
def nt26 : List (Nat × Nat × List An) := [(50, 27, [(27, [(0, none), (3, some (1, ((Int.negSucc 0), (Int.ofNat 0), 0)))], [], 0, [((1, (Int.ofNat 0)), 2, none), ((1, (Int.ofNat 0)), 1, some (0, ((Int.ofNat 0), (Int.ofNat 12), 0)))], (Int.ofNat 0), [((Int.negSucc 0), 0, 3)], [])])]
/-- X1_set -/
theorem ct26 : CtOk tcT cd26 := chM_of (E := (tcT, ctT, ntF nt26, [], cd26.2.2.2.1)) (n := 100000) rfl (fun _ h => absurd h List.not_mem_nil) (by decide +kernel)
def nt27 : List (Nat × Nat × List An) := [(50, 27, [(27, [(0, none), (3, some (1, ((Int.negSucc 999), (Int.ofNat 0), 0)))], [], 0, [((1, (Int.ofNat 0)), 2, none), ((1, (Int.ofNat 0)), 1, some (0, ((Int.ofNat 0), (Int.ofNat 160), 0)))], (Int.ofNat 0), [((Int.negSucc 0), 0, 3)], [])])]
/-- X1_set -/
theorem ct27 : CtOk tcT cd27 := chM_of (E := (tcT, ctT, ntF nt27, [], cd27.2.2.2.1)) (n := 100000) rfl (fun _ h => absurd h List.not_mem_nil) (by decide +kernel)
def nt28 : List (Nat × Nat × List An) := []
/-- X1_set -/
theorem ct28 : CtOk tcT cd28 := chM_of (E := (tcT, ctT, ntF nt28, [], cd28.2.2.2.1)) (n := 100000) rfl (fun _ h => absurd h List.not_mem_nil) (by decide +kernel)
def nt31 : List (Nat × Nat × List An) := [(53, 19, [(19, [(0, none), (1, none), (2, some (0, ((Int.negSucc 0), (Int.ofNat 23), 0)))], [], 0, [((1, (Int.ofNat 0)), 1, none), ((2, (Int.ofNat 0)), 1, none)], (Int.ofNat 1), [((Int.ofNat 1), 0, 2)], [])])]
/-- X1_compareSize -/
theorem ct31 : CtOk tcT cd31 := chM_of (E := (tcT, ctT, ntF nt31, [], cd31.2.2.2.1)) (n := 100000) rfl (fun _ h => absurd h List.not_mem_nil) (by decide +kernel)
def nt37 : List (Nat × Nat × List An) := [(53, 19, [(19, [(0, none), (1, none), (2, some (0, ((Int.negSucc 0), (Int.ofNat 23), 0)))], [], 0, [((1, (Int.ofNat 0)), 1, none), ((2, (Int.ofNat 0)), 1, none)], (Int.ofNat 1), [((Int.ofNat 1), 0, 2)], [])])]
/-- X1_compareSize -/
theorem ct37 : CtOk tcT cd37 := chM_of (E := (tcT, ctT, ntF nt37, [], cd37.2.2.2.1)) (n := 100000) rfl (fun _ h => absurd h List.not_mem_nil) (by decide +kernel)
def nt38 : List (Nat × Nat × List An) := [(52, 3, [(3, [(0, none)], [], 0, [((1, (Int.ofNat 0)), 1, some (0, ((Int.ofNat 0), (Int.ofNat 24), 0)))], (Int.ofNat 0), [((Int.ofNat 1), 1, 0)], [])])]
/-- X1_trim -/
theorem ct38 : CtOk tcT cd38 := chM_of (E := (tcT, ctT, ntF nt38, [], cd38.2.2.2.1)) (n := 100000) rfl (fun _ h => absurd h List.not_mem_nil) (by decide +kernel)
def nt54 : List (Nat × Nat × List An) := [(71, 2, [(2, [(0, none), (1, none), (2, none), (3, some (0, ((Int.ofNat 0), (Int.ofNat 96), 0)))], [], 0, [], (Int.ofNat 96), [((Int.negSucc 0), 0, 3)], [])])]
/-- X2_joinOf -/
theorem ct54 : CtOk tcT cd54 := chM_of (E := (tcT, ctT, ntF nt54, [], cd54.2.2.2.1)) (n := 100000) rfl (fun _ h => absurd h List.not_mem_nil) (by decide +kernel)
def nt56 : List (Nat × Nat × List An) := [(95, 13, [(13, [(0, none), (1, none), (2, none), (3, some (0, ((Int.negSucc 2147483647), (Int.ofNat 2147483647), 0))), (4, some (0, ((Int.ofNat 0), (Int.ofNat 1), 0)))], [], 0, [], (Int.ofNat 1), [((Int.negSucc 0), 0, 4)], [])])]
/-- X2_differs -/
theorem ct56 : CtOk tcT cd56 := chM_of (E := (tcT, ctT, ntF nt56, [], cd56.2.2.2.1)) (n := 100000) rfl (fun _ h => absurd h List.not_mem_nil) (by decide +kernel)
def nt58 : List (Nat × Nat × List An) := []
/-- X2_goBack -/
theorem ct58 : CtOk tcT cd58 := chM_of (E := (tcT, ctT, ntF nt58, [], cd58.2.2.2.1)) (n := 100000) rfl (fun _ h => absurd h List.not_mem_nil) (by decide +kernel)
def nt63 : List (Nat × Nat × List An) := [(214, 2, [(2, [(0, none), (1, some (0, ((Int.ofNat 0), (Int.ofNat 144), 0)))], [], 0, [], (Int.ofNat 144), [((Int.negSucc 0), 0, 1)], [])])]
/-- X6_shareNone -/
theorem ct63 : CtOk tcT cd63 := chM_of (E := (tcT, ctT, ntF nt63, [], cd63.2.2.2.1)) (n := 100000) rfl (fun _ h => absurd h List.not_mem_nil) (by decide +kernel)
def nt102 : List (Nat × Nat × List An) := [(49, 14, [(14, [(0, none), (2, none), (3, some (0, ((Int.ofNat 0), (Int.ofNat 2), 0)))], [], 0, [], (Int.ofNat 2), [((Int.negSucc 0), 0, 3)], [])]), (49, 38, [(38, [(0, none), (2, some (0, ((Int.negSucc 2147483647), (Int.ofNat 2147483647), 0))), (3, some (0, ((Int.ofNat 0), (Int.ofNat 2), 0)))], [], 0, [], (Int.ofNat 2), [((Int.negSucc 0), 0, 3)], [])]), (49, 62, [(62, [(0, none), (2, some (0, ((Int.negSucc 2147483647), (Int.ofNat 2147483647), 0))), (3, some (0, ((Int.ofNat 0), (Int.ofNat 1), 0)))], [], 0, [], (Int.ofNat 1), [((Int.negSucc 0), 0, 3)], [])])]
/-- X0_count -/
theorem ct102 : CtOk tcT cd102 := chM_of (E := (tcT, ctT, ntF nt102, [], cd102.2.2.2.1)) (n := 100000) rfl (fun _ h => absurd h List.not_mem_nil) (by decide +kernel)
def nt112 : List (Nat × Nat × List An) := [(53, 19, [(19, [(0, none), (1, none), (2, some (0, ((Int.negSucc 0), (Int.ofNat 23), 0)))], [], 0, [((1, (Int.ofNat 0)), 1, none), ((2, (Int.ofNat 0)), 1, none)], (Int.ofNat 1), [((Int.ofNat 1), 0, 2)], [])])]
/-- X1_compareSize -/
theorem ct112 : CtOk tcT cd112 := chM_of (E := (tcT, ctT, ntF nt112, [], cd112.2.2.2.1)) (n := 100000) rfl (fun _ h => absurd h List.not_mem_nil) (by decide +kernel)
def nt113 : List (Nat × Nat × List An) := [(52, 3, [(3, [(0, none)], [], 0, [((1, (Int.ofNat 0)), 1, some (0, ((Int.ofNat 0), (Int.ofNat 160), 0)))], (Int.ofNat 0), [((Int.ofNat 1), 1, 0)], [])])]
/-- X1_trim -/
theorem ct113 : CtOk tcT cd113 := chM_of (E := (tcT, ctT, ntF nt113, [], cd113.2.2.2.1)) (n := 100000) rfl (fun _ h => absurd h List.not_mem_nil) (by decide +kernel)
def nt117 : List (Nat × Nat × List An) := [(53, 19, [(19, [(0, none), (1, none), (2, some (0, ((Int.negSucc 0), (Int.ofNat 159), 0)))], [], 0, [((1, (Int.ofNat 0)), 1, none), ((2, (Int.ofNat 0)), 1, none)], (Int.ofNat 1), [((Int.ofNat 1), 0, 2)], [])])]
/-- X1_compareSize -/
theorem ct117 : CtOk tcT cd117 := chM_of (E := (tcT, ctT, ntF nt117, [], cd117.2.2.2.1)) (n := 100000) rfl (fun _ h => absurd h List.not_mem_nil) (by decide +kernel)
def nt135 : List (Nat × Nat × List An) := [(50, 27, [(27, [(0, none), (3, some (1, ((Int.negSucc 0), (Int.ofNat 0), 0)))], [], 0, [((1, (Int.ofNat 0)), 2, none), ((1, (Int.ofNat 0)), 1, some (0, ((Int.ofNat 0), (Int.ofNat 64), 0)))], (Int.ofNat 0), [((Int.negSucc 0), 0, 3)], [])])]
/-- X1_set -/
theorem ct135 : CtOk tcT cd135 := chM_of (E := (tcT, ctT, ntF nt135, [], cd135.2.2.2.1)) (n := 100000) rfl (fun _ h => absurd h List.not_mem_nil) (by decide +kernel)
def nt138 : List (Nat × Nat × List An) := [(52, 3, [(3, [(0, none)], [], 0, [((1, (Int.ofNat 0)), 1, some (0, ((Int.ofNat 0), (Int.ofNat 64), 0)))], (Int.ofNat 0), [((Int.ofNat 1), 1, 0)], [])])]
/-- X1_trim -/
theorem ct138 : CtOk tcT cd138 := chM_of (E := (tcT, ctT, ntF nt138, [], cd138.2.2.2.1)) (n := 100000) rfl (fun _ h => absurd h List.not_mem_nil) (by decide +kernel)
def nt144 : List (Nat × Nat × List An) := [(53, 19, [(19, [(0, none), (1, none), (2, some (0, ((Int.negSucc 0), (Int.ofNat 63), 0)))], [], 0, [((1, (Int.ofNat 0)), 1, none), ((2, (Int.ofNat 0)), 1, none)], (Int.ofNat 1), [((Int.ofNat 1), 0, 2)], [])])]
/-- X1_compareSize -/
theorem ct144 : CtOk tcT cd144 := chM_of (E := (tcT, ctT, ntF nt144, [], cd144.2.2.2.1)) (n := 100000) rfl (fun _ h => absurd h List.not_mem_nil) (by decide +kernel)
def nt151 : List (Nat × Nat × List An) := []
/-- X8_addPoint -/
theorem ct151 : CtOk tcT cd151 := chM_of (E := (tcT, ctT, ntF nt151, [], cd151.2.2.2.1)) (n := 100000) rfl (fun _ h => absurd h List.not_mem_nil) (by decide +kernel)
def nt152 : List (Nat × Nat × List An) := []
/-- X8_addPoint -/
theorem ct152 : CtOk tcT cd152 := chM_of (E := (tcT, ctT, ntF nt152, [], cd152.2.2.2.1)) (n := 100000) rfl (fun _ h => absurd h List.not_mem_nil) (by decide +kernel)
def nt155 : List (Nat × Nat × List An) := []
/-- X8_addLine -/
theorem ct155 : CtOk tcT cd155 := chM_of (E := (tcT, ctT, ntF nt155, [], cd155.2.2.2.1)) (n := 100000) rfl (fun _ h => absurd h List.not_mem_nil) (by decide +kernel)
def nt158 : List (Nat × Nat × List An) := [(290, 17, [(17, [(0, none), (1, none), (2, some (0, ((Int.negSucc 999999), (Int.ofNat 1000000), 0))), (3, some (0, ((Int.ofNat 1), (Int.ofNat 300), 0)))], [], 0, [((0, (Int.ofNat 618)), 1, none), ((0, (Int.ofNat 618)), 0, none), ((0, (Int.ofNat 619)), 0, none)], (Int.ofNat 300), [((Int.negSucc 0), 0, 3)], [])])]
/-- X8_span -/
theorem ct158 : CtOk tcT cd158 := chM_of (E := (tcT, ctT, ntF nt158, [], cd158.2.2.2.1)) (n := 100000) rfl (fun _ h => absurd h List.not_mem_nil) (by decide +kernel)
def nt162 : List (Nat × Nat × List An) := [(50, 27, [(27, [(0, none), (3, some (1, ((Int.negSucc 0), (Int.ofNat 0), 0)))], [], 0, [((1, (Int.ofNat 0)), 2, none), ((1, (Int.ofNat 0)), 1, some (0, ((Int.ofNat 0), (Int.ofNat 32), 0)))], (Int.ofNat 0), [((Int.negSucc 0), 0, 3)], [])])]
/-- X1_set -/
theorem ct162 : CtOk tcT cd162 := chM_of (E := (tcT, ctT, ntF nt162, [], cd162.2.2.2.1)) (n := 100000) rfl (fun _ h => absurd h List.not_mem_nil) (by decide +kernel)
def nt163 : List (Nat × Nat × List An) := [(286, 44, [(44, [(0, none), (1, none), (3, some (0, ((Int.ofNat 0), (Int.ofNat 3), 0))), (4, none)], [], 0, [((0, (Int.ofNat 618)), 9, none), ((0, (Int.ofNat 618)), 11, none), ((0, (Int.ofNat 793)), 0, none), ((0, (Int.ofNat 793)), 1, none), ((0, (Int.ofNat 618)), 10, none), ((0, (Int.ofNat 618)), 7, none)], (Int.ofNat 0), [((Int.ofNat 1), 0, 3)], [])])]
/-- X8_bears -/
theorem ct163 : CtOk tcT cd163 := chM_of (E := (tcT, ctT, ntF nt163, [], cd163.2.2.2.1)) (n := 100000) rfl (fun _ h => absurd h List.not_mem_nil) (by decide +kernel)
def nt166 : List (Nat × Nat × List An) := [(53, 19, [(19, [(0, none), (1, none), (2, some (0, ((Int.negSucc 0), (Int.ofNat 31), 0)))], [], 0, [((1, (Int.ofNat 0)), 1, none), ((2, (Int.ofNat 0)), 1, none)], (Int.ofNat 1), [((Int.ofNat 1), 0, 2)], [])])]
/-- X1_compareSize -/
theorem ct166 : CtOk tcT cd166 := chM_of (E := (tcT, ctT, ntF nt166, [], cd166.2.2.2.1)) (n := 100000) rfl (fun _ h => absurd h List.not_mem_nil) (by decide +kernel)
def nt167 : List (Nat × Nat × List An) := [(52, 3, [(3, [(0, none)], [], 0, [((0, (Int.ofNat 823)), 1, some (0, ((Int.ofNat 0), (Int.ofNat 32), 0)))], (Int.ofNat 0), [((Int.ofNat 1), 1, 0)], [])])]
/-- X1_trim -/
theorem ct167 : CtOk tcT cd167 := chM_of (E := (tcT, ctT, ntF nt167, [], cd167.2.2.2.1)) (n := 100000) rfl (fun _ h => absurd h List.not_mem_nil) (by decide +kernel)
def nt171 : List (Nat × Nat × List An) := [(213, 4, [(4, [(0, none), (1, none), (2, some (1, ((Int.negSucc 9223372036854775807), (Int.ofNat 9223372036854775807), 0))), (4, some (0, ((Int.ofNat 0), (Int.ofNat 32), 0)))], [], 0, [], (Int.ofNat 32), [((Int.negSucc 0), 0, 4)], [])])]
/-- X5_limb32 -/
theorem ct171 : CtOk tcT cd171 := chM_of (E := (tcT, ctT, ntF nt171, [], cd171.2.2.2.1)) (n := 100000) rfl (fun _ h => absurd h List.not_mem_nil) (by decide +kernel)
def nt175 : List (Nat × Nat × List An) := [(241, 2, [(2, [(0, none), (1, none), (2, some (0, ((Int.ofNat 0), (Int.ofNat 60), 0)))], [], 0, [], (Int.ofNat 60), [((Int.negSucc 0), 0, 2)], [])])]
/-- X7_eventOf -/
theorem ct175 : CtOk tcT cd175 := chM_of (E := (tcT, ctT, ntF nt175, [], cd175.2.2.2.1)) (n := 100000) rfl (fun _ h => absurd h List.not_mem_nil) (by decide +kernel)
