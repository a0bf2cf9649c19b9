/-! the contracts hold: by the check -/
def nt204 : List (Nat × Nat × List An) := [(139, 4, [(4, [(0, none), (1, none), (2, some (1, ((Int.negSucc 9223372036854775807), (Int.ofNat 9223372036854775807), 0))), (4, some (0, ((Int.ofNat 0), (Int.ofNat 10), 0)))], [], 0, [], (Int.ofNat 10), [((Int.negSucc 0), 0, 4)], [])])]
/-- X3_penaltiesOf -/
theorem ct204 : CtOk tcT cd204 := chM_of (E := (tcT, ctT, ntF nt204, [], cd204.2.2.2.1)) (n := 100000) rfl (fun _ h => absurd h List.not_mem_nil) (by decide +kernel)
def nt212 : List (Nat × Nat × List An) := [(679, 7, [(7, [(0, none), (1, some (1, ((Int.ofNat 0), (Int.ofNat 0), 0))), (3, some (0, ((Int.ofNat 0), (Int.ofNat 24), 0)))], [], 0, [((0, (Int.ofNat 2570)), 22, none), ((0, (Int.ofNat 2587)), 265, none)], (Int.ofNat 24), [((Int.negSucc 0), 0, 3)], [])])]
/-- X17_kept -/
theorem ct212 : CtOk tcT cd212 := chM_of (E := (tcT, ctT, ntF nt212, [], cd212.2.2.2.1)) (n := 100000) rfl (fun _ h => absurd h List.not_mem_nil) (by decide +kernel)
def nt36 : List (Nat × Nat × List An) := [(55, 47, [(47, [(0, none), (3, none), (4, none), (5, none), (6, none), (7, none), (8, none), (9, some (1, ((Int.negSucc 999999), (Int.ofNat 3), 0))), (11, some (0, ((Int.ofNat 0), (Int.ofNat 24), 0)))], [], 0, [((2, (Int.ofNat 0)), 2, none), ((1, (Int.ofNat 0)), 2, none), ((1, (Int.ofNat 0)), 0, none)], (Int.ofNat 24), [((Int.negSucc 0), 0, 11)], [])])]
/-- X1_add -/
theorem ct36 : CtOk tcT cd36 := chM_of (E := (tcT, ctT, ntF nt36, [37, 38], cd36.2.2.2.1)) (n := 100000) rfl (List.forall_mem_cons.mpr ⟨ct37, List.forall_mem_cons.mpr ⟨ct38, fun _ h => absurd h List.not_mem_nil⟩⟩) (by decide +kernel)
def nt39 : List (Nat × Nat × List An) := [(55, 47, [(47, [(0, none), (3, none), (4, none), (5, none), (6, none), (7, none), (8, none), (9, some (1, ((Int.negSucc 0), (Int.ofNat 1), 0))), (11, some (0, ((Int.ofNat 0), (Int.ofNat 24), 0)))], [], 0, [((2, (Int.ofNat 0)), 2, none), ((1, (Int.ofNat 0)), 2, none), ((1, (Int.ofNat 0)), 0, none)], (Int.ofNat 24), [((Int.negSucc 0), 0, 11)], [])])]
/-- X1_add -/
theorem ct39 : CtOk tcT cd39 := chM_of (E := (tcT, ctT, ntF nt39, [31, 38], cd39.2.2.2.1)) (n := 100000) rfl (List.forall_mem_cons.mpr ⟨ct31, List.forall_mem_cons.mpr ⟨ct38, fun _ h => absurd h List.not_mem_nil⟩⟩) (by decide +kernel)
def nt42 : List (Nat × Nat × List An) := []
/-- X19_brake -/
theorem ct42 : CtOk tcT cd42 := chM_of (E := (tcT, ctT, ntF nt42, [], cd42.2.2.2.1)) (n := 100000) rfl (fun _ h => absurd h List.not_mem_nil) (by decide +kernel)
def nt51 : List (Nat × Nat × List An) := []
/-- X2_setCell -/
theorem ct51 : CtOk tcT cd51 := chM_of (E := (tcT, ctT, ntF nt51, [], cd51.2.2.2.1)) (n := 100000) rfl (fun _ h => absurd h List.not_mem_nil) (by decide +kernel)
def nt59 : List (Nat × Nat × List An) := [(99, 10, [(10, [(0, none), (1, none), (2, some (0, ((Int.negSucc 2147483647), (Int.ofNat 2147483647), 0))), (3, some (0, ((Int.ofNat 0), (Int.ofNat 24), 0)))], [], 0, [((0, (Int.ofNat 1319)), 13, none), ((0, (Int.ofNat 1968)), 264, none)], (Int.ofNat 24), [((Int.negSucc 0), 0, 3)], [])])]
/-- X2_over -/
theorem ct59 : CtOk tcT cd59 := chM_of (E := (tcT, ctT, ntF nt59, [], cd59.2.2.2.1)) (n := 100000) rfl (fun _ h => absurd h List.not_mem_nil) (by decide +kernel)
def nt60 : List (Nat × Nat × List An) := [(73, 7, [(7, [(0, none), (1, none), (2, none), (3, some (0, ((Int.ofNat 1), (Int.ofNat 4), 0)))], [], 0, [((0, (Int.ofNat 1319)), 4, none)], (Int.ofNat 4), [((Int.negSucc 0), 0, 3)], [])]), (73, 17, [(17, [(0, none), (1, none), (2, none), (3, none), (4, some (0, ((Int.ofNat 0), (Int.ofNat 3), 0)))], [], 0, [((0, (Int.ofNat 1319)), 4, none), ((0, (Int.ofNat 1319)), 0, none)], (Int.ofNat 0), [((Int.ofNat 1), 0, 4)], [])])]
/-- X2_sortJoins -/
theorem ct60 : CtOk tcT cd60 := chM_of (E := (tcT, ctT, ntF nt60, [], cd60.2.2.2.1)) (n := 100000) rfl (fun _ h => absurd h List.not_mem_nil) (by decide +kernel)
def nt67 : List (Nat × Nat × List An) := [(355, 48, [(48, [(0, none), (5, none), (6, some (0, ((Int.negSucc 2147483647), (Int.ofNat 2147483647), 0))), (7, some (0, ((Int.ofNat 0), (Int.ofNat 8), 0)))], [], 0, [((0, (Int.ofNat 5)), 6, none)], (Int.ofNat 8), [((Int.negSucc 0), 0, 7)], [])])]
/-- X10_mark -/
theorem ct67 : CtOk tcT cd67 := chM_of (E := (tcT, ctT, ntF nt67, [], cd67.2.2.2.1)) (n := 100000) rfl (fun _ h => absurd h List.not_mem_nil) (by decide +kernel)
def nt68 : List (Nat × Nat × List An) := []
/-- X10_zoneSum -/
theorem ct68 : CtOk tcT cd68 := chM_of (E := (tcT, ctT, ntF nt68, [], cd68.2.2.2.1)) (n := 100000) rfl (fun _ h => absurd h List.not_mem_nil) (by decide +kernel)
def nt69 : List (Nat × Nat × List An) := []
/-- X10_turnsOf -/
theorem ct69 : CtOk tcT cd69 := chM_of (E := (tcT, ctT, ntF nt69, [], cd69.2.2.2.1)) (n := 100000) rfl (fun _ h => absurd h List.not_mem_nil) (by decide +kernel)
def nt74 : List (Nat × Nat × List An) := [(169, 24, [(24, [(0, none), (1, none), (3, none), (4, some (0, ((Int.ofNat 0), (Int.ofNat 12), 0)))], [], 0, [((0, (Int.ofNat 34)), 0, none), ((0, (Int.ofNat 35)), 3, none), ((0, (Int.ofNat 34)), 8, none)], (Int.ofNat 12), [((Int.negSucc 0), 0, 4)], [])])]
/-- X4_barWay -/
theorem ct74 : CtOk tcT cd74 := chM_of (E := (tcT, ctT, ntF nt74, [], cd74.2.2.2.1)) (n := 100000) rfl (fun _ h => absurd h List.not_mem_nil) (by decide +kernel)
def nt78 : List (Nat × Nat × List An) := []
/-- X4_clash -/
theorem ct78 : CtOk tcT cd78 := chM_of (E := (tcT, ctT, ntF nt78, [], cd78.2.2.2.1)) (n := 100000) rfl (fun _ h => absurd h List.not_mem_nil) (by decide +kernel)
def nt80 : List (Nat × Nat × List An) := []
/-- X4_listed -/
theorem ct80 : CtOk tcT cd80 := chM_of (E := (tcT, ctT, ntF nt80, [], cd80.2.2.2.1)) (n := 100000) rfl (fun _ h => absurd h List.not_mem_nil) (by decide +kernel)
def nt85 : List (Nat × Nat × List An) := [(176, 5, [(24, [], [(0, ((Int.ofNat 0), (Int.ofNat 100000), 0))], 2, [((0, (Int.ofNat 34)), 0, none), ((0, (Int.ofNat 35)), 0, none), ((0, (Int.ofNat 35)), 1, none), ((0, (Int.ofNat 35)), 2, none)], (Int.ofNat 0), [], [])]), (178, 2, [(10, [], [(0, ((Int.ofNat 0), (Int.ofNat 100000), 0))], 2, [((0, (Int.ofNat 34)), 0, none), ((0, (Int.ofNat 35)), 0, none), ((0, (Int.ofNat 35)), 1, none), ((0, (Int.ofNat 35)), 2, none), ((0, (Int.ofNat 34)), 3, none)], (Int.ofNat 0), [], [])]), (179, 31, [(31, [(0, none), (1, none), (2, none), (3, none), (4, none), (5, none), (6, some (0, ((Int.ofNat 0), (Int.ofNat 100000), 0))), (7, some (0, ((Int.ofNat 0), (Int.ofNat 6), 0)))], [], 0, [((0, (Int.ofNat 34)), 0, none), ((0, (Int.ofNat 35)), 0, none), ((0, (Int.ofNat 35)), 1, none), ((0, (Int.ofNat 35)), 2, none), ((0, (Int.ofNat 34)), 3, none)], (Int.ofNat 6), [((Int.negSucc 0), 0, 7)], [])]), (179, 36, [(98, [(0, none), (1, none), (6, none)], [], 2, [((0, (Int.ofNat 34)), 0, none), ((0, (Int.ofNat 35)), 0, none), ((0, (Int.ofNat 35)), 1, none), ((0, (Int.ofNat 35)), 2, none), ((0, (Int.ofNat 34)), 3, none), ((0, (Int.ofNat 35)), 3, none)], (Int.ofNat 0), [], [])]), (179, 44, [(96, [(0, none), (1, none), (2, none), (3, none), (4, none), (5, none), (6, some (0, ((Int.ofNat 0), (Int.ofNat 100000), 0))), (7, none)], [], 2, [((0, (Int.ofNat 34)), 0, none), ((0, (Int.ofNat 35)), 0, none), ((0, (Int.ofNat 35)), 1, none), ((0, (Int.ofNat 35)), 2, none), ((0, (Int.ofNat 34)), 3, none)], (Int.ofNat 0), [], [])]), (179, 57, [(96, [(0, none), (1, none), (2, none), (3, none), (4, none), (5, none), (6, some (0, ((Int.ofNat 0), (Int.ofNat 100000), 0))), (7, none)], [], 1, [((0, (Int.ofNat 34)), 0, none), ((0, (Int.ofNat 35)), 0, none), ((0, (Int.ofNat 35)), 1, none), ((0, (Int.ofNat 35)), 2, none), ((0, (Int.ofNat 34)), 3, none)], (Int.ofNat 0), [], [])]), (179, 102, [(114, [], [(0, ((Int.ofNat 0), (Int.ofNat 100000), 0))], 2, [((0, (Int.ofNat 34)), 0, none), ((0, (Int.ofNat 35)), 0, none), ((0, (Int.ofNat 35)), 1, none), ((0, (Int.ofNat 35)), 2, none), ((0, (Int.ofNat 34)), 3, none), ((0, (Int.ofNat 35)), 3, none)], (Int.ofNat 0), [], [])])]
/-- X4_unitCost -/
theorem ct85 : CtOk tcT cd85 := chM_of (E := (tcT, ctT, ntF nt85, [], cd85.2.2.2.1)) (n := 100000) rfl (fun _ h => absurd h List.not_mem_nil) (by decide +kernel)
def nt86 : List (Nat × Nat × List An) := [(182, 2, [(2, [(0, none), (1, none), (2, some (0, ((Int.ofNat 0), (Int.ofNat 12), 0)))], [], 0, [], (Int.ofNat 12), [((Int.negSucc 0), 0, 2)], [])]), (182, 9, [(9, [(0, none), (1, none), (2, none), (3, some (1, ((Int.negSucc 9223372036854775807), (Int.ofNat 9223372036854775807), 0))), (5, some (0, ((Int.ofNat 0), (Int.ofNat 8), 0)))], [], 0, [], (Int.ofNat 8), [((Int.negSucc 0), 0, 5)], [])])]
/-- X4_weeksSuffice -/
theorem ct86 : CtOk tcT cd86 := chM_of (E := (tcT, ctT, ntF nt86, [], cd86.2.2.2.1)) (n := 100000) rfl (fun _ h => absurd h List.not_mem_nil) (by decide +kernel)
def nt98 : List (Nat × Nat × List An) := []
/-- X0_tellRow -/
theorem ct98 : CtOk tcT cd98 := chM_of (E := (tcT, ctT, ntF nt98, [], cd98.2.2.2.1)) (n := 100000) rfl (fun _ h => absurd h List.not_mem_nil) (by decide +kernel)
def nt111 : List (Nat × Nat × List An) := [(55, 47, [(47, [(0, none), (3, none), (4, none), (5, none), (6, none), (7, none), (8, none), (9, some (1, ((Int.negSucc 999999), (Int.ofNat 3), 0))), (11, some (0, ((Int.ofNat 0), (Int.ofNat 160), 0)))], [], 0, [((2, (Int.ofNat 0)), 2, none), ((1, (Int.ofNat 0)), 2, none), ((1, (Int.ofNat 0)), 0, none)], (Int.ofNat 160), [((Int.negSucc 0), 0, 11)], [])])]
/-- X1_add -/
theorem ct111 : CtOk tcT cd111 := chM_of (E := (tcT, ctT, ntF nt111, [112, 113], cd111.2.2.2.1)) (n := 100000) rfl (List.forall_mem_cons.mpr ⟨ct112, List.forall_mem_cons.mpr ⟨ct113, fun _ h => absurd h List.not_mem_nil⟩⟩) (by decide +kernel)
def nt116 : List (Nat × Nat × List An) := [(55, 47, [(47, [(0, none), (3, none), (4, none), (5, none), (6, none), (7, none), (8, none), (9, some (1, ((Int.negSucc 999999), (Int.ofNat 4), 0))), (11, some (0, ((Int.ofNat 0), (Int.ofNat 160), 0)))], [], 0, [((2, (Int.ofNat 0)), 2, none), ((1, (Int.ofNat 0)), 2, none), ((1, (Int.ofNat 0)), 0, none)], (Int.ofNat 160), [((Int.negSucc 0), 0, 11)], [])])]
/-- X1_add -/
theorem ct116 : CtOk tcT cd116 := chM_of (E := (tcT, ctT, ntF nt116, [113, 117], cd116.2.2.2.1)) (n := 100000) rfl (List.forall_mem_cons.mpr ⟨ct113, List.forall_mem_cons.mpr ⟨ct117, fun _ h => absurd h List.not_mem_nil⟩⟩) (by decide +kernel)
def nt120 : List (Nat × Nat × List An) := [(59, 12, [(12, [(0, none), (1, none), (2, some (1, ((Int.negSucc 999999998), (Int.ofNat 999999999), 0))), (4, some (0, ((Int.negSucc 0), (Int.ofNat 159), 0)))], [], 0, [((0, (Int.ofNat 201)), 1, none)], (Int.ofNat 1), [((Int.ofNat 1), 0, 4)], [])])]
/-- X1_divideSmall -/
theorem ct120 : CtOk tcT cd120 := chM_of (E := (tcT, ctT, ntF nt120, [113], cd120.2.2.2.1)) (n := 100000) rfl (List.forall_mem_cons.mpr ⟨ct113, fun _ h => absurd h List.not_mem_nil⟩) (by decide +kernel)
def nt128 : List (Nat × Nat × List An) := [(335, 12, [(12, [(0, none), (1, none), (2, none), (3, some (0, ((Int.ofNat 0), (Int.ofNat 1), 0))), (4, some (0, ((Int.ofNat 0), (Int.ofNat 4), 0)))], [], 0, [((0, (Int.ofNat 503)), 5, none)], (Int.ofNat 1), [((Int.negSucc 0), 0, 3)], [])])]
/-- X9_wrongSign -/
theorem ct128 : CtOk tcT cd128 := chM_of (E := (tcT, ctT, ntF nt128, [], cd128.2.2.2.1)) (n := 100000) rfl (fun _ h => absurd h List.not_mem_nil) (by decide +kernel)
def nt132 : List (Nat × Nat × List An) := [(345, 10, [(10, [(0, none), (1, none), (2, some (0, ((Int.negSucc 2147483647), (Int.ofNat 2147483647), 0))), (3, some (0, ((Int.ofNat 0), (Int.ofNat 5), 0)))], [], 0, [((0, (Int.ofNat 503)), 2, none)], (Int.ofNat 5), [((Int.negSucc 0), 0, 3)], [])])]
/-- X9_brake -/
theorem ct132 : CtOk tcT cd132 := chM_of (E := (tcT, ctT, ntF nt132, [], cd132.2.2.2.1)) (n := 100000) rfl (fun _ h => absurd h List.not_mem_nil) (by decide +kernel)
def nt137 : List (Nat × Nat × List An) := [(59, 12, [(12, [(0, none), (1, none), (2, some (1, ((Int.negSucc 999999998), (Int.ofNat 999999999), 0))), (4, some (0, ((Int.negSucc 0), (Int.ofNat 63), 0)))], [], 0, [((1, (Int.ofNat 0)), 1, none)], (Int.ofNat 1), [((Int.ofNat 1), 0, 4)], [])])]
/-- X1_divideSmall -/
theorem ct137 : CtOk tcT cd137 := chM_of (E := (tcT, ctT, ntF nt137, [138], cd137.2.2.2.1)) (n := 100000) rfl (List.forall_mem_cons.mpr ⟨ct138, fun _ h => absurd h List.not_mem_nil⟩) (by decide +kernel)
def nt143 : List (Nat × Nat × List An) := [(55, 47, [(47, [(0, none), (3, none), (4, none), (5, none), (6, none), (7, none), (8, none), (9, some (1, ((Int.negSucc 999999), (Int.ofNat 4), 0))), (11, some (0, ((Int.ofNat 0), (Int.ofNat 64), 0)))], [], 0, [((2, (Int.ofNat 0)), 2, none), ((1, (Int.ofNat 0)), 2, none), ((1, (Int.ofNat 0)), 0, none)], (Int.ofNat 64), [((Int.negSucc 0), 0, 11)], [])])]
/-- X1_add -/
theorem ct143 : CtOk tcT cd143 := chM_of (E := (tcT, ctT, ntF nt143, [138, 144], cd143.2.2.2.1)) (n := 100000) rfl (List.forall_mem_cons.mpr ⟨ct138, List.forall_mem_cons.mpr ⟨ct144, fun _ h => absurd h List.not_mem_nil⟩⟩) (by decide +kernel)
def nt160 : List (Nat × Nat × List An) := [(292, 12, [(12, [(0, none), (1, none), (2, some (0, ((Int.negSucc 0), (Int.ofNat 29), 0)))], [], 0, [], (Int.ofNat 1), [((Int.ofNat 1), 0, 2)], [])]), (292, 32, [(32, [(0, none), (1, none), (2, none), (3, some (0, ((Int.ofNat 1), (Int.ofNat 30), 0)))], [], 0, [((0, (Int.ofNat 618)), 18, none), ((0, (Int.ofNat 618)), 12, none), ((0, (Int.ofNat 794)), 1, none), ((0, (Int.ofNat 618)), 19, none)], (Int.ofNat 30), [((Int.negSucc 0), 0, 3)], [])]), (292, 99, [(99, [(0, none), (1, none), (2, some (1, ((Int.negSucc 9223372036854775807), (Int.ofNat 9223372036854775807), 0))), (4, some (0, ((Int.ofNat 0), (Int.ofNat 29), 0))), (5, some (0, ((Int.ofNat 1), (Int.ofNat 30), 0)))], [], 0, [], (Int.ofNat 30), [((Int.negSucc 0), 0, 5)], [])])]
/-- X8_inspect -/
theorem ct160 : CtOk tcT cd160 := chM_of (E := (tcT, ctT, ntF nt160, [], cd160.2.2.2.1)) (n := 100000) rfl (fun _ h => absurd h List.not_mem_nil) (by decide +kernel)
def nt165 : List (Nat × Nat × List An) := [(55, 47, [(47, [(0, none), (3, none), (4, none), (5, none), (6, none), (7, none), (8, none), (9, some (1, ((Int.negSucc 999999), (Int.ofNat 1), 0))), (11, some (0, ((Int.ofNat 0), (Int.ofNat 32), 0)))], [], 0, [((0, (Int.ofNat 825)), 2, none), ((0, (Int.ofNat 823)), 2, none), ((0, (Int.ofNat 823)), 0, none)], (Int.ofNat 32), [((Int.negSucc 0), 0, 11)], [])])]
/-- X1_add -/
theorem ct165 : CtOk tcT cd165 := chM_of (E := (tcT, ctT, ntF nt165, [166, 167], cd165.2.2.2.1)) (n := 100000) rfl (List.forall_mem_cons.mpr ⟨ct166, List.forall_mem_cons.mpr ⟨ct167, fun _ h => absurd h List.not_mem_nil⟩⟩) (by decide +kernel)
def nt182 : List (Nat × Nat × List An) := [(236, 2, [(2, [(0, none), (1, none), (2, some (0, ((Int.negSucc 2147483647), (Int.ofNat 2147483647), 0)))], [], 0, [], (Int.ofNat 2147483647), [((Int.negSucc 0), 0, 2)], [])])]
/-- X7_digitsAt -/
theorem ct182 : CtOk tcT cd182 := chM_of (E := (tcT, ctT, ntF nt182, [], cd182.2.2.2.1)) (n := 100000) rfl (fun _ h => absurd h List.not_mem_nil) (by decide +kernel)
def nt188 : List (Nat × Nat × List An) := [(250, 24, [(24, [(0, none), (1, none), (2, none), (3, none), (4, some (0, ((Int.ofNat 0), (Int.ofNat 1), 0))), (5, some (0, ((Int.ofNat 0), (Int.ofNat 0), 0))), (6, some (0, ((Int.ofNat 0), (Int.ofNat 1), 0)))], [], 0, [((0, (Int.ofNat 912)), 0, none), ((0, (Int.ofNat 912)), 1, none), ((0, (Int.ofNat 833)), 7, none), ((0, (Int.ofNat 845)), 0, none), ((0, (Int.ofNat 912)), 4, none), ((0, (Int.ofNat 912)), 5, none)], (Int.ofNat 1), [((Int.negSucc 0), 0, 6)], [])]), (250, 61, [(61, [(0, none), (1, none), (2, none), (3, none), (5, some (0, ((Int.ofNat 0), (Int.ofNat 0), 0))), (6, none), (4, none), (7, some (0, ((Int.ofNat 0), (Int.ofNat 1), 0)))], [], 0, [((0, (Int.ofNat 912)), 0, none), ((0, (Int.ofNat 912)), 1, none), ((0, (Int.ofNat 833)), 7, none), ((0, (Int.ofNat 845)), 0, none), ((0, (Int.ofNat 912)), 4, none), ((0, (Int.ofNat 912)), 5, none), ((0, (Int.ofNat 833)), 0, none), ((0, (Int.ofNat 833)), 3, none), ((0, (Int.ofNat 842)), 0, none), ((0, (Int.ofNat 912)), 8, none)], (Int.ofNat 1), [((Int.negSucc 0), 0, 7)], [])])]
/-- X7_endPhase -/
theorem ct188 : CtOk tcT cd188 := chM_of (E := (tcT, ctT, ntF nt188, [], cd188.2.2.2.1)) (n := 100000) rfl (fun _ h => absurd h List.not_mem_nil) (by decide +kernel)
