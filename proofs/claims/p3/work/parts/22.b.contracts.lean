/-! the contracts -/
def ntF (l : List (Nat × Nat × List An)) (m i : Nat) : List An := match l with
  | [] => []
  | q :: r => if Nat.beq q.1 m && Nat.beq q.2.1 i then q.2.2 else ntF r m i

/-- X2_allKept -/
def cd21 : Ct := (90, [(2, ((Int.ofNat 1319), (Int.ofNat 1319), 146))], some (0, ((Int.ofNat 0), (Int.ofNat 1), 0)), [], 0, 0)
/-- X1_set -/
def cd26 : Ct := (50, [(2, ((Int.ofNat 209), (Int.ofNat 463), 76)), (1, ((Int.ofNat 0), (Int.ofNat 1), 0))], none, [(209, 464)], 0, 0)
/-- X1_set -/
def cd27 : Ct := (50, [(2, ((Int.ofNat 197), (Int.ofNat 501), 74)), (1, ((Int.negSucc 999), (Int.ofNat 1000), 0))], none, [(197, 502)], 0, 0)
/-- X1_set -/
def cd28 : Ct := (50, [(2, ((Int.ofNat 465), (Int.ofNat 489), 78)), (1, ((Int.ofNat 0), (Int.ofNat 0), 0))], none, [(465, 489)], 0, 0)
/-- X1_compareSize -/
def cd31 : Ct := (53, [(2, ((Int.ofNat 465), (Int.ofNat 489), 78)), (2, ((Int.ofNat 465), (Int.ofNat 489), 78))], some (0, ((Int.negSucc 0), (Int.ofNat 1), 0)), [], 0, 0)
/-- X1_compareSize -/
def cd37 : Ct := (53, [(2, ((Int.ofNat 465), (Int.ofNat 489), 78)), (2, ((Int.ofNat 491), (Int.ofNat 501), 74))], some (0, ((Int.negSucc 0), (Int.ofNat 1), 0)), [], 0, 0)
/-- X1_trim -/
def cd38 : Ct := (52, [(2, ((Int.ofNat 465), (Int.ofNat 489), 78)), (0, ((Int.ofNat 1), (Int.ofNat 24), 0))], none, [(465, 489)], 0, 0)
/-- X2_joinOf -/
def cd54 : Ct := (71, [(2, ((Int.ofNat 1319), (Int.ofNat 1319), 146)), (0, ((Int.negSucc 2147483647), (Int.ofNat 2147483647), 0)), (0, ((Int.negSucc 2147483647), (Int.ofNat 2147483647), 0))], some (0, ((Int.negSucc 0), (Int.ofNat 96), 0)), [], 0, 0)
/-- X2_differs -/
def cd56 : Ct := (95, [(2, ((Int.ofNat 1319), (Int.ofNat 1319), 146)), (0, ((Int.negSucc 2147483647), (Int.ofNat 2147483647), 0)), (0, ((Int.negSucc 2147483647), (Int.ofNat 2147483647), 0))], some (1, ((Int.negSucc 2147483647), (Int.ofNat 2147483647), 0)), [], 0, 0)
/-- X2_goBack -/
def cd58 : Ct := (98, [(2, ((Int.ofNat 1319), (Int.ofNat 1319), 146)), (0, ((Int.negSucc 2147483647), (Int.ofNat 2147483647), 0))], some (0, ((Int.ofNat 0), (Int.ofNat 0), 0)), [], 0, 0)
/-- X6_shareNone -/
def cd63 : Ct := (214, [(2, ((Int.ofNat 27), (Int.ofNat 27), 20))], none, [(28, 28)], 0, 0)
/-- X0_count -/
def cd102 : Ct := (49, [(2, ((Int.ofNat 161), (Int.ofNat 161), 55)), (0, ((Int.negSucc 2147483647), (Int.ofNat 2147483647), 0))], some (1, ((Int.negSucc 2147483647), (Int.ofNat 2147483647), 0)), [], 0, 0)
/-- X1_compareSize -/
def cd112 : Ct := (53, [(2, ((Int.ofNat 491), (Int.ofNat 501), 74)), (2, ((Int.ofNat 465), (Int.ofNat 489), 78))], some (0, ((Int.negSucc 0), (Int.ofNat 1), 0)), [], 0, 0)
/-- X1_trim -/
def cd113 : Ct := (52, [(2, ((Int.ofNat 197), (Int.ofNat 501), 74)), (0, ((Int.ofNat 0), (Int.ofNat 160), 0))], none, [(197, 501)], 0, 0)
/-- X1_compareSize -/
def cd117 : Ct := (53, [(2, ((Int.ofNat 197), (Int.ofNat 501), 74)), (2, ((Int.ofNat 203), (Int.ofNat 501), 74))], some (0, ((Int.negSucc 0), (Int.ofNat 1), 0)), [], 0, 0)
/-- X1_set -/
def cd135 : Ct := (50, [(2, ((Int.ofNat 562), (Int.ofNat 588), 101)), (1, ((Int.ofNat 0), (Int.ofNat 1), 0))], none, [(562, 589)], 0, 0)
/-- X1_trim -/
def cd138 : Ct := (52, [(2, ((Int.ofNat 566), (Int.ofNat 588), 101)), (0, ((Int.ofNat 0), (Int.ofNat 64), 0))], none, [(562, 588)], 0, 0)
/-- X1_compareSize -/
def cd144 : Ct := (53, [(2, ((Int.ofNat 566), (Int.ofNat 588), 101)), (2, ((Int.ofNat 568), (Int.ofNat 588), 101))], some (0, ((Int.negSucc 0), (Int.ofNat 1), 0)), [], 0, 0)
/-- X8_addPoint -/
def cd151 : Ct := (274, [(2, ((Int.ofNat 620), (Int.ofNat 620), 107)), (0, ((Int.ofNat 0), (Int.ofNat 300), 0)), (0, ((Int.negSucc 999999), (Int.ofNat 1000000), 0))], some (0, ((Int.ofNat 1), (Int.ofNat 300), 0)), [(620, 620)], 0, 0)
/-- X8_addPoint -/
def cd152 : Ct := (274, [(2, ((Int.ofNat 772), (Int.ofNat 772), 110)), (0, ((Int.ofNat 0), (Int.ofNat 300), 0)), (0, ((Int.negSucc 999999), (Int.ofNat 1000000), 0))], some (0, ((Int.ofNat 1), (Int.ofNat 300), 0)), [(772, 772)], 0, 0)
/-- X8_addLine -/
def cd155 : Ct := (281, [(2, ((Int.ofNat 618), (Int.ofNat 618), 105)), (0, ((Int.negSucc 2147483647), (Int.ofNat 2147483647), 0)), (0, ((Int.negSucc 2147483647), (Int.ofNat 2147483647), 0)), (0, ((Int.negSucc 2147483647), (Int.ofNat 2147483647), 0))], some (0, ((Int.ofNat 0), (Int.ofNat 1), 0)), [(774, 781), (783, 791)], 0, 0)
/-- X8_span -/
def cd158 : Ct := (290, [(2, ((Int.ofNat 618), (Int.ofNat 618), 105)), (0, ((Int.negSucc 2147483647), (Int.ofNat 2147483647), 0))], some (1, ((Int.negSucc 999999), (Int.ofNat 1000000), 0)), [], 0, 0)
/-- X1_set -/
def cd162 : Ct := (50, [(2, ((Int.ofNat 819), (Int.ofNat 827), 124)), (1, ((Int.ofNat 0), (Int.ofNat 1), 0))], none, [(819, 832)], 0, 0)
/-- X8_bears -/
def cd163 : Ct := (286, [(2, ((Int.ofNat 618), (Int.ofNat 618), 105)), (0, ((Int.ofNat 0), (Int.ofNat 7), 0)), (0, ((Int.ofNat 0), (Int.ofNat 2000000), 0))], some (0, ((Int.negSucc 0), (Int.ofNat 3), 0)), [], 0, 0)
/-- X1_compareSize -/
def cd166 : Ct := (53, [(2, ((Int.ofNat 823), (Int.ofNat 831), 124)), (2, ((Int.ofNat 821), (Int.ofNat 825), 124))], some (0, ((Int.negSucc 0), (Int.ofNat 1), 0)), [], 0, 0)
/-- X1_trim -/
def cd167 : Ct := (52, [(2, ((Int.ofNat 823), (Int.ofNat 823), 124)), (0, ((Int.ofNat 1), (Int.ofNat 32), 0))], none, [(819, 831)], 0, 0)
/-- X5_limb32 -/
def cd171 : Ct := (213, [(2, ((Int.ofNat 819), (Int.ofNat 821), 124)), (0, ((Int.ofNat 0), (Int.ofNat 11), 0))], some (1, ((Int.ofNat 0), (Int.ofNat 4294967295), 0)), [], 0, 0)
/-- X7_eventOf -/
def cd175 : Ct := (241, [(2, ((Int.ofNat 833), (Int.ofNat 833), 126)), (0, ((Int.negSucc 2147483647), (Int.ofNat 2147483647), 0))], some (0, ((Int.ofNat 0), (Int.ofNat 4), 0)), [], 0, 0)
/-- X3_penaltiesOf -/
def cd204 : Ct := (139, [(2, ((Int.ofNat 1982), (Int.ofNat 1982), 173)), (0, ((Int.ofNat 0), (Int.ofNat 11), 0))], some (1, ((Int.negSucc 9223372036854775807), (Int.ofNat 9223372036854775807), 0)), [], 0, 0)
/-- X17_kept -/
def cd212 : Ct := (679, [(2, ((Int.ofNat 2570), (Int.ofNat 2570), 316))], some (0, ((Int.ofNat 1), (Int.ofNat 1), 0)), [], 0, 0)
/-- X1_add -/
def cd36 : Ct := (55, [(2, ((Int.ofNat 465), (Int.ofNat 489), 78)), (2, ((Int.ofNat 491), (Int.ofNat 501), 74)), (0, ((Int.ofNat 1), (Int.ofNat 1), 0))], none, [(465, 490)], 0, 0)
/-- X1_add -/
def cd39 : Ct := (55, [(2, ((Int.ofNat 465), (Int.ofNat 489), 78)), (2, ((Int.ofNat 465), (Int.ofNat 489), 78)), (0, ((Int.ofNat 1), (Int.ofNat 1), 0))], none, [(465, 490)], 0, 0)
/-- X19_brake -/
def cd42 : Ct := (793, [(2, ((Int.ofNat 2514), (Int.ofNat 2514), 262)), (0, ((Int.negSucc 2147483647), (Int.ofNat 2147483647), 0))], some (1, ((Int.negSucc 0), (Int.negSucc 0), 0)), [], 0, 0)
/-- X2_setCell -/
def cd51 : Ct := (70, [(2, ((Int.ofNat 1319), (Int.ofNat 1319), 146)), (0, ((Int.negSucc 2147483647), (Int.ofNat 2147483647), 0)), (0, ((Int.negSucc 2147483647), (Int.ofNat 2147483647), 0)), (0, ((Int.negSucc 2147483647), (Int.ofNat 2147483647), 0)), (0, ((Int.negSucc 2147483647), (Int.ofNat 2147483647), 0))], some (0, ((Int.ofNat 0), (Int.ofNat 1), 0)), [(1321, 1344)], 0, 0)
/-- X2_over -/
def cd59 : Ct := (99, [(2, ((Int.ofNat 1319), (Int.ofNat 1319), 146)), (0, ((Int.negSucc 2147483647), (Int.ofNat 2147483647), 0))], some (1, ((Int.negSucc 2147483647), (Int.ofNat 2147483647), 0)), [], 0, 0)
/-- X2_sortJoins -/
def cd60 : Ct := (73, [(2, ((Int.ofNat 1319), (Int.ofNat 1319), 146)), (0, ((Int.ofNat 0), (Int.ofNat 23), 0))], none, [(1468, 1491)], 0, 0)
/-- X10_mark -/
def cd67 : Ct := (355, [(2, ((Int.ofNat 5), (Int.ofNat 5), 6)), (0, ((Int.negSucc 2147483647), (Int.ofNat 2147483647), 0)), (0, ((Int.negSucc 2147483647), (Int.ofNat 2147483647), 0)), (0, ((Int.negSucc 2147483647), (Int.ofNat 2147483647), 0)), (0, ((Int.negSucc 2147483647), (Int.ofNat 2147483647), 0))], some (1, ((Int.negSucc 2147483647), (Int.ofNat 2147483647), 0)), [(12, 12)], 0, 0)
/-- X10_zoneSum -/
def cd68 : Ct := (381, [(2, ((Int.ofNat 5), (Int.ofNat 5), 6)), (0, ((Int.negSucc 2147483647), (Int.ofNat 2147483647), 0))], some (1, ((Int.negSucc 0), (Int.negSucc 0), 0)), [], 0, 0)
/-- X10_turnsOf -/
def cd69 : Ct := (382, [(2, ((Int.ofNat 5), (Int.ofNat 5), 6))], some (1, ((Int.negSucc 0), (Int.negSucc 0), 0)), [], 0, 0)
/-- X4_barWay -/
def cd74 : Ct := (169, [(2, ((Int.ofNat 34), (Int.ofNat 34), 27)), (0, ((Int.negSucc 2147483647), (Int.ofNat 2147483647), 0)), (0, ((Int.negSucc 2147483647), (Int.ofNat 2147483647), 0)), (0, ((Int.negSucc 2147483647), (Int.ofNat 2147483647), 0))], some (0, ((Int.ofNat 0), (Int.ofNat 1), 0)), [(34, 34), (60, 65)], 0, 0)
/-- X4_clash -/
def cd78 : Ct := (197, [(2, ((Int.ofNat 34), (Int.ofNat 34), 27)), (0, ((Int.negSucc 2147483647), (Int.ofNat 2147483647), 0))], some (1, ((Int.negSucc 0), (Int.negSucc 0), 0)), [], 0, 0)
/-- X4_listed -/
def cd80 : Ct := (199, [(2, ((Int.ofNat 34), (Int.ofNat 34), 27)), (0, ((Int.negSucc 2147483647), (Int.ofNat 2147483647), 0)), (0, ((Int.negSucc 2147483647), (Int.ofNat 2147483647), 0)), (0, ((Int.negSucc 2147483647), (Int.ofNat 2147483647), 0))], some (1, ((Int.negSucc 0), (Int.negSucc 0), 0)), [], 0, 0)
/-- X4_unitCost -/
def cd85 : Ct := (179, [(2, ((Int.ofNat 34), (Int.ofNat 34), 27)), (0, ((Int.ofNat 0), (Int.ofNat 11), 0)), (0, ((Int.ofNat 0), (Int.ofNat 7), 0)), (0, ((Int.negSucc 0), (Int.negSucc 0), 0))], some (1, ((Int.ofNat 0), (Int.ofNat 200000), 0)), [], 0, 0)
/-- X4_weeksSuffice -/
def cd86 : Ct := (182, [(2, ((Int.ofNat 34), (Int.ofNat 34), 27)), (0, ((Int.negSucc 0), (Int.negSucc 0), 0))], some (0, ((Int.ofNat 0), (Int.ofNat 1), 0)), [], 0, 0)
/-- X0_tellRow -/
def cd98 : Ct := (27, [(2, ((Int.ofNat 161), (Int.ofNat 161), 55)), (0, ((Int.negSucc 2147483647), (Int.ofNat 2147483647), 0)), (0, ((Int.negSucc 2147483647), (Int.ofNat 2147483647), 0)), (0, ((Int.negSucc 2147483647), (Int.ofNat 2147483647), 0))], some (1, ((Int.negSucc 0), (Int.ofNat 7), 0)), [(161, 161), (170, 178)], 0, 0)
/-- X1_add -/
def cd111 : Ct := (55, [(2, ((Int.ofNat 491), (Int.ofNat 501), 74)), (2, ((Int.ofNat 465), (Int.ofNat 489), 78)), (0, ((Int.negSucc 0), (Int.ofNat 1), 0))], none, [(197, 502)], 0, 0)
/-- X1_add -/
def cd116 : Ct := (55, [(2, ((Int.ofNat 197), (Int.ofNat 201), 74)), (2, ((Int.ofNat 203), (Int.ofNat 501), 74)), (0, ((Int.ofNat 1), (Int.ofNat 1), 0))], none, [(197, 502)], 0, 0)
/-- X1_divideSmall -/
def cd120 : Ct := (59, [(2, ((Int.ofNat 201), (Int.ofNat 201), 74)), (0, ((Int.ofNat 1000000000), (Int.ofNat 1000000000), 0))], some (0, ((Int.negSucc 999999998), (Int.ofNat 999999999), 0)), [(197, 502)], 0, 0)
/-- X9_wrongSign -/
def cd128 : Ct := (335, [(2, ((Int.ofNat 503), (Int.ofNat 503), 80))], some (0, ((Int.negSucc 0), (Int.ofNat 1), 0)), [], 0, 0)
/-- X9_brake -/
def cd132 : Ct := (345, [(2, ((Int.ofNat 503), (Int.ofNat 503), 80)), (0, ((Int.negSucc 2147483647), (Int.ofNat 2147483647), 0))], some (1, ((Int.negSucc 536870911), (Int.ofNat 536870911), 0)), [], 0, 0)
/-- X1_divideSmall -/
def cd137 : Ct := (59, [(2, ((Int.ofNat 566), (Int.ofNat 588), 101)), (0, ((Int.negSucc 399999999), (Int.ofNat 1000000000), 0))], some (0, ((Int.negSucc 999999998), (Int.ofNat 999999999), 0)), [(562, 589)], 0, 0)
/-- X1_add -/
def cd143 : Ct := (55, [(2, ((Int.ofNat 566), (Int.ofNat 588), 101)), (2, ((Int.ofNat 568), (Int.ofNat 588), 101)), (0, ((Int.ofNat 1), (Int.ofNat 1), 0))], none, [(562, 589)], 0, 0)
/-- X8_inspect -/
def cd160 : Ct := (292, [(2, ((Int.ofNat 618), (Int.ofNat 618), 105)), (0, ((Int.negSucc 2147483647), (Int.ofNat 2147483647), 0))], some (1, ((Int.negSucc 9223372036854775807), (Int.ofNat 9223372036854775807), 0)), [(816, 817)], 0, 0)
/-- X1_add -/
def cd165 : Ct := (55, [(2, ((Int.ofNat 823), (Int.ofNat 823), 124)), (2, ((Int.ofNat 825), (Int.ofNat 825), 124)), (0, ((Int.ofNat 1), (Int.ofNat 1), 0))], none, [(819, 832)], 0, 0)
/-- X7_digitsAt -/
def cd182 : Ct := (236, [(2, ((Int.ofNat 833), (Int.ofNat 833), 126)), (0, ((Int.negSucc 2147483647), (Int.ofNat 2147483647), 0))], some (0, ((Int.negSucc 2147483647), (Int.ofNat 2147483647), 0)), [], 0, 0)
/-- X7_endPhase -/
def cd188 : Ct := (250, [(2, ((Int.ofNat 833), (Int.ofNat 833), 126)), (2, ((Int.ofNat 912), (Int.ofNat 912), 138))], some (0, ((Int.ofNat 0), (Int.ofNat 1), 0)), [(912, 912)], 0, 0)
/-- X7_beginPhase -/
def cd189 : Ct := (251, [(2, ((Int.ofNat 833), (Int.ofNat 833), 126)), (2, ((Int.ofNat 912), (Int.ofNat 912), 138))], some (0, ((Int.ofNat 0), (Int.ofNat 1), 0)), [(912, 912)], 0, 0)
/-- X3_twice -/
def cd194 : Ct := (143, [(2, ((Int.ofNat 1982), (Int.ofNat 1982), 173)), (0, ((Int.negSucc 2147483647), (Int.ofNat 2147483647), 0)), (0, ((Int.negSucc 2147483647), (Int.ofNat 2147483647), 0))], some (1, ((Int.negSucc 0), (Int.negSucc 0), 0)), [], 0, 0)
/-- X3_addChange -/
def cd195 : Ct := (144, [(2, ((Int.ofNat 1982), (Int.ofNat 1982), 173)), (0, ((Int.negSucc 2147483647), (Int.ofNat 2147483647), 0)), (0, ((Int.negSucc 2147483647), (Int.ofNat 2147483647), 0)), (0, ((Int.negSucc 2147483647), (Int.ofNat 2147483647), 0)), (0, ((Int.negSucc 2147483647), (Int.ofNat 2147483647), 0))], some (1, ((Int.negSucc 0), (Int.negSucc 0), 0)), [], 0, 0)
/-- X3_gross -/
def cd203 : Ct := (135, [(2, ((Int.ofNat 1982), (Int.ofNat 1982), 173)), (0, ((Int.ofNat 0), (Int.ofNat 11), 0))], some (1, ((Int.ofNat 0), (Int.ofNat 0), 0)), [], 0, 0)
/-- X3_takeName -/
def cd207 : Ct := (114, [(2, ((Int.ofNat 1982), (Int.ofNat 1982), 173)), (0, ((Int.ofNat 0), (Int.ofNat 0), 0)), (0, ((Int.ofNat 0), (Int.ofNat 0), 0))], some (0, ((Int.ofNat 0), (Int.ofNat 0), 0)), [], 0, 0)
/-- X13_cost -/
def cd16 : Ct := (474, [(2, ((Int.ofNat 2468), (Int.ofNat 2468), 216)), (0, ((Int.ofNat 0), (Int.ofNat 0), 0))], some (1, ((Int.negSucc 0), (Int.negSucc 0), 0)), [(2468, 2468)], 0, 0)
/-- X10_keeps -/
def cd17 : Ct := (383, [(2, ((Int.ofNat 5), (Int.ofNat 5), 6))], some (0, ((Int.ofNat 0), (Int.ofNat 0), 0)), [], 0, 0)
/-- X8_sameAnew -/
def cd20 : Ct := (277, [(2, ((Int.ofNat 618), (Int.ofNat 618), 105))], some (0, ((Int.ofNat 0), (Int.ofNat 1), 0)), [(772, 772)], 0, 0)
/-- X4_costPart -/
def cd76 : Ct := (194, [(2, ((Int.ofNat 34), (Int.ofNat 34), 27)), (0, ((Int.negSucc 2147483647), (Int.ofNat 2147483647), 0))], some (1, ((Int.negSucc 0), (Int.negSucc 0), 0)), [], 0, 0)
/-- X4_mass -/
def cd81 : Ct := (200, [(2, ((Int.ofNat 34), (Int.ofNat 34), 27)), (0, ((Int.negSucc 2147483647), (Int.ofNat 2147483647), 0)), (0, ((Int.negSucc 2147483647), (Int.ofNat 2147483647), 0))], some (1, ((Int.negSucc 9223372036854775807), (Int.ofNat 9223372036854775807), 0)), [], 0, 0)
/-- X4_check -/
def cd82 : Ct := (201, [(2, ((Int.ofNat 34), (Int.ofNat 34), 27))], some (1, ((Int.negSucc 0), (Int.negSucc 0), 0)), [], 0, 0)
/-- X4_levelOf -/
def cd83 : Ct := (203, [(2, ((Int.ofNat 34), (Int.ofNat 34), 27)), (0, ((Int.negSucc 2147483647), (Int.ofNat 2147483647), 0)), (0, ((Int.negSucc 2147483647), (Int.ofNat 2147483647), 0))], some (1, ((Int.negSucc 0), (Int.negSucc 0), 0)), [], 0, 0)
/-- X4_priceUnits -/
def cd84 : Ct := (180, [(2, ((Int.ofNat 34), (Int.ofNat 34), 27)), (0, ((Int.negSucc 0), (Int.negSucc 0), 0))], none, [(100, 111), (113, 113)], 0, 0)
/-- X8_feed -/
def cd149 : Ct := (273, [(2, ((Int.ofNat 618), (Int.ofNat 618), 105)), (0, ((Int.negSucc 2147483647), (Int.ofNat 2147483647), 0))], some (0, ((Int.ofNat 0), (Int.ofNat 1), 0)), [(618, 620), (622, 771)], 0, 0)
/-- X8_turnPart -/
def cd154 : Ct := (280, [(2, ((Int.ofNat 618), (Int.ofNat 618), 105)), (0, ((Int.negSucc 2147483647), (Int.ofNat 2147483647), 0)), (0, ((Int.negSucc 2147483647), (Int.ofNat 2147483647), 0))], some (1, ((Int.negSucc 999999), (Int.ofNat 2000000), 0)), [], 0, 0)
/-- X8_bolt -/
def cd159 : Ct := (291, [(2, ((Int.ofNat 618), (Int.ofNat 618), 105)), (0, ((Int.negSucc 2147483647), (Int.ofNat 2147483647), 0))], some (1, ((Int.negSucc 1073741823), (Int.ofNat 1073741823), 0)), [], 0, 0)
/-- X8_mend -/
def cd161 : Ct := (294, [(2, ((Int.ofNat 618), (Int.ofNat 618), 105)), (0, ((Int.negSucc 2147483647), (Int.ofNat 2147483647), 0))], some (0, ((Int.ofNat 0), (Int.ofNat 1), 0)), [(618, 618), (796, 815)], 0, 0)
/-- X7_rowOfFault -/
def cd178 : Ct := (263, [(2, ((Int.ofNat 833), (Int.ofNat 833), 126)), (0, ((Int.negSucc 2147483647), (Int.ofNat 2147483647), 0)), (0, ((Int.negSucc 2147483647), (Int.ofNat 2147483647), 0))], some (1, ((Int.negSucc 0), (Int.negSucc 0), 0)), [], 0, 0)
/-- X7_numberAt -/
def cd181 : Ct := (237, [(2, ((Int.ofNat 833), (Int.ofNat 833), 126)), (0, ((Int.negSucc 2147483647), (Int.ofNat 2147483647), 0)), (0, ((Int.ofNat 1), (Int.ofNat 31), 0)), (0, ((Int.ofNat 15), (Int.ofNat 31), 0))], some (0, ((Int.ofNat 0), (Int.ofNat 31), 0)), [], 0, 0)
/-- X7_faultOf -/
def cd186 : Ct := (253, [(2, ((Int.ofNat 833), (Int.ofNat 833), 126)), (2, ((Int.ofNat 912), (Int.ofNat 912), 138)), (0, ((Int.ofNat 0), (Int.ofNat 1), 0)), (0, ((Int.ofNat 0), (Int.ofNat 1), 0))], some (0, ((Int.ofNat 0), (Int.ofNat 4), 0)), [], 0, 0)
/-- X3_addPlain -/
def cd191 : Ct := (125, [(2, ((Int.ofNat 1982), (Int.ofNat 1982), 173)), (0, ((Int.negSucc 2147483647), (Int.ofNat 2147483647), 0)), (0, ((Int.negSucc 2147483647), (Int.ofNat 2147483647), 0)), (0, ((Int.negSucc 2147483647), (Int.ofNat 2147483647), 0))], some (0, ((Int.ofNat 0), (Int.ofNat 0), 0)), [], 0, 0)
/-- X3_dispute -/
def cd200 : Ct := (151, [(2, ((Int.ofNat 1982), (Int.ofNat 1982), 173)), (0, ((Int.negSucc 2147483647), (Int.ofNat 2147483647), 0)), (0, ((Int.negSucc 2147483647), (Int.ofNat 2147483647), 0))], some (1, ((Int.negSucc 0), (Int.negSucc 0), 0)), [], 0, 0)
/-- X3_sign -/
def cd202 : Ct := (154, [(2, ((Int.ofNat 1982), (Int.ofNat 1982), 173)), (0, ((Int.negSucc 2147483647), (Int.ofNat 2147483647), 0))], some (1, ((Int.negSucc 0), (Int.negSucc 0), 0)), [], 0, 0)
/-- X11_earth -/
def cd1 : Ct := (388, [(2, ((Int.ofNat 4), (Int.ofNat 4), 5)), (0, ((Int.negSucc 2147483647), (Int.ofNat 2147483647), 0)), (0, ((Int.negSucc 2147483647), (Int.ofNat 2147483647), 0))], some (0, ((Int.negSucc 0), (Int.negSucc 0), 0)), [], 0, 0)
/-- X11_bill -/
def cd6 : Ct := (395, [(2, ((Int.ofNat 4), (Int.ofNat 4), 5)), (0, ((Int.negSucc 2147483647), (Int.ofNat 2147483647), 0))], some (0, ((Int.negSucc 0), (Int.negSucc 0), 0)), [], 0, 0)
/-- X3_walksAgree -/
def cd22 : Ct := (133, [(2, ((Int.ofNat 1982), (Int.ofNat 1982), 173))], some (0, ((Int.ofNat 1), (Int.ofNat 1), 0)), [], 0, 0)
/-- X0_invert -/
def cd25 : Ct := (25, [(2, ((Int.ofNat 161), (Int.ofNat 161), 55))], none, [(161, 161), (197, 502)], 0, 0)
/-- X10_costPart -/
def cd64 : Ct := (378, [(2, ((Int.ofNat 5), (Int.ofNat 5), 6)), (0, ((Int.negSucc 2147483647), (Int.ofNat 2147483647), 0))], some (1, ((Int.negSucc 0), (Int.negSucc 0), 0)), [], 0, 0)
/-- X10_spanOf -/
def cd66 : Ct := (380, [(2, ((Int.ofNat 5), (Int.ofNat 5), 6)), (0, ((Int.negSucc 2147483647), (Int.ofNat 2147483647), 0)), (0, ((Int.negSucc 2147483647), (Int.ofNat 2147483647), 0)), (0, ((Int.negSucc 2147483647), (Int.ofNat 2147483647), 0))], some (1, ((Int.negSucc 0), (Int.negSucc 0), 0)), [], 0, 0)
/-- X7_takePlan -/
def cd174 : Ct := (239, [(2, ((Int.ofNat 833), (Int.ofNat 833), 126)), (2, ((Int.ofNat 846), (Int.ofNat 849), 134))], some (0, ((Int.negSucc 2147483647), (Int.ofNat 2147483647), 0)), [(846, 849)], 0, 0)
/-- X11_tellCells -/
def cd187 : Ct := (394, [(2, ((Int.ofNat 4), (Int.ofNat 4), 5))], none, [(1319, 1319), (1493, 1692), (2447, 2447)], 0, 0)
/-- X3_quantityPart -/
def cd192 : Ct := (132, [(2, ((Int.ofNat 1982), (Int.ofNat 1982), 173)), (0, ((Int.negSucc 2147483647), (Int.ofNat 2147483647), 0)), (0, ((Int.negSucc 2147483647), (Int.ofNat 2147483647), 0)), (0, ((Int.negSucc 2147483647), (Int.ofNat 2147483647), 0)), (0, ((Int.ofNat 0), (Int.ofNat 1), 0))], some (1, ((Int.negSucc 0), (Int.negSucc 0), 0)), [], 0, 0)
/-- X3_keptUpTo -/
def cd196 : Ct := (137, [(2, ((Int.ofNat 1982), (Int.ofNat 1982), 173)), (0, ((Int.ofNat 0), (Int.ofNat 11), 0))], some (1, ((Int.ofNat 0), (Int.ofNat 0), 0)), [], 0, 0)
/-- X3_correct -/
def cd199 : Ct := (127, [(2, ((Int.ofNat 1982), (Int.ofNat 1982), 173)), (0, ((Int.negSucc 2147483647), (Int.ofNat 2147483647), 0)), (0, ((Int.negSucc 2147483647), (Int.ofNat 2147483647), 0)), (0, ((Int.negSucc 2147483647), (Int.ofNat 2147483647), 0))], some (1, ((Int.negSucc 0), (Int.ofNat 0), 0)), [(2195, 2234)], 0, 0)
/-- X16_answered -/
def cd211 : Ct := (648, [(2, ((Int.ofNat 2551), (Int.ofNat 2551), 297))], some (0, ((Int.ofNat 0), (Int.ofNat 0), 0)), [(2551, 2551)], 0, 0)
/-- X11_bridge -/
def cd2 : Ct := (389, [(2, ((Int.ofNat 4), (Int.ofNat 4), 5)), (0, ((Int.negSucc 2147483647), (Int.ofNat 2147483647), 0)), (0, ((Int.negSucc 2147483647), (Int.ofNat 2147483647), 0))], some (0, ((Int.negSucc 0), (Int.negSucc 0), 0)), [], 0, 0)
/-- X9_cornersAreWorst -/
def cd19 : Ct := (346, [(2, ((Int.ofNat 503), (Int.ofNat 503), 80))], some (0, ((Int.ofNat 0), (Int.ofNat 0), 0)), [], 0, 0)
/-- X12_at -/
def cd41 : Ct := (435, [(2, ((Int.ofNat 2449), (Int.ofNat 2449), 197)), (0, ((Int.ofNat 0), (Int.ofNat 0), 0)), (0, ((Int.ofNat 0), (Int.ofNat 0), 0))], some (0, ((Int.negSucc 0), (Int.negSucc 0), 0)), [], 0, 0)
/-- X4_dual -/
def cd77 : Ct := (196, [(2, ((Int.ofNat 34), (Int.ofNat 34), 27)), (0, ((Int.negSucc 2147483647), (Int.ofNat 2147483647), 0)), (0, ((Int.negSucc 2147483647), (Int.ofNat 2147483647), 0)), (0, ((Int.negSucc 2147483647), (Int.ofNat 2147483647), 0))], some (1, ((Int.negSucc 0), (Int.negSucc 0), 0)), [], 0, 0)
/-- X7_ring -/
def cd179 : Ct := (267, [(2, ((Int.ofNat 833), (Int.ofNat 833), 126)), (0, ((Int.negSucc 2147483647), (Int.ofNat 2147483647), 0))], some (1, ((Int.negSucc 0), (Int.negSucc 0), 0)), [], 0, 0)
/-- X7_same -/
def cd180 : Ct := (269, [(2, ((Int.ofNat 833), (Int.ofNat 833), 126)), (0, ((Int.negSucc 2147483647), (Int.ofNat 2147483647), 0))], some (0, ((Int.ofNat 0), (Int.ofNat 0), 0)), [], 0, 0)
/-- X3_pay -/
def cd193 : Ct := (140, [(2, ((Int.ofNat 1982), (Int.ofNat 1982), 173)), (0, ((Int.ofNat 0), (Int.ofNat 11), 0)), (0, ((Int.ofNat 0), (Int.ofNat 4), 0))], some (1, ((Int.negSucc 9223372036854775807), (Int.ofNat 9223372036854775807), 0)), [], 0, 0)
/-- X3_takeItem -/
def cd206 : Ct := (113, [(2, ((Int.ofNat 1982), (Int.ofNat 1982), 173)), (0, ((Int.ofNat 0), (Int.ofNat 0), 0)), (0, ((Int.ofNat 0), (Int.ofNat 0), 0))], some (0, ((Int.negSucc 0), (Int.negSucc 0), 0)), [], 0, 0)
/-- X12_keeps -/
def cd208 : Ct := (444, [(2, ((Int.ofNat 2449), (Int.ofNat 2449), 197))], some (0, ((Int.ofNat 0), (Int.ofNat 0), 0)), [], 0, 0)
/-- X20_bill -/
def cd14 : Ct := (811, [(2, ((Int.ofNat 2448), (Int.ofNat 2448), 196)), (0, ((Int.negSucc 2147483647), (Int.ofNat 2147483647), 0))], some (0, ((Int.negSucc 0), (Int.negSucc 0), 0)), [(2448, 2448), (2468, 2468)], 0, 0)
/-- X20_readWay -/
def cd40 : Ct := (803, [(2, ((Int.ofNat 2448), (Int.ofNat 2448), 196))], some (0, ((Int.ofNat 0), (Int.ofNat 0), 0)), [(2448, 2448)], 0, 0)
/-- X10_findUnlike -/
def cd65 : Ct := (367, [(2, ((Int.ofNat 5), (Int.ofNat 5), 6)), (0, ((Int.negSucc 2147483647), (Int.ofNat 2147483647), 0)), (0, ((Int.negSucc 2147483647), (Int.ofNat 2147483647), 0))], some (1, ((Int.negSucc 2), (Int.negSucc 2), 0)), [], 0, 0)
/-- X4_closure -/
def cd79 : Ct := (198, [(2, ((Int.ofNat 34), (Int.ofNat 34), 27)), (0, ((Int.negSucc 2147483647), (Int.ofNat 2147483647), 0)), (0, ((Int.negSucc 2147483647), (Int.ofNat 2147483647), 0))], some (1, ((Int.negSucc 0), (Int.negSucc 0), 0)), [], 0, 0)
/-- X9_caseByRank -/
def cd129 : Ct := (340, [(2, ((Int.ofNat 503), (Int.ofNat 503), 80)), (0, ((Int.negSucc 2147483647), (Int.ofNat 2147483647), 0))], some (1, ((Int.negSucc 0), (Int.negSucc 0), 0)), [], 0, 0)
/-- X3_sumOfPay -/
def cd197 : Ct := (141, [(2, ((Int.ofNat 1982), (Int.ofNat 1982), 173)), (0, ((Int.ofNat 0), (Int.ofNat 11), 0)), (0, ((Int.ofNat 0), (Int.ofNat 4), 0))], some (1, ((Int.negSucc 9223372036854775807), (Int.ofNat 9223372036854775807), 0)), [], 0, 0)
/-- X19_corners -/
def cd210 : Ct := (795, [(2, ((Int.ofNat 2514), (Int.ofNat 2514), 262))], some (0, ((Int.ofNat 0), (Int.ofNat 0), 0)), [], 0, 0)
/-- X20_earth -/
def cd9 : Ct := (805, [(2, ((Int.ofNat 2448), (Int.ofNat 2448), 196)), (0, ((Int.negSucc 2147483647), (Int.ofNat 2147483647), 0)), (0, ((Int.negSucc 2147483647), (Int.ofNat 2147483647), 0))], some (0, ((Int.negSucc 0), (Int.negSucc 0), 0)), [(2448, 2448)], 0, 0)
/-- X20_bridge -/
def cd10 : Ct := (807, [(2, ((Int.ofNat 2448), (Int.ofNat 2448), 196)), (0, ((Int.negSucc 2147483647), (Int.ofNat 2147483647), 0)), (0, ((Int.negSucc 2147483647), (Int.ofNat 2147483647), 0))], some (0, ((Int.negSucc 0), (Int.negSucc 0), 0)), [(2448, 2448)], 0, 0)
/-- X20_pass -/
def cd12 : Ct := (809, [(2, ((Int.ofNat 2448), (Int.ofNat 2448), 196)), (0, ((Int.negSucc 2147483647), (Int.ofNat 2147483647), 0))], some (0, ((Int.negSucc 0), (Int.negSucc 0), 0)), [(2448, 2448)], 0, 0)
/-- X20_drive -/
def cd13 : Ct := (810, [(2, ((Int.ofNat 2448), (Int.ofNat 2448), 196)), (0, ((Int.negSucc 2147483647), (Int.ofNat 2147483647), 0))], some (0, ((Int.negSucc 0), (Int.negSucc 0), 0)), [(2448, 2448), (2551, 2551)], 0, 0)
def cdN : Ct := (999999, [], none, [], 0, 0)
set_option maxRecDepth 100000 in
def ctT (n : Nat) : Ct := (bif Nat.blt n 106 then (bif Nat.blt n 53 then (bif Nat.blt n 26 then (bif Nat.blt n 13 then (bif Nat.blt n 6 then (bif Nat.blt n 3 then (bif Nat.blt n 1 then cdN else (bif Nat.blt n 2 then cd1 else cd2)) else cdN) else (bif Nat.blt n 9 then (bif Nat.blt n 7 then cd6 else cdN) else (bif Nat.blt n 11 then (bif Nat.blt n 10 then cd9 else cd10) else (bif Nat.blt n 12 then cdN else cd12)))) else (bif Nat.blt n 19 then (bif Nat.blt n 16 then (bif Nat.blt n 14 then cd13 else (bif Nat.blt n 15 then cd14 else cdN)) else (bif Nat.blt n 17 then cd16 else (bif Nat.blt n 18 then cd17 else cdN))) else (bif Nat.blt n 22 then (bif Nat.blt n 20 then cd19 else (bif Nat.blt n 21 then cd20 else cd21)) else (bif Nat.blt n 24 then (bif Nat.blt n 23 then cd22 else cdN) else (bif Nat.blt n 25 then cdN else cd25))))) else (bif Nat.blt n 39 then (bif Nat.blt n 32 then (bif Nat.blt n 29 then (bif Nat.blt n 27 then cd26 else (bif Nat.blt n 28 then cd27 else cd28)) else (bif Nat.blt n 30 then cdN else (bif Nat.blt n 31 then cdN else cd31))) else (bif Nat.blt n 35 then cdN else (bif Nat.blt n 37 then (bif Nat.blt n 36 then cdN else cd36) else (bif Nat.blt n 38 then cd37 else cd38)))) else (bif Nat.blt n 46 then (bif Nat.blt n 42 then (bif Nat.blt n 40 then cd39 else (bif Nat.blt n 41 then cd40 else cd41)) else (bif Nat.blt n 44 then (bif Nat.blt n 43 then cd42 else cdN) else cdN)) else (bif Nat.blt n 49 then cdN else (bif Nat.blt n 51 then cdN else (bif Nat.blt n 52 then cd51 else cdN)))))) else (bif Nat.blt n 79 then (bif Nat.blt n 66 then (bif Nat.blt n 59 then (bif Nat.blt n 56 then (bif Nat.blt n 54 then cdN else (bif Nat.blt n 55 then cd54 else cdN)) else (bif Nat.blt n 57 then cd56 else (bif Nat.blt n 58 then cdN else cd58))) else (bif Nat.blt n 62 then (bif Nat.blt n 60 then cd59 else (bif Nat.blt n 61 then cd60 else cdN)) else (bif Nat.blt n 64 then (bif Nat.blt n 63 then cdN else cd63) else (bif Nat.blt n 65 then cd64 else cd65)))) else (bif Nat.blt n 72 then (bif Nat.blt n 69 then (bif Nat.blt n 67 then cd66 else (bif Nat.blt n 68 then cd67 else cd68)) else (bif Nat.blt n 70 then cd69 else cdN)) else (bif Nat.blt n 75 then (bif Nat.blt n 73 then cdN else (bif Nat.blt n 74 then cdN else cd74)) else (bif Nat.blt n 77 then (bif Nat.blt n 76 then cdN else cd76) else (bif Nat.blt n 78 then cd77 else cd78))))) else (bif Nat.blt n 92 then (bif Nat.blt n 85 then (bif Nat.blt n 82 then (bif Nat.blt n 80 then cd79 else (bif Nat.blt n 81 then cd80 else cd81)) else (bif Nat.blt n 83 then cd82 else (bif Nat.blt n 84 then cd83 else cd84))) else (bif Nat.blt n 88 then (bif Nat.blt n 86 then cd85 else (bif Nat.blt n 87 then cd86 else cdN)) else cdN)) else (bif Nat.blt n 99 then (bif Nat.blt n 95 then cdN else (bif Nat.blt n 97 then cdN else (bif Nat.blt n 98 then cdN else cd98))) else (bif Nat.blt n 102 then cdN else (bif Nat.blt n 104 then (bif Nat.blt n 103 then cd102 else cdN) else cdN)))))) else (bif Nat.blt n 159 then (bif Nat.blt n 132 then (bif Nat.blt n 119 then (bif Nat.blt n 112 then (bif Nat.blt n 109 then cdN else (bif Nat.blt n 110 then cdN else (bif Nat.blt n 111 then cdN else cd111))) else (bif Nat.blt n 115 then (bif Nat.blt n 113 then cd112 else (bif Nat.blt n 114 then cd113 else cdN)) else (bif Nat.blt n 117 then (bif Nat.blt n 116 then cdN else cd116) else (bif Nat.blt n 118 then cd117 else cdN)))) else (bif Nat.blt n 125 then (bif Nat.blt n 122 then (bif Nat.blt n 120 then cdN else (bif Nat.blt n 121 then cd120 else cdN)) else cdN) else (bif Nat.blt n 128 then cdN else (bif Nat.blt n 130 then (bif Nat.blt n 129 then cd128 else cd129) else cdN)))) else (bif Nat.blt n 145 then (bif Nat.blt n 138 then (bif Nat.blt n 135 then (bif Nat.blt n 133 then cd132 else cdN) else (bif Nat.blt n 136 then cd135 else (bif Nat.blt n 137 then cdN else cd137))) else (bif Nat.blt n 141 then (bif Nat.blt n 139 then cd138 else cdN) else (bif Nat.blt n 143 then cdN else (bif Nat.blt n 144 then cd143 else cd144)))) else (bif Nat.blt n 152 then (bif Nat.blt n 148 then cdN else (bif Nat.blt n 150 then (bif Nat.blt n 149 then cdN else cd149) else (bif Nat.blt n 151 then cdN else cd151))) else (bif Nat.blt n 155 then (bif Nat.blt n 153 then cd152 else (bif Nat.blt n 154 then cdN else cd154)) else (bif Nat.blt n 157 then (bif Nat.blt n 156 then cd155 else cdN) else (bif Nat.blt n 158 then cdN else cd158)))))) else (bif Nat.blt n 186 then (bif Nat.blt n 172 then (bif Nat.blt n 165 then (bif Nat.blt n 162 then (bif Nat.blt n 160 then cd159 else (bif Nat.blt n 161 then cd160 else cd161)) else (bif Nat.blt n 163 then cd162 else (bif Nat.blt n 164 then cd163 else cdN))) else (bif Nat.blt n 168 then (bif Nat.blt n 166 then cd165 else (bif Nat.blt n 167 then cd166 else cd167)) else (bif Nat.blt n 170 then cdN else (bif Nat.blt n 171 then cdN else cd171)))) else (bif Nat.blt n 179 then (bif Nat.blt n 175 then (bif Nat.blt n 173 then cdN else (bif Nat.blt n 174 then cdN else cd174)) else (bif Nat.blt n 177 then (bif Nat.blt n 176 then cd175 else cdN) else (bif Nat.blt n 178 then cdN else cd178))) else (bif Nat.blt n 182 then (bif Nat.blt n 180 then cd179 else (bif Nat.blt n 181 then cd180 else cd181)) else (bif Nat.blt n 184 then (bif Nat.blt n 183 then cd182 else cdN) else cdN)))) else (bif Nat.blt n 199 then (bif Nat.blt n 192 then (bif Nat.blt n 189 then (bif Nat.blt n 187 then cd186 else (bif Nat.blt n 188 then cd187 else cd188)) else (bif Nat.blt n 190 then cd189 else (bif Nat.blt n 191 then cdN else cd191))) else (bif Nat.blt n 195 then (bif Nat.blt n 193 then cd192 else (bif Nat.blt n 194 then cd193 else cd194)) else (bif Nat.blt n 197 then (bif Nat.blt n 196 then cd195 else cd196) else (bif Nat.blt n 198 then cd197 else cdN)))) else (bif Nat.blt n 206 then (bif Nat.blt n 202 then (bif Nat.blt n 200 then cd199 else (bif Nat.blt n 201 then cd200 else cdN)) else (bif Nat.blt n 204 then (bif Nat.blt n 203 then cd202 else cd203) else (bif Nat.blt n 205 then cd204 else cdN))) else (bif Nat.blt n 209 then (bif Nat.blt n 207 then cd206 else (bif Nat.blt n 208 then cd207 else cd208)) else (bif Nat.blt n 211 then (bif Nat.blt n 210 then cdN else cd210) else (bif Nat.blt n 212 then cd211 else cd212))))))))
