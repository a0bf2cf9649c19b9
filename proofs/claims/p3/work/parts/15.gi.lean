/-! what each cell holds: kind, length, and between what its numbers lie -/
abbrev mD : Type := Nat × Nat × (Nat → Int × Int)
def mT0 (a : Nat) : mD := (27, 10, fun j => if j = 0 then (5, 5) else if j = 1 then (34, 34) else if j = 2 then (161, 161) else if j = 3 then (503, 503) else if j = 4 then (618, 618) else if j = 5 then (833, 833) else if j = 6 then (1319, 1319) else if j = 7 then (1982, 1982) else if j = 8 then (2447, 2447) else (-2147483648, 2147483647))
def mT1 (a : Nat) : mD := (26, 19, fun j => if j = 0 then (6, 6) else if j = 1 then (7, 7) else if j = 2 then (8, 8) else if j = 3 then (9, 9) else if j = 4 then (10, 10) else if j = 5 then (11, 11) else if j = 6 then (12, 12) else if j = 7 then (13, 13) else if j = 8 then (18, 18) else if j = 9 then (19, 19) else if j = 10 then (-2147483648, 2147483647) else if j = 11 then (-2147483648, 2147483647) else if j = 12 then (-2147483648, 2147483647) else if j = 13 then (20, 20) else if j = 14 then (-2147483648, 2147483647) else if j = 15 then (-2147483648, 2147483647) else if j = 16 then (0, 1) else if j = 17 then (-9223372036854775808, 9223372036854775807) else (27, 27))
def mT2 (a : Nat) : mD := (0, 144, fun _ => (-2147483648, 2147483647))
def mT3 (a : Nat) : mD := (2, 144, fun _ => (0, 1))
def mT4 (a : Nat) : mD := (0, 144, fun _ => (-2147483648, 2147483647))
def mT5 (a : Nat) : mD := (6, 4, fun j => ((14 : Int) + 1 * j, (14 : Int) + 1 * j))
def mT6 (a : Nat) : mD := (0, 144, fun _ => (-2147483648, 2147483647))
def mT7 (a : Nat) : mD := (0, 4, fun _ => (-2147483648, 2147483647))
def mT8 (a : Nat) : mD := (6, 6, fun _ => (0, 1099511627776))
def mT9 (a : Nat) : mD := (0, 1, fun _ => (-2147483648, 2147483647))
def mT10 (a : Nat) : mD := (22, 11, fun j => if j = 0 then (28, 28) else if j = 1 then (-9223372036854775808, 9223372036854775807) else if j = 2 then (29, 29) else if j = 3 then (-1, 1099511627776) else if j = 4 then (-1, 1099511627776) else if j = 5 then (-1, 1099511627776) else if j = 6 then (-1, 1099511627776) else if j = 7 then (-2147483648, 2147483647) else if j = 8 then (-1, 1099511627776) else if j = 9 then (-2147483648, 2147483647) else (-2147483648, 2147483647))
def mT11 (a : Nat) : mD := (2, 144, fun _ => (0, 1))
def mT12 (a : Nat) : mD := (1, 144, fun _ => (-9223372036854775808, 9223372036854775807))
def mT13 (a : Nat) : mD := (1, 1, fun _ => (-9223372036854775808, 9223372036854775807))
def mT14 (a : Nat) : mD := (0, 1, fun _ => (-2147483648, 2147483647))
def mT15 (a : Nat) : mD := (20, 20, fun j => if j = 0 then (35, 35) else if j = 1 then (36, 36) else if j = 2 then (45, 45) else if j = 3 then (50, 50) else if j = 4 then (59, 59) else if j = 5 then (66, 66) else if j = 6 then (71, 71) else if j = 7 then (72, 72) else if j = 8 then (-2147483648, 2147483647) else if j = 9 then (-2147483648, 2147483647) else if j = 10 then (73, 73) else if j = 11 then (86, 86) else if j = 12 then (99, 99) else if j = 13 then (112, 112) else if j = 14 then (113, 113) else if j = 15 then (114, 114) else if j = 16 then (115, 115) else if j = 17 then (116, 116) else if j = 18 then (159, 159) else (160, 160))
def mT16 (a : Nat) : mD := (0, 4, fun _ => (-2147483648, 2147483647))
def mT17 (a : Nat) : mD := (6, 8, fun j => ((37 : Int) + 1 * j, (37 : Int) + 1 * j))
def mT18 (a : Nat) : mD := (0, 4, fun _ => (-2147483648, 2147483647))
def mT19 (a : Nat) : mD := (6, 4, fun j => ((46 : Int) + 1 * j, (46 : Int) + 1 * j))
def mT20 (a : Nat) : mD := (0, 2, fun _ => (-2147483648, 2147483647))
def mT21 (a : Nat) : mD := (6, 8, fun j => ((51 : Int) + 1 * j, (51 : Int) + 1 * j))
def mT22 (a : Nat) : mD := (0, 3, fun _ => (-2147483648, 2147483647))
def mT23 (a : Nat) : mD := (6, 6, fun j => ((60 : Int) + 1 * j, (60 : Int) + 1 * j))
def mT24 (a : Nat) : mD := (0, 4, fun _ => (-2147483648, 2147483647))
def mT25 (a : Nat) : mD := (9, 4, fun j => ((67 : Int) + 1 * j, (67 : Int) + 1 * j))
def mT26 (a : Nat) : mD := (0, 2, fun _ => (-2147483648, 2147483647))
def mT27 (a : Nat) : mD := (0, 4, fun _ => (-2147483648, 2147483647))
def mT28 (a : Nat) : mD := (0, 12, fun _ => (-2147483648, 2147483647))
def mT29 (a : Nat) : mD := (7, 12, fun j => ((74 : Int) + 1 * j, (74 : Int) + 1 * j))
def mT30 (a : Nat) : mD := (1, 8, fun _ => (-9223372036854775808, 9223372036854775807))
def mT31 (a : Nat) : mD := (7, 12, fun j => ((87 : Int) + 1 * j, (87 : Int) + 1 * j))
def mT32 (a : Nat) : mD := (1, 8, fun _ => (-9223372036854775808, 9223372036854775807))
def mT33 (a : Nat) : mD := (7, 12, fun j => ((100 : Int) + 1 * j, (100 : Int) + 1 * j))
def mT34 (a : Nat) : mD := (1, 8, fun _ => (-9223372036854775808, 9223372036854775807))
def mT35 (a : Nat) : mD := (1, 12, fun _ => (-9223372036854775808, 9223372036854775807))
def mT36 (a : Nat) : mD := (0, 12, fun _ => (-2147483648, 2147483647))
def mT37 (a : Nat) : mD := (1, 21, fun _ => (-9223372036854775808, 9223372036854775807))
def mT38 (a : Nat) : mD := (0, 21, fun _ => (-2147483648, 2147483647))
def mT39 (a : Nat) : mD := (7, 42, fun j => ((117 : Int) + 1 * j, (117 : Int) + 1 * j))
def mT40 (a : Nat) : mD := (1, 42, fun _ => (-9223372036854775808, 9223372036854775807))
def mT41 (a : Nat) : mD := (0, 42, fun _ => (-2147483648, 2147483647))
def mT42 (a : Nat) : mD := (16, 22, fun j => if j = 0 then (-2147483648, 2147483647) else if j = 1 then (162, 162) else if j = 2 then (166, 166) else if j = 3 then (167, 167) else if j = 4 then (168, 168) else if j = 5 then (169, 169) else if j = 6 then (-2147483648, 2147483647) else if j = 7 then (179, 179) else if j = 8 then (-2147483648, 2147483647) else if j = 9 then (0, 1) else if j = 10 then (0, 1) else if j = 11 then (180, 180) else if j = 12 then (-2147483648, 2147483647) else if j = 13 then (181, 181) else if j = 14 then (-9223372036854775808, 9223372036854775807) else if j = 15 then (182, 182) else if j = 16 then (191, 191) else if j = 17 then (192, 192) else if j = 18 then (193, 193) else if j = 19 then (194, 194) else if j = 20 then (195, 195) else (196, 196))
def mT43 (a : Nat) : mD := (9, 3, fun j => ((163 : Int) + 1 * j, (163 : Int) + 1 * j))
def mT44 (a : Nat) : mD := (0, 2, fun _ => (-2147483648, 2147483647))
def mT45 (a : Nat) : mD := (2, 6, fun _ => (0, 1))
def mT46 (a : Nat) : mD := (2, 8, fun _ => (0, 1))
def mT47 (a : Nat) : mD := (0, 4, fun _ => (-2147483648, 2147483647))
def mT48 (a : Nat) : mD := (6, 9, fun j => ((170 : Int) + 1 * j, (170 : Int) + 1 * j))
def mT49 (a : Nat) : mD := (0, 3, fun _ => (-2147483648, 2147483647))
def mT50 (a : Nat) : mD := (4, 50, fun _ => (0, 65535))
def mT51 (a : Nat) : mD := (2, 8, fun _ => (0, 1))
def mT52 (a : Nat) : mD := (0, 8, fun _ => (-2147483648, 2147483647))
def mT53 (a : Nat) : mD := (7, 8, fun j => ((183 : Int) + 1 * j, (183 : Int) + 1 * j))
def mT54 (a : Nat) : mD := (1, 8, fun _ => (-9223372036854775808, 9223372036854775807))
def mT55 (a : Nat) : mD := (8, 128, fun j => ((209 : Int) + 2 * j, (209 : Int) + 2 * j))
def mT56 (a : Nat) : mD := (8, 13, fun j => ((465 : Int) + 2 * j, (465 : Int) + 2 * j))
def mT57 (a : Nat) : mD := (8, 6, fun j => ((491 : Int) + 2 * j, (491 : Int) + 2 * j))
def mT58 (a : Nat) : mD := (1, 8, fun _ => (-9223372036854775808, 9223372036854775807))
def mT59 (a : Nat) : mD := (1, 10, fun _ => (-9223372036854775808, 9223372036854775807))
def mT60 (a : Nat) : mD := (21, 6, fun j => if j = 0 then (197, 197) else if j = 1 then (199, 199) else if j = 2 then (201, 201) else if j = 3 then (203, 203) else if j = 4 then (205, 205) else (207, 207))
def mT61 (a : Nat) : mD := if (a - 197) % 2 = 0 then (17, 3, fun j => if j = 0 then ((a : Int) + 1, (a : Int) + 1) else if j = 1 then (-2147483648, 2147483647) else (-2147483648, 2147483647)) else (0, 160, fun _ => (-2147483648, 2147483647))
def mT62 (a : Nat) : mD := if (a - 209) % 2 = 0 then (17, 3, fun j => if j = 0 then ((a : Int) + 1, (a : Int) + 1) else if j = 1 then (-2147483648, 2147483647) else (-2147483648, 2147483647)) else (0, 12, fun _ => (-2147483648, 2147483647))
def mT63 (a : Nat) : mD := if (a - 465) % 2 = 0 then (17, 3, fun j => if j = 0 then ((a : Int) + 1, (a : Int) + 1) else if j = 1 then (-2147483648, 2147483647) else (-2147483648, 2147483647)) else (0, 24, fun _ => (-2147483648, 2147483647))
def mT64 (a : Nat) : mD := if (a - 491) % 2 = 0 then (17, 3, fun j => if j = 0 then ((a : Int) + 1, (a : Int) + 1) else if j = 1 then (-2147483648, 2147483647) else (-2147483648, 2147483647)) else (0, 160, fun _ => (-2147483648, 2147483647))
def mT65 (a : Nat) : mD := (25, 22, fun j => if j = 0 then (-2147483648, 2147483647) else if j = 1 then (504, 504) else if j = 2 then (-2147483648, 2147483647) else if j = 3 then (-2147483648, 2147483647) else if j = 4 then (-2147483648, 2147483647) else if j = 5 then (-2147483648, 2147483647) else if j = 6 then (-2147483648, 2147483647) else if j = 7 then (519, 519) else if j = 8 then (520, 520) else if j = 9 then (527, 527) else if j = 10 then (534, 534) else if j = 11 then (541, 541) else if j = 12 then (546, 546) else if j = 13 then (547, 547) else if j = 14 then (0, 1) else if j = 15 then (556, 556) else if j = 16 then (557, 557) else if j = 17 then (558, 558) else if j = 18 then (0, 1) else if j = 19 then (559, 559) else if j = 20 then (560, 560) else (561, 561))
def mT66 (a : Nat) : mD := (6, 14, fun j => ((505 : Int) + 1 * j, (505 : Int) + 1 * j))
def mT67 (a : Nat) : mD := (0, 3, fun _ => (-2147483648, 2147483647))
def mT68 (a : Nat) : mD := (0, 6, fun _ => (-2147483648, 2147483647))
def mT69 (a : Nat) : mD := (6, 6, fun j => ((521 : Int) + 1 * j, (521 : Int) + 1 * j))
def mT70 (a : Nat) : mD := (0, 5, fun _ => (-2147483648, 2147483647))
def mT71 (a : Nat) : mD := (6, 6, fun j => ((528 : Int) + 1 * j, (528 : Int) + 1 * j))
def mT72 (a : Nat) : mD := (0, 5, fun _ => (-2147483648, 2147483647))
def mT73 (a : Nat) : mD := (6, 6, fun j => ((535 : Int) + 1 * j, (535 : Int) + 1 * j))
def mT74 (a : Nat) : mD := (0, 2, fun _ => (-2147483648, 2147483647))
def mT75 (a : Nat) : mD := (6, 4, fun j => ((542 : Int) + 1 * j, (542 : Int) + 1 * j))
def mT76 (a : Nat) : mD := (0, 2, fun _ => (-2147483648, 2147483647))
def mT77 (a : Nat) : mD := (4, 100, fun _ => (0, 65535))
def mT78 (a : Nat) : mD := (6, 8, fun j => ((548 : Int) + 1 * j, (548 : Int) + 1 * j))
def mT79 (a : Nat) : mD := (0, 3, fun _ => (-2147483648, 2147483647))
def mT80 (a : Nat) : mD := (0, 7, fun _ => (-2147483648, 2147483647))
def mT81 (a : Nat) : mD := (0, 72, fun _ => (-2147483648, 2147483647))
def mT82 (a : Nat) : mD := (0, 70, fun _ => (-2147483648, 2147483647))
def mT83 (a : Nat) : mD := (8, 8, fun j => ((574 : Int) + 2 * j, (574 : Int) + 2 * j))
def mT84 (a : Nat) : mD := (8, 14, fun j => ((590 : Int) + 2 * j, (590 : Int) + 2 * j))
def mT85 (a : Nat) : mD := (21, 6, fun j => if j = 0 then (562, 562) else if j = 1 then (564, 564) else if j = 2 then (566, 566) else if j = 3 then (568, 568) else if j = 4 then (570, 570) else (572, 572))
def mT86 (a : Nat) : mD := if (a - 562) % 2 = 0 then (17, 3, fun j => if j = 0 then ((a : Int) + 1, (a : Int) + 1) else if j = 1 then (-2147483648, 2147483647) else (-2147483648, 2147483647)) else (0, 64, fun _ => (-2147483648, 2147483647))
def mT87 (a : Nat) : mD := if (a - 590) % 2 = 0 then (17, 3, fun j => if j = 0 then ((a : Int) + 1, (a : Int) + 1) else if j = 1 then (-2147483648, 2147483647) else (-2147483648, 2147483647)) else (0, 16, fun _ => (-2147483648, 2147483647))
def mT88 (a : Nat) : mD := (24, 22, fun j => if j = 0 then (619, 619) else if j = 1 then (-2147483648, 2147483647) else if j = 2 then (620, 620) else if j = 3 then (-2147483648, 2147483647) else if j = 4 then (621, 621) else if j = 5 then (-2147483648, 2147483647) else if j = 6 then (772, 772) else if j = 7 then (773, 773) else if j = 8 then (782, 782) else if j = 9 then (791, 791) else if j = 10 then (792, 792) else if j = 11 then (793, 793) else if j = 12 then (794, 794) else if j = 13 then (-2147483648, 2147483647) else if j = 14 then (795, 795) else if j = 15 then (-2147483648, 2147483647) else if j = 16 then (0, 18446744073709551615) else if j = 17 then (-2147483648, 2147483647) else if j = 18 then (816, 816) else if j = 19 then (817, 817) else if j = 20 then (818, 818) else (831, 831))
def mT89 (a : Nat) : mD := (0, 300, fun _ => (-2147483648, 2147483647))
def mT90 (a : Nat) : mD := (6, 150, fun j => ((622 : Int) + 1 * j, (622 : Int) + 1 * j))
def mT91 (a : Nat) : mD := (0, 3, fun _ => (-2147483648, 2147483647))
def mT92 (a : Nat) : mD := (0, 300, fun _ => (-2147483648, 2147483647))
def mT93 (a : Nat) : mD := (6, 8, fun j => ((774 : Int) + 1 * j, (774 : Int) + 1 * j))
def mT94 (a : Nat) : mD := (0, 4, fun _ => (-2147483648, 2147483647))
def mT95 (a : Nat) : mD := (6, 8, fun j => ((783 : Int) + 1 * j, (783 : Int) + 1 * j))
def mT96 (a : Nat) : mD := (0, 4, fun _ => (-2147483648, 2147483647))
def mT97 (a : Nat) : mD := (0, 8, fun _ => (-2147483648, 2147483647))
def mT98 (a : Nat) : mD := (0, 2, fun _ => (-2147483648, 2147483647))
def mT99 (a : Nat) : mD := (6, 20, fun j => ((796 : Int) + 1 * j, (796 : Int) + 1 * j))
def mT100 (a : Nat) : mD := (0, 4, fun _ => (-2147483648, 2147483647))
def mT101 (a : Nat) : mD := (1, 31, fun _ => (-9223372036854775808, 9223372036854775807))
def mT102 (a : Nat) : mD := (0, 31, fun _ => (-2147483648, 2147483647))
def mT103 (a : Nat) : mD := (21, 6, fun j => if j = 0 then (819, 819) else if j = 1 then (821, 821) else if j = 2 then (823, 823) else if j = 3 then (825, 825) else if j = 4 then (827, 827) else (829, 829))
def mT104 (a : Nat) : mD := if (a - 819) % 2 = 0 then (17, 3, fun j => if j = 0 then ((a : Int) + 1, (a : Int) + 1) else if j = 1 then (-2147483648, 2147483647) else (-2147483648, 2147483647)) else (0, 32, fun _ => (-2147483648, 2147483647))
def mT105 (a : Nat) : mD := (23, 22, fun j => if j = 0 then (-2147483648, 2147483647) else if j = 1 then (834, 834) else if j = 2 then (835, 835) else if j = 3 then (842, 842) else if j = 4 then (843, 843) else if j = 5 then (-2147483648, 2147483647) else if j = 6 then (844, 844) else if j = 7 then (845, 845) else if j = 8 then (850, 850) else if j = 9 then (-2147483648, 2147483647) else if j = 10 then (851, 851) else if j = 11 then (-2147483648, 2147483647) else if j = 12 then (912, 912) else if j = 13 then (913, 913) else if j = 14 then (-2147483648, 2147483647) else if j = 15 then (-2147483648, 2147483647) else if j = 16 then (-2147483648, 2147483647) else if j = 17 then (914, 914) else if j = 18 then (915, 915) else if j = 19 then (1316, 1316) else if j = 20 then (1317, 1317) else (1318, 1318))
def mT106 (a : Nat) : mD := (0, 6, fun _ => (-2147483648, 2147483647))
def mT107 (a : Nat) : mD := (6, 6, fun j => ((836 : Int) + 1 * j, (836 : Int) + 1 * j))
def mT108 (a : Nat) : mD := (0, 6, fun _ => (-2147483648, 2147483647))
def mT109 (a : Nat) : mD := (0, 3, fun _ => (-2147483648, 2147483647))
def mT110 (a : Nat) : mD := (6, 4, fun j => ((846 : Int) + 1 * j, (846 : Int) + 1 * j))
def mT111 (a : Nat) : mD := (0, 15, fun _ => (-2147483648, 2147483647))
def mT112 (a : Nat) : mD := (4, 60, fun _ => (0, 65535))
def mT113 (a : Nat) : mD := (6, 60, fun j => ((852 : Int) + 1 * j, (852 : Int) + 1 * j))
def mT114 (a : Nat) : mD := (0, 2, fun _ => (-2147483648, 2147483647))
def mT115 (a : Nat) : mD := (0, 14, fun _ => (-2147483648, 2147483647))
def mT116 (a : Nat) : mD := (1, 401, fun _ => (-9223372036854775808, 9223372036854775807))
def mT117 (a : Nat) : mD := (6, 400, fun j => ((916 : Int) + 1 * j, (916 : Int) + 1 * j))
def mT118 (a : Nat) : mD := (0, 12, fun _ => (-2147483648, 2147483647))
def mT119 (a : Nat) : mD := (0, 1024, fun _ => (-2147483648, 2147483647))
def mT120 (a : Nat) : mD := (0, 400, fun _ => (-2147483648, 2147483647))
def mT121 (a : Nat) : mD := (0, 3, fun _ => (-2147483648, 2147483647))
def mT122 (a : Nat) : mD := (18, 22, fun j => if j = 0 then (1320, 1320) else if j = 1 then (1345, 1345) else if j = 2 then (-2147483648, 2147483647) else if j = 3 then (1442, 1442) else if j = 4 then (1467, 1467) else if j = 5 then (1492, 1492) else if j = 6 then (-2147483648, 2147483647) else if j = 7 then (1693, 1693) else if j = 8 then (-2147483648, 2147483647) else if j = 9 then (1894, 1894) else if j = 10 then (-2147483648, 2147483647) else if j = 11 then (1955, 1955) else if j = 12 then (-2147483648, 2147483647) else if j = 13 then (1968, 1968) else if j = 14 then (1969, 1969) else if j = 15 then (-2147483648, 2147483647) else if j = 16 then (1974, 1974) else if j = 17 then (1975, 1975) else if j = 18 then (1976, 1976) else if j = 19 then (1977, 1977) else if j = 20 then (1978, 1978) else (1981, 1981))
def mT123 (a : Nat) : mD := (6, 24, fun j => ((1321 : Int) + 1 * j, (1321 : Int) + 1 * j))
def mT124 (a : Nat) : mD := (0, 7, fun _ => (-2147483648, 2147483647))
def mT125 (a : Nat) : mD := (6, 96, fun j => ((1346 : Int) + 1 * j, (1346 : Int) + 1 * j))
def mT126 (a : Nat) : mD := (0, 5, fun _ => (-2147483648, 2147483647))
def mT127 (a : Nat) : mD := (6, 24, fun j => ((1443 : Int) + 1 * j, (1443 : Int) + 1 * j))
def mT128 (a : Nat) : mD := (0, 4, fun _ => (-2147483648, 2147483647))
def mT129 (a : Nat) : mD := (6, 24, fun j => ((1468 : Int) + 1 * j, (1468 : Int) + 1 * j))
def mT130 (a : Nat) : mD := (0, 4, fun _ => (-2147483648, 2147483647))
def mT131 (a : Nat) : mD := (6, 200, fun j => ((1493 : Int) + 1 * j, (1493 : Int) + 1 * j))
def mT132 (a : Nat) : mD := (0, 5, fun _ => (-2147483648, 2147483647))
def mT133 (a : Nat) : mD := (6, 200, fun j => ((1694 : Int) + 1 * j, (1694 : Int) + 1 * j))
def mT134 (a : Nat) : mD := (0, 3, fun _ => (-2147483648, 2147483647))
def mT135 (a : Nat) : mD := (6, 60, fun j => ((1895 : Int) + 1 * j, (1895 : Int) + 1 * j))
def mT136 (a : Nat) : mD := (0, 3, fun _ => (-2147483648, 2147483647))
def mT137 (a : Nat) : mD := (6, 12, fun j => ((1956 : Int) + 1 * j, (1956 : Int) + 1 * j))
def mT138 (a : Nat) : mD := (0, 3, fun _ => (-2147483648, 2147483647))
def mT139 (a : Nat) : mD := (1, 10216, fun _ => (-9223372036854775808, 9223372036854775807))
def mT140 (a : Nat) : mD := (7, 4, fun _ => (0, 1099511627776))
def mT141 (a : Nat) : mD := (1, 1, fun _ => (-9223372036854775808, 9223372036854775807))
def mT142 (a : Nat) : mD := (1, 24, fun _ => (-9223372036854775808, 9223372036854775807))
def mT143 (a : Nat) : mD := (6, 2, fun j => ((1979 : Int) + 1 * j, (1979 : Int) + 1 * j))
def mT144 (a : Nat) : mD := (0, 24, fun _ => (-2147483648, 2147483647))
def mT145 (a : Nat) : mD := (1, 96, fun _ => (-9223372036854775808, 9223372036854775807))
def mT146 (a : Nat) : mD := (19, 23, fun j => if j = 0 then (1983, 1983) else if j = 1 then (-2147483648, 2147483647) else if j = 2 then (1984, 1984) else if j = 3 then (-2147483648, 2147483647) else if j = 4 then (2185, 2185) else if j = 5 then (-2147483648, 2147483647) else if j = 6 then (2194, 2194) else if j = 7 then (-2147483648, 2147483647) else if j = 8 then (2235, 2235) else if j = 9 then (2296, 2296) else if j = 10 then (-2147483648, 2147483647) else if j = 11 then (2297, 2297) else if j = 12 then (-2147483648, 2147483647) else if j = 13 then (2318, 2318) else if j = 14 then (-2147483648, 2147483647) else if j = 15 then (2332, 2332) else if j = 16 then (-2147483648, 2147483647) else if j = 17 then (2343, 2343) else if j = 18 then (2344, 2344) else if j = 19 then (-2147483648, 2147483647) else if j = 20 then (0, 1) else if j = 21 then (2445, 2445) else (2446, 2446))
def mT147 (a : Nat) : mD := (4, 200, fun _ => (0, 65535))
def mT148 (a : Nat) : mD := (6, 200, fun j => ((1985 : Int) + 1 * j, (1985 : Int) + 1 * j))
def mT149 (a : Nat) : mD := (0, 3, fun _ => (-2147483648, 2147483647))
def mT150 (a : Nat) : mD := (6, 8, fun j => ((2186 : Int) + 1 * j, (2186 : Int) + 1 * j))
def mT151 (a : Nat) : mD := (0, 42, fun _ => (-2147483648, 2147483647))
def mT152 (a : Nat) : mD := (6, 40, fun j => ((2195 : Int) + 1 * j, (2195 : Int) + 1 * j))
def mT153 (a : Nat) : mD := (0, 4, fun _ => (-2147483648, 2147483647))
def mT154 (a : Nat) : mD := (6, 60, fun j => ((2236 : Int) + 1 * j, (2236 : Int) + 1 * j))
def mT155 (a : Nat) : mD := (0, 6, fun _ => (-2147483648, 2147483647))
def mT156 (a : Nat) : mD := (1, 60, fun _ => (-9223372036854775808, 9223372036854775807))
def mT157 (a : Nat) : mD := (6, 20, fun j => ((2298 : Int) + 1 * j, (2298 : Int) + 1 * j))
def mT158 (a : Nat) : mD := (0, 4, fun _ => (-2147483648, 2147483647))
def mT159 (a : Nat) : mD := (6, 13, fun j => ((2319 : Int) + 1 * j, (2319 : Int) + 1 * j))
def mT160 (a : Nat) : mD := (0, 2, fun _ => (-2147483648, 2147483647))
def mT161 (a : Nat) : mD := (6, 10, fun j => ((2333 : Int) + 1 * j, (2333 : Int) + 1 * j))
def mT162 (a : Nat) : mD := (0, 3, fun _ => (-2147483648, 2147483647))
def mT163 (a : Nat) : mD := (0, 4, fun _ => (-2147483648, 2147483647))
def mT164 (a : Nat) : mD := (6, 100, fun j => ((2345 : Int) + 1 * j, (2345 : Int) + 1 * j))
def mT165 (a : Nat) : mD := (0, 3, fun _ => (-2147483648, 2147483647))
def mT166 (a : Nat) : mD := (1, 41, fun _ => (-9223372036854775808, 9223372036854775807))
def mT167 (a : Nat) : mD := (4, 408, fun _ => (0, 65535))
def mT168 (a : Nat) : mD := (2, 6, fun _ => (0, 1))
def mT169 (a : Nat) : mD := (36, 19, fun j => if j = 0 then (-2147483648, 2147483647) else if j = 1 then (2449, 2449) else if j = 2 then (2468, 2468) else if j = 3 then (2495, 2495) else if j = 4 then (2514, 2514) else if j = 5 then (2534, 2534) else if j = 6 then (2551, 2551) else if j = 7 then (2570, 2570) else if j = 8 then (2595, 2595) else if j = 9 then (2619, 2619) else if j = 10 then (2620, 2620) else if j = 11 then (2621, 2621) else if j = 12 then (2622, 2622) else if j = 13 then (-2147483648, 2147483647) else if j = 14 then (2623, 2623) else if j = 15 then (2624, 2624) else if j = 16 then (2625, 2625) else if j = 17 then (2626, 2626) else (-2147483648, 2147483647))
def mT170 (a : Nat) : mD := (28, 32, fun j => if j = 0 then (-2147483648, 2147483647) else if j = 1 then (-2147483648, 2147483647) else if j = 2 then (2450, 2450) else if j = 3 then (2451, 2451) else if j = 4 then (2452, 2452) else if j = 5 then (2453, 2453) else if j = 6 then (2454, 2454) else if j = 7 then (2455, 2455) else if j = 8 then (2456, 2456) else if j = 9 then (2457, 2457) else if j = 10 then (2458, 2458) else if j = 11 then (2459, 2459) else if j = 12 then (-2147483648, 2147483647) else if j = 13 then (-2147483648, 2147483647) else if j = 14 then (-2147483648, 2147483647) else if j = 15 then (2460, 2460) else if j = 16 then (2461, 2461) else if j = 17 then (2462, 2462) else if j = 18 then (2463, 2463) else if j = 19 then (2464, 2464) else if j = 20 then (-2147483648, 2147483647) else if j = 21 then (-2147483648, 2147483647) else if j = 22 then (-2147483648, 2147483647) else if j = 23 then (-2147483648, 2147483647) else if j = 24 then (2465, 2465) else if j = 25 then (2466, 2466) else if j = 26 then (2467, 2467) else if j = 27 then (0, 1) else if j = 28 then (0, 1) else if j = 29 then (-9223372036854775808, 9223372036854775807) else if j = 30 then (-9223372036854775808, 9223372036854775807) else (-2147483648, 2147483647))
def mT171 (a : Nat) : mD := (0, 144, fun _ => (-2147483648, 2147483647))
def mT172 (a : Nat) : mD := (2, 144, fun _ => (0, 1))
def mT173 (a : Nat) : mD := (0, 576, fun _ => (-2147483648, 2147483647))
def mT174 (a : Nat) : mD := (0, 1152, fun _ => (-2147483648, 2147483647))
def mT175 (a : Nat) : mD := (0, 4, fun _ => (-2147483648, 2147483647))
def mT176 (a : Nat) : mD := (1, 88128, fun _ => (-9223372036854775808, 9223372036854775807))
def mT177 (a : Nat) : mD := (0, 88128, fun _ => (-2147483648, 2147483647))
def mT178 (a : Nat) : mD := (2, 88128, fun _ => (0, 1))
def mT179 (a : Nat) : mD := (2, 144, fun _ => (0, 1))
def mT180 (a : Nat) : mD := (0, 6, fun _ => (-2147483648, 2147483647))
def mT181 (a : Nat) : mD := (3, 30000, fun _ => (-128, 127))
def mT182 (a : Nat) : mD := (29, 38, fun j => if j = 0 then (0, 1) else if j = 1 then (0, 8) else if j = 2 then (2469, 2469) else if j = 3 then (2470, 2470) else if j = 4 then (2471, 2471) else if j = 5 then (2472, 2472) else if j = 6 then (0, 4) else if j = 7 then (2473, 2473) else if j = 8 then (2474, 2474) else if j = 9 then (0, 8) else if j = 10 then (2475, 2475) else if j = 11 then (2476, 2476) else if j = 12 then (2477, 2477) else if j = 13 then (0, 6) else if j = 14 then (2478, 2478) else if j = 15 then (2479, 2479) else if j = 16 then (2480, 2480) else if j = 17 then (2481, 2481) else if j = 18 then (2482, 2482) else if j = 19 then (2483, 2483) else if j = 20 then (2484, 2484) else if j = 21 then (2485, 2485) else if j = 22 then (0, 140) else if j = 23 then (2486, 2486) else if j = 24 then (2487, 2487) else if j = 25 then (2488, 2488) else if j = 26 then (2489, 2489) else if j = 27 then (2490, 2490) else if j = 28 then (2491, 2491) else if j = 29 then (2492, 2492) else if j = 30 then (2493, 2493) else if j = 31 then (-9223372036854775808, 9223372036854775807) else if j = 32 then (-9223372036854775808, 9223372036854775807) else if j = 33 then (0, 1) else if j = 34 then (0, 1) else if j = 35 then (-9223372036854775808, 9223372036854775807) else if j = 36 then (-9223372036854775808, 9223372036854775807) else (2494, 2494))
def mT183 (a : Nat) : mD := (0, 8, fun _ => (0, 1000000))
def mT184 (a : Nat) : mD := (0, 8, fun _ => (0, 3))
def mT185 (a : Nat) : mD := (0, 8, fun _ => (0, 11))
def mT186 (a : Nat) : mD := (0, 8, fun _ => (0, 100000))
def mT187 (a : Nat) : mD := (0, 4, fun _ => (0, 100000))
def mT188 (a : Nat) : mD := (0, 8, fun _ => (0, 1000000))
def mT189 (a : Nat) : mD := (0, 8, fun _ => (0, 11))
def mT190 (a : Nat) : mD := (0, 8, fun _ => (0, 100000))
def mT191 (a : Nat) : mD := (0, 6, fun _ => (0, 100000))
def mT192 (a : Nat) : mD := (2, 72, fun _ => (0, 1))
def mT193 (a : Nat) : mD := (1, 4, fun _ => (1, 1000))
def mT194 (a : Nat) : mD := (2, 32, fun _ => (0, 1))
def mT195 (a : Nat) : mD := (1, 12, fun _ => (0, 1125899906842624))
def mT196 (a : Nat) : mD := (0, 140, fun _ => (0, 33))
def mT197 (a : Nat) : mD := (1, 140, fun _ => (-1, 1125899906842624))
def mT198 (a : Nat) : mD := (1, 140, fun _ => (0, 1000000000))
def mT199 (a : Nat) : mD := (1, 140, fun _ => (-9223372036854775808, 9223372036854775807))
def mT200 (a : Nat) : mD := (2, 140, fun _ => (0, 1))
def mT201 (a : Nat) : mD := (1, 34, fun _ => (-9223372036854775808, 9223372036854775807))
def mT202 (a : Nat) : mD := (0, 34, fun _ => (-2147483648, 2147483647))
def mT203 (a : Nat) : mD := (1, 96, fun _ => (-9223372036854775808, 9223372036854775807))
def mT204 (a : Nat) : mD := (30, 26, fun j => if j = 0 then (-2147483648, 2147483647) else if j = 1 then (2496, 2496) else if j = 2 then (2497, 2497) else if j = 3 then (-2147483648, 2147483647) else if j = 4 then (2498, 2498) else if j = 5 then (2499, 2499) else if j = 6 then (2500, 2500) else if j = 7 then (2501, 2501) else if j = 8 then (2502, 2502) else if j = 9 then (2503, 2503) else if j = 10 then (-2147483648, 2147483647) else if j = 11 then (2504, 2504) else if j = 12 then (-2147483648, 2147483647) else if j = 13 then (2505, 2505) else if j = 14 then (2506, 2506) else if j = 15 then (2507, 2507) else if j = 16 then (0, 1) else if j = 17 then (-2147483648, 2147483647) else if j = 18 then (-2147483648, 2147483647) else if j = 19 then (2508, 2508) else if j = 20 then (-2147483648, 2147483647) else if j = 21 then (2509, 2509) else if j = 22 then (2510, 2510) else if j = 23 then (2511, 2511) else if j = 24 then (2512, 2512) else (2513, 2513))
def mT205 (a : Nat) : mD := (0, 48300, fun _ => (-2147483648, 2147483647))
def mT206 (a : Nat) : mD := (0, 690, fun _ => (-2147483648, 2147483647))
def mT207 (a : Nat) : mD := (0, 3, fun _ => (-2147483648, 2147483647))
def mT208 (a : Nat) : mD := (2, 4, fun _ => (0, 1))
def mT209 (a : Nat) : mD := (2, 6, fun _ => (0, 1))
def mT210 (a : Nat) : mD := (0, 4, fun _ => (-2147483648, 2147483647))
def mT211 (a : Nat) : mD := (0, 50, fun _ => (-2147483648, 2147483647))
def mT212 (a : Nat) : mD := (0, 8, fun _ => (-2147483648, 2147483647))
def mT213 (a : Nat) : mD := (0, 12, fun _ => (-2147483648, 2147483647))
def mT214 (a : Nat) : mD := (0, 3, fun _ => (-2147483648, 2147483647))
def mT215 (a : Nat) : mD := (2, 4, fun _ => (0, 1))
def mT216 (a : Nat) : mD := (2, 6, fun _ => (0, 1))
def mT217 (a : Nat) : mD := (35, 35, fun j => if j = 0 then (2515, 2515) else if j = 1 then (2516, 2516) else if j = 2 then (-2147483648, 2147483647) else if j = 3 then (2517, 2517) else if j = 4 then (2518, 2518) else if j = 5 then (2519, 2519) else if j = 6 then (0, 1) else if j = 7 then (-2147483648, 2147483647) else if j = 8 then (2520, 2520) else if j = 9 then (2521, 2521) else if j = 10 then (2522, 2522) else if j = 11 then (2523, 2523) else if j = 12 then (2524, 2524) else if j = 13 then (0, 1) else if j = 14 then (-2147483648, 2147483647) else if j = 15 then (-2147483648, 2147483647) else if j = 16 then (0, 1) else if j = 17 then (-2147483648, 2147483647) else if j = 18 then (-2147483648, 2147483647) else if j = 19 then (0, 1) else if j = 20 then (-9223372036854775808, 9223372036854775807) else if j = 21 then (-2147483648, 2147483647) else if j = 22 then (2525, 2525) else if j = 23 then (2526, 2526) else if j = 24 then (-2147483648, 2147483647) else if j = 25 then (2527, 2527) else if j = 26 then (-2147483648, 2147483647) else if j = 27 then (2528, 2528) else if j = 28 then (2529, 2529) else if j = 29 then (2530, 2530) else if j = 30 then (2531, 2531) else if j = 31 then (-2147483648, 2147483647) else if j = 32 then (2532, 2532) else if j = 33 then (-2147483648, 2147483647) else (2533, 2533))
def mT218 (a : Nat) : mD := (0, 4200, fun _ => (-2147483648, 2147483647))
def mT219 (a : Nat) : mD := (0, 30, fun _ => (-2147483648, 2147483647))
def mT220 (a : Nat) : mD := (0, 14, fun _ => (-2147483648, 2147483647))
def mT221 (a : Nat) : mD := (1, 14, fun _ => (-9223372036854775808, 9223372036854775807))
def mT222 (a : Nat) : mD := (0, 6, fun _ => (-2147483648, 2147483647))
def mT223 (a : Nat) : mD := (0, 30, fun _ => (-2147483648, 2147483647))
def mT224 (a : Nat) : mD := (0, 6, fun _ => (-2147483648, 2147483647))
def mT225 (a : Nat) : mD := (1, 4, fun _ => (-9223372036854775808, 9223372036854775807))
def mT226 (a : Nat) : mD := (0, 100, fun _ => (-2147483648, 2147483647))
def mT227 (a : Nat) : mD := (0, 8, fun _ => (-2147483648, 2147483647))
def mT228 (a : Nat) : mD := (0, 144, fun _ => (-2147483648, 2147483647))
def mT229 (a : Nat) : mD := (0, 8, fun _ => (-2147483648, 2147483647))
def mT230 (a : Nat) : mD := (0, 144, fun _ => (-2147483648, 2147483647))
def mT231 (a : Nat) : mD := (0, 80, fun _ => (-2147483648, 2147483647))
def mT232 (a : Nat) : mD := (34, 25, fun j => if j = 0 then (-2147483648, 2147483647) else if j = 1 then (2535, 2535) else if j = 2 then (-2147483648, 2147483647) else if j = 3 then (2536, 2536) else if j = 4 then (-2147483648, 2147483647) else if j = 5 then (2537, 2537) else if j = 6 then (2538, 2538) else if j = 7 then (2539, 2539) else if j = 8 then (2540, 2540) else if j = 9 then (2541, 2541) else if j = 10 then (2542, 2542) else if j = 11 then (2543, 2543) else if j = 12 then (-9223372036854775808, 9223372036854775807) else if j = 13 then (-9223372036854775808, 9223372036854775807) else if j = 14 then (-9223372036854775808, 9223372036854775807) else if j = 15 then (2544, 2544) else if j = 16 then (-2147483648, 2147483647) else if j = 17 then (2545, 2545) else if j = 18 then (0, 18446744073709551615) else if j = 19 then (-2147483648, 2147483647) else if j = 20 then (2546, 2546) else if j = 21 then (2547, 2547) else if j = 22 then (2548, 2548) else if j = 23 then (2549, 2549) else (2550, 2550))
def mT233 (a : Nat) : mD := (0, 300, fun _ => (-2147483648, 2147483647))
def mT234 (a : Nat) : mD := (0, 301, fun _ => (-2147483648, 2147483647))
def mT235 (a : Nat) : mD := (0, 300, fun _ => (-2147483648, 2147483647))
def mT236 (a : Nat) : mD := (0, 8, fun _ => (-2147483648, 2147483647))
def mT237 (a : Nat) : mD := (1, 32, fun _ => (-9223372036854775808, 9223372036854775807))
def mT238 (a : Nat) : mD := (1, 8, fun _ => (-9223372036854775808, 9223372036854775807))
def mT239 (a : Nat) : mD := (1, 2, fun _ => (-9223372036854775808, 9223372036854775807))
def mT240 (a : Nat) : mD := (0, 80, fun _ => (-2147483648, 2147483647))
def mT241 (a : Nat) : mD := (0, 32, fun _ => (-2147483648, 2147483647))
def mT242 (a : Nat) : mD := (0, 64, fun _ => (-2147483648, 2147483647))
def mT243 (a : Nat) : mD := (1, 961, fun _ => (-9223372036854775808, 9223372036854775807))
def mT244 (a : Nat) : mD := (32, 30, fun j => if j = 0 then (-2147483648, 2147483647) else if j = 1 then (-2147483648, 2147483647) else if j = 2 then (2552, 2552) else if j = 3 then (2553, 2553) else if j = 4 then (2554, 2554) else if j = 5 then (2555, 2555) else if j = 6 then (-2147483648, 2147483647) else if j = 7 then (2556, 2556) else if j = 8 then (2557, 2557) else if j = 9 then (2558, 2558) else if j = 10 then (-2147483648, 2147483647) else if j = 11 then (2559, 2559) else if j = 12 then (2560, 2560) else if j = 13 then (2561, 2561) else if j = 14 then (-2147483648, 2147483647) else if j = 15 then (-2147483648, 2147483647) else if j = 16 then (2562, 2562) else if j = 17 then (2563, 2563) else if j = 18 then (0, 1) else if j = 19 then (0, 1) else if j = 20 then (-2147483648, 2147483647) else if j = 21 then (-2147483648, 2147483647) else if j = 22 then (2564, 2564) else if j = 23 then (2565, 2565) else if j = 24 then (2566, 2566) else if j = 25 then (2567, 2567) else if j = 26 then (2568, 2568) else if j = 27 then (-2147483648, 2147483647) else if j = 28 then (-2147483648, 2147483647) else (2569, 2569))
def mT245 (a : Nat) : mD := (0, 6, fun _ => (-2147483648, 2147483647))
def mT246 (a : Nat) : mD := (2, 36, fun _ => (0, 1))
def mT247 (a : Nat) : mD := (0, 36, fun _ => (-2147483648, 2147483647))
def mT248 (a : Nat) : mD := (0, 3, fun _ => (-2147483648, 2147483647))
def mT249 (a : Nat) : mD := (0, 45, fun _ => (-2147483648, 2147483647))
def mT250 (a : Nat) : mD := (0, 15, fun _ => (-2147483648, 2147483647))
def mT251 (a : Nat) : mD := (0, 60, fun _ => (-2147483648, 2147483647))
def mT252 (a : Nat) : mD := (0, 14, fun _ => (-2147483648, 2147483647))
def mT253 (a : Nat) : mD := (0, 60, fun _ => (-2147483648, 2147483647))
def mT254 (a : Nat) : mD := (0, 5600, fun _ => (-2147483648, 2147483647))
def mT255 (a : Nat) : mD := (0, 400, fun _ => (-2147483648, 2147483647))
def mT256 (a : Nat) : mD := (0, 4000, fun _ => (-2147483648, 2147483647))
def mT257 (a : Nat) : mD := (0, 400, fun _ => (-2147483648, 2147483647))
def mT258 (a : Nat) : mD := (33, 32, fun j => if j = 0 then (-2147483648, 2147483647) else if j = 1 then (2571, 2571) else if j = 2 then (2572, 2572) else if j = 3 then (2573, 2573) else if j = 4 then (2574, 2574) else if j = 5 then (2575, 2575) else if j = 6 then (-2147483648, 2147483647) else if j = 7 then (2576, 2576) else if j = 8 then (2577, 2577) else if j = 9 then (2578, 2578) else if j = 10 then (2579, 2579) else if j = 11 then (2580, 2580) else if j = 12 then (2581, 2581) else if j = 13 then (2582, 2582) else if j = 14 then (-2147483648, 2147483647) else if j = 15 then (2583, 2583) else if j = 16 then (-2147483648, 2147483647) else if j = 17 then (2584, 2584) else if j = 18 then (-2147483648, 2147483647) else if j = 19 then (2585, 2585) else if j = 20 then (-2147483648, 2147483647) else if j = 21 then (2586, 2586) else if j = 22 then (2587, 2587) else if j = 23 then (2588, 2588) else if j = 24 then (-2147483648, 2147483647) else if j = 25 then (2589, 2589) else if j = 26 then (2590, 2590) else if j = 27 then (2591, 2591) else if j = 28 then (2592, 2592) else if j = 29 then (2593, 2593) else if j = 30 then (2594, 2594) else (-2147483648, 2147483647))
def mT259 (a : Nat) : mD := (0, 24, fun _ => (-2147483648, 2147483647))
def mT260 (a : Nat) : mD := (0, 96, fun _ => (-2147483648, 2147483647))
def mT261 (a : Nat) : mD := (0, 1200, fun _ => (-2147483648, 2147483647))
def mT262 (a : Nat) : mD := (0, 600, fun _ => (-2147483648, 2147483647))
def mT263 (a : Nat) : mD := (0, 180, fun _ => (-2147483648, 2147483647))
def mT264 (a : Nat) : mD := (0, 36, fun _ => (-2147483648, 2147483647))
def mT265 (a : Nat) : mD := (1, 10216, fun _ => (-9223372036854775808, 9223372036854775807))
def mT266 (a : Nat) : mD := (1, 40864, fun _ => (-9223372036854775808, 9223372036854775807))
def mT267 (a : Nat) : mD := (0, 24, fun _ => (-2147483648, 2147483647))
def mT268 (a : Nat) : mD := (2, 24, fun _ => (0, 1))
def mT269 (a : Nat) : mD := (0, 24, fun _ => (-2147483648, 2147483647))
def mT270 (a : Nat) : mD := (31, 40, fun j => if j = 0 then (-2147483648, 2147483647) else if j = 1 then (-2147483648, 2147483647) else if j = 2 then (2596, 2596) else if j = 3 then (2597, 2597) else if j = 4 then (-2147483648, 2147483647) else if j = 5 then (2598, 2598) else if j = 6 then (2599, 2599) else if j = 7 then (-2147483648, 2147483647) else if j = 8 then (2600, 2600) else if j = 9 then (2601, 2601) else if j = 10 then (2602, 2602) else if j = 11 then (2603, 2603) else if j = 12 then (-2147483648, 2147483647) else if j = 13 then (-2147483648, 2147483647) else if j = 14 then (2604, 2604) else if j = 15 then (2605, 2605) else if j = 16 then (-2147483648, 2147483647) else if j = 17 then (2606, 2606) else if j = 18 then (-2147483648, 2147483647) else if j = 19 then (2607, 2607) else if j = 20 then (2608, 2608) else if j = 21 then (2609, 2609) else if j = 22 then (-2147483648, 2147483647) else if j = 23 then (2610, 2610) else if j = 24 then (-2147483648, 2147483647) else if j = 25 then (2611, 2611) else if j = 26 then (-2147483648, 2147483647) else if j = 27 then (2612, 2612) else if j = 28 then (2613, 2613) else if j = 29 then (2614, 2614) else if j = 30 then (2615, 2615) else if j = 31 then (-9223372036854775808, 9223372036854775807) else if j = 32 then (-9223372036854775808, 9223372036854775807) else if j = 33 then (-2147483648, 2147483647) else if j = 34 then (2616, 2616) else if j = 35 then (2617, 2617) else if j = 36 then (0, 1) else if j = 37 then (-2147483648, 2147483647) else if j = 38 then (2618, 2618) else (-2147483648, 2147483647))
def mT271 (a : Nat) : mD := (0, 200, fun _ => (-2147483648, 2147483647))
def mT272 (a : Nat) : mD := (0, 201, fun _ => (-2147483648, 2147483647))
def mT273 (a : Nat) : mD := (0, 8, fun _ => (-2147483648, 2147483647))
def mT274 (a : Nat) : mD := (1, 8, fun _ => (-9223372036854775808, 9223372036854775807))
def mT275 (a : Nat) : mD := (0, 8, fun _ => (-2147483648, 2147483647))
def mT276 (a : Nat) : mD := (0, 160, fun _ => (-2147483648, 2147483647))
def mT277 (a : Nat) : mD := (0, 240, fun _ => (-2147483648, 2147483647))
def mT278 (a : Nat) : mD := (0, 80, fun _ => (-2147483648, 2147483647))
def mT279 (a : Nat) : mD := (0, 30, fun _ => (-2147483648, 2147483647))
def mT280 (a : Nat) : mD := (0, 300, fun _ => (-2147483648, 2147483647))
def mT281 (a : Nat) : mD := (1, 12, fun _ => (-9223372036854775808, 9223372036854775807))
def mT282 (a : Nat) : mD := (1, 4, fun _ => (-9223372036854775808, 9223372036854775807))
def mT283 (a : Nat) : mD := (1, 64, fun _ => (-9223372036854775808, 9223372036854775807))
def mT284 (a : Nat) : mD := (0, 64, fun _ => (-2147483648, 2147483647))
def mT285 (a : Nat) : mD := (0, 600, fun _ => (-2147483648, 2147483647))
def mT286 (a : Nat) : mD := (0, 144, fun _ => (-2147483648, 2147483647))
def mT287 (a : Nat) : mD := (0, 8, fun _ => (-2147483648, 2147483647))
def mT288 (a : Nat) : mD := (2, 6, fun _ => (0, 1))
def mT289 (a : Nat) : mD := (0, 5001, fun _ => (-2147483648, 2147483647))
def mT290 (a : Nat) : mD := (1, 14, fun _ => (-9223372036854775808, 9223372036854775807))
def mT291 (a : Nat) : mD := (1, 1, fun _ => (-9223372036854775808, 9223372036854775807))
def mT (a : Nat) : mD := if a < 1982 then (if a < 534 then (if a < 113 then (if a < 37 then (if a < 21 then (if a < 9 then (if a < 6 then (if a < 5 then (mT0 a) else (mT1 a)) else (if a < 8 then (mT2 a) else (mT3 a))) else (if a < 14 then (if a < 13 then (mT4 a) else (mT5 a)) else (if a < 18 then (mT6 a) else (if a < 20 then (mT7 a) else (mT8 a))))) else (if a < 30 then (if a < 28 then (if a < 27 then (mT9 a) else (mT10 a)) else (if a < 29 then (mT11 a) else (mT12 a))) else (if a < 34 then (if a < 32 then (mT13 a) else (mT14 a)) else (if a < 35 then (mT15 a) else (if a < 36 then (mT16 a) else (mT17 a)))))) else (if a < 71 then (if a < 51 then (if a < 46 then (if a < 45 then (mT18 a) else (mT19 a)) else (if a < 50 then (mT20 a) else (mT21 a))) else (if a < 60 then (if a < 59 then (mT22 a) else (mT23 a)) else (if a < 66 then (mT24 a) else (if a < 67 then (mT25 a) else (mT26 a))))) else (if a < 86 then (if a < 73 then (if a < 72 then (mT27 a) else (mT28 a)) else (if a < 74 then (mT29 a) else (mT30 a))) else (if a < 99 then (if a < 87 then (mT31 a) else (mT32 a)) else (if a < 100 then (mT33 a) else (if a < 112 then (mT34 a) else (mT35 a))))))) else (if a < 183 then (if a < 166 then (if a < 117 then (if a < 115 then (if a < 114 then (mT36 a) else (mT37 a)) else (if a < 116 then (mT38 a) else (mT39 a))) else (if a < 161 then (if a < 159 then (mT40 a) else (mT41 a)) else (if a < 162 then (mT42 a) else (if a < 163 then (mT43 a) else (mT44 a))))) else (if a < 170 then (if a < 168 then (if a < 167 then (mT45 a) else (mT46 a)) else (if a < 169 then (mT47 a) else (mT48 a))) else (if a < 180 then (if a < 179 then (mT49 a) else (mT50 a)) else (if a < 181 then (mT51 a) else (if a < 182 then (mT52 a) else (mT53 a)))))) else (if a < 465 then (if a < 194 then (if a < 192 then (if a < 191 then (mT54 a) else (mT55 a)) else (if a < 193 then (mT56 a) else (mT57 a))) else (if a < 196 then (if a < 195 then (mT58 a) else (mT59 a)) else (if a < 197 then (mT60 a) else (if a < 209 then (mT61 a) else (mT62 a))))) else (if a < 519 then (if a < 503 then (if a < 491 then (mT63 a) else (mT64 a)) else (if a < 504 then (mT65 a) else (if a < 505 then (mT66 a) else (mT67 a)))) else (if a < 521 then (if a < 520 then (mT68 a) else (mT69 a)) else (if a < 527 then (mT70 a) else (if a < 528 then (mT71 a) else (mT72 a)))))))) else (if a < 844 then (if a < 622 then (if a < 558 then (if a < 546 then (if a < 541 then (if a < 535 then (mT73 a) else (mT74 a)) else (if a < 542 then (mT75 a) else (mT76 a))) else (if a < 548 then (if a < 547 then (mT77 a) else (mT78 a)) else (if a < 556 then (mT79 a) else (if a < 557 then (mT80 a) else (mT81 a))))) else (if a < 562 then (if a < 560 then (if a < 559 then (mT82 a) else (mT83 a)) else (if a < 561 then (mT84 a) else (mT85 a))) else (if a < 618 then (if a < 590 then (mT86 a) else (mT87 a)) else (if a < 619 then (mT88 a) else (if a < 621 then (mT89 a) else (mT90 a)))))) else (if a < 796 then (if a < 782 then (if a < 773 then (if a < 772 then (mT91 a) else (mT92 a)) else (if a < 774 then (mT93 a) else (mT94 a))) else (if a < 791 then (if a < 783 then (mT95 a) else (mT96 a)) else (if a < 793 then (mT97 a) else (if a < 795 then (mT98 a) else (mT99 a))))) else (if a < 819 then (if a < 817 then (if a < 816 then (mT100 a) else (mT101 a)) else (if a < 818 then (mT102 a) else (mT103 a))) else (if a < 834 then (if a < 833 then (mT104 a) else (mT105 a)) else (if a < 835 then (mT106 a) else (if a < 836 then (mT107 a) else (mT108 a))))))) else (if a < 1442 then (if a < 916 then (if a < 851 then (if a < 846 then (if a < 845 then (mT109 a) else (mT110 a)) else (if a < 850 then (mT111 a) else (mT112 a))) else (if a < 912 then (if a < 852 then (mT113 a) else (mT114 a)) else (if a < 914 then (mT115 a) else (if a < 915 then (mT116 a) else (mT117 a))))) else (if a < 1319 then (if a < 1317 then (if a < 1316 then (mT118 a) else (mT119 a)) else (if a < 1318 then (mT120 a) else (mT121 a))) else (if a < 1321 then (if a < 1320 then (mT122 a) else (mT123 a)) else (if a < 1345 then (mT124 a) else (if a < 1346 then (mT125 a) else (mT126 a)))))) else (if a < 1895 then (if a < 1492 then (if a < 1467 then (if a < 1443 then (mT127 a) else (mT128 a)) else (if a < 1468 then (mT129 a) else (mT130 a))) else (if a < 1693 then (if a < 1493 then (mT131 a) else (mT132 a)) else (if a < 1694 then (mT133 a) else (if a < 1894 then (mT134 a) else (mT135 a))))) else (if a < 1970 then (if a < 1956 then (if a < 1955 then (mT136 a) else (mT137 a)) else (if a < 1968 then (mT138 a) else (if a < 1969 then (mT139 a) else (mT140 a)))) else (if a < 1978 then (if a < 1974 then (mT141 a) else (mT142 a)) else (if a < 1979 then (mT143 a) else (if a < 1981 then (mT144 a) else (mT145 a))))))))) else (if a < 2516 then (if a < 2468 then (if a < 2344 then (if a < 2236 then (if a < 2185 then (if a < 1984 then (if a < 1983 then (mT146 a) else (mT147 a)) else (if a < 1985 then (mT148 a) else (mT149 a))) else (if a < 2194 then (if a < 2186 then (mT150 a) else (mT151 a)) else (if a < 2195 then (mT152 a) else (if a < 2235 then (mT153 a) else (mT154 a))))) else (if a < 2318 then (if a < 2297 then (if a < 2296 then (mT155 a) else (mT156 a)) else (if a < 2298 then (mT157 a) else (mT158 a))) else (if a < 2332 then (if a < 2319 then (mT159 a) else (mT160 a)) else (if a < 2333 then (mT161 a) else (if a < 2343 then (mT162 a) else (mT163 a)))))) else (if a < 2456 then (if a < 2447 then (if a < 2445 then (if a < 2345 then (mT164 a) else (mT165 a)) else (if a < 2446 then (mT166 a) else (mT167 a))) else (if a < 2449 then (if a < 2448 then (mT168 a) else (mT169 a)) else (if a < 2450 then (mT170 a) else (if a < 2455 then (mT171 a) else (mT172 a))))) else (if a < 2461 then (if a < 2458 then (if a < 2457 then (mT173 a) else (mT174 a)) else (if a < 2460 then (mT175 a) else (mT176 a))) else (if a < 2464 then (if a < 2463 then (mT177 a) else (mT178 a)) else (if a < 2465 then (mT179 a) else (if a < 2467 then (mT180 a) else (mT181 a))))))) else (if a < 2491 then (if a < 2478 then (if a < 2472 then (if a < 2470 then (if a < 2469 then (mT182 a) else (mT183 a)) else (if a < 2471 then (mT184 a) else (mT185 a))) else (if a < 2475 then (if a < 2473 then (mT186 a) else (mT187 a)) else (if a < 2476 then (mT188 a) else (if a < 2477 then (mT189 a) else (mT190 a))))) else (if a < 2485 then (if a < 2482 then (if a < 2481 then (mT191 a) else (mT192 a)) else (if a < 2484 then (mT193 a) else (mT194 a))) else (if a < 2488 then (if a < 2486 then (mT195 a) else (mT196 a)) else (if a < 2489 then (mT197 a) else (if a < 2490 then (mT198 a) else (mT199 a)))))) else (if a < 2502 then (if a < 2495 then (if a < 2493 then (if a < 2492 then (mT200 a) else (mT201 a)) else (if a < 2494 then (mT202 a) else (mT203 a))) else (if a < 2497 then (if a < 2496 then (mT204 a) else (mT205 a)) else (if a < 2498 then (mT206 a) else (if a < 2500 then (mT207 a) else (mT208 a))))) else (if a < 2509 then (if a < 2504 then (if a < 2503 then (mT209 a) else (mT210 a)) else (if a < 2505 then (mT211 a) else (if a < 2508 then (mT212 a) else (mT213 a)))) else (if a < 2513 then (if a < 2511 then (mT214 a) else (mT215 a)) else (if a < 2514 then (mT216 a) else (if a < 2515 then (mT217 a) else (mT218 a)))))))) else (if a < 2565 then (if a < 2541 then (if a < 2529 then (if a < 2521 then (if a < 2518 then (if a < 2517 then (mT219 a) else (mT220 a)) else (if a < 2520 then (mT221 a) else (mT222 a))) else (if a < 2525 then (if a < 2523 then (mT223 a) else (mT224 a)) else (if a < 2527 then (mT225 a) else (if a < 2528 then (mT226 a) else (mT227 a))))) else (if a < 2534 then (if a < 2531 then (if a < 2530 then (mT228 a) else (mT229 a)) else (if a < 2532 then (mT230 a) else (mT231 a))) else (if a < 2536 then (if a < 2535 then (mT232 a) else (mT233 a)) else (if a < 2537 then (mT234 a) else (if a < 2540 then (mT235 a) else (mT236 a)))))) else (if a < 2554 then (if a < 2546 then (if a < 2544 then (if a < 2543 then (mT237 a) else (mT238 a)) else (if a < 2545 then (mT239 a) else (mT240 a))) else (if a < 2550 then (if a < 2547 then (mT241 a) else (mT242 a)) else (if a < 2551 then (mT243 a) else (if a < 2552 then (mT244 a) else (mT245 a))))) else (if a < 2558 then (if a < 2556 then (if a < 2555 then (mT246 a) else (mT247 a)) else (if a < 2557 then (mT248 a) else (mT249 a))) else (if a < 2560 then (if a < 2559 then (mT250 a) else (mT251 a)) else (if a < 2562 then (mT252 a) else (if a < 2564 then (mT253 a) else (mT254 a))))))) else (if a < 2600 then (if a < 2586 then (if a < 2571 then (if a < 2569 then (if a < 2568 then (mT255 a) else (mT256 a)) else (if a < 2570 then (mT257 a) else (mT258 a))) else (if a < 2583 then (if a < 2576 then (mT259 a) else (mT260 a)) else (if a < 2584 then (mT261 a) else (if a < 2585 then (mT262 a) else (mT263 a))))) else (if a < 2593 then (if a < 2588 then (if a < 2587 then (mT264 a) else (mT265 a)) else (if a < 2589 then (mT266 a) else (mT267 a))) else (if a < 2595 then (if a < 2594 then (mT268 a) else (mT269 a)) else (if a < 2596 then (mT270 a) else (if a < 2598 then (mT271 a) else (mT272 a)))))) else (if a < 2615 then (if a < 2607 then (if a < 2605 then (if a < 2604 then (mT273 a) else (mT274 a)) else (if a < 2606 then (mT275 a) else (mT276 a))) else (if a < 2611 then (if a < 2610 then (mT277 a) else (mT278 a)) else (if a < 2612 then (mT279 a) else (if a < 2613 then (mT280 a) else (mT281 a))))) else (if a < 2621 then (if a < 2617 then (if a < 2616 then (mT282 a) else (mT283 a)) else (if a < 2618 then (mT284 a) else (if a < 2619 then (mT285 a) else (mT286 a)))) else (if a < 2623 then (if a < 2622 then (mT287 a) else (mT288 a)) else (if a < 2626 then (mT289 a) else (if a < 2627 then (mT290 a) else (mT291 a)))))))))
def mDok (d : mD) (c : MC) : Prop := c.1 = d.1 ∧ c.2.1 = d.2.1 ∧ ∀ j : Nat, j < d.2.1 → (d.2.2 j).1 ≤ c.2.2 j ∧ c.2.2 j ≤ (d.2.2 j).2
def GI (h : MH) : Prop := 2628 ≤ h.1 ∧ ∀ a : Nat, 4 ≤ a → a < 2628 → mDok (mT a) (h.2 a)
theorem GI.lt {h : MH} (g : GI h) {a : Nat} (ha : a < 2628) : a < h.1 := Nat.lt_of_lt_of_le ha g.1
theorem GI.set {h : MH} (g : GI h) {a j : Nat} {z : Int} (h4 : 4 ≤ a) (hz : a < 2628 → ((mT a).2.2 j).1 ≤ z ∧ z ≤ ((mT a).2.2 j).2) : GI (hset h a j z) := by
  refine ⟨g.1, fun b hb hb2 => ?_⟩
  show mDok (mT b) (if b = a then _ else h.2 b)
  by_cases e : b = a
  · rw [if_pos e]
    subst e
    obtain ⟨h1, h2, h3⟩ := g.2 b hb hb2
    refine ⟨h1, h2, fun i hi => ?_⟩
    show _ ≤ (if i = j then z else (h.2 b).2.2 i) ∧ (if i = j then z else (h.2 b).2.2 i) ≤ _
    by_cases e2 : i = j
    · rw [if_pos e2, e2]; exact hz hb2
    · rw [if_neg e2]; exact h3 i hi
  · rw [if_neg e]; exact g.2 b hb hb2
theorem mTa4 : mT 4 = mT0 4 := rfl
theorem mTa5 : mT 5 = mT1 5 := rfl
theorem mTa8 : mT 8 = mT3 8 := rfl
theorem mTa13 : mT 13 = mT5 13 := rfl
theorem mTa20 : mT 20 = mT8 20 := rfl
theorem mTa27 : mT 27 = mT10 27 := rfl
theorem mTa28 : mT 28 = mT11 28 := rfl
theorem mTa29 : mT 29 = mT12 29 := rfl
theorem mTa34 : mT 34 = mT15 34 := rfl
theorem mTa35 : mT 35 = mT16 35 := rfl
theorem mTa36 : mT 36 = mT17 36 := rfl
theorem mTa45 : mT 45 = mT19 45 := rfl
theorem mTa50 : mT 50 = mT21 50 := rfl
theorem mTa59 : mT 59 = mT23 59 := rfl
theorem mTa66 : mT 66 = mT25 66 := rfl
theorem mTa71 : mT 71 = mT27 71 := rfl
theorem mTa72 : mT 72 = mT28 72 := rfl
theorem mTa73 : mT 73 = mT29 73 := rfl
theorem mTa86 : mT 86 = mT31 86 := rfl
theorem mTa99 : mT 99 = mT33 99 := rfl
theorem mTa112 : mT 112 = mT35 112 := rfl
theorem mTa113 : mT 113 = mT36 113 := rfl
theorem mTa114 : mT 114 = mT37 114 := rfl
theorem mTa115 : mT 115 = mT38 115 := rfl
theorem mTa116 : mT 116 = mT39 116 := rfl
theorem mTa161 : mT 161 = mT42 161 := rfl
theorem mTa162 : mT 162 = mT43 162 := rfl
theorem mTa166 : mT 166 = mT45 166 := rfl
theorem mTa167 : mT 167 = mT46 167 := rfl
theorem mTa168 : mT 168 = mT47 168 := rfl
theorem mTa169 : mT 169 = mT48 169 := rfl
theorem mTa179 : mT 179 = mT50 179 := rfl
theorem mTa180 : mT 180 = mT51 180 := rfl
theorem mTa181 : mT 181 = mT52 181 := rfl
theorem mTa182 : mT 182 = mT53 182 := rfl
theorem mTa191 : mT 191 = mT55 191 := rfl
theorem mTa192 : mT 192 = mT56 192 := rfl
theorem mTa193 : mT 193 = mT57 193 := rfl
theorem mTa194 : mT 194 = mT58 194 := rfl
theorem mTa195 : mT 195 = mT59 195 := rfl
theorem mTa196 : mT 196 = mT60 196 := rfl
theorem mTa503 : mT 503 = mT65 503 := rfl
theorem mTa504 : mT 504 = mT66 504 := rfl
theorem mTa519 : mT 519 = mT68 519 := rfl
theorem mTa520 : mT 520 = mT69 520 := rfl
theorem mTa527 : mT 527 = mT71 527 := rfl
theorem mTa534 : mT 534 = mT73 534 := rfl
theorem mTa541 : mT 541 = mT75 541 := rfl
theorem mTa546 : mT 546 = mT77 546 := rfl
theorem mTa547 : mT 547 = mT78 547 := rfl
theorem mTa556 : mT 556 = mT80 556 := rfl
theorem mTa557 : mT 557 = mT81 557 := rfl
theorem mTa558 : mT 558 = mT82 558 := rfl
theorem mTa559 : mT 559 = mT83 559 := rfl
theorem mTa560 : mT 560 = mT84 560 := rfl
theorem mTa561 : mT 561 = mT85 561 := rfl
theorem mTa618 : mT 618 = mT88 618 := rfl
theorem mTa621 : mT 621 = mT90 621 := rfl
theorem mTa772 : mT 772 = mT92 772 := rfl
theorem mTa773 : mT 773 = mT93 773 := rfl
theorem mTa782 : mT 782 = mT95 782 := rfl
theorem mTa795 : mT 795 = mT99 795 := rfl
theorem mTa816 : mT 816 = mT101 816 := rfl
theorem mTa817 : mT 817 = mT102 817 := rfl
theorem mTa818 : mT 818 = mT103 818 := rfl
theorem mTa833 : mT 833 = mT105 833 := rfl
theorem mTa834 : mT 834 = mT106 834 := rfl
theorem mTa835 : mT 835 = mT107 835 := rfl
theorem mTa844 : mT 844 = mT109 844 := rfl
theorem mTa845 : mT 845 = mT110 845 := rfl
theorem mTa850 : mT 850 = mT112 850 := rfl
theorem mTa851 : mT 851 = mT113 851 := rfl
theorem mTa914 : mT 914 = mT116 914 := rfl
theorem mTa915 : mT 915 = mT117 915 := rfl
theorem mTa1316 : mT 1316 = mT119 1316 := rfl
theorem mTa1317 : mT 1317 = mT120 1317 := rfl
theorem mTa1318 : mT 1318 = mT121 1318 := rfl
theorem mTa1319 : mT 1319 = mT122 1319 := rfl
theorem mTa1320 : mT 1320 = mT123 1320 := rfl
theorem mTa1345 : mT 1345 = mT125 1345 := rfl
theorem mTa1442 : mT 1442 = mT127 1442 := rfl
theorem mTa1467 : mT 1467 = mT129 1467 := rfl
theorem mTa1492 : mT 1492 = mT131 1492 := rfl
theorem mTa1693 : mT 1693 = mT133 1693 := rfl
theorem mTa1894 : mT 1894 = mT135 1894 := rfl
theorem mTa1955 : mT 1955 = mT137 1955 := rfl
theorem mTa1968 : mT 1968 = mT139 1968 := rfl
theorem mTa1969 : mT 1969 = mT140 1969 := rfl
theorem mTa1978 : mT 1978 = mT143 1978 := rfl
theorem mTa1981 : mT 1981 = mT145 1981 := rfl
theorem mTa1982 : mT 1982 = mT146 1982 := rfl
theorem mTa1983 : mT 1983 = mT147 1983 := rfl
theorem mTa1984 : mT 1984 = mT148 1984 := rfl
theorem mTa2185 : mT 2185 = mT150 2185 := rfl
theorem mTa2194 : mT 2194 = mT152 2194 := rfl
theorem mTa2235 : mT 2235 = mT154 2235 := rfl
theorem mTa2296 : mT 2296 = mT156 2296 := rfl
theorem mTa2297 : mT 2297 = mT157 2297 := rfl
theorem mTa2318 : mT 2318 = mT159 2318 := rfl
theorem mTa2332 : mT 2332 = mT161 2332 := rfl
theorem mTa2343 : mT 2343 = mT163 2343 := rfl
theorem mTa2344 : mT 2344 = mT164 2344 := rfl
theorem mTa2445 : mT 2445 = mT166 2445 := rfl
theorem mTa2446 : mT 2446 = mT167 2446 := rfl
theorem mTa2447 : mT 2447 = mT168 2447 := rfl
theorem mTa2448 : mT 2448 = mT169 2448 := rfl
theorem mTa2449 : mT 2449 = mT170 2449 := rfl
theorem mTa2455 : mT 2455 = mT172 2455 := rfl
theorem mTa2456 : mT 2456 = mT173 2456 := rfl
theorem mTa2457 : mT 2457 = mT174 2457 := rfl
theorem mTa2460 : mT 2460 = mT176 2460 := rfl
theorem mTa2463 : mT 2463 = mT178 2463 := rfl
theorem mTa2464 : mT 2464 = mT179 2464 := rfl
theorem mTa2467 : mT 2467 = mT181 2467 := rfl
theorem mTa2468 : mT 2468 = mT182 2468 := rfl
theorem mTa2469 : mT 2469 = mT183 2469 := rfl
theorem mTa2470 : mT 2470 = mT184 2470 := rfl
theorem mTa2471 : mT 2471 = mT185 2471 := rfl
theorem mTa2472 : mT 2472 = mT186 2472 := rfl
theorem mTa2475 : mT 2475 = mT188 2475 := rfl
theorem mTa2476 : mT 2476 = mT189 2476 := rfl
theorem mTa2477 : mT 2477 = mT190 2477 := rfl
theorem mTa2481 : mT 2481 = mT192 2481 := rfl
theorem mTa2484 : mT 2484 = mT194 2484 := rfl
theorem mTa2485 : mT 2485 = mT195 2485 := rfl
theorem mTa2488 : mT 2488 = mT197 2488 := rfl
theorem mTa2489 : mT 2489 = mT198 2489 := rfl
theorem mTa2490 : mT 2490 = mT199 2490 := rfl
theorem mTa2491 : mT 2491 = mT200 2491 := rfl
theorem mTa2492 : mT 2492 = mT201 2492 := rfl
theorem mTa2493 : mT 2493 = mT202 2493 := rfl
theorem mTa2494 : mT 2494 = mT203 2494 := rfl
theorem mTa2495 : mT 2495 = mT204 2495 := rfl
theorem mTa2496 : mT 2496 = mT205 2496 := rfl
theorem mTa2497 : mT 2497 = mT206 2497 := rfl
theorem mTa2502 : mT 2502 = mT209 2502 := rfl
theorem mTa2503 : mT 2503 = mT210 2503 := rfl
theorem mTa2504 : mT 2504 = mT211 2504 := rfl
theorem mTa2508 : mT 2508 = mT213 2508 := rfl
theorem mTa2513 : mT 2513 = mT216 2513 := rfl
theorem mTa2514 : mT 2514 = mT217 2514 := rfl
theorem mTa2515 : mT 2515 = mT218 2515 := rfl
theorem mTa2516 : mT 2516 = mT219 2516 := rfl
theorem mTa2517 : mT 2517 = mT220 2517 := rfl
theorem mTa2520 : mT 2520 = mT222 2520 := rfl
theorem mTa2527 : mT 2527 = mT226 2527 := rfl
theorem mTa2528 : mT 2528 = mT227 2528 := rfl
theorem mTa2529 : mT 2529 = mT228 2529 := rfl
theorem mTa2530 : mT 2530 = mT229 2530 := rfl
theorem mTa2531 : mT 2531 = mT230 2531 := rfl
theorem mTa2534 : mT 2534 = mT232 2534 := rfl
theorem mTa2535 : mT 2535 = mT233 2535 := rfl
theorem mTa2536 : mT 2536 = mT234 2536 := rfl
theorem mTa2540 : mT 2540 = mT236 2540 := rfl
theorem mTa2543 : mT 2543 = mT238 2543 := rfl
theorem mTa2544 : mT 2544 = mT239 2544 := rfl
theorem mTa2545 : mT 2545 = mT240 2545 := rfl
theorem mTa2546 : mT 2546 = mT241 2546 := rfl
theorem mTa2550 : mT 2550 = mT243 2550 := rfl
theorem mTa2551 : mT 2551 = mT244 2551 := rfl
theorem mTa2554 : mT 2554 = mT246 2554 := rfl
theorem mTa2555 : mT 2555 = mT247 2555 := rfl
theorem mTa2556 : mT 2556 = mT248 2556 := rfl
theorem mTa2557 : mT 2557 = mT249 2557 := rfl
theorem mTa2558 : mT 2558 = mT250 2558 := rfl
theorem mTa2559 : mT 2559 = mT251 2559 := rfl
theorem mTa2564 : mT 2564 = mT254 2564 := rfl
theorem mTa2568 : mT 2568 = mT256 2568 := rfl
theorem mTa2569 : mT 2569 = mT257 2569 := rfl
theorem mTa2570 : mT 2570 = mT258 2570 := rfl
theorem mTa2583 : mT 2583 = mT261 2583 := rfl
theorem mTa2584 : mT 2584 = mT262 2584 := rfl
theorem mTa2585 : mT 2585 = mT263 2585 := rfl
theorem mTa2586 : mT 2586 = mT264 2586 := rfl
theorem mTa2587 : mT 2587 = mT265 2587 := rfl
theorem mTa2588 : mT 2588 = mT266 2588 := rfl
theorem mTa2593 : mT 2593 = mT268 2593 := rfl
theorem mTa2594 : mT 2594 = mT269 2594 := rfl
theorem mTa2595 : mT 2595 = mT270 2595 := rfl
theorem mTa2604 : mT 2604 = mT274 2604 := rfl
theorem mTa2605 : mT 2605 = mT275 2605 := rfl
theorem mTa2606 : mT 2606 = mT276 2606 := rfl
theorem mTa2610 : mT 2610 = mT278 2610 := rfl
theorem mTa2611 : mT 2611 = mT279 2611 := rfl
theorem mTa2612 : mT 2612 = mT280 2612 := rfl
theorem mTa2615 : mT 2615 = mT282 2615 := rfl
theorem mTa2616 : mT 2616 = mT283 2616 := rfl
theorem mTa2617 : mT 2617 = mT284 2617 := rfl
theorem mTa2618 : mT 2618 = mT285 2618 := rfl
theorem mTa2621 : mT 2621 = mT287 2621 := rfl
theorem mTa2622 : mT 2622 = mT288 2622 := rfl
theorem mTa2626 : mT 2626 = mT290 2626 := rfl
theorem mTa2627 : mT 2627 = mT291 2627 := rfl
theorem m_heap {K : mK} {Qr : MO → MH → Prop} {mc ms pc : Nat} {L : List (Nat × MV)} {S : List MV} {h : MH} (k : ∀ h' : MH, h' = h → MW K Qr mc ms pc L S h') : MW K Qr mc ms pc L S h := k h rfl
theorem m_len {i : Int} {n N : Nat} (e : n = N) (h : i < (N : Int)) : i < (n : Int) := by rw [e]; exact h
theorem m_mulB {x y a b c d lo hi : Int} (h1 : a ≤ x) (h2 : x ≤ b) (h3 : c ≤ y) (h4 : y ≤ d) (hlo : lo ≤ a * c ∧ lo ≤ a * d ∧ lo ≤ b * c ∧ lo ≤ b * d) (hhi : a * c ≤ hi ∧ a * d ≤ hi ∧ b * c ≤ hi ∧ b * d ≤ hi) : lo ≤ x * y ∧ x * y ≤ hi := by
  have up : ∀ t : Int, c ≤ t → t ≤ d → min (a * t) (b * t) ≤ x * t ∧ x * t ≤ max (a * t) (b * t) := by
    intro t _ _
    by_cases ht : 0 ≤ t
    · have e1 := Int.mul_le_mul_of_nonneg_right h1 ht
      have e2 := Int.mul_le_mul_of_nonneg_right h2 ht
      omega
    · have e1 := Int.mul_le_mul_of_nonpos_right h1 (by omega : t ≤ 0)
      have e2 := Int.mul_le_mul_of_nonpos_right h2 (by omega : t ≤ 0)
      omega
  have side : ∀ k : Int, min (k * c) (k * d) ≤ k * y ∧ k * y ≤ max (k * c) (k * d) := by
    intro k
    by_cases hk : 0 ≤ k
    · have e1 := Int.mul_le_mul_of_nonneg_left h3 hk
      have e2 := Int.mul_le_mul_of_nonneg_left h4 hk
      omega
    · have e1 := Int.mul_le_mul_of_nonpos_left (by omega : k ≤ 0) h3
      have e2 := Int.mul_le_mul_of_nonpos_left (by omega : k ≤ 0) h4
      omega
  have h5 := up y h3 h4
  have h6 := side a
  have h7 := side b
  omega
theorem gk4 {h : MH} (g : GI h) : (h.2 4).1 = 16 + 11 := (g.2 4 (by decide) (by decide)).1
theorem gf4_0 {h : MH} (g : GI h) : (h.2 4).2.2 0 = 5 := by have h1 : 5 ≤ (h.2 4).2.2 0 ∧ (h.2 4).2.2 0 ≤ 5 := (g.2 4 (by decide) (by decide)).2.2 0 (by decide); omega
theorem gf4_1 {h : MH} (g : GI h) : (h.2 4).2.2 1 = 34 := by have h1 : 34 ≤ (h.2 4).2.2 1 ∧ (h.2 4).2.2 1 ≤ 34 := (g.2 4 (by decide) (by decide)).2.2 1 (by decide); omega
theorem gf4_2 {h : MH} (g : GI h) : (h.2 4).2.2 2 = 161 := by have h1 : 161 ≤ (h.2 4).2.2 2 ∧ (h.2 4).2.2 2 ≤ 161 := (g.2 4 (by decide) (by decide)).2.2 2 (by decide); omega
theorem gf4_3 {h : MH} (g : GI h) : (h.2 4).2.2 3 = 503 := by have h1 : 503 ≤ (h.2 4).2.2 3 ∧ (h.2 4).2.2 3 ≤ 503 := (g.2 4 (by decide) (by decide)).2.2 3 (by decide); omega
theorem gf4_4 {h : MH} (g : GI h) : (h.2 4).2.2 4 = 618 := by have h1 : 618 ≤ (h.2 4).2.2 4 ∧ (h.2 4).2.2 4 ≤ 618 := (g.2 4 (by decide) (by decide)).2.2 4 (by decide); omega
theorem gf4_5 {h : MH} (g : GI h) : (h.2 4).2.2 5 = 833 := by have h1 : 833 ≤ (h.2 4).2.2 5 ∧ (h.2 4).2.2 5 ≤ 833 := (g.2 4 (by decide) (by decide)).2.2 5 (by decide); omega
theorem gf4_6 {h : MH} (g : GI h) : (h.2 4).2.2 6 = 1319 := by have h1 : 1319 ≤ (h.2 4).2.2 6 ∧ (h.2 4).2.2 6 ≤ 1319 := (g.2 4 (by decide) (by decide)).2.2 6 (by decide); omega
theorem gf4_7 {h : MH} (g : GI h) : (h.2 4).2.2 7 = 1982 := by have h1 : 1982 ≤ (h.2 4).2.2 7 ∧ (h.2 4).2.2 7 ≤ 1982 := (g.2 4 (by decide) (by decide)).2.2 7 (by decide); omega
theorem gf4_8 {h : MH} (g : GI h) : (h.2 4).2.2 8 = 2447 := by have h1 : 2447 ≤ (h.2 4).2.2 8 ∧ (h.2 4).2.2 8 ≤ 2447 := (g.2 4 (by decide) (by decide)).2.2 8 (by decide); omega
theorem gf4_9 {h : MH} (g : GI h) : -2147483648 ≤ (h.2 4).2.2 9 ∧ (h.2 4).2.2 9 ≤ 2147483647 := (g.2 4 (by decide) (by decide)).2.2 9 (by decide)
theorem gk5 {h : MH} (g : GI h) : (h.2 5).1 = 16 + 10 := (g.2 5 (by decide) (by decide)).1
theorem gf5_0 {h : MH} (g : GI h) : (h.2 5).2.2 0 = 6 := by have h1 : 6 ≤ (h.2 5).2.2 0 ∧ (h.2 5).2.2 0 ≤ 6 := (g.2 5 (by decide) (by decide)).2.2 0 (by decide); omega
theorem gf5_1 {h : MH} (g : GI h) : (h.2 5).2.2 1 = 7 := by have h1 : 7 ≤ (h.2 5).2.2 1 ∧ (h.2 5).2.2 1 ≤ 7 := (g.2 5 (by decide) (by decide)).2.2 1 (by decide); omega
theorem gf5_2 {h : MH} (g : GI h) : (h.2 5).2.2 2 = 8 := by have h1 : 8 ≤ (h.2 5).2.2 2 ∧ (h.2 5).2.2 2 ≤ 8 := (g.2 5 (by decide) (by decide)).2.2 2 (by decide); omega
theorem gf5_3 {h : MH} (g : GI h) : (h.2 5).2.2 3 = 9 := by have h1 : 9 ≤ (h.2 5).2.2 3 ∧ (h.2 5).2.2 3 ≤ 9 := (g.2 5 (by decide) (by decide)).2.2 3 (by decide); omega
theorem gf5_4 {h : MH} (g : GI h) : (h.2 5).2.2 4 = 10 := by have h1 : 10 ≤ (h.2 5).2.2 4 ∧ (h.2 5).2.2 4 ≤ 10 := (g.2 5 (by decide) (by decide)).2.2 4 (by decide); omega
theorem gf5_5 {h : MH} (g : GI h) : (h.2 5).2.2 5 = 11 := by have h1 : 11 ≤ (h.2 5).2.2 5 ∧ (h.2 5).2.2 5 ≤ 11 := (g.2 5 (by decide) (by decide)).2.2 5 (by decide); omega
theorem gf5_6 {h : MH} (g : GI h) : (h.2 5).2.2 6 = 12 := by have h1 : 12 ≤ (h.2 5).2.2 6 ∧ (h.2 5).2.2 6 ≤ 12 := (g.2 5 (by decide) (by decide)).2.2 6 (by decide); omega
theorem gf5_7 {h : MH} (g : GI h) : (h.2 5).2.2 7 = 13 := by have h1 : 13 ≤ (h.2 5).2.2 7 ∧ (h.2 5).2.2 7 ≤ 13 := (g.2 5 (by decide) (by decide)).2.2 7 (by decide); omega
theorem gf5_8 {h : MH} (g : GI h) : (h.2 5).2.2 8 = 18 := by have h1 : 18 ≤ (h.2 5).2.2 8 ∧ (h.2 5).2.2 8 ≤ 18 := (g.2 5 (by decide) (by decide)).2.2 8 (by decide); omega
theorem gf5_9 {h : MH} (g : GI h) : (h.2 5).2.2 9 = 19 := by have h1 : 19 ≤ (h.2 5).2.2 9 ∧ (h.2 5).2.2 9 ≤ 19 := (g.2 5 (by decide) (by decide)).2.2 9 (by decide); omega
theorem gf5_10 {h : MH} (g : GI h) : -2147483648 ≤ (h.2 5).2.2 10 ∧ (h.2 5).2.2 10 ≤ 2147483647 := (g.2 5 (by decide) (by decide)).2.2 10 (by decide)
theorem gf5_11 {h : MH} (g : GI h) : -2147483648 ≤ (h.2 5).2.2 11 ∧ (h.2 5).2.2 11 ≤ 2147483647 := (g.2 5 (by decide) (by decide)).2.2 11 (by decide)
theorem gf5_12 {h : MH} (g : GI h) : -2147483648 ≤ (h.2 5).2.2 12 ∧ (h.2 5).2.2 12 ≤ 2147483647 := (g.2 5 (by decide) (by decide)).2.2 12 (by decide)
theorem gf5_13 {h : MH} (g : GI h) : (h.2 5).2.2 13 = 20 := by have h1 : 20 ≤ (h.2 5).2.2 13 ∧ (h.2 5).2.2 13 ≤ 20 := (g.2 5 (by decide) (by decide)).2.2 13 (by decide); omega
theorem gf5_14 {h : MH} (g : GI h) : -2147483648 ≤ (h.2 5).2.2 14 ∧ (h.2 5).2.2 14 ≤ 2147483647 := (g.2 5 (by decide) (by decide)).2.2 14 (by decide)
theorem gf5_15 {h : MH} (g : GI h) : -2147483648 ≤ (h.2 5).2.2 15 ∧ (h.2 5).2.2 15 ≤ 2147483647 := (g.2 5 (by decide) (by decide)).2.2 15 (by decide)
theorem gf5_16 {h : MH} (g : GI h) : 0 ≤ (h.2 5).2.2 16 ∧ (h.2 5).2.2 16 ≤ 1 := (g.2 5 (by decide) (by decide)).2.2 16 (by decide)
theorem gf5_17 {h : MH} (g : GI h) : -9223372036854775808 ≤ (h.2 5).2.2 17 ∧ (h.2 5).2.2 17 ≤ 9223372036854775807 := (g.2 5 (by decide) (by decide)).2.2 17 (by decide)
theorem gf5_18 {h : MH} (g : GI h) : (h.2 5).2.2 18 = 27 := by have h1 : 27 ≤ (h.2 5).2.2 18 ∧ (h.2 5).2.2 18 ≤ 27 := (g.2 5 (by decide) (by decide)).2.2 18 (by decide); omega
theorem gk6 {h : MH} (g : GI h) : (h.2 6).1 = 0 := (g.2 6 (by decide) (by decide)).1
theorem gl6 {h : MH} (g : GI h) : (h.2 6).2.1 = 144 := (g.2 6 (by decide) (by decide)).2.1
theorem ge6 {h : MH} (g : GI h) {j : Nat} (hj : j < 144) : -2147483648 ≤ (h.2 6).2.2 j ∧ (h.2 6).2.2 j ≤ 2147483647 := (g.2 6 (by decide) (by decide)).2.2 j hj
theorem gk7 {h : MH} (g : GI h) : (h.2 7).1 = 0 := (g.2 7 (by decide) (by decide)).1
theorem gl7 {h : MH} (g : GI h) : (h.2 7).2.1 = 144 := (g.2 7 (by decide) (by decide)).2.1
theorem ge7 {h : MH} (g : GI h) {j : Nat} (hj : j < 144) : -2147483648 ≤ (h.2 7).2.2 j ∧ (h.2 7).2.2 j ≤ 2147483647 := (g.2 7 (by decide) (by decide)).2.2 j hj
theorem gk8 {h : MH} (g : GI h) : (h.2 8).1 = 2 := (g.2 8 (by decide) (by decide)).1
theorem gl8 {h : MH} (g : GI h) : (h.2 8).2.1 = 144 := (g.2 8 (by decide) (by decide)).2.1
theorem ge8 {h : MH} (g : GI h) {j : Nat} (hj : j < 144) : 0 ≤ (h.2 8).2.2 j ∧ (h.2 8).2.2 j ≤ 1 := (g.2 8 (by decide) (by decide)).2.2 j hj
theorem gk9 {h : MH} (g : GI h) : (h.2 9).1 = 0 := (g.2 9 (by decide) (by decide)).1
theorem gl9 {h : MH} (g : GI h) : (h.2 9).2.1 = 144 := (g.2 9 (by decide) (by decide)).2.1
theorem ge9 {h : MH} (g : GI h) {j : Nat} (hj : j < 144) : -2147483648 ≤ (h.2 9).2.2 j ∧ (h.2 9).2.2 j ≤ 2147483647 := (g.2 9 (by decide) (by decide)).2.2 j hj
theorem gk10 {h : MH} (g : GI h) : (h.2 10).1 = 0 := (g.2 10 (by decide) (by decide)).1
theorem gl10 {h : MH} (g : GI h) : (h.2 10).2.1 = 144 := (g.2 10 (by decide) (by decide)).2.1
theorem ge10 {h : MH} (g : GI h) {j : Nat} (hj : j < 144) : -2147483648 ≤ (h.2 10).2.2 j ∧ (h.2 10).2.2 j ≤ 2147483647 := (g.2 10 (by decide) (by decide)).2.2 j hj
theorem gk11 {h : MH} (g : GI h) : (h.2 11).1 = 0 := (g.2 11 (by decide) (by decide)).1
theorem gl11 {h : MH} (g : GI h) : (h.2 11).2.1 = 144 := (g.2 11 (by decide) (by decide)).2.1
theorem ge11 {h : MH} (g : GI h) {j : Nat} (hj : j < 144) : -2147483648 ≤ (h.2 11).2.2 j ∧ (h.2 11).2.2 j ≤ 2147483647 := (g.2 11 (by decide) (by decide)).2.2 j hj
theorem gk12 {h : MH} (g : GI h) : (h.2 12).1 = 0 := (g.2 12 (by decide) (by decide)).1
theorem gl12 {h : MH} (g : GI h) : (h.2 12).2.1 = 144 := (g.2 12 (by decide) (by decide)).2.1
theorem ge12 {h : MH} (g : GI h) {j : Nat} (hj : j < 144) : -2147483648 ≤ (h.2 12).2.2 j ∧ (h.2 12).2.2 j ≤ 2147483647 := (g.2 12 (by decide) (by decide)).2.2 j hj
theorem gk13 {h : MH} (g : GI h) : (h.2 13).1 = 6 := (g.2 13 (by decide) (by decide)).1
theorem gl13 {h : MH} (g : GI h) : (h.2 13).2.1 = 4 := (g.2 13 (by decide) (by decide)).2.1
theorem ge13 {h : MH} (g : GI h) {j : Nat} (hj : j < 4) : (h.2 13).2.2 j = 14 + 1 * j := by have h1 : (14 : Int) + 1 * j ≤ (h.2 13).2.2 j ∧ (h.2 13).2.2 j ≤ (14 : Int) + 1 * j := (g.2 13 (by decide) (by decide)).2.2 j hj; omega
theorem gk14 {h : MH} (g : GI h) : (h.2 14).1 = 0 := (g.2 14 (by decide) (by decide)).1
theorem gl14 {h : MH} (g : GI h) : (h.2 14).2.1 = 144 := (g.2 14 (by decide) (by decide)).2.1
theorem ge14 {h : MH} (g : GI h) {j : Nat} (hj : j < 144) : -2147483648 ≤ (h.2 14).2.2 j ∧ (h.2 14).2.2 j ≤ 2147483647 := (g.2 14 (by decide) (by decide)).2.2 j hj
theorem gk15 {h : MH} (g : GI h) : (h.2 15).1 = 0 := (g.2 15 (by decide) (by decide)).1
theorem gl15 {h : MH} (g : GI h) : (h.2 15).2.1 = 144 := (g.2 15 (by decide) (by decide)).2.1
theorem ge15 {h : MH} (g : GI h) {j : Nat} (hj : j < 144) : -2147483648 ≤ (h.2 15).2.2 j ∧ (h.2 15).2.2 j ≤ 2147483647 := (g.2 15 (by decide) (by decide)).2.2 j hj
theorem gk16 {h : MH} (g : GI h) : (h.2 16).1 = 0 := (g.2 16 (by decide) (by decide)).1
theorem gl16 {h : MH} (g : GI h) : (h.2 16).2.1 = 144 := (g.2 16 (by decide) (by decide)).2.1
theorem ge16 {h : MH} (g : GI h) {j : Nat} (hj : j < 144) : -2147483648 ≤ (h.2 16).2.2 j ∧ (h.2 16).2.2 j ≤ 2147483647 := (g.2 16 (by decide) (by decide)).2.2 j hj
theorem gk17 {h : MH} (g : GI h) : (h.2 17).1 = 0 := (g.2 17 (by decide) (by decide)).1
theorem gl17 {h : MH} (g : GI h) : (h.2 17).2.1 = 144 := (g.2 17 (by decide) (by decide)).2.1
theorem ge17 {h : MH} (g : GI h) {j : Nat} (hj : j < 144) : -2147483648 ≤ (h.2 17).2.2 j ∧ (h.2 17).2.2 j ≤ 2147483647 := (g.2 17 (by decide) (by decide)).2.2 j hj
theorem gk18 {h : MH} (g : GI h) : (h.2 18).1 = 0 := (g.2 18 (by decide) (by decide)).1
theorem gl18 {h : MH} (g : GI h) : (h.2 18).2.1 = 4 := (g.2 18 (by decide) (by decide)).2.1
theorem ge18 {h : MH} (g : GI h) {j : Nat} (hj : j < 4) : -2147483648 ≤ (h.2 18).2.2 j ∧ (h.2 18).2.2 j ≤ 2147483647 := (g.2 18 (by decide) (by decide)).2.2 j hj
theorem gk19 {h : MH} (g : GI h) : (h.2 19).1 = 0 := (g.2 19 (by decide) (by decide)).1
theorem gl19 {h : MH} (g : GI h) : (h.2 19).2.1 = 4 := (g.2 19 (by decide) (by decide)).2.1
theorem ge19 {h : MH} (g : GI h) {j : Nat} (hj : j < 4) : -2147483648 ≤ (h.2 19).2.2 j ∧ (h.2 19).2.2 j ≤ 2147483647 := (g.2 19 (by decide) (by decide)).2.2 j hj
theorem gk20 {h : MH} (g : GI h) : (h.2 20).1 = 6 := (g.2 20 (by decide) (by decide)).1
theorem gl20 {h : MH} (g : GI h) : (h.2 20).2.1 = 6 := (g.2 20 (by decide) (by decide)).2.1
theorem ge20 {h : MH} (g : GI h) {j : Nat} (hj : j < 6) : 0 ≤ (h.2 20).2.2 j ∧ (h.2 20).2.2 j ≤ 1099511627776 := (g.2 20 (by decide) (by decide)).2.2 j hj
theorem gk27 {h : MH} (g : GI h) : (h.2 27).1 = 16 + 6 := (g.2 27 (by decide) (by decide)).1
theorem gf27_0 {h : MH} (g : GI h) : (h.2 27).2.2 0 = 28 := by have h1 : 28 ≤ (h.2 27).2.2 0 ∧ (h.2 27).2.2 0 ≤ 28 := (g.2 27 (by decide) (by decide)).2.2 0 (by decide); omega
theorem gf27_1 {h : MH} (g : GI h) : -9223372036854775808 ≤ (h.2 27).2.2 1 ∧ (h.2 27).2.2 1 ≤ 9223372036854775807 := (g.2 27 (by decide) (by decide)).2.2 1 (by decide)
theorem gf27_2 {h : MH} (g : GI h) : (h.2 27).2.2 2 = 29 := by have h1 : 29 ≤ (h.2 27).2.2 2 ∧ (h.2 27).2.2 2 ≤ 29 := (g.2 27 (by decide) (by decide)).2.2 2 (by decide); omega
theorem gf27_3 {h : MH} (g : GI h) : -1 ≤ (h.2 27).2.2 3 ∧ (h.2 27).2.2 3 ≤ 1099511627776 := (g.2 27 (by decide) (by decide)).2.2 3 (by decide)
theorem gf27_4 {h : MH} (g : GI h) : -1 ≤ (h.2 27).2.2 4 ∧ (h.2 27).2.2 4 ≤ 1099511627776 := (g.2 27 (by decide) (by decide)).2.2 4 (by decide)
theorem gf27_5 {h : MH} (g : GI h) : -1 ≤ (h.2 27).2.2 5 ∧ (h.2 27).2.2 5 ≤ 1099511627776 := (g.2 27 (by decide) (by decide)).2.2 5 (by decide)
theorem gf27_6 {h : MH} (g : GI h) : -1 ≤ (h.2 27).2.2 6 ∧ (h.2 27).2.2 6 ≤ 1099511627776 := (g.2 27 (by decide) (by decide)).2.2 6 (by decide)
theorem gf27_7 {h : MH} (g : GI h) : -2147483648 ≤ (h.2 27).2.2 7 ∧ (h.2 27).2.2 7 ≤ 2147483647 := (g.2 27 (by decide) (by decide)).2.2 7 (by decide)
theorem gf27_8 {h : MH} (g : GI h) : -1 ≤ (h.2 27).2.2 8 ∧ (h.2 27).2.2 8 ≤ 1099511627776 := (g.2 27 (by decide) (by decide)).2.2 8 (by decide)
theorem gf27_9 {h : MH} (g : GI h) : -2147483648 ≤ (h.2 27).2.2 9 ∧ (h.2 27).2.2 9 ≤ 2147483647 := (g.2 27 (by decide) (by decide)).2.2 9 (by decide)
theorem gf27_10 {h : MH} (g : GI h) : -2147483648 ≤ (h.2 27).2.2 10 ∧ (h.2 27).2.2 10 ≤ 2147483647 := (g.2 27 (by decide) (by decide)).2.2 10 (by decide)
theorem gk28 {h : MH} (g : GI h) : (h.2 28).1 = 2 := (g.2 28 (by decide) (by decide)).1
theorem gl28 {h : MH} (g : GI h) : (h.2 28).2.1 = 144 := (g.2 28 (by decide) (by decide)).2.1
theorem ge28 {h : MH} (g : GI h) {j : Nat} (hj : j < 144) : 0 ≤ (h.2 28).2.2 j ∧ (h.2 28).2.2 j ≤ 1 := (g.2 28 (by decide) (by decide)).2.2 j hj
theorem gk29 {h : MH} (g : GI h) : (h.2 29).1 = 1 := (g.2 29 (by decide) (by decide)).1
theorem gl29 {h : MH} (g : GI h) : (h.2 29).2.1 = 144 := (g.2 29 (by decide) (by decide)).2.1
theorem ge29 {h : MH} (g : GI h) {j : Nat} (hj : j < 144) : -9223372036854775808 ≤ (h.2 29).2.2 j ∧ (h.2 29).2.2 j ≤ 9223372036854775807 := (g.2 29 (by decide) (by decide)).2.2 j hj
theorem gk30 {h : MH} (g : GI h) : (h.2 30).1 = 1 := (g.2 30 (by decide) (by decide)).1
theorem gl30 {h : MH} (g : GI h) : (h.2 30).2.1 = 1 := (g.2 30 (by decide) (by decide)).2.1
theorem ge30 {h : MH} (g : GI h) {j : Nat} (hj : j < 1) : -9223372036854775808 ≤ (h.2 30).2.2 j ∧ (h.2 30).2.2 j ≤ 9223372036854775807 := (g.2 30 (by decide) (by decide)).2.2 j hj
theorem gk31 {h : MH} (g : GI h) : (h.2 31).1 = 1 := (g.2 31 (by decide) (by decide)).1
theorem gl31 {h : MH} (g : GI h) : (h.2 31).2.1 = 1 := (g.2 31 (by decide) (by decide)).2.1
theorem ge31 {h : MH} (g : GI h) {j : Nat} (hj : j < 1) : -9223372036854775808 ≤ (h.2 31).2.2 j ∧ (h.2 31).2.2 j ≤ 9223372036854775807 := (g.2 31 (by decide) (by decide)).2.2 j hj
theorem gk32 {h : MH} (g : GI h) : (h.2 32).1 = 0 := (g.2 32 (by decide) (by decide)).1
theorem gl32 {h : MH} (g : GI h) : (h.2 32).2.1 = 1 := (g.2 32 (by decide) (by decide)).2.1
theorem ge32 {h : MH} (g : GI h) {j : Nat} (hj : j < 1) : -2147483648 ≤ (h.2 32).2.2 j ∧ (h.2 32).2.2 j ≤ 2147483647 := (g.2 32 (by decide) (by decide)).2.2 j hj
theorem gk33 {h : MH} (g : GI h) : (h.2 33).1 = 0 := (g.2 33 (by decide) (by decide)).1
theorem gl33 {h : MH} (g : GI h) : (h.2 33).2.1 = 1 := (g.2 33 (by decide) (by decide)).2.1
theorem ge33 {h : MH} (g : GI h) {j : Nat} (hj : j < 1) : -2147483648 ≤ (h.2 33).2.2 j ∧ (h.2 33).2.2 j ≤ 2147483647 := (g.2 33 (by decide) (by decide)).2.2 j hj
theorem gk34 {h : MH} (g : GI h) : (h.2 34).1 = 16 + 4 := (g.2 34 (by decide) (by decide)).1
theorem gf34_0 {h : MH} (g : GI h) : (h.2 34).2.2 0 = 35 := by have h1 : 35 ≤ (h.2 34).2.2 0 ∧ (h.2 34).2.2 0 ≤ 35 := (g.2 34 (by decide) (by decide)).2.2 0 (by decide); omega
theorem gf34_1 {h : MH} (g : GI h) : (h.2 34).2.2 1 = 36 := by have h1 : 36 ≤ (h.2 34).2.2 1 ∧ (h.2 34).2.2 1 ≤ 36 := (g.2 34 (by decide) (by decide)).2.2 1 (by decide); omega
theorem gf34_2 {h : MH} (g : GI h) : (h.2 34).2.2 2 = 45 := by have h1 : 45 ≤ (h.2 34).2.2 2 ∧ (h.2 34).2.2 2 ≤ 45 := (g.2 34 (by decide) (by decide)).2.2 2 (by decide); omega
theorem gf34_3 {h : MH} (g : GI h) : (h.2 34).2.2 3 = 50 := by have h1 : 50 ≤ (h.2 34).2.2 3 ∧ (h.2 34).2.2 3 ≤ 50 := (g.2 34 (by decide) (by decide)).2.2 3 (by decide); omega
theorem gf34_4 {h : MH} (g : GI h) : (h.2 34).2.2 4 = 59 := by have h1 : 59 ≤ (h.2 34).2.2 4 ∧ (h.2 34).2.2 4 ≤ 59 := (g.2 34 (by decide) (by decide)).2.2 4 (by decide); omega
theorem gf34_5 {h : MH} (g : GI h) : (h.2 34).2.2 5 = 66 := by have h1 : 66 ≤ (h.2 34).2.2 5 ∧ (h.2 34).2.2 5 ≤ 66 := (g.2 34 (by decide) (by decide)).2.2 5 (by decide); omega
theorem gf34_6 {h : MH} (g : GI h) : (h.2 34).2.2 6 = 71 := by have h1 : 71 ≤ (h.2 34).2.2 6 ∧ (h.2 34).2.2 6 ≤ 71 := (g.2 34 (by decide) (by decide)).2.2 6 (by decide); omega
theorem gf34_7 {h : MH} (g : GI h) : (h.2 34).2.2 7 = 72 := by have h1 : 72 ≤ (h.2 34).2.2 7 ∧ (h.2 34).2.2 7 ≤ 72 := (g.2 34 (by decide) (by decide)).2.2 7 (by decide); omega
theorem gf34_8 {h : MH} (g : GI h) : -2147483648 ≤ (h.2 34).2.2 8 ∧ (h.2 34).2.2 8 ≤ 2147483647 := (g.2 34 (by decide) (by decide)).2.2 8 (by decide)
theorem gf34_9 {h : MH} (g : GI h) : -2147483648 ≤ (h.2 34).2.2 9 ∧ (h.2 34).2.2 9 ≤ 2147483647 := (g.2 34 (by decide) (by decide)).2.2 9 (by decide)
theorem gf34_10 {h : MH} (g : GI h) : (h.2 34).2.2 10 = 73 := by have h1 : 73 ≤ (h.2 34).2.2 10 ∧ (h.2 34).2.2 10 ≤ 73 := (g.2 34 (by decide) (by decide)).2.2 10 (by decide); omega
theorem gf34_11 {h : MH} (g : GI h) : (h.2 34).2.2 11 = 86 := by have h1 : 86 ≤ (h.2 34).2.2 11 ∧ (h.2 34).2.2 11 ≤ 86 := (g.2 34 (by decide) (by decide)).2.2 11 (by decide); omega
theorem gf34_12 {h : MH} (g : GI h) : (h.2 34).2.2 12 = 99 := by have h1 : 99 ≤ (h.2 34).2.2 12 ∧ (h.2 34).2.2 12 ≤ 99 := (g.2 34 (by decide) (by decide)).2.2 12 (by decide); omega
theorem gf34_13 {h : MH} (g : GI h) : (h.2 34).2.2 13 = 112 := by have h1 : 112 ≤ (h.2 34).2.2 13 ∧ (h.2 34).2.2 13 ≤ 112 := (g.2 34 (by decide) (by decide)).2.2 13 (by decide); omega
theorem gf34_14 {h : MH} (g : GI h) : (h.2 34).2.2 14 = 113 := by have h1 : 113 ≤ (h.2 34).2.2 14 ∧ (h.2 34).2.2 14 ≤ 113 := (g.2 34 (by decide) (by decide)).2.2 14 (by decide); omega
theorem gf34_15 {h : MH} (g : GI h) : (h.2 34).2.2 15 = 114 := by have h1 : 114 ≤ (h.2 34).2.2 15 ∧ (h.2 34).2.2 15 ≤ 114 := (g.2 34 (by decide) (by decide)).2.2 15 (by decide); omega
theorem gf34_16 {h : MH} (g : GI h) : (h.2 34).2.2 16 = 115 := by have h1 : 115 ≤ (h.2 34).2.2 16 ∧ (h.2 34).2.2 16 ≤ 115 := (g.2 34 (by decide) (by decide)).2.2 16 (by decide); omega
theorem gf34_17 {h : MH} (g : GI h) : (h.2 34).2.2 17 = 116 := by have h1 : 116 ≤ (h.2 34).2.2 17 ∧ (h.2 34).2.2 17 ≤ 116 := (g.2 34 (by decide) (by decide)).2.2 17 (by decide); omega
theorem gf34_18 {h : MH} (g : GI h) : (h.2 34).2.2 18 = 159 := by have h1 : 159 ≤ (h.2 34).2.2 18 ∧ (h.2 34).2.2 18 ≤ 159 := (g.2 34 (by decide) (by decide)).2.2 18 (by decide); omega
theorem gf34_19 {h : MH} (g : GI h) : (h.2 34).2.2 19 = 160 := by have h1 : 160 ≤ (h.2 34).2.2 19 ∧ (h.2 34).2.2 19 ≤ 160 := (g.2 34 (by decide) (by decide)).2.2 19 (by decide); omega
theorem gk35 {h : MH} (g : GI h) : (h.2 35).1 = 0 := (g.2 35 (by decide) (by decide)).1
theorem gl35 {h : MH} (g : GI h) : (h.2 35).2.1 = 4 := (g.2 35 (by decide) (by decide)).2.1
theorem ge35 {h : MH} (g : GI h) {j : Nat} (hj : j < 4) : -2147483648 ≤ (h.2 35).2.2 j ∧ (h.2 35).2.2 j ≤ 2147483647 := (g.2 35 (by decide) (by decide)).2.2 j hj
theorem gk36 {h : MH} (g : GI h) : (h.2 36).1 = 6 := (g.2 36 (by decide) (by decide)).1
theorem gl36 {h : MH} (g : GI h) : (h.2 36).2.1 = 8 := (g.2 36 (by decide) (by decide)).2.1
theorem ge36 {h : MH} (g : GI h) {j : Nat} (hj : j < 8) : (h.2 36).2.2 j = 37 + 1 * j := by have h1 : (37 : Int) + 1 * j ≤ (h.2 36).2.2 j ∧ (h.2 36).2.2 j ≤ (37 : Int) + 1 * j := (g.2 36 (by decide) (by decide)).2.2 j hj; omega
theorem gk45 {h : MH} (g : GI h) : (h.2 45).1 = 6 := (g.2 45 (by decide) (by decide)).1
theorem gl45 {h : MH} (g : GI h) : (h.2 45).2.1 = 4 := (g.2 45 (by decide) (by decide)).2.1
theorem ge45 {h : MH} (g : GI h) {j : Nat} (hj : j < 4) : (h.2 45).2.2 j = 46 + 1 * j := by have h1 : (46 : Int) + 1 * j ≤ (h.2 45).2.2 j ∧ (h.2 45).2.2 j ≤ (46 : Int) + 1 * j := (g.2 45 (by decide) (by decide)).2.2 j hj; omega
theorem gk46 {h : MH} (g : GI h) : (h.2 46).1 = 0 := (g.2 46 (by decide) (by decide)).1
theorem gl46 {h : MH} (g : GI h) : (h.2 46).2.1 = 2 := (g.2 46 (by decide) (by decide)).2.1
theorem ge46 {h : MH} (g : GI h) {j : Nat} (hj : j < 2) : -2147483648 ≤ (h.2 46).2.2 j ∧ (h.2 46).2.2 j ≤ 2147483647 := (g.2 46 (by decide) (by decide)).2.2 j hj
theorem gk47 {h : MH} (g : GI h) : (h.2 47).1 = 0 := (g.2 47 (by decide) (by decide)).1
theorem gl47 {h : MH} (g : GI h) : (h.2 47).2.1 = 2 := (g.2 47 (by decide) (by decide)).2.1
theorem ge47 {h : MH} (g : GI h) {j : Nat} (hj : j < 2) : -2147483648 ≤ (h.2 47).2.2 j ∧ (h.2 47).2.2 j ≤ 2147483647 := (g.2 47 (by decide) (by decide)).2.2 j hj
theorem gk48 {h : MH} (g : GI h) : (h.2 48).1 = 0 := (g.2 48 (by decide) (by decide)).1
theorem gl48 {h : MH} (g : GI h) : (h.2 48).2.1 = 2 := (g.2 48 (by decide) (by decide)).2.1
theorem ge48 {h : MH} (g : GI h) {j : Nat} (hj : j < 2) : -2147483648 ≤ (h.2 48).2.2 j ∧ (h.2 48).2.2 j ≤ 2147483647 := (g.2 48 (by decide) (by decide)).2.2 j hj
theorem gk49 {h : MH} (g : GI h) : (h.2 49).1 = 0 := (g.2 49 (by decide) (by decide)).1
theorem gl49 {h : MH} (g : GI h) : (h.2 49).2.1 = 2 := (g.2 49 (by decide) (by decide)).2.1
theorem ge49 {h : MH} (g : GI h) {j : Nat} (hj : j < 2) : -2147483648 ≤ (h.2 49).2.2 j ∧ (h.2 49).2.2 j ≤ 2147483647 := (g.2 49 (by decide) (by decide)).2.2 j hj
theorem gk50 {h : MH} (g : GI h) : (h.2 50).1 = 6 := (g.2 50 (by decide) (by decide)).1
theorem gl50 {h : MH} (g : GI h) : (h.2 50).2.1 = 8 := (g.2 50 (by decide) (by decide)).2.1
theorem ge50 {h : MH} (g : GI h) {j : Nat} (hj : j < 8) : (h.2 50).2.2 j = 51 + 1 * j := by have h1 : (51 : Int) + 1 * j ≤ (h.2 50).2.2 j ∧ (h.2 50).2.2 j ≤ (51 : Int) + 1 * j := (g.2 50 (by decide) (by decide)).2.2 j hj; omega
theorem gk59 {h : MH} (g : GI h) : (h.2 59).1 = 6 := (g.2 59 (by decide) (by decide)).1
theorem gl59 {h : MH} (g : GI h) : (h.2 59).2.1 = 6 := (g.2 59 (by decide) (by decide)).2.1
theorem ge59 {h : MH} (g : GI h) {j : Nat} (hj : j < 6) : (h.2 59).2.2 j = 60 + 1 * j := by have h1 : (60 : Int) + 1 * j ≤ (h.2 59).2.2 j ∧ (h.2 59).2.2 j ≤ (60 : Int) + 1 * j := (g.2 59 (by decide) (by decide)).2.2 j hj; omega
theorem gk66 {h : MH} (g : GI h) : (h.2 66).1 = 9 := (g.2 66 (by decide) (by decide)).1
theorem gl66 {h : MH} (g : GI h) : (h.2 66).2.1 = 4 := (g.2 66 (by decide) (by decide)).2.1
theorem ge66 {h : MH} (g : GI h) {j : Nat} (hj : j < 4) : (h.2 66).2.2 j = 67 + 1 * j := by have h1 : (67 : Int) + 1 * j ≤ (h.2 66).2.2 j ∧ (h.2 66).2.2 j ≤ (67 : Int) + 1 * j := (g.2 66 (by decide) (by decide)).2.2 j hj; omega
theorem gk67 {h : MH} (g : GI h) : (h.2 67).1 = 0 := (g.2 67 (by decide) (by decide)).1
theorem gl67 {h : MH} (g : GI h) : (h.2 67).2.1 = 2 := (g.2 67 (by decide) (by decide)).2.1
theorem ge67 {h : MH} (g : GI h) {j : Nat} (hj : j < 2) : -2147483648 ≤ (h.2 67).2.2 j ∧ (h.2 67).2.2 j ≤ 2147483647 := (g.2 67 (by decide) (by decide)).2.2 j hj
theorem gk68 {h : MH} (g : GI h) : (h.2 68).1 = 0 := (g.2 68 (by decide) (by decide)).1
theorem gl68 {h : MH} (g : GI h) : (h.2 68).2.1 = 2 := (g.2 68 (by decide) (by decide)).2.1
theorem ge68 {h : MH} (g : GI h) {j : Nat} (hj : j < 2) : -2147483648 ≤ (h.2 68).2.2 j ∧ (h.2 68).2.2 j ≤ 2147483647 := (g.2 68 (by decide) (by decide)).2.2 j hj
theorem gk69 {h : MH} (g : GI h) : (h.2 69).1 = 0 := (g.2 69 (by decide) (by decide)).1
theorem gl69 {h : MH} (g : GI h) : (h.2 69).2.1 = 2 := (g.2 69 (by decide) (by decide)).2.1
theorem ge69 {h : MH} (g : GI h) {j : Nat} (hj : j < 2) : -2147483648 ≤ (h.2 69).2.2 j ∧ (h.2 69).2.2 j ≤ 2147483647 := (g.2 69 (by decide) (by decide)).2.2 j hj
theorem gk70 {h : MH} (g : GI h) : (h.2 70).1 = 0 := (g.2 70 (by decide) (by decide)).1
theorem gl70 {h : MH} (g : GI h) : (h.2 70).2.1 = 2 := (g.2 70 (by decide) (by decide)).2.1
theorem ge70 {h : MH} (g : GI h) {j : Nat} (hj : j < 2) : -2147483648 ≤ (h.2 70).2.2 j ∧ (h.2 70).2.2 j ≤ 2147483647 := (g.2 70 (by decide) (by decide)).2.2 j hj
theorem gk71 {h : MH} (g : GI h) : (h.2 71).1 = 0 := (g.2 71 (by decide) (by decide)).1
theorem gl71 {h : MH} (g : GI h) : (h.2 71).2.1 = 4 := (g.2 71 (by decide) (by decide)).2.1
theorem ge71 {h : MH} (g : GI h) {j : Nat} (hj : j < 4) : -2147483648 ≤ (h.2 71).2.2 j ∧ (h.2 71).2.2 j ≤ 2147483647 := (g.2 71 (by decide) (by decide)).2.2 j hj
theorem gk72 {h : MH} (g : GI h) : (h.2 72).1 = 0 := (g.2 72 (by decide) (by decide)).1
theorem gl72 {h : MH} (g : GI h) : (h.2 72).2.1 = 12 := (g.2 72 (by decide) (by decide)).2.1
theorem ge72 {h : MH} (g : GI h) {j : Nat} (hj : j < 12) : -2147483648 ≤ (h.2 72).2.2 j ∧ (h.2 72).2.2 j ≤ 2147483647 := (g.2 72 (by decide) (by decide)).2.2 j hj
theorem gk73 {h : MH} (g : GI h) : (h.2 73).1 = 7 := (g.2 73 (by decide) (by decide)).1
theorem gl73 {h : MH} (g : GI h) : (h.2 73).2.1 = 12 := (g.2 73 (by decide) (by decide)).2.1
theorem ge73 {h : MH} (g : GI h) {j : Nat} (hj : j < 12) : (h.2 73).2.2 j = 74 + 1 * j := by have h1 : (74 : Int) + 1 * j ≤ (h.2 73).2.2 j ∧ (h.2 73).2.2 j ≤ (74 : Int) + 1 * j := (g.2 73 (by decide) (by decide)).2.2 j hj; omega
theorem gk86 {h : MH} (g : GI h) : (h.2 86).1 = 7 := (g.2 86 (by decide) (by decide)).1
theorem gl86 {h : MH} (g : GI h) : (h.2 86).2.1 = 12 := (g.2 86 (by decide) (by decide)).2.1
theorem ge86 {h : MH} (g : GI h) {j : Nat} (hj : j < 12) : (h.2 86).2.2 j = 87 + 1 * j := by have h1 : (87 : Int) + 1 * j ≤ (h.2 86).2.2 j ∧ (h.2 86).2.2 j ≤ (87 : Int) + 1 * j := (g.2 86 (by decide) (by decide)).2.2 j hj; omega
theorem gk99 {h : MH} (g : GI h) : (h.2 99).1 = 7 := (g.2 99 (by decide) (by decide)).1
theorem gl99 {h : MH} (g : GI h) : (h.2 99).2.1 = 12 := (g.2 99 (by decide) (by decide)).2.1
theorem ge99 {h : MH} (g : GI h) {j : Nat} (hj : j < 12) : (h.2 99).2.2 j = 100 + 1 * j := by have h1 : (100 : Int) + 1 * j ≤ (h.2 99).2.2 j ∧ (h.2 99).2.2 j ≤ (100 : Int) + 1 * j := (g.2 99 (by decide) (by decide)).2.2 j hj; omega
theorem gk112 {h : MH} (g : GI h) : (h.2 112).1 = 1 := (g.2 112 (by decide) (by decide)).1
theorem gl112 {h : MH} (g : GI h) : (h.2 112).2.1 = 12 := (g.2 112 (by decide) (by decide)).2.1
theorem ge112 {h : MH} (g : GI h) {j : Nat} (hj : j < 12) : -9223372036854775808 ≤ (h.2 112).2.2 j ∧ (h.2 112).2.2 j ≤ 9223372036854775807 := (g.2 112 (by decide) (by decide)).2.2 j hj
theorem gk113 {h : MH} (g : GI h) : (h.2 113).1 = 0 := (g.2 113 (by decide) (by decide)).1
theorem gl113 {h : MH} (g : GI h) : (h.2 113).2.1 = 12 := (g.2 113 (by decide) (by decide)).2.1
theorem ge113 {h : MH} (g : GI h) {j : Nat} (hj : j < 12) : -2147483648 ≤ (h.2 113).2.2 j ∧ (h.2 113).2.2 j ≤ 2147483647 := (g.2 113 (by decide) (by decide)).2.2 j hj
theorem gk114 {h : MH} (g : GI h) : (h.2 114).1 = 1 := (g.2 114 (by decide) (by decide)).1
theorem gl114 {h : MH} (g : GI h) : (h.2 114).2.1 = 21 := (g.2 114 (by decide) (by decide)).2.1
theorem ge114 {h : MH} (g : GI h) {j : Nat} (hj : j < 21) : -9223372036854775808 ≤ (h.2 114).2.2 j ∧ (h.2 114).2.2 j ≤ 9223372036854775807 := (g.2 114 (by decide) (by decide)).2.2 j hj
theorem gk115 {h : MH} (g : GI h) : (h.2 115).1 = 0 := (g.2 115 (by decide) (by decide)).1
theorem gl115 {h : MH} (g : GI h) : (h.2 115).2.1 = 21 := (g.2 115 (by decide) (by decide)).2.1
theorem ge115 {h : MH} (g : GI h) {j : Nat} (hj : j < 21) : -2147483648 ≤ (h.2 115).2.2 j ∧ (h.2 115).2.2 j ≤ 2147483647 := (g.2 115 (by decide) (by decide)).2.2 j hj
theorem gk116 {h : MH} (g : GI h) : (h.2 116).1 = 7 := (g.2 116 (by decide) (by decide)).1
theorem gl116 {h : MH} (g : GI h) : (h.2 116).2.1 = 42 := (g.2 116 (by decide) (by decide)).2.1
theorem ge116 {h : MH} (g : GI h) {j : Nat} (hj : j < 42) : (h.2 116).2.2 j = 117 + 1 * j := by have h1 : (117 : Int) + 1 * j ≤ (h.2 116).2.2 j ∧ (h.2 116).2.2 j ≤ (117 : Int) + 1 * j := (g.2 116 (by decide) (by decide)).2.2 j hj; omega
theorem gk159 {h : MH} (g : GI h) : (h.2 159).1 = 0 := (g.2 159 (by decide) (by decide)).1
theorem gl159 {h : MH} (g : GI h) : (h.2 159).2.1 = 42 := (g.2 159 (by decide) (by decide)).2.1
theorem ge159 {h : MH} (g : GI h) {j : Nat} (hj : j < 42) : -2147483648 ≤ (h.2 159).2.2 j ∧ (h.2 159).2.2 j ≤ 2147483647 := (g.2 159 (by decide) (by decide)).2.2 j hj
theorem gk160 {h : MH} (g : GI h) : (h.2 160).1 = 0 := (g.2 160 (by decide) (by decide)).1
theorem gl160 {h : MH} (g : GI h) : (h.2 160).2.1 = 42 := (g.2 160 (by decide) (by decide)).2.1
theorem ge160 {h : MH} (g : GI h) {j : Nat} (hj : j < 42) : -2147483648 ≤ (h.2 160).2.2 j ∧ (h.2 160).2.2 j ≤ 2147483647 := (g.2 160 (by decide) (by decide)).2.2 j hj
theorem gk161 {h : MH} (g : GI h) : (h.2 161).1 = 16 + 0 := (g.2 161 (by decide) (by decide)).1
theorem gf161_0 {h : MH} (g : GI h) : -2147483648 ≤ (h.2 161).2.2 0 ∧ (h.2 161).2.2 0 ≤ 2147483647 := (g.2 161 (by decide) (by decide)).2.2 0 (by decide)
theorem gf161_1 {h : MH} (g : GI h) : (h.2 161).2.2 1 = 162 := by have h1 : 162 ≤ (h.2 161).2.2 1 ∧ (h.2 161).2.2 1 ≤ 162 := (g.2 161 (by decide) (by decide)).2.2 1 (by decide); omega
theorem gf161_2 {h : MH} (g : GI h) : (h.2 161).2.2 2 = 166 := by have h1 : 166 ≤ (h.2 161).2.2 2 ∧ (h.2 161).2.2 2 ≤ 166 := (g.2 161 (by decide) (by decide)).2.2 2 (by decide); omega
theorem gf161_3 {h : MH} (g : GI h) : (h.2 161).2.2 3 = 167 := by have h1 : 167 ≤ (h.2 161).2.2 3 ∧ (h.2 161).2.2 3 ≤ 167 := (g.2 161 (by decide) (by decide)).2.2 3 (by decide); omega
theorem gf161_4 {h : MH} (g : GI h) : (h.2 161).2.2 4 = 168 := by have h1 : 168 ≤ (h.2 161).2.2 4 ∧ (h.2 161).2.2 4 ≤ 168 := (g.2 161 (by decide) (by decide)).2.2 4 (by decide); omega
theorem gf161_5 {h : MH} (g : GI h) : (h.2 161).2.2 5 = 169 := by have h1 : 169 ≤ (h.2 161).2.2 5 ∧ (h.2 161).2.2 5 ≤ 169 := (g.2 161 (by decide) (by decide)).2.2 5 (by decide); omega
theorem gf161_6 {h : MH} (g : GI h) : -2147483648 ≤ (h.2 161).2.2 6 ∧ (h.2 161).2.2 6 ≤ 2147483647 := (g.2 161 (by decide) (by decide)).2.2 6 (by decide)
theorem gf161_7 {h : MH} (g : GI h) : (h.2 161).2.2 7 = 179 := by have h1 : 179 ≤ (h.2 161).2.2 7 ∧ (h.2 161).2.2 7 ≤ 179 := (g.2 161 (by decide) (by decide)).2.2 7 (by decide); omega
theorem gf161_8 {h : MH} (g : GI h) : -2147483648 ≤ (h.2 161).2.2 8 ∧ (h.2 161).2.2 8 ≤ 2147483647 := (g.2 161 (by decide) (by decide)).2.2 8 (by decide)
theorem gf161_9 {h : MH} (g : GI h) : 0 ≤ (h.2 161).2.2 9 ∧ (h.2 161).2.2 9 ≤ 1 := (g.2 161 (by decide) (by decide)).2.2 9 (by decide)
theorem gf161_10 {h : MH} (g : GI h) : 0 ≤ (h.2 161).2.2 10 ∧ (h.2 161).2.2 10 ≤ 1 := (g.2 161 (by decide) (by decide)).2.2 10 (by decide)
theorem gf161_11 {h : MH} (g : GI h) : (h.2 161).2.2 11 = 180 := by have h1 : 180 ≤ (h.2 161).2.2 11 ∧ (h.2 161).2.2 11 ≤ 180 := (g.2 161 (by decide) (by decide)).2.2 11 (by decide); omega
theorem gf161_12 {h : MH} (g : GI h) : -2147483648 ≤ (h.2 161).2.2 12 ∧ (h.2 161).2.2 12 ≤ 2147483647 := (g.2 161 (by decide) (by decide)).2.2 12 (by decide)
theorem gf161_13 {h : MH} (g : GI h) : (h.2 161).2.2 13 = 181 := by have h1 : 181 ≤ (h.2 161).2.2 13 ∧ (h.2 161).2.2 13 ≤ 181 := (g.2 161 (by decide) (by decide)).2.2 13 (by decide); omega
theorem gf161_14 {h : MH} (g : GI h) : -9223372036854775808 ≤ (h.2 161).2.2 14 ∧ (h.2 161).2.2 14 ≤ 9223372036854775807 := (g.2 161 (by decide) (by decide)).2.2 14 (by decide)
theorem gf161_15 {h : MH} (g : GI h) : (h.2 161).2.2 15 = 182 := by have h1 : 182 ≤ (h.2 161).2.2 15 ∧ (h.2 161).2.2 15 ≤ 182 := (g.2 161 (by decide) (by decide)).2.2 15 (by decide); omega
theorem gf161_16 {h : MH} (g : GI h) : (h.2 161).2.2 16 = 191 := by have h1 : 191 ≤ (h.2 161).2.2 16 ∧ (h.2 161).2.2 16 ≤ 191 := (g.2 161 (by decide) (by decide)).2.2 16 (by decide); omega
theorem gf161_17 {h : MH} (g : GI h) : (h.2 161).2.2 17 = 192 := by have h1 : 192 ≤ (h.2 161).2.2 17 ∧ (h.2 161).2.2 17 ≤ 192 := (g.2 161 (by decide) (by decide)).2.2 17 (by decide); omega
theorem gf161_18 {h : MH} (g : GI h) : (h.2 161).2.2 18 = 193 := by have h1 : 193 ≤ (h.2 161).2.2 18 ∧ (h.2 161).2.2 18 ≤ 193 := (g.2 161 (by decide) (by decide)).2.2 18 (by decide); omega
theorem gf161_19 {h : MH} (g : GI h) : (h.2 161).2.2 19 = 194 := by have h1 : 194 ≤ (h.2 161).2.2 19 ∧ (h.2 161).2.2 19 ≤ 194 := (g.2 161 (by decide) (by decide)).2.2 19 (by decide); omega
theorem gf161_20 {h : MH} (g : GI h) : (h.2 161).2.2 20 = 195 := by have h1 : 195 ≤ (h.2 161).2.2 20 ∧ (h.2 161).2.2 20 ≤ 195 := (g.2 161 (by decide) (by decide)).2.2 20 (by decide); omega
theorem gf161_21 {h : MH} (g : GI h) : (h.2 161).2.2 21 = 196 := by have h1 : 196 ≤ (h.2 161).2.2 21 ∧ (h.2 161).2.2 21 ≤ 196 := (g.2 161 (by decide) (by decide)).2.2 21 (by decide); omega
theorem gk162 {h : MH} (g : GI h) : (h.2 162).1 = 9 := (g.2 162 (by decide) (by decide)).1
theorem gl162 {h : MH} (g : GI h) : (h.2 162).2.1 = 3 := (g.2 162 (by decide) (by decide)).2.1
theorem ge162 {h : MH} (g : GI h) {j : Nat} (hj : j < 3) : (h.2 162).2.2 j = 163 + 1 * j := by have h1 : (163 : Int) + 1 * j ≤ (h.2 162).2.2 j ∧ (h.2 162).2.2 j ≤ (163 : Int) + 1 * j := (g.2 162 (by decide) (by decide)).2.2 j hj; omega
theorem gk163 {h : MH} (g : GI h) : (h.2 163).1 = 0 := (g.2 163 (by decide) (by decide)).1
theorem gl163 {h : MH} (g : GI h) : (h.2 163).2.1 = 2 := (g.2 163 (by decide) (by decide)).2.1
theorem ge163 {h : MH} (g : GI h) {j : Nat} (hj : j < 2) : -2147483648 ≤ (h.2 163).2.2 j ∧ (h.2 163).2.2 j ≤ 2147483647 := (g.2 163 (by decide) (by decide)).2.2 j hj
theorem gk164 {h : MH} (g : GI h) : (h.2 164).1 = 0 := (g.2 164 (by decide) (by decide)).1
theorem gl164 {h : MH} (g : GI h) : (h.2 164).2.1 = 2 := (g.2 164 (by decide) (by decide)).2.1
theorem ge164 {h : MH} (g : GI h) {j : Nat} (hj : j < 2) : -2147483648 ≤ (h.2 164).2.2 j ∧ (h.2 164).2.2 j ≤ 2147483647 := (g.2 164 (by decide) (by decide)).2.2 j hj
theorem gk165 {h : MH} (g : GI h) : (h.2 165).1 = 0 := (g.2 165 (by decide) (by decide)).1
theorem gl165 {h : MH} (g : GI h) : (h.2 165).2.1 = 2 := (g.2 165 (by decide) (by decide)).2.1
theorem ge165 {h : MH} (g : GI h) {j : Nat} (hj : j < 2) : -2147483648 ≤ (h.2 165).2.2 j ∧ (h.2 165).2.2 j ≤ 2147483647 := (g.2 165 (by decide) (by decide)).2.2 j hj
theorem gk166 {h : MH} (g : GI h) : (h.2 166).1 = 2 := (g.2 166 (by decide) (by decide)).1
theorem gl166 {h : MH} (g : GI h) : (h.2 166).2.1 = 6 := (g.2 166 (by decide) (by decide)).2.1
theorem ge166 {h : MH} (g : GI h) {j : Nat} (hj : j < 6) : 0 ≤ (h.2 166).2.2 j ∧ (h.2 166).2.2 j ≤ 1 := (g.2 166 (by decide) (by decide)).2.2 j hj
theorem gk167 {h : MH} (g : GI h) : (h.2 167).1 = 2 := (g.2 167 (by decide) (by decide)).1
theorem gl167 {h : MH} (g : GI h) : (h.2 167).2.1 = 8 := (g.2 167 (by decide) (by decide)).2.1
theorem ge167 {h : MH} (g : GI h) {j : Nat} (hj : j < 8) : 0 ≤ (h.2 167).2.2 j ∧ (h.2 167).2.2 j ≤ 1 := (g.2 167 (by decide) (by decide)).2.2 j hj
theorem gk168 {h : MH} (g : GI h) : (h.2 168).1 = 0 := (g.2 168 (by decide) (by decide)).1
theorem gl168 {h : MH} (g : GI h) : (h.2 168).2.1 = 4 := (g.2 168 (by decide) (by decide)).2.1
theorem ge168 {h : MH} (g : GI h) {j : Nat} (hj : j < 4) : -2147483648 ≤ (h.2 168).2.2 j ∧ (h.2 168).2.2 j ≤ 2147483647 := (g.2 168 (by decide) (by decide)).2.2 j hj
theorem gk169 {h : MH} (g : GI h) : (h.2 169).1 = 6 := (g.2 169 (by decide) (by decide)).1
theorem gl169 {h : MH} (g : GI h) : (h.2 169).2.1 = 9 := (g.2 169 (by decide) (by decide)).2.1
theorem ge169 {h : MH} (g : GI h) {j : Nat} (hj : j < 9) : (h.2 169).2.2 j = 170 + 1 * j := by have h1 : (170 : Int) + 1 * j ≤ (h.2 169).2.2 j ∧ (h.2 169).2.2 j ≤ (170 : Int) + 1 * j := (g.2 169 (by decide) (by decide)).2.2 j hj; omega
theorem gk179 {h : MH} (g : GI h) : (h.2 179).1 = 4 := (g.2 179 (by decide) (by decide)).1
theorem gl179 {h : MH} (g : GI h) : (h.2 179).2.1 = 50 := (g.2 179 (by decide) (by decide)).2.1
theorem ge179 {h : MH} (g : GI h) {j : Nat} (hj : j < 50) : 0 ≤ (h.2 179).2.2 j ∧ (h.2 179).2.2 j ≤ 65535 := (g.2 179 (by decide) (by decide)).2.2 j hj
theorem gk180 {h : MH} (g : GI h) : (h.2 180).1 = 2 := (g.2 180 (by decide) (by decide)).1
theorem gl180 {h : MH} (g : GI h) : (h.2 180).2.1 = 8 := (g.2 180 (by decide) (by decide)).2.1
theorem ge180 {h : MH} (g : GI h) {j : Nat} (hj : j < 8) : 0 ≤ (h.2 180).2.2 j ∧ (h.2 180).2.2 j ≤ 1 := (g.2 180 (by decide) (by decide)).2.2 j hj
theorem gk181 {h : MH} (g : GI h) : (h.2 181).1 = 0 := (g.2 181 (by decide) (by decide)).1
theorem gl181 {h : MH} (g : GI h) : (h.2 181).2.1 = 8 := (g.2 181 (by decide) (by decide)).2.1
theorem ge181 {h : MH} (g : GI h) {j : Nat} (hj : j < 8) : -2147483648 ≤ (h.2 181).2.2 j ∧ (h.2 181).2.2 j ≤ 2147483647 := (g.2 181 (by decide) (by decide)).2.2 j hj
theorem gk182 {h : MH} (g : GI h) : (h.2 182).1 = 7 := (g.2 182 (by decide) (by decide)).1
theorem gl182 {h : MH} (g : GI h) : (h.2 182).2.1 = 8 := (g.2 182 (by decide) (by decide)).2.1
theorem ge182 {h : MH} (g : GI h) {j : Nat} (hj : j < 8) : (h.2 182).2.2 j = 183 + 1 * j := by have h1 : (183 : Int) + 1 * j ≤ (h.2 182).2.2 j ∧ (h.2 182).2.2 j ≤ (183 : Int) + 1 * j := (g.2 182 (by decide) (by decide)).2.2 j hj; omega
theorem gk191 {h : MH} (g : GI h) : (h.2 191).1 = 8 := (g.2 191 (by decide) (by decide)).1
theorem gl191 {h : MH} (g : GI h) : (h.2 191).2.1 = 128 := (g.2 191 (by decide) (by decide)).2.1
theorem ge191 {h : MH} (g : GI h) {j : Nat} (hj : j < 128) : (h.2 191).2.2 j = 209 + 2 * j := by have h1 : (209 : Int) + 2 * j ≤ (h.2 191).2.2 j ∧ (h.2 191).2.2 j ≤ (209 : Int) + 2 * j := (g.2 191 (by decide) (by decide)).2.2 j hj; omega
theorem gk192 {h : MH} (g : GI h) : (h.2 192).1 = 8 := (g.2 192 (by decide) (by decide)).1
theorem gl192 {h : MH} (g : GI h) : (h.2 192).2.1 = 13 := (g.2 192 (by decide) (by decide)).2.1
theorem ge192 {h : MH} (g : GI h) {j : Nat} (hj : j < 13) : (h.2 192).2.2 j = 465 + 2 * j := by have h1 : (465 : Int) + 2 * j ≤ (h.2 192).2.2 j ∧ (h.2 192).2.2 j ≤ (465 : Int) + 2 * j := (g.2 192 (by decide) (by decide)).2.2 j hj; omega
theorem gk193 {h : MH} (g : GI h) : (h.2 193).1 = 8 := (g.2 193 (by decide) (by decide)).1
theorem gl193 {h : MH} (g : GI h) : (h.2 193).2.1 = 6 := (g.2 193 (by decide) (by decide)).2.1
theorem ge193 {h : MH} (g : GI h) {j : Nat} (hj : j < 6) : (h.2 193).2.2 j = 491 + 2 * j := by have h1 : (491 : Int) + 2 * j ≤ (h.2 193).2.2 j ∧ (h.2 193).2.2 j ≤ (491 : Int) + 2 * j := (g.2 193 (by decide) (by decide)).2.2 j hj; omega
theorem gk194 {h : MH} (g : GI h) : (h.2 194).1 = 1 := (g.2 194 (by decide) (by decide)).1
theorem gl194 {h : MH} (g : GI h) : (h.2 194).2.1 = 8 := (g.2 194 (by decide) (by decide)).2.1
theorem ge194 {h : MH} (g : GI h) {j : Nat} (hj : j < 8) : -9223372036854775808 ≤ (h.2 194).2.2 j ∧ (h.2 194).2.2 j ≤ 9223372036854775807 := (g.2 194 (by decide) (by decide)).2.2 j hj
theorem gk195 {h : MH} (g : GI h) : (h.2 195).1 = 1 := (g.2 195 (by decide) (by decide)).1
theorem gl195 {h : MH} (g : GI h) : (h.2 195).2.1 = 10 := (g.2 195 (by decide) (by decide)).2.1
theorem ge195 {h : MH} (g : GI h) {j : Nat} (hj : j < 10) : -9223372036854775808 ≤ (h.2 195).2.2 j ∧ (h.2 195).2.2 j ≤ 9223372036854775807 := (g.2 195 (by decide) (by decide)).2.2 j hj
theorem gk196 {h : MH} (g : GI h) : (h.2 196).1 = 16 + 5 := (g.2 196 (by decide) (by decide)).1
theorem gf196_0 {h : MH} (g : GI h) : (h.2 196).2.2 0 = 197 := by have h1 : 197 ≤ (h.2 196).2.2 0 ∧ (h.2 196).2.2 0 ≤ 197 := (g.2 196 (by decide) (by decide)).2.2 0 (by decide); omega
theorem gf196_1 {h : MH} (g : GI h) : (h.2 196).2.2 1 = 199 := by have h1 : 199 ≤ (h.2 196).2.2 1 ∧ (h.2 196).2.2 1 ≤ 199 := (g.2 196 (by decide) (by decide)).2.2 1 (by decide); omega
theorem gf196_2 {h : MH} (g : GI h) : (h.2 196).2.2 2 = 201 := by have h1 : 201 ≤ (h.2 196).2.2 2 ∧ (h.2 196).2.2 2 ≤ 201 := (g.2 196 (by decide) (by decide)).2.2 2 (by decide); omega
theorem gf196_3 {h : MH} (g : GI h) : (h.2 196).2.2 3 = 203 := by have h1 : 203 ≤ (h.2 196).2.2 3 ∧ (h.2 196).2.2 3 ≤ 203 := (g.2 196 (by decide) (by decide)).2.2 3 (by decide); omega
theorem gf196_4 {h : MH} (g : GI h) : (h.2 196).2.2 4 = 205 := by have h1 : 205 ≤ (h.2 196).2.2 4 ∧ (h.2 196).2.2 4 ≤ 205 := (g.2 196 (by decide) (by decide)).2.2 4 (by decide); omega
theorem gf196_5 {h : MH} (g : GI h) : (h.2 196).2.2 5 = 207 := by have h1 : 207 ≤ (h.2 196).2.2 5 ∧ (h.2 196).2.2 5 ≤ 207 := (g.2 196 (by decide) (by decide)).2.2 5 (by decide); omega
theorem gk503 {h : MH} (g : GI h) : (h.2 503).1 = 16 + 9 := (g.2 503 (by decide) (by decide)).1
theorem gf503_0 {h : MH} (g : GI h) : -2147483648 ≤ (h.2 503).2.2 0 ∧ (h.2 503).2.2 0 ≤ 2147483647 := (g.2 503 (by decide) (by decide)).2.2 0 (by decide)
theorem gf503_1 {h : MH} (g : GI h) : (h.2 503).2.2 1 = 504 := by have h1 : 504 ≤ (h.2 503).2.2 1 ∧ (h.2 503).2.2 1 ≤ 504 := (g.2 503 (by decide) (by decide)).2.2 1 (by decide); omega
theorem gf503_2 {h : MH} (g : GI h) : -2147483648 ≤ (h.2 503).2.2 2 ∧ (h.2 503).2.2 2 ≤ 2147483647 := (g.2 503 (by decide) (by decide)).2.2 2 (by decide)
theorem gf503_3 {h : MH} (g : GI h) : -2147483648 ≤ (h.2 503).2.2 3 ∧ (h.2 503).2.2 3 ≤ 2147483647 := (g.2 503 (by decide) (by decide)).2.2 3 (by decide)
theorem gf503_4 {h : MH} (g : GI h) : -2147483648 ≤ (h.2 503).2.2 4 ∧ (h.2 503).2.2 4 ≤ 2147483647 := (g.2 503 (by decide) (by decide)).2.2 4 (by decide)
theorem gf503_5 {h : MH} (g : GI h) : -2147483648 ≤ (h.2 503).2.2 5 ∧ (h.2 503).2.2 5 ≤ 2147483647 := (g.2 503 (by decide) (by decide)).2.2 5 (by decide)
theorem gf503_6 {h : MH} (g : GI h) : -2147483648 ≤ (h.2 503).2.2 6 ∧ (h.2 503).2.2 6 ≤ 2147483647 := (g.2 503 (by decide) (by decide)).2.2 6 (by decide)
theorem gf503_7 {h : MH} (g : GI h) : (h.2 503).2.2 7 = 519 := by have h1 : 519 ≤ (h.2 503).2.2 7 ∧ (h.2 503).2.2 7 ≤ 519 := (g.2 503 (by decide) (by decide)).2.2 7 (by decide); omega
theorem gf503_8 {h : MH} (g : GI h) : (h.2 503).2.2 8 = 520 := by have h1 : 520 ≤ (h.2 503).2.2 8 ∧ (h.2 503).2.2 8 ≤ 520 := (g.2 503 (by decide) (by decide)).2.2 8 (by decide); omega
theorem gf503_9 {h : MH} (g : GI h) : (h.2 503).2.2 9 = 527 := by have h1 : 527 ≤ (h.2 503).2.2 9 ∧ (h.2 503).2.2 9 ≤ 527 := (g.2 503 (by decide) (by decide)).2.2 9 (by decide); omega
theorem gf503_10 {h : MH} (g : GI h) : (h.2 503).2.2 10 = 534 := by have h1 : 534 ≤ (h.2 503).2.2 10 ∧ (h.2 503).2.2 10 ≤ 534 := (g.2 503 (by decide) (by decide)).2.2 10 (by decide); omega
theorem gf503_11 {h : MH} (g : GI h) : (h.2 503).2.2 11 = 541 := by have h1 : 541 ≤ (h.2 503).2.2 11 ∧ (h.2 503).2.2 11 ≤ 541 := (g.2 503 (by decide) (by decide)).2.2 11 (by decide); omega
theorem gf503_12 {h : MH} (g : GI h) : (h.2 503).2.2 12 = 546 := by have h1 : 546 ≤ (h.2 503).2.2 12 ∧ (h.2 503).2.2 12 ≤ 546 := (g.2 503 (by decide) (by decide)).2.2 12 (by decide); omega
theorem gf503_13 {h : MH} (g : GI h) : (h.2 503).2.2 13 = 547 := by have h1 : 547 ≤ (h.2 503).2.2 13 ∧ (h.2 503).2.2 13 ≤ 547 := (g.2 503 (by decide) (by decide)).2.2 13 (by decide); omega
theorem gf503_14 {h : MH} (g : GI h) : 0 ≤ (h.2 503).2.2 14 ∧ (h.2 503).2.2 14 ≤ 1 := (g.2 503 (by decide) (by decide)).2.2 14 (by decide)
theorem gf503_15 {h : MH} (g : GI h) : (h.2 503).2.2 15 = 556 := by have h1 : 556 ≤ (h.2 503).2.2 15 ∧ (h.2 503).2.2 15 ≤ 556 := (g.2 503 (by decide) (by decide)).2.2 15 (by decide); omega
theorem gf503_16 {h : MH} (g : GI h) : (h.2 503).2.2 16 = 557 := by have h1 : 557 ≤ (h.2 503).2.2 16 ∧ (h.2 503).2.2 16 ≤ 557 := (g.2 503 (by decide) (by decide)).2.2 16 (by decide); omega
theorem gf503_17 {h : MH} (g : GI h) : (h.2 503).2.2 17 = 558 := by have h1 : 558 ≤ (h.2 503).2.2 17 ∧ (h.2 503).2.2 17 ≤ 558 := (g.2 503 (by decide) (by decide)).2.2 17 (by decide); omega
theorem gf503_18 {h : MH} (g : GI h) : 0 ≤ (h.2 503).2.2 18 ∧ (h.2 503).2.2 18 ≤ 1 := (g.2 503 (by decide) (by decide)).2.2 18 (by decide)
theorem gf503_19 {h : MH} (g : GI h) : (h.2 503).2.2 19 = 559 := by have h1 : 559 ≤ (h.2 503).2.2 19 ∧ (h.2 503).2.2 19 ≤ 559 := (g.2 503 (by decide) (by decide)).2.2 19 (by decide); omega
theorem gf503_20 {h : MH} (g : GI h) : (h.2 503).2.2 20 = 560 := by have h1 : 560 ≤ (h.2 503).2.2 20 ∧ (h.2 503).2.2 20 ≤ 560 := (g.2 503 (by decide) (by decide)).2.2 20 (by decide); omega
theorem gf503_21 {h : MH} (g : GI h) : (h.2 503).2.2 21 = 561 := by have h1 : 561 ≤ (h.2 503).2.2 21 ∧ (h.2 503).2.2 21 ≤ 561 := (g.2 503 (by decide) (by decide)).2.2 21 (by decide); omega
theorem gk504 {h : MH} (g : GI h) : (h.2 504).1 = 6 := (g.2 504 (by decide) (by decide)).1
theorem gl504 {h : MH} (g : GI h) : (h.2 504).2.1 = 14 := (g.2 504 (by decide) (by decide)).2.1
theorem ge504 {h : MH} (g : GI h) {j : Nat} (hj : j < 14) : (h.2 504).2.2 j = 505 + 1 * j := by have h1 : (505 : Int) + 1 * j ≤ (h.2 504).2.2 j ∧ (h.2 504).2.2 j ≤ (505 : Int) + 1 * j := (g.2 504 (by decide) (by decide)).2.2 j hj; omega
theorem gk519 {h : MH} (g : GI h) : (h.2 519).1 = 0 := (g.2 519 (by decide) (by decide)).1
theorem gl519 {h : MH} (g : GI h) : (h.2 519).2.1 = 6 := (g.2 519 (by decide) (by decide)).2.1
theorem ge519 {h : MH} (g : GI h) {j : Nat} (hj : j < 6) : -2147483648 ≤ (h.2 519).2.2 j ∧ (h.2 519).2.2 j ≤ 2147483647 := (g.2 519 (by decide) (by decide)).2.2 j hj
theorem gk520 {h : MH} (g : GI h) : (h.2 520).1 = 6 := (g.2 520 (by decide) (by decide)).1
theorem gl520 {h : MH} (g : GI h) : (h.2 520).2.1 = 6 := (g.2 520 (by decide) (by decide)).2.1
theorem ge520 {h : MH} (g : GI h) {j : Nat} (hj : j < 6) : (h.2 520).2.2 j = 521 + 1 * j := by have h1 : (521 : Int) + 1 * j ≤ (h.2 520).2.2 j ∧ (h.2 520).2.2 j ≤ (521 : Int) + 1 * j := (g.2 520 (by decide) (by decide)).2.2 j hj; omega
theorem gk527 {h : MH} (g : GI h) : (h.2 527).1 = 6 := (g.2 527 (by decide) (by decide)).1
theorem gl527 {h : MH} (g : GI h) : (h.2 527).2.1 = 6 := (g.2 527 (by decide) (by decide)).2.1
theorem ge527 {h : MH} (g : GI h) {j : Nat} (hj : j < 6) : (h.2 527).2.2 j = 528 + 1 * j := by have h1 : (528 : Int) + 1 * j ≤ (h.2 527).2.2 j ∧ (h.2 527).2.2 j ≤ (528 : Int) + 1 * j := (g.2 527 (by decide) (by decide)).2.2 j hj; omega
theorem gk534 {h : MH} (g : GI h) : (h.2 534).1 = 6 := (g.2 534 (by decide) (by decide)).1
theorem gl534 {h : MH} (g : GI h) : (h.2 534).2.1 = 6 := (g.2 534 (by decide) (by decide)).2.1
theorem ge534 {h : MH} (g : GI h) {j : Nat} (hj : j < 6) : (h.2 534).2.2 j = 535 + 1 * j := by have h1 : (535 : Int) + 1 * j ≤ (h.2 534).2.2 j ∧ (h.2 534).2.2 j ≤ (535 : Int) + 1 * j := (g.2 534 (by decide) (by decide)).2.2 j hj; omega
theorem gk541 {h : MH} (g : GI h) : (h.2 541).1 = 6 := (g.2 541 (by decide) (by decide)).1
theorem gl541 {h : MH} (g : GI h) : (h.2 541).2.1 = 4 := (g.2 541 (by decide) (by decide)).2.1
theorem ge541 {h : MH} (g : GI h) {j : Nat} (hj : j < 4) : (h.2 541).2.2 j = 542 + 1 * j := by have h1 : (542 : Int) + 1 * j ≤ (h.2 541).2.2 j ∧ (h.2 541).2.2 j ≤ (542 : Int) + 1 * j := (g.2 541 (by decide) (by decide)).2.2 j hj; omega
theorem gk542 {h : MH} (g : GI h) : (h.2 542).1 = 0 := (g.2 542 (by decide) (by decide)).1
theorem gl542 {h : MH} (g : GI h) : (h.2 542).2.1 = 2 := (g.2 542 (by decide) (by decide)).2.1
theorem ge542 {h : MH} (g : GI h) {j : Nat} (hj : j < 2) : -2147483648 ≤ (h.2 542).2.2 j ∧ (h.2 542).2.2 j ≤ 2147483647 := (g.2 542 (by decide) (by decide)).2.2 j hj
theorem gk543 {h : MH} (g : GI h) : (h.2 543).1 = 0 := (g.2 543 (by decide) (by decide)).1
theorem gl543 {h : MH} (g : GI h) : (h.2 543).2.1 = 2 := (g.2 543 (by decide) (by decide)).2.1
theorem ge543 {h : MH} (g : GI h) {j : Nat} (hj : j < 2) : -2147483648 ≤ (h.2 543).2.2 j ∧ (h.2 543).2.2 j ≤ 2147483647 := (g.2 543 (by decide) (by decide)).2.2 j hj
theorem gk544 {h : MH} (g : GI h) : (h.2 544).1 = 0 := (g.2 544 (by decide) (by decide)).1
theorem gl544 {h : MH} (g : GI h) : (h.2 544).2.1 = 2 := (g.2 544 (by decide) (by decide)).2.1
theorem ge544 {h : MH} (g : GI h) {j : Nat} (hj : j < 2) : -2147483648 ≤ (h.2 544).2.2 j ∧ (h.2 544).2.2 j ≤ 2147483647 := (g.2 544 (by decide) (by decide)).2.2 j hj
theorem gk545 {h : MH} (g : GI h) : (h.2 545).1 = 0 := (g.2 545 (by decide) (by decide)).1
theorem gl545 {h : MH} (g : GI h) : (h.2 545).2.1 = 2 := (g.2 545 (by decide) (by decide)).2.1
theorem ge545 {h : MH} (g : GI h) {j : Nat} (hj : j < 2) : -2147483648 ≤ (h.2 545).2.2 j ∧ (h.2 545).2.2 j ≤ 2147483647 := (g.2 545 (by decide) (by decide)).2.2 j hj
theorem gk546 {h : MH} (g : GI h) : (h.2 546).1 = 4 := (g.2 546 (by decide) (by decide)).1
theorem gl546 {h : MH} (g : GI h) : (h.2 546).2.1 = 100 := (g.2 546 (by decide) (by decide)).2.1
theorem ge546 {h : MH} (g : GI h) {j : Nat} (hj : j < 100) : 0 ≤ (h.2 546).2.2 j ∧ (h.2 546).2.2 j ≤ 65535 := (g.2 546 (by decide) (by decide)).2.2 j hj
theorem gk547 {h : MH} (g : GI h) : (h.2 547).1 = 6 := (g.2 547 (by decide) (by decide)).1
theorem gl547 {h : MH} (g : GI h) : (h.2 547).2.1 = 8 := (g.2 547 (by decide) (by decide)).2.1
theorem ge547 {h : MH} (g : GI h) {j : Nat} (hj : j < 8) : (h.2 547).2.2 j = 548 + 1 * j := by have h1 : (548 : Int) + 1 * j ≤ (h.2 547).2.2 j ∧ (h.2 547).2.2 j ≤ (548 : Int) + 1 * j := (g.2 547 (by decide) (by decide)).2.2 j hj; omega
theorem gk556 {h : MH} (g : GI h) : (h.2 556).1 = 0 := (g.2 556 (by decide) (by decide)).1
theorem gl556 {h : MH} (g : GI h) : (h.2 556).2.1 = 7 := (g.2 556 (by decide) (by decide)).2.1
theorem ge556 {h : MH} (g : GI h) {j : Nat} (hj : j < 7) : -2147483648 ≤ (h.2 556).2.2 j ∧ (h.2 556).2.2 j ≤ 2147483647 := (g.2 556 (by decide) (by decide)).2.2 j hj
theorem gk557 {h : MH} (g : GI h) : (h.2 557).1 = 0 := (g.2 557 (by decide) (by decide)).1
theorem gl557 {h : MH} (g : GI h) : (h.2 557).2.1 = 72 := (g.2 557 (by decide) (by decide)).2.1
theorem ge557 {h : MH} (g : GI h) {j : Nat} (hj : j < 72) : -2147483648 ≤ (h.2 557).2.2 j ∧ (h.2 557).2.2 j ≤ 2147483647 := (g.2 557 (by decide) (by decide)).2.2 j hj
theorem gk558 {h : MH} (g : GI h) : (h.2 558).1 = 0 := (g.2 558 (by decide) (by decide)).1
theorem gl558 {h : MH} (g : GI h) : (h.2 558).2.1 = 70 := (g.2 558 (by decide) (by decide)).2.1
theorem ge558 {h : MH} (g : GI h) {j : Nat} (hj : j < 70) : -2147483648 ≤ (h.2 558).2.2 j ∧ (h.2 558).2.2 j ≤ 2147483647 := (g.2 558 (by decide) (by decide)).2.2 j hj
theorem gk559 {h : MH} (g : GI h) : (h.2 559).1 = 8 := (g.2 559 (by decide) (by decide)).1
theorem gl559 {h : MH} (g : GI h) : (h.2 559).2.1 = 8 := (g.2 559 (by decide) (by decide)).2.1
theorem ge559 {h : MH} (g : GI h) {j : Nat} (hj : j < 8) : (h.2 559).2.2 j = 574 + 2 * j := by have h1 : (574 : Int) + 2 * j ≤ (h.2 559).2.2 j ∧ (h.2 559).2.2 j ≤ (574 : Int) + 2 * j := (g.2 559 (by decide) (by decide)).2.2 j hj; omega
theorem gk560 {h : MH} (g : GI h) : (h.2 560).1 = 8 := (g.2 560 (by decide) (by decide)).1
theorem gl560 {h : MH} (g : GI h) : (h.2 560).2.1 = 14 := (g.2 560 (by decide) (by decide)).2.1
theorem ge560 {h : MH} (g : GI h) {j : Nat} (hj : j < 14) : (h.2 560).2.2 j = 590 + 2 * j := by have h1 : (590 : Int) + 2 * j ≤ (h.2 560).2.2 j ∧ (h.2 560).2.2 j ≤ (590 : Int) + 2 * j := (g.2 560 (by decide) (by decide)).2.2 j hj; omega
theorem gk561 {h : MH} (g : GI h) : (h.2 561).1 = 16 + 5 := (g.2 561 (by decide) (by decide)).1
theorem gf561_0 {h : MH} (g : GI h) : (h.2 561).2.2 0 = 562 := by have h1 : 562 ≤ (h.2 561).2.2 0 ∧ (h.2 561).2.2 0 ≤ 562 := (g.2 561 (by decide) (by decide)).2.2 0 (by decide); omega
theorem gf561_1 {h : MH} (g : GI h) : (h.2 561).2.2 1 = 564 := by have h1 : 564 ≤ (h.2 561).2.2 1 ∧ (h.2 561).2.2 1 ≤ 564 := (g.2 561 (by decide) (by decide)).2.2 1 (by decide); omega
theorem gf561_2 {h : MH} (g : GI h) : (h.2 561).2.2 2 = 566 := by have h1 : 566 ≤ (h.2 561).2.2 2 ∧ (h.2 561).2.2 2 ≤ 566 := (g.2 561 (by decide) (by decide)).2.2 2 (by decide); omega
theorem gf561_3 {h : MH} (g : GI h) : (h.2 561).2.2 3 = 568 := by have h1 : 568 ≤ (h.2 561).2.2 3 ∧ (h.2 561).2.2 3 ≤ 568 := (g.2 561 (by decide) (by decide)).2.2 3 (by decide); omega
theorem gf561_4 {h : MH} (g : GI h) : (h.2 561).2.2 4 = 570 := by have h1 : 570 ≤ (h.2 561).2.2 4 ∧ (h.2 561).2.2 4 ≤ 570 := (g.2 561 (by decide) (by decide)).2.2 4 (by decide); omega
theorem gf561_5 {h : MH} (g : GI h) : (h.2 561).2.2 5 = 572 := by have h1 : 572 ≤ (h.2 561).2.2 5 ∧ (h.2 561).2.2 5 ≤ 572 := (g.2 561 (by decide) (by decide)).2.2 5 (by decide); omega
theorem gk618 {h : MH} (g : GI h) : (h.2 618).1 = 16 + 8 := (g.2 618 (by decide) (by decide)).1
theorem gf618_0 {h : MH} (g : GI h) : (h.2 618).2.2 0 = 619 := by have h1 : 619 ≤ (h.2 618).2.2 0 ∧ (h.2 618).2.2 0 ≤ 619 := (g.2 618 (by decide) (by decide)).2.2 0 (by decide); omega
theorem gf618_1 {h : MH} (g : GI h) : -2147483648 ≤ (h.2 618).2.2 1 ∧ (h.2 618).2.2 1 ≤ 2147483647 := (g.2 618 (by decide) (by decide)).2.2 1 (by decide)
theorem gf618_2 {h : MH} (g : GI h) : (h.2 618).2.2 2 = 620 := by have h1 : 620 ≤ (h.2 618).2.2 2 ∧ (h.2 618).2.2 2 ≤ 620 := (g.2 618 (by decide) (by decide)).2.2 2 (by decide); omega
theorem gf618_3 {h : MH} (g : GI h) : -2147483648 ≤ (h.2 618).2.2 3 ∧ (h.2 618).2.2 3 ≤ 2147483647 := (g.2 618 (by decide) (by decide)).2.2 3 (by decide)
theorem gf618_4 {h : MH} (g : GI h) : (h.2 618).2.2 4 = 621 := by have h1 : 621 ≤ (h.2 618).2.2 4 ∧ (h.2 618).2.2 4 ≤ 621 := (g.2 618 (by decide) (by decide)).2.2 4 (by decide); omega
theorem gf618_5 {h : MH} (g : GI h) : -2147483648 ≤ (h.2 618).2.2 5 ∧ (h.2 618).2.2 5 ≤ 2147483647 := (g.2 618 (by decide) (by decide)).2.2 5 (by decide)
theorem gf618_6 {h : MH} (g : GI h) : (h.2 618).2.2 6 = 772 := by have h1 : 772 ≤ (h.2 618).2.2 6 ∧ (h.2 618).2.2 6 ≤ 772 := (g.2 618 (by decide) (by decide)).2.2 6 (by decide); omega
theorem gf618_7 {h : MH} (g : GI h) : (h.2 618).2.2 7 = 773 := by have h1 : 773 ≤ (h.2 618).2.2 7 ∧ (h.2 618).2.2 7 ≤ 773 := (g.2 618 (by decide) (by decide)).2.2 7 (by decide); omega
theorem gf618_8 {h : MH} (g : GI h) : (h.2 618).2.2 8 = 782 := by have h1 : 782 ≤ (h.2 618).2.2 8 ∧ (h.2 618).2.2 8 ≤ 782 := (g.2 618 (by decide) (by decide)).2.2 8 (by decide); omega
theorem gf618_9 {h : MH} (g : GI h) : (h.2 618).2.2 9 = 791 := by have h1 : 791 ≤ (h.2 618).2.2 9 ∧ (h.2 618).2.2 9 ≤ 791 := (g.2 618 (by decide) (by decide)).2.2 9 (by decide); omega
theorem gf618_10 {h : MH} (g : GI h) : (h.2 618).2.2 10 = 792 := by have h1 : 792 ≤ (h.2 618).2.2 10 ∧ (h.2 618).2.2 10 ≤ 792 := (g.2 618 (by decide) (by decide)).2.2 10 (by decide); omega
theorem gf618_11 {h : MH} (g : GI h) : (h.2 618).2.2 11 = 793 := by have h1 : 793 ≤ (h.2 618).2.2 11 ∧ (h.2 618).2.2 11 ≤ 793 := (g.2 618 (by decide) (by decide)).2.2 11 (by decide); omega
theorem gf618_12 {h : MH} (g : GI h) : (h.2 618).2.2 12 = 794 := by have h1 : 794 ≤ (h.2 618).2.2 12 ∧ (h.2 618).2.2 12 ≤ 794 := (g.2 618 (by decide) (by decide)).2.2 12 (by decide); omega
theorem gf618_13 {h : MH} (g : GI h) : -2147483648 ≤ (h.2 618).2.2 13 ∧ (h.2 618).2.2 13 ≤ 2147483647 := (g.2 618 (by decide) (by decide)).2.2 13 (by decide)
theorem gf618_14 {h : MH} (g : GI h) : (h.2 618).2.2 14 = 795 := by have h1 : 795 ≤ (h.2 618).2.2 14 ∧ (h.2 618).2.2 14 ≤ 795 := (g.2 618 (by decide) (by decide)).2.2 14 (by decide); omega
theorem gf618_15 {h : MH} (g : GI h) : -2147483648 ≤ (h.2 618).2.2 15 ∧ (h.2 618).2.2 15 ≤ 2147483647 := (g.2 618 (by decide) (by decide)).2.2 15 (by decide)
theorem gf618_16 {h : MH} (g : GI h) : 0 ≤ (h.2 618).2.2 16 ∧ (h.2 618).2.2 16 ≤ 18446744073709551615 := (g.2 618 (by decide) (by decide)).2.2 16 (by decide)
theorem gf618_17 {h : MH} (g : GI h) : -2147483648 ≤ (h.2 618).2.2 17 ∧ (h.2 618).2.2 17 ≤ 2147483647 := (g.2 618 (by decide) (by decide)).2.2 17 (by decide)
theorem gf618_18 {h : MH} (g : GI h) : (h.2 618).2.2 18 = 816 := by have h1 : 816 ≤ (h.2 618).2.2 18 ∧ (h.2 618).2.2 18 ≤ 816 := (g.2 618 (by decide) (by decide)).2.2 18 (by decide); omega
theorem gf618_19 {h : MH} (g : GI h) : (h.2 618).2.2 19 = 817 := by have h1 : 817 ≤ (h.2 618).2.2 19 ∧ (h.2 618).2.2 19 ≤ 817 := (g.2 618 (by decide) (by decide)).2.2 19 (by decide); omega
theorem gf618_20 {h : MH} (g : GI h) : (h.2 618).2.2 20 = 818 := by have h1 : 818 ≤ (h.2 618).2.2 20 ∧ (h.2 618).2.2 20 ≤ 818 := (g.2 618 (by decide) (by decide)).2.2 20 (by decide); omega
theorem gf618_21 {h : MH} (g : GI h) : (h.2 618).2.2 21 = 831 := by have h1 : 831 ≤ (h.2 618).2.2 21 ∧ (h.2 618).2.2 21 ≤ 831 := (g.2 618 (by decide) (by decide)).2.2 21 (by decide); omega
theorem gk619 {h : MH} (g : GI h) : (h.2 619).1 = 0 := (g.2 619 (by decide) (by decide)).1
theorem gl619 {h : MH} (g : GI h) : (h.2 619).2.1 = 300 := (g.2 619 (by decide) (by decide)).2.1
theorem ge619 {h : MH} (g : GI h) {j : Nat} (hj : j < 300) : -2147483648 ≤ (h.2 619).2.2 j ∧ (h.2 619).2.2 j ≤ 2147483647 := (g.2 619 (by decide) (by decide)).2.2 j hj
theorem gk620 {h : MH} (g : GI h) : (h.2 620).1 = 0 := (g.2 620 (by decide) (by decide)).1
theorem gl620 {h : MH} (g : GI h) : (h.2 620).2.1 = 300 := (g.2 620 (by decide) (by decide)).2.1
theorem ge620 {h : MH} (g : GI h) {j : Nat} (hj : j < 300) : -2147483648 ≤ (h.2 620).2.2 j ∧ (h.2 620).2.2 j ≤ 2147483647 := (g.2 620 (by decide) (by decide)).2.2 j hj
theorem gk621 {h : MH} (g : GI h) : (h.2 621).1 = 6 := (g.2 621 (by decide) (by decide)).1
theorem gl621 {h : MH} (g : GI h) : (h.2 621).2.1 = 150 := (g.2 621 (by decide) (by decide)).2.1
theorem ge621 {h : MH} (g : GI h) {j : Nat} (hj : j < 150) : (h.2 621).2.2 j = 622 + 1 * j := by have h1 : (622 : Int) + 1 * j ≤ (h.2 621).2.2 j ∧ (h.2 621).2.2 j ≤ (622 : Int) + 1 * j := (g.2 621 (by decide) (by decide)).2.2 j hj; omega
theorem gk772 {h : MH} (g : GI h) : (h.2 772).1 = 0 := (g.2 772 (by decide) (by decide)).1
theorem gl772 {h : MH} (g : GI h) : (h.2 772).2.1 = 300 := (g.2 772 (by decide) (by decide)).2.1
theorem ge772 {h : MH} (g : GI h) {j : Nat} (hj : j < 300) : -2147483648 ≤ (h.2 772).2.2 j ∧ (h.2 772).2.2 j ≤ 2147483647 := (g.2 772 (by decide) (by decide)).2.2 j hj
theorem gk773 {h : MH} (g : GI h) : (h.2 773).1 = 6 := (g.2 773 (by decide) (by decide)).1
theorem gl773 {h : MH} (g : GI h) : (h.2 773).2.1 = 8 := (g.2 773 (by decide) (by decide)).2.1
theorem ge773 {h : MH} (g : GI h) {j : Nat} (hj : j < 8) : (h.2 773).2.2 j = 774 + 1 * j := by have h1 : (774 : Int) + 1 * j ≤ (h.2 773).2.2 j ∧ (h.2 773).2.2 j ≤ (774 : Int) + 1 * j := (g.2 773 (by decide) (by decide)).2.2 j hj; omega
theorem gk782 {h : MH} (g : GI h) : (h.2 782).1 = 6 := (g.2 782 (by decide) (by decide)).1
theorem gl782 {h : MH} (g : GI h) : (h.2 782).2.1 = 8 := (g.2 782 (by decide) (by decide)).2.1
theorem ge782 {h : MH} (g : GI h) {j : Nat} (hj : j < 8) : (h.2 782).2.2 j = 783 + 1 * j := by have h1 : (783 : Int) + 1 * j ≤ (h.2 782).2.2 j ∧ (h.2 782).2.2 j ≤ (783 : Int) + 1 * j := (g.2 782 (by decide) (by decide)).2.2 j hj; omega
theorem gk791 {h : MH} (g : GI h) : (h.2 791).1 = 0 := (g.2 791 (by decide) (by decide)).1
theorem gl791 {h : MH} (g : GI h) : (h.2 791).2.1 = 8 := (g.2 791 (by decide) (by decide)).2.1
theorem ge791 {h : MH} (g : GI h) {j : Nat} (hj : j < 8) : -2147483648 ≤ (h.2 791).2.2 j ∧ (h.2 791).2.2 j ≤ 2147483647 := (g.2 791 (by decide) (by decide)).2.2 j hj
theorem gk792 {h : MH} (g : GI h) : (h.2 792).1 = 0 := (g.2 792 (by decide) (by decide)).1
theorem gl792 {h : MH} (g : GI h) : (h.2 792).2.1 = 8 := (g.2 792 (by decide) (by decide)).2.1
theorem ge792 {h : MH} (g : GI h) {j : Nat} (hj : j < 8) : -2147483648 ≤ (h.2 792).2.2 j ∧ (h.2 792).2.2 j ≤ 2147483647 := (g.2 792 (by decide) (by decide)).2.2 j hj
theorem gk793 {h : MH} (g : GI h) : (h.2 793).1 = 0 := (g.2 793 (by decide) (by decide)).1
theorem gl793 {h : MH} (g : GI h) : (h.2 793).2.1 = 2 := (g.2 793 (by decide) (by decide)).2.1
theorem ge793 {h : MH} (g : GI h) {j : Nat} (hj : j < 2) : -2147483648 ≤ (h.2 793).2.2 j ∧ (h.2 793).2.2 j ≤ 2147483647 := (g.2 793 (by decide) (by decide)).2.2 j hj
theorem gk794 {h : MH} (g : GI h) : (h.2 794).1 = 0 := (g.2 794 (by decide) (by decide)).1
theorem gl794 {h : MH} (g : GI h) : (h.2 794).2.1 = 2 := (g.2 794 (by decide) (by decide)).2.1
theorem ge794 {h : MH} (g : GI h) {j : Nat} (hj : j < 2) : -2147483648 ≤ (h.2 794).2.2 j ∧ (h.2 794).2.2 j ≤ 2147483647 := (g.2 794 (by decide) (by decide)).2.2 j hj
theorem gk795 {h : MH} (g : GI h) : (h.2 795).1 = 6 := (g.2 795 (by decide) (by decide)).1
theorem gl795 {h : MH} (g : GI h) : (h.2 795).2.1 = 20 := (g.2 795 (by decide) (by decide)).2.1
theorem ge795 {h : MH} (g : GI h) {j : Nat} (hj : j < 20) : (h.2 795).2.2 j = 796 + 1 * j := by have h1 : (796 : Int) + 1 * j ≤ (h.2 795).2.2 j ∧ (h.2 795).2.2 j ≤ (796 : Int) + 1 * j := (g.2 795 (by decide) (by decide)).2.2 j hj; omega
theorem gk816 {h : MH} (g : GI h) : (h.2 816).1 = 1 := (g.2 816 (by decide) (by decide)).1
theorem gl816 {h : MH} (g : GI h) : (h.2 816).2.1 = 31 := (g.2 816 (by decide) (by decide)).2.1
theorem ge816 {h : MH} (g : GI h) {j : Nat} (hj : j < 31) : -9223372036854775808 ≤ (h.2 816).2.2 j ∧ (h.2 816).2.2 j ≤ 9223372036854775807 := (g.2 816 (by decide) (by decide)).2.2 j hj
theorem gk817 {h : MH} (g : GI h) : (h.2 817).1 = 0 := (g.2 817 (by decide) (by decide)).1
theorem gl817 {h : MH} (g : GI h) : (h.2 817).2.1 = 31 := (g.2 817 (by decide) (by decide)).2.1
theorem ge817 {h : MH} (g : GI h) {j : Nat} (hj : j < 31) : -2147483648 ≤ (h.2 817).2.2 j ∧ (h.2 817).2.2 j ≤ 2147483647 := (g.2 817 (by decide) (by decide)).2.2 j hj
theorem gk818 {h : MH} (g : GI h) : (h.2 818).1 = 16 + 5 := (g.2 818 (by decide) (by decide)).1
theorem gf818_0 {h : MH} (g : GI h) : (h.2 818).2.2 0 = 819 := by have h1 : 819 ≤ (h.2 818).2.2 0 ∧ (h.2 818).2.2 0 ≤ 819 := (g.2 818 (by decide) (by decide)).2.2 0 (by decide); omega
theorem gf818_1 {h : MH} (g : GI h) : (h.2 818).2.2 1 = 821 := by have h1 : 821 ≤ (h.2 818).2.2 1 ∧ (h.2 818).2.2 1 ≤ 821 := (g.2 818 (by decide) (by decide)).2.2 1 (by decide); omega
theorem gf818_2 {h : MH} (g : GI h) : (h.2 818).2.2 2 = 823 := by have h1 : 823 ≤ (h.2 818).2.2 2 ∧ (h.2 818).2.2 2 ≤ 823 := (g.2 818 (by decide) (by decide)).2.2 2 (by decide); omega
theorem gf818_3 {h : MH} (g : GI h) : (h.2 818).2.2 3 = 825 := by have h1 : 825 ≤ (h.2 818).2.2 3 ∧ (h.2 818).2.2 3 ≤ 825 := (g.2 818 (by decide) (by decide)).2.2 3 (by decide); omega
theorem gf818_4 {h : MH} (g : GI h) : (h.2 818).2.2 4 = 827 := by have h1 : 827 ≤ (h.2 818).2.2 4 ∧ (h.2 818).2.2 4 ≤ 827 := (g.2 818 (by decide) (by decide)).2.2 4 (by decide); omega
theorem gf818_5 {h : MH} (g : GI h) : (h.2 818).2.2 5 = 829 := by have h1 : 829 ≤ (h.2 818).2.2 5 ∧ (h.2 818).2.2 5 ≤ 829 := (g.2 818 (by decide) (by decide)).2.2 5 (by decide); omega
theorem gk833 {h : MH} (g : GI h) : (h.2 833).1 = 16 + 7 := (g.2 833 (by decide) (by decide)).1
theorem gf833_0 {h : MH} (g : GI h) : -2147483648 ≤ (h.2 833).2.2 0 ∧ (h.2 833).2.2 0 ≤ 2147483647 := (g.2 833 (by decide) (by decide)).2.2 0 (by decide)
theorem gf833_1 {h : MH} (g : GI h) : (h.2 833).2.2 1 = 834 := by have h1 : 834 ≤ (h.2 833).2.2 1 ∧ (h.2 833).2.2 1 ≤ 834 := (g.2 833 (by decide) (by decide)).2.2 1 (by decide); omega
theorem gf833_2 {h : MH} (g : GI h) : (h.2 833).2.2 2 = 835 := by have h1 : 835 ≤ (h.2 833).2.2 2 ∧ (h.2 833).2.2 2 ≤ 835 := (g.2 833 (by decide) (by decide)).2.2 2 (by decide); omega
theorem gf833_3 {h : MH} (g : GI h) : (h.2 833).2.2 3 = 842 := by have h1 : 842 ≤ (h.2 833).2.2 3 ∧ (h.2 833).2.2 3 ≤ 842 := (g.2 833 (by decide) (by decide)).2.2 3 (by decide); omega
theorem gf833_4 {h : MH} (g : GI h) : (h.2 833).2.2 4 = 843 := by have h1 : 843 ≤ (h.2 833).2.2 4 ∧ (h.2 833).2.2 4 ≤ 843 := (g.2 833 (by decide) (by decide)).2.2 4 (by decide); omega
theorem gf833_5 {h : MH} (g : GI h) : -2147483648 ≤ (h.2 833).2.2 5 ∧ (h.2 833).2.2 5 ≤ 2147483647 := (g.2 833 (by decide) (by decide)).2.2 5 (by decide)
theorem gf833_6 {h : MH} (g : GI h) : (h.2 833).2.2 6 = 844 := by have h1 : 844 ≤ (h.2 833).2.2 6 ∧ (h.2 833).2.2 6 ≤ 844 := (g.2 833 (by decide) (by decide)).2.2 6 (by decide); omega
theorem gf833_7 {h : MH} (g : GI h) : (h.2 833).2.2 7 = 845 := by have h1 : 845 ≤ (h.2 833).2.2 7 ∧ (h.2 833).2.2 7 ≤ 845 := (g.2 833 (by decide) (by decide)).2.2 7 (by decide); omega
theorem gf833_8 {h : MH} (g : GI h) : (h.2 833).2.2 8 = 850 := by have h1 : 850 ≤ (h.2 833).2.2 8 ∧ (h.2 833).2.2 8 ≤ 850 := (g.2 833 (by decide) (by decide)).2.2 8 (by decide); omega
theorem gf833_9 {h : MH} (g : GI h) : -2147483648 ≤ (h.2 833).2.2 9 ∧ (h.2 833).2.2 9 ≤ 2147483647 := (g.2 833 (by decide) (by decide)).2.2 9 (by decide)
theorem gf833_10 {h : MH} (g : GI h) : (h.2 833).2.2 10 = 851 := by have h1 : 851 ≤ (h.2 833).2.2 10 ∧ (h.2 833).2.2 10 ≤ 851 := (g.2 833 (by decide) (by decide)).2.2 10 (by decide); omega
theorem gf833_11 {h : MH} (g : GI h) : -2147483648 ≤ (h.2 833).2.2 11 ∧ (h.2 833).2.2 11 ≤ 2147483647 := (g.2 833 (by decide) (by decide)).2.2 11 (by decide)
theorem gf833_12 {h : MH} (g : GI h) : (h.2 833).2.2 12 = 912 := by have h1 : 912 ≤ (h.2 833).2.2 12 ∧ (h.2 833).2.2 12 ≤ 912 := (g.2 833 (by decide) (by decide)).2.2 12 (by decide); omega
theorem gf833_13 {h : MH} (g : GI h) : (h.2 833).2.2 13 = 913 := by have h1 : 913 ≤ (h.2 833).2.2 13 ∧ (h.2 833).2.2 13 ≤ 913 := (g.2 833 (by decide) (by decide)).2.2 13 (by decide); omega
theorem gf833_14 {h : MH} (g : GI h) : -2147483648 ≤ (h.2 833).2.2 14 ∧ (h.2 833).2.2 14 ≤ 2147483647 := (g.2 833 (by decide) (by decide)).2.2 14 (by decide)
theorem gf833_15 {h : MH} (g : GI h) : -2147483648 ≤ (h.2 833).2.2 15 ∧ (h.2 833).2.2 15 ≤ 2147483647 := (g.2 833 (by decide) (by decide)).2.2 15 (by decide)
theorem gf833_16 {h : MH} (g : GI h) : -2147483648 ≤ (h.2 833).2.2 16 ∧ (h.2 833).2.2 16 ≤ 2147483647 := (g.2 833 (by decide) (by decide)).2.2 16 (by decide)
theorem gf833_17 {h : MH} (g : GI h) : (h.2 833).2.2 17 = 914 := by have h1 : 914 ≤ (h.2 833).2.2 17 ∧ (h.2 833).2.2 17 ≤ 914 := (g.2 833 (by decide) (by decide)).2.2 17 (by decide); omega
theorem gf833_18 {h : MH} (g : GI h) : (h.2 833).2.2 18 = 915 := by have h1 : 915 ≤ (h.2 833).2.2 18 ∧ (h.2 833).2.2 18 ≤ 915 := (g.2 833 (by decide) (by decide)).2.2 18 (by decide); omega
theorem gf833_19 {h : MH} (g : GI h) : (h.2 833).2.2 19 = 1316 := by have h1 : 1316 ≤ (h.2 833).2.2 19 ∧ (h.2 833).2.2 19 ≤ 1316 := (g.2 833 (by decide) (by decide)).2.2 19 (by decide); omega
theorem gf833_20 {h : MH} (g : GI h) : (h.2 833).2.2 20 = 1317 := by have h1 : 1317 ≤ (h.2 833).2.2 20 ∧ (h.2 833).2.2 20 ≤ 1317 := (g.2 833 (by decide) (by decide)).2.2 20 (by decide); omega
theorem gf833_21 {h : MH} (g : GI h) : (h.2 833).2.2 21 = 1318 := by have h1 : 1318 ≤ (h.2 833).2.2 21 ∧ (h.2 833).2.2 21 ≤ 1318 := (g.2 833 (by decide) (by decide)).2.2 21 (by decide); omega
theorem gk834 {h : MH} (g : GI h) : (h.2 834).1 = 0 := (g.2 834 (by decide) (by decide)).1
theorem gl834 {h : MH} (g : GI h) : (h.2 834).2.1 = 6 := (g.2 834 (by decide) (by decide)).2.1
theorem ge834 {h : MH} (g : GI h) {j : Nat} (hj : j < 6) : -2147483648 ≤ (h.2 834).2.2 j ∧ (h.2 834).2.2 j ≤ 2147483647 := (g.2 834 (by decide) (by decide)).2.2 j hj
theorem gk835 {h : MH} (g : GI h) : (h.2 835).1 = 6 := (g.2 835 (by decide) (by decide)).1
theorem gl835 {h : MH} (g : GI h) : (h.2 835).2.1 = 6 := (g.2 835 (by decide) (by decide)).2.1
theorem ge835 {h : MH} (g : GI h) {j : Nat} (hj : j < 6) : (h.2 835).2.2 j = 836 + 1 * j := by have h1 : (836 : Int) + 1 * j ≤ (h.2 835).2.2 j ∧ (h.2 835).2.2 j ≤ (836 : Int) + 1 * j := (g.2 835 (by decide) (by decide)).2.2 j hj; omega
theorem gk844 {h : MH} (g : GI h) : (h.2 844).1 = 0 := (g.2 844 (by decide) (by decide)).1
theorem gl844 {h : MH} (g : GI h) : (h.2 844).2.1 = 3 := (g.2 844 (by decide) (by decide)).2.1
theorem ge844 {h : MH} (g : GI h) {j : Nat} (hj : j < 3) : -2147483648 ≤ (h.2 844).2.2 j ∧ (h.2 844).2.2 j ≤ 2147483647 := (g.2 844 (by decide) (by decide)).2.2 j hj
theorem gk845 {h : MH} (g : GI h) : (h.2 845).1 = 6 := (g.2 845 (by decide) (by decide)).1
theorem gl845 {h : MH} (g : GI h) : (h.2 845).2.1 = 4 := (g.2 845 (by decide) (by decide)).2.1
theorem ge845 {h : MH} (g : GI h) {j : Nat} (hj : j < 4) : (h.2 845).2.2 j = 846 + 1 * j := by have h1 : (846 : Int) + 1 * j ≤ (h.2 845).2.2 j ∧ (h.2 845).2.2 j ≤ (846 : Int) + 1 * j := (g.2 845 (by decide) (by decide)).2.2 j hj; omega
theorem gk846 {h : MH} (g : GI h) : (h.2 846).1 = 0 := (g.2 846 (by decide) (by decide)).1
theorem gl846 {h : MH} (g : GI h) : (h.2 846).2.1 = 15 := (g.2 846 (by decide) (by decide)).2.1
theorem ge846 {h : MH} (g : GI h) {j : Nat} (hj : j < 15) : -2147483648 ≤ (h.2 846).2.2 j ∧ (h.2 846).2.2 j ≤ 2147483647 := (g.2 846 (by decide) (by decide)).2.2 j hj
theorem gk847 {h : MH} (g : GI h) : (h.2 847).1 = 0 := (g.2 847 (by decide) (by decide)).1
theorem gl847 {h : MH} (g : GI h) : (h.2 847).2.1 = 15 := (g.2 847 (by decide) (by decide)).2.1
theorem ge847 {h : MH} (g : GI h) {j : Nat} (hj : j < 15) : -2147483648 ≤ (h.2 847).2.2 j ∧ (h.2 847).2.2 j ≤ 2147483647 := (g.2 847 (by decide) (by decide)).2.2 j hj
theorem gk848 {h : MH} (g : GI h) : (h.2 848).1 = 0 := (g.2 848 (by decide) (by decide)).1
theorem gl848 {h : MH} (g : GI h) : (h.2 848).2.1 = 15 := (g.2 848 (by decide) (by decide)).2.1
theorem ge848 {h : MH} (g : GI h) {j : Nat} (hj : j < 15) : -2147483648 ≤ (h.2 848).2.2 j ∧ (h.2 848).2.2 j ≤ 2147483647 := (g.2 848 (by decide) (by decide)).2.2 j hj
theorem gk849 {h : MH} (g : GI h) : (h.2 849).1 = 0 := (g.2 849 (by decide) (by decide)).1
theorem gl849 {h : MH} (g : GI h) : (h.2 849).2.1 = 15 := (g.2 849 (by decide) (by decide)).2.1
theorem ge849 {h : MH} (g : GI h) {j : Nat} (hj : j < 15) : -2147483648 ≤ (h.2 849).2.2 j ∧ (h.2 849).2.2 j ≤ 2147483647 := (g.2 849 (by decide) (by decide)).2.2 j hj
theorem gk850 {h : MH} (g : GI h) : (h.2 850).1 = 4 := (g.2 850 (by decide) (by decide)).1
theorem gl850 {h : MH} (g : GI h) : (h.2 850).2.1 = 60 := (g.2 850 (by decide) (by decide)).2.1
theorem ge850 {h : MH} (g : GI h) {j : Nat} (hj : j < 60) : 0 ≤ (h.2 850).2.2 j ∧ (h.2 850).2.2 j ≤ 65535 := (g.2 850 (by decide) (by decide)).2.2 j hj
theorem gk851 {h : MH} (g : GI h) : (h.2 851).1 = 6 := (g.2 851 (by decide) (by decide)).1
theorem gl851 {h : MH} (g : GI h) : (h.2 851).2.1 = 60 := (g.2 851 (by decide) (by decide)).2.1
theorem ge851 {h : MH} (g : GI h) {j : Nat} (hj : j < 60) : (h.2 851).2.2 j = 852 + 1 * j := by have h1 : (852 : Int) + 1 * j ≤ (h.2 851).2.2 j ∧ (h.2 851).2.2 j ≤ (852 : Int) + 1 * j := (g.2 851 (by decide) (by decide)).2.2 j hj; omega
theorem gk912 {h : MH} (g : GI h) : (h.2 912).1 = 0 := (g.2 912 (by decide) (by decide)).1
theorem gl912 {h : MH} (g : GI h) : (h.2 912).2.1 = 14 := (g.2 912 (by decide) (by decide)).2.1
theorem ge912 {h : MH} (g : GI h) {j : Nat} (hj : j < 14) : -2147483648 ≤ (h.2 912).2.2 j ∧ (h.2 912).2.2 j ≤ 2147483647 := (g.2 912 (by decide) (by decide)).2.2 j hj
theorem gk913 {h : MH} (g : GI h) : (h.2 913).1 = 0 := (g.2 913 (by decide) (by decide)).1
theorem gl913 {h : MH} (g : GI h) : (h.2 913).2.1 = 14 := (g.2 913 (by decide) (by decide)).2.1
theorem ge913 {h : MH} (g : GI h) {j : Nat} (hj : j < 14) : -2147483648 ≤ (h.2 913).2.2 j ∧ (h.2 913).2.2 j ≤ 2147483647 := (g.2 913 (by decide) (by decide)).2.2 j hj
theorem gk914 {h : MH} (g : GI h) : (h.2 914).1 = 1 := (g.2 914 (by decide) (by decide)).1
theorem gl914 {h : MH} (g : GI h) : (h.2 914).2.1 = 401 := (g.2 914 (by decide) (by decide)).2.1
theorem ge914 {h : MH} (g : GI h) {j : Nat} (hj : j < 401) : -9223372036854775808 ≤ (h.2 914).2.2 j ∧ (h.2 914).2.2 j ≤ 9223372036854775807 := (g.2 914 (by decide) (by decide)).2.2 j hj
theorem gk915 {h : MH} (g : GI h) : (h.2 915).1 = 6 := (g.2 915 (by decide) (by decide)).1
theorem gl915 {h : MH} (g : GI h) : (h.2 915).2.1 = 400 := (g.2 915 (by decide) (by decide)).2.1
theorem ge915 {h : MH} (g : GI h) {j : Nat} (hj : j < 400) : (h.2 915).2.2 j = 916 + 1 * j := by have h1 : (916 : Int) + 1 * j ≤ (h.2 915).2.2 j ∧ (h.2 915).2.2 j ≤ (916 : Int) + 1 * j := (g.2 915 (by decide) (by decide)).2.2 j hj; omega
theorem gk1316 {h : MH} (g : GI h) : (h.2 1316).1 = 0 := (g.2 1316 (by decide) (by decide)).1
theorem gl1316 {h : MH} (g : GI h) : (h.2 1316).2.1 = 1024 := (g.2 1316 (by decide) (by decide)).2.1
theorem ge1316 {h : MH} (g : GI h) {j : Nat} (hj : j < 1024) : -2147483648 ≤ (h.2 1316).2.2 j ∧ (h.2 1316).2.2 j ≤ 2147483647 := (g.2 1316 (by decide) (by decide)).2.2 j hj
theorem gk1317 {h : MH} (g : GI h) : (h.2 1317).1 = 0 := (g.2 1317 (by decide) (by decide)).1
theorem gl1317 {h : MH} (g : GI h) : (h.2 1317).2.1 = 400 := (g.2 1317 (by decide) (by decide)).2.1
theorem ge1317 {h : MH} (g : GI h) {j : Nat} (hj : j < 400) : -2147483648 ≤ (h.2 1317).2.2 j ∧ (h.2 1317).2.2 j ≤ 2147483647 := (g.2 1317 (by decide) (by decide)).2.2 j hj
theorem gk1318 {h : MH} (g : GI h) : (h.2 1318).1 = 0 := (g.2 1318 (by decide) (by decide)).1
theorem gl1318 {h : MH} (g : GI h) : (h.2 1318).2.1 = 3 := (g.2 1318 (by decide) (by decide)).2.1
theorem ge1318 {h : MH} (g : GI h) {j : Nat} (hj : j < 3) : -2147483648 ≤ (h.2 1318).2.2 j ∧ (h.2 1318).2.2 j ≤ 2147483647 := (g.2 1318 (by decide) (by decide)).2.2 j hj
theorem gk1319 {h : MH} (g : GI h) : (h.2 1319).1 = 16 + 2 := (g.2 1319 (by decide) (by decide)).1
theorem gf1319_0 {h : MH} (g : GI h) : (h.2 1319).2.2 0 = 1320 := by have h1 : 1320 ≤ (h.2 1319).2.2 0 ∧ (h.2 1319).2.2 0 ≤ 1320 := (g.2 1319 (by decide) (by decide)).2.2 0 (by decide); omega
theorem gf1319_1 {h : MH} (g : GI h) : (h.2 1319).2.2 1 = 1345 := by have h1 : 1345 ≤ (h.2 1319).2.2 1 ∧ (h.2 1319).2.2 1 ≤ 1345 := (g.2 1319 (by decide) (by decide)).2.2 1 (by decide); omega
theorem gf1319_2 {h : MH} (g : GI h) : -2147483648 ≤ (h.2 1319).2.2 2 ∧ (h.2 1319).2.2 2 ≤ 2147483647 := (g.2 1319 (by decide) (by decide)).2.2 2 (by decide)
theorem gf1319_3 {h : MH} (g : GI h) : (h.2 1319).2.2 3 = 1442 := by have h1 : 1442 ≤ (h.2 1319).2.2 3 ∧ (h.2 1319).2.2 3 ≤ 1442 := (g.2 1319 (by decide) (by decide)).2.2 3 (by decide); omega
theorem gf1319_4 {h : MH} (g : GI h) : (h.2 1319).2.2 4 = 1467 := by have h1 : 1467 ≤ (h.2 1319).2.2 4 ∧ (h.2 1319).2.2 4 ≤ 1467 := (g.2 1319 (by decide) (by decide)).2.2 4 (by decide); omega
theorem gf1319_5 {h : MH} (g : GI h) : (h.2 1319).2.2 5 = 1492 := by have h1 : 1492 ≤ (h.2 1319).2.2 5 ∧ (h.2 1319).2.2 5 ≤ 1492 := (g.2 1319 (by decide) (by decide)).2.2 5 (by decide); omega
theorem gf1319_6 {h : MH} (g : GI h) : -2147483648 ≤ (h.2 1319).2.2 6 ∧ (h.2 1319).2.2 6 ≤ 2147483647 := (g.2 1319 (by decide) (by decide)).2.2 6 (by decide)
theorem gf1319_7 {h : MH} (g : GI h) : (h.2 1319).2.2 7 = 1693 := by have h1 : 1693 ≤ (h.2 1319).2.2 7 ∧ (h.2 1319).2.2 7 ≤ 1693 := (g.2 1319 (by decide) (by decide)).2.2 7 (by decide); omega
theorem gf1319_8 {h : MH} (g : GI h) : -2147483648 ≤ (h.2 1319).2.2 8 ∧ (h.2 1319).2.2 8 ≤ 2147483647 := (g.2 1319 (by decide) (by decide)).2.2 8 (by decide)
theorem gf1319_9 {h : MH} (g : GI h) : (h.2 1319).2.2 9 = 1894 := by have h1 : 1894 ≤ (h.2 1319).2.2 9 ∧ (h.2 1319).2.2 9 ≤ 1894 := (g.2 1319 (by decide) (by decide)).2.2 9 (by decide); omega
theorem gf1319_10 {h : MH} (g : GI h) : -2147483648 ≤ (h.2 1319).2.2 10 ∧ (h.2 1319).2.2 10 ≤ 2147483647 := (g.2 1319 (by decide) (by decide)).2.2 10 (by decide)
theorem gf1319_11 {h : MH} (g : GI h) : (h.2 1319).2.2 11 = 1955 := by have h1 : 1955 ≤ (h.2 1319).2.2 11 ∧ (h.2 1319).2.2 11 ≤ 1955 := (g.2 1319 (by decide) (by decide)).2.2 11 (by decide); omega
theorem gf1319_12 {h : MH} (g : GI h) : -2147483648 ≤ (h.2 1319).2.2 12 ∧ (h.2 1319).2.2 12 ≤ 2147483647 := (g.2 1319 (by decide) (by decide)).2.2 12 (by decide)
theorem gf1319_13 {h : MH} (g : GI h) : (h.2 1319).2.2 13 = 1968 := by have h1 : 1968 ≤ (h.2 1319).2.2 13 ∧ (h.2 1319).2.2 13 ≤ 1968 := (g.2 1319 (by decide) (by decide)).2.2 13 (by decide); omega
theorem gf1319_14 {h : MH} (g : GI h) : (h.2 1319).2.2 14 = 1969 := by have h1 : 1969 ≤ (h.2 1319).2.2 14 ∧ (h.2 1319).2.2 14 ≤ 1969 := (g.2 1319 (by decide) (by decide)).2.2 14 (by decide); omega
theorem gf1319_15 {h : MH} (g : GI h) : -2147483648 ≤ (h.2 1319).2.2 15 ∧ (h.2 1319).2.2 15 ≤ 2147483647 := (g.2 1319 (by decide) (by decide)).2.2 15 (by decide)
theorem gf1319_16 {h : MH} (g : GI h) : (h.2 1319).2.2 16 = 1974 := by have h1 : 1974 ≤ (h.2 1319).2.2 16 ∧ (h.2 1319).2.2 16 ≤ 1974 := (g.2 1319 (by decide) (by decide)).2.2 16 (by decide); omega
theorem gf1319_17 {h : MH} (g : GI h) : (h.2 1319).2.2 17 = 1975 := by have h1 : 1975 ≤ (h.2 1319).2.2 17 ∧ (h.2 1319).2.2 17 ≤ 1975 := (g.2 1319 (by decide) (by decide)).2.2 17 (by decide); omega
theorem gf1319_18 {h : MH} (g : GI h) : (h.2 1319).2.2 18 = 1976 := by have h1 : 1976 ≤ (h.2 1319).2.2 18 ∧ (h.2 1319).2.2 18 ≤ 1976 := (g.2 1319 (by decide) (by decide)).2.2 18 (by decide); omega
theorem gf1319_19 {h : MH} (g : GI h) : (h.2 1319).2.2 19 = 1977 := by have h1 : 1977 ≤ (h.2 1319).2.2 19 ∧ (h.2 1319).2.2 19 ≤ 1977 := (g.2 1319 (by decide) (by decide)).2.2 19 (by decide); omega
theorem gf1319_20 {h : MH} (g : GI h) : (h.2 1319).2.2 20 = 1978 := by have h1 : 1978 ≤ (h.2 1319).2.2 20 ∧ (h.2 1319).2.2 20 ≤ 1978 := (g.2 1319 (by decide) (by decide)).2.2 20 (by decide); omega
theorem gf1319_21 {h : MH} (g : GI h) : (h.2 1319).2.2 21 = 1981 := by have h1 : 1981 ≤ (h.2 1319).2.2 21 ∧ (h.2 1319).2.2 21 ≤ 1981 := (g.2 1319 (by decide) (by decide)).2.2 21 (by decide); omega
theorem gk1320 {h : MH} (g : GI h) : (h.2 1320).1 = 6 := (g.2 1320 (by decide) (by decide)).1
theorem gl1320 {h : MH} (g : GI h) : (h.2 1320).2.1 = 24 := (g.2 1320 (by decide) (by decide)).2.1
theorem ge1320 {h : MH} (g : GI h) {j : Nat} (hj : j < 24) : (h.2 1320).2.2 j = 1321 + 1 * j := by have h1 : (1321 : Int) + 1 * j ≤ (h.2 1320).2.2 j ∧ (h.2 1320).2.2 j ≤ (1321 : Int) + 1 * j := (g.2 1320 (by decide) (by decide)).2.2 j hj; omega
theorem gk1345 {h : MH} (g : GI h) : (h.2 1345).1 = 6 := (g.2 1345 (by decide) (by decide)).1
theorem gl1345 {h : MH} (g : GI h) : (h.2 1345).2.1 = 96 := (g.2 1345 (by decide) (by decide)).2.1
theorem ge1345 {h : MH} (g : GI h) {j : Nat} (hj : j < 96) : (h.2 1345).2.2 j = 1346 + 1 * j := by have h1 : (1346 : Int) + 1 * j ≤ (h.2 1345).2.2 j ∧ (h.2 1345).2.2 j ≤ (1346 : Int) + 1 * j := (g.2 1345 (by decide) (by decide)).2.2 j hj; omega
theorem gk1442 {h : MH} (g : GI h) : (h.2 1442).1 = 6 := (g.2 1442 (by decide) (by decide)).1
theorem gl1442 {h : MH} (g : GI h) : (h.2 1442).2.1 = 24 := (g.2 1442 (by decide) (by decide)).2.1
theorem ge1442 {h : MH} (g : GI h) {j : Nat} (hj : j < 24) : (h.2 1442).2.2 j = 1443 + 1 * j := by have h1 : (1443 : Int) + 1 * j ≤ (h.2 1442).2.2 j ∧ (h.2 1442).2.2 j ≤ (1443 : Int) + 1 * j := (g.2 1442 (by decide) (by decide)).2.2 j hj; omega
theorem gk1467 {h : MH} (g : GI h) : (h.2 1467).1 = 6 := (g.2 1467 (by decide) (by decide)).1
theorem gl1467 {h : MH} (g : GI h) : (h.2 1467).2.1 = 24 := (g.2 1467 (by decide) (by decide)).2.1
theorem ge1467 {h : MH} (g : GI h) {j : Nat} (hj : j < 24) : (h.2 1467).2.2 j = 1468 + 1 * j := by have h1 : (1468 : Int) + 1 * j ≤ (h.2 1467).2.2 j ∧ (h.2 1467).2.2 j ≤ (1468 : Int) + 1 * j := (g.2 1467 (by decide) (by decide)).2.2 j hj; omega
theorem gk1492 {h : MH} (g : GI h) : (h.2 1492).1 = 6 := (g.2 1492 (by decide) (by decide)).1
theorem gl1492 {h : MH} (g : GI h) : (h.2 1492).2.1 = 200 := (g.2 1492 (by decide) (by decide)).2.1
theorem ge1492 {h : MH} (g : GI h) {j : Nat} (hj : j < 200) : (h.2 1492).2.2 j = 1493 + 1 * j := by have h1 : (1493 : Int) + 1 * j ≤ (h.2 1492).2.2 j ∧ (h.2 1492).2.2 j ≤ (1493 : Int) + 1 * j := (g.2 1492 (by decide) (by decide)).2.2 j hj; omega
theorem gk1693 {h : MH} (g : GI h) : (h.2 1693).1 = 6 := (g.2 1693 (by decide) (by decide)).1
theorem gl1693 {h : MH} (g : GI h) : (h.2 1693).2.1 = 200 := (g.2 1693 (by decide) (by decide)).2.1
theorem ge1693 {h : MH} (g : GI h) {j : Nat} (hj : j < 200) : (h.2 1693).2.2 j = 1694 + 1 * j := by have h1 : (1694 : Int) + 1 * j ≤ (h.2 1693).2.2 j ∧ (h.2 1693).2.2 j ≤ (1694 : Int) + 1 * j := (g.2 1693 (by decide) (by decide)).2.2 j hj; omega
theorem gk1894 {h : MH} (g : GI h) : (h.2 1894).1 = 6 := (g.2 1894 (by decide) (by decide)).1
theorem gl1894 {h : MH} (g : GI h) : (h.2 1894).2.1 = 60 := (g.2 1894 (by decide) (by decide)).2.1
theorem ge1894 {h : MH} (g : GI h) {j : Nat} (hj : j < 60) : (h.2 1894).2.2 j = 1895 + 1 * j := by have h1 : (1895 : Int) + 1 * j ≤ (h.2 1894).2.2 j ∧ (h.2 1894).2.2 j ≤ (1895 : Int) + 1 * j := (g.2 1894 (by decide) (by decide)).2.2 j hj; omega
theorem gk1955 {h : MH} (g : GI h) : (h.2 1955).1 = 6 := (g.2 1955 (by decide) (by decide)).1
theorem gl1955 {h : MH} (g : GI h) : (h.2 1955).2.1 = 12 := (g.2 1955 (by decide) (by decide)).2.1
theorem ge1955 {h : MH} (g : GI h) {j : Nat} (hj : j < 12) : (h.2 1955).2.2 j = 1956 + 1 * j := by have h1 : (1956 : Int) + 1 * j ≤ (h.2 1955).2.2 j ∧ (h.2 1955).2.2 j ≤ (1956 : Int) + 1 * j := (g.2 1955 (by decide) (by decide)).2.2 j hj; omega
theorem gk1968 {h : MH} (g : GI h) : (h.2 1968).1 = 1 := (g.2 1968 (by decide) (by decide)).1
theorem gl1968 {h : MH} (g : GI h) : (h.2 1968).2.1 = 10216 := (g.2 1968 (by decide) (by decide)).2.1
theorem ge1968 {h : MH} (g : GI h) {j : Nat} (hj : j < 10216) : -9223372036854775808 ≤ (h.2 1968).2.2 j ∧ (h.2 1968).2.2 j ≤ 9223372036854775807 := (g.2 1968 (by decide) (by decide)).2.2 j hj
theorem gk1969 {h : MH} (g : GI h) : (h.2 1969).1 = 7 := (g.2 1969 (by decide) (by decide)).1
theorem gl1969 {h : MH} (g : GI h) : (h.2 1969).2.1 = 4 := (g.2 1969 (by decide) (by decide)).2.1
theorem ge1969 {h : MH} (g : GI h) {j : Nat} (hj : j < 4) : 0 ≤ (h.2 1969).2.2 j ∧ (h.2 1969).2.2 j ≤ 1099511627776 := (g.2 1969 (by decide) (by decide)).2.2 j hj
theorem gk1970 {h : MH} (g : GI h) : (h.2 1970).1 = 1 := (g.2 1970 (by decide) (by decide)).1
theorem gl1970 {h : MH} (g : GI h) : (h.2 1970).2.1 = 1 := (g.2 1970 (by decide) (by decide)).2.1
theorem ge1970 {h : MH} (g : GI h) {j : Nat} (hj : j < 1) : -9223372036854775808 ≤ (h.2 1970).2.2 j ∧ (h.2 1970).2.2 j ≤ 9223372036854775807 := (g.2 1970 (by decide) (by decide)).2.2 j hj
theorem gk1971 {h : MH} (g : GI h) : (h.2 1971).1 = 1 := (g.2 1971 (by decide) (by decide)).1
theorem gl1971 {h : MH} (g : GI h) : (h.2 1971).2.1 = 1 := (g.2 1971 (by decide) (by decide)).2.1
theorem ge1971 {h : MH} (g : GI h) {j : Nat} (hj : j < 1) : -9223372036854775808 ≤ (h.2 1971).2.2 j ∧ (h.2 1971).2.2 j ≤ 9223372036854775807 := (g.2 1971 (by decide) (by decide)).2.2 j hj
theorem gk1972 {h : MH} (g : GI h) : (h.2 1972).1 = 1 := (g.2 1972 (by decide) (by decide)).1
theorem gl1972 {h : MH} (g : GI h) : (h.2 1972).2.1 = 1 := (g.2 1972 (by decide) (by decide)).2.1
theorem ge1972 {h : MH} (g : GI h) {j : Nat} (hj : j < 1) : -9223372036854775808 ≤ (h.2 1972).2.2 j ∧ (h.2 1972).2.2 j ≤ 9223372036854775807 := (g.2 1972 (by decide) (by decide)).2.2 j hj
theorem gk1973 {h : MH} (g : GI h) : (h.2 1973).1 = 1 := (g.2 1973 (by decide) (by decide)).1
theorem gl1973 {h : MH} (g : GI h) : (h.2 1973).2.1 = 1 := (g.2 1973 (by decide) (by decide)).2.1
theorem ge1973 {h : MH} (g : GI h) {j : Nat} (hj : j < 1) : -9223372036854775808 ≤ (h.2 1973).2.2 j ∧ (h.2 1973).2.2 j ≤ 9223372036854775807 := (g.2 1973 (by decide) (by decide)).2.2 j hj
theorem gk1974 {h : MH} (g : GI h) : (h.2 1974).1 = 1 := (g.2 1974 (by decide) (by decide)).1
theorem gl1974 {h : MH} (g : GI h) : (h.2 1974).2.1 = 24 := (g.2 1974 (by decide) (by decide)).2.1
theorem ge1974 {h : MH} (g : GI h) {j : Nat} (hj : j < 24) : -9223372036854775808 ≤ (h.2 1974).2.2 j ∧ (h.2 1974).2.2 j ≤ 9223372036854775807 := (g.2 1974 (by decide) (by decide)).2.2 j hj
theorem gk1975 {h : MH} (g : GI h) : (h.2 1975).1 = 1 := (g.2 1975 (by decide) (by decide)).1
theorem gl1975 {h : MH} (g : GI h) : (h.2 1975).2.1 = 24 := (g.2 1975 (by decide) (by decide)).2.1
theorem ge1975 {h : MH} (g : GI h) {j : Nat} (hj : j < 24) : -9223372036854775808 ≤ (h.2 1975).2.2 j ∧ (h.2 1975).2.2 j ≤ 9223372036854775807 := (g.2 1975 (by decide) (by decide)).2.2 j hj
theorem gk1976 {h : MH} (g : GI h) : (h.2 1976).1 = 1 := (g.2 1976 (by decide) (by decide)).1
theorem gl1976 {h : MH} (g : GI h) : (h.2 1976).2.1 = 24 := (g.2 1976 (by decide) (by decide)).2.1
theorem ge1976 {h : MH} (g : GI h) {j : Nat} (hj : j < 24) : -9223372036854775808 ≤ (h.2 1976).2.2 j ∧ (h.2 1976).2.2 j ≤ 9223372036854775807 := (g.2 1976 (by decide) (by decide)).2.2 j hj
theorem gk1977 {h : MH} (g : GI h) : (h.2 1977).1 = 1 := (g.2 1977 (by decide) (by decide)).1
theorem gl1977 {h : MH} (g : GI h) : (h.2 1977).2.1 = 24 := (g.2 1977 (by decide) (by decide)).2.1
theorem ge1977 {h : MH} (g : GI h) {j : Nat} (hj : j < 24) : -9223372036854775808 ≤ (h.2 1977).2.2 j ∧ (h.2 1977).2.2 j ≤ 9223372036854775807 := (g.2 1977 (by decide) (by decide)).2.2 j hj
theorem gk1978 {h : MH} (g : GI h) : (h.2 1978).1 = 6 := (g.2 1978 (by decide) (by decide)).1
theorem gl1978 {h : MH} (g : GI h) : (h.2 1978).2.1 = 2 := (g.2 1978 (by decide) (by decide)).2.1
theorem ge1978 {h : MH} (g : GI h) {j : Nat} (hj : j < 2) : (h.2 1978).2.2 j = 1979 + 1 * j := by have h1 : (1979 : Int) + 1 * j ≤ (h.2 1978).2.2 j ∧ (h.2 1978).2.2 j ≤ (1979 : Int) + 1 * j := (g.2 1978 (by decide) (by decide)).2.2 j hj; omega
theorem gk1979 {h : MH} (g : GI h) : (h.2 1979).1 = 0 := (g.2 1979 (by decide) (by decide)).1
theorem gl1979 {h : MH} (g : GI h) : (h.2 1979).2.1 = 24 := (g.2 1979 (by decide) (by decide)).2.1
theorem ge1979 {h : MH} (g : GI h) {j : Nat} (hj : j < 24) : -2147483648 ≤ (h.2 1979).2.2 j ∧ (h.2 1979).2.2 j ≤ 2147483647 := (g.2 1979 (by decide) (by decide)).2.2 j hj
theorem gk1980 {h : MH} (g : GI h) : (h.2 1980).1 = 0 := (g.2 1980 (by decide) (by decide)).1
theorem gl1980 {h : MH} (g : GI h) : (h.2 1980).2.1 = 24 := (g.2 1980 (by decide) (by decide)).2.1
theorem ge1980 {h : MH} (g : GI h) {j : Nat} (hj : j < 24) : -2147483648 ≤ (h.2 1980).2.2 j ∧ (h.2 1980).2.2 j ≤ 2147483647 := (g.2 1980 (by decide) (by decide)).2.2 j hj
theorem gk1981 {h : MH} (g : GI h) : (h.2 1981).1 = 1 := (g.2 1981 (by decide) (by decide)).1
theorem gl1981 {h : MH} (g : GI h) : (h.2 1981).2.1 = 96 := (g.2 1981 (by decide) (by decide)).2.1
theorem ge1981 {h : MH} (g : GI h) {j : Nat} (hj : j < 96) : -9223372036854775808 ≤ (h.2 1981).2.2 j ∧ (h.2 1981).2.2 j ≤ 9223372036854775807 := (g.2 1981 (by decide) (by decide)).2.2 j hj
theorem gk1982 {h : MH} (g : GI h) : (h.2 1982).1 = 16 + 3 := (g.2 1982 (by decide) (by decide)).1
theorem gf1982_0 {h : MH} (g : GI h) : (h.2 1982).2.2 0 = 1983 := by have h1 : 1983 ≤ (h.2 1982).2.2 0 ∧ (h.2 1982).2.2 0 ≤ 1983 := (g.2 1982 (by decide) (by decide)).2.2 0 (by decide); omega
theorem gf1982_1 {h : MH} (g : GI h) : -2147483648 ≤ (h.2 1982).2.2 1 ∧ (h.2 1982).2.2 1 ≤ 2147483647 := (g.2 1982 (by decide) (by decide)).2.2 1 (by decide)
theorem gf1982_2 {h : MH} (g : GI h) : (h.2 1982).2.2 2 = 1984 := by have h1 : 1984 ≤ (h.2 1982).2.2 2 ∧ (h.2 1982).2.2 2 ≤ 1984 := (g.2 1982 (by decide) (by decide)).2.2 2 (by decide); omega
theorem gf1982_3 {h : MH} (g : GI h) : -2147483648 ≤ (h.2 1982).2.2 3 ∧ (h.2 1982).2.2 3 ≤ 2147483647 := (g.2 1982 (by decide) (by decide)).2.2 3 (by decide)
theorem gf1982_4 {h : MH} (g : GI h) : (h.2 1982).2.2 4 = 2185 := by have h1 : 2185 ≤ (h.2 1982).2.2 4 ∧ (h.2 1982).2.2 4 ≤ 2185 := (g.2 1982 (by decide) (by decide)).2.2 4 (by decide); omega
theorem gf1982_5 {h : MH} (g : GI h) : -2147483648 ≤ (h.2 1982).2.2 5 ∧ (h.2 1982).2.2 5 ≤ 2147483647 := (g.2 1982 (by decide) (by decide)).2.2 5 (by decide)
theorem gf1982_6 {h : MH} (g : GI h) : (h.2 1982).2.2 6 = 2194 := by have h1 : 2194 ≤ (h.2 1982).2.2 6 ∧ (h.2 1982).2.2 6 ≤ 2194 := (g.2 1982 (by decide) (by decide)).2.2 6 (by decide); omega
theorem gf1982_7 {h : MH} (g : GI h) : -2147483648 ≤ (h.2 1982).2.2 7 ∧ (h.2 1982).2.2 7 ≤ 2147483647 := (g.2 1982 (by decide) (by decide)).2.2 7 (by decide)
theorem gf1982_8 {h : MH} (g : GI h) : (h.2 1982).2.2 8 = 2235 := by have h1 : 2235 ≤ (h.2 1982).2.2 8 ∧ (h.2 1982).2.2 8 ≤ 2235 := (g.2 1982 (by decide) (by decide)).2.2 8 (by decide); omega
theorem gf1982_9 {h : MH} (g : GI h) : (h.2 1982).2.2 9 = 2296 := by have h1 : 2296 ≤ (h.2 1982).2.2 9 ∧ (h.2 1982).2.2 9 ≤ 2296 := (g.2 1982 (by decide) (by decide)).2.2 9 (by decide); omega
theorem gf1982_10 {h : MH} (g : GI h) : -2147483648 ≤ (h.2 1982).2.2 10 ∧ (h.2 1982).2.2 10 ≤ 2147483647 := (g.2 1982 (by decide) (by decide)).2.2 10 (by decide)
theorem gf1982_11 {h : MH} (g : GI h) : (h.2 1982).2.2 11 = 2297 := by have h1 : 2297 ≤ (h.2 1982).2.2 11 ∧ (h.2 1982).2.2 11 ≤ 2297 := (g.2 1982 (by decide) (by decide)).2.2 11 (by decide); omega
theorem gf1982_12 {h : MH} (g : GI h) : -2147483648 ≤ (h.2 1982).2.2 12 ∧ (h.2 1982).2.2 12 ≤ 2147483647 := (g.2 1982 (by decide) (by decide)).2.2 12 (by decide)
theorem gf1982_13 {h : MH} (g : GI h) : (h.2 1982).2.2 13 = 2318 := by have h1 : 2318 ≤ (h.2 1982).2.2 13 ∧ (h.2 1982).2.2 13 ≤ 2318 := (g.2 1982 (by decide) (by decide)).2.2 13 (by decide); omega
theorem gf1982_14 {h : MH} (g : GI h) : -2147483648 ≤ (h.2 1982).2.2 14 ∧ (h.2 1982).2.2 14 ≤ 2147483647 := (g.2 1982 (by decide) (by decide)).2.2 14 (by decide)
theorem gf1982_15 {h : MH} (g : GI h) : (h.2 1982).2.2 15 = 2332 := by have h1 : 2332 ≤ (h.2 1982).2.2 15 ∧ (h.2 1982).2.2 15 ≤ 2332 := (g.2 1982 (by decide) (by decide)).2.2 15 (by decide); omega
theorem gf1982_16 {h : MH} (g : GI h) : -2147483648 ≤ (h.2 1982).2.2 16 ∧ (h.2 1982).2.2 16 ≤ 2147483647 := (g.2 1982 (by decide) (by decide)).2.2 16 (by decide)
theorem gf1982_17 {h : MH} (g : GI h) : (h.2 1982).2.2 17 = 2343 := by have h1 : 2343 ≤ (h.2 1982).2.2 17 ∧ (h.2 1982).2.2 17 ≤ 2343 := (g.2 1982 (by decide) (by decide)).2.2 17 (by decide); omega
theorem gf1982_18 {h : MH} (g : GI h) : (h.2 1982).2.2 18 = 2344 := by have h1 : 2344 ≤ (h.2 1982).2.2 18 ∧ (h.2 1982).2.2 18 ≤ 2344 := (g.2 1982 (by decide) (by decide)).2.2 18 (by decide); omega
theorem gf1982_19 {h : MH} (g : GI h) : -2147483648 ≤ (h.2 1982).2.2 19 ∧ (h.2 1982).2.2 19 ≤ 2147483647 := (g.2 1982 (by decide) (by decide)).2.2 19 (by decide)
theorem gf1982_20 {h : MH} (g : GI h) : 0 ≤ (h.2 1982).2.2 20 ∧ (h.2 1982).2.2 20 ≤ 1 := (g.2 1982 (by decide) (by decide)).2.2 20 (by decide)
theorem gf1982_21 {h : MH} (g : GI h) : (h.2 1982).2.2 21 = 2445 := by have h1 : 2445 ≤ (h.2 1982).2.2 21 ∧ (h.2 1982).2.2 21 ≤ 2445 := (g.2 1982 (by decide) (by decide)).2.2 21 (by decide); omega
theorem gf1982_22 {h : MH} (g : GI h) : (h.2 1982).2.2 22 = 2446 := by have h1 : 2446 ≤ (h.2 1982).2.2 22 ∧ (h.2 1982).2.2 22 ≤ 2446 := (g.2 1982 (by decide) (by decide)).2.2 22 (by decide); omega
theorem gk1983 {h : MH} (g : GI h) : (h.2 1983).1 = 4 := (g.2 1983 (by decide) (by decide)).1
theorem gl1983 {h : MH} (g : GI h) : (h.2 1983).2.1 = 200 := (g.2 1983 (by decide) (by decide)).2.1
theorem ge1983 {h : MH} (g : GI h) {j : Nat} (hj : j < 200) : 0 ≤ (h.2 1983).2.2 j ∧ (h.2 1983).2.2 j ≤ 65535 := (g.2 1983 (by decide) (by decide)).2.2 j hj
theorem gk1984 {h : MH} (g : GI h) : (h.2 1984).1 = 6 := (g.2 1984 (by decide) (by decide)).1
theorem gl1984 {h : MH} (g : GI h) : (h.2 1984).2.1 = 200 := (g.2 1984 (by decide) (by decide)).2.1
theorem ge1984 {h : MH} (g : GI h) {j : Nat} (hj : j < 200) : (h.2 1984).2.2 j = 1985 + 1 * j := by have h1 : (1985 : Int) + 1 * j ≤ (h.2 1984).2.2 j ∧ (h.2 1984).2.2 j ≤ (1985 : Int) + 1 * j := (g.2 1984 (by decide) (by decide)).2.2 j hj; omega
theorem gk2185 {h : MH} (g : GI h) : (h.2 2185).1 = 6 := (g.2 2185 (by decide) (by decide)).1
theorem gl2185 {h : MH} (g : GI h) : (h.2 2185).2.1 = 8 := (g.2 2185 (by decide) (by decide)).2.1
theorem ge2185 {h : MH} (g : GI h) {j : Nat} (hj : j < 8) : (h.2 2185).2.2 j = 2186 + 1 * j := by have h1 : (2186 : Int) + 1 * j ≤ (h.2 2185).2.2 j ∧ (h.2 2185).2.2 j ≤ (2186 : Int) + 1 * j := (g.2 2185 (by decide) (by decide)).2.2 j hj; omega
theorem gk2194 {h : MH} (g : GI h) : (h.2 2194).1 = 6 := (g.2 2194 (by decide) (by decide)).1
theorem gl2194 {h : MH} (g : GI h) : (h.2 2194).2.1 = 40 := (g.2 2194 (by decide) (by decide)).2.1
theorem ge2194 {h : MH} (g : GI h) {j : Nat} (hj : j < 40) : (h.2 2194).2.2 j = 2195 + 1 * j := by have h1 : (2195 : Int) + 1 * j ≤ (h.2 2194).2.2 j ∧ (h.2 2194).2.2 j ≤ (2195 : Int) + 1 * j := (g.2 2194 (by decide) (by decide)).2.2 j hj; omega
theorem gk2235 {h : MH} (g : GI h) : (h.2 2235).1 = 6 := (g.2 2235 (by decide) (by decide)).1
theorem gl2235 {h : MH} (g : GI h) : (h.2 2235).2.1 = 60 := (g.2 2235 (by decide) (by decide)).2.1
theorem ge2235 {h : MH} (g : GI h) {j : Nat} (hj : j < 60) : (h.2 2235).2.2 j = 2236 + 1 * j := by have h1 : (2236 : Int) + 1 * j ≤ (h.2 2235).2.2 j ∧ (h.2 2235).2.2 j ≤ (2236 : Int) + 1 * j := (g.2 2235 (by decide) (by decide)).2.2 j hj; omega
theorem gk2296 {h : MH} (g : GI h) : (h.2 2296).1 = 1 := (g.2 2296 (by decide) (by decide)).1
theorem gl2296 {h : MH} (g : GI h) : (h.2 2296).2.1 = 60 := (g.2 2296 (by decide) (by decide)).2.1
theorem ge2296 {h : MH} (g : GI h) {j : Nat} (hj : j < 60) : -9223372036854775808 ≤ (h.2 2296).2.2 j ∧ (h.2 2296).2.2 j ≤ 9223372036854775807 := (g.2 2296 (by decide) (by decide)).2.2 j hj
theorem gk2297 {h : MH} (g : GI h) : (h.2 2297).1 = 6 := (g.2 2297 (by decide) (by decide)).1
theorem gl2297 {h : MH} (g : GI h) : (h.2 2297).2.1 = 20 := (g.2 2297 (by decide) (by decide)).2.1
theorem ge2297 {h : MH} (g : GI h) {j : Nat} (hj : j < 20) : (h.2 2297).2.2 j = 2298 + 1 * j := by have h1 : (2298 : Int) + 1 * j ≤ (h.2 2297).2.2 j ∧ (h.2 2297).2.2 j ≤ (2298 : Int) + 1 * j := (g.2 2297 (by decide) (by decide)).2.2 j hj; omega
theorem gk2318 {h : MH} (g : GI h) : (h.2 2318).1 = 6 := (g.2 2318 (by decide) (by decide)).1
theorem gl2318 {h : MH} (g : GI h) : (h.2 2318).2.1 = 13 := (g.2 2318 (by decide) (by decide)).2.1
theorem ge2318 {h : MH} (g : GI h) {j : Nat} (hj : j < 13) : (h.2 2318).2.2 j = 2319 + 1 * j := by have h1 : (2319 : Int) + 1 * j ≤ (h.2 2318).2.2 j ∧ (h.2 2318).2.2 j ≤ (2319 : Int) + 1 * j := (g.2 2318 (by decide) (by decide)).2.2 j hj; omega
theorem gk2332 {h : MH} (g : GI h) : (h.2 2332).1 = 6 := (g.2 2332 (by decide) (by decide)).1
theorem gl2332 {h : MH} (g : GI h) : (h.2 2332).2.1 = 10 := (g.2 2332 (by decide) (by decide)).2.1
theorem ge2332 {h : MH} (g : GI h) {j : Nat} (hj : j < 10) : (h.2 2332).2.2 j = 2333 + 1 * j := by have h1 : (2333 : Int) + 1 * j ≤ (h.2 2332).2.2 j ∧ (h.2 2332).2.2 j ≤ (2333 : Int) + 1 * j := (g.2 2332 (by decide) (by decide)).2.2 j hj; omega
theorem gk2343 {h : MH} (g : GI h) : (h.2 2343).1 = 0 := (g.2 2343 (by decide) (by decide)).1
theorem gl2343 {h : MH} (g : GI h) : (h.2 2343).2.1 = 4 := (g.2 2343 (by decide) (by decide)).2.1
theorem ge2343 {h : MH} (g : GI h) {j : Nat} (hj : j < 4) : -2147483648 ≤ (h.2 2343).2.2 j ∧ (h.2 2343).2.2 j ≤ 2147483647 := (g.2 2343 (by decide) (by decide)).2.2 j hj
theorem gk2344 {h : MH} (g : GI h) : (h.2 2344).1 = 6 := (g.2 2344 (by decide) (by decide)).1
theorem gl2344 {h : MH} (g : GI h) : (h.2 2344).2.1 = 100 := (g.2 2344 (by decide) (by decide)).2.1
theorem ge2344 {h : MH} (g : GI h) {j : Nat} (hj : j < 100) : (h.2 2344).2.2 j = 2345 + 1 * j := by have h1 : (2345 : Int) + 1 * j ≤ (h.2 2344).2.2 j ∧ (h.2 2344).2.2 j ≤ (2345 : Int) + 1 * j := (g.2 2344 (by decide) (by decide)).2.2 j hj; omega
theorem gk2445 {h : MH} (g : GI h) : (h.2 2445).1 = 1 := (g.2 2445 (by decide) (by decide)).1
theorem gl2445 {h : MH} (g : GI h) : (h.2 2445).2.1 = 41 := (g.2 2445 (by decide) (by decide)).2.1
theorem ge2445 {h : MH} (g : GI h) {j : Nat} (hj : j < 41) : -9223372036854775808 ≤ (h.2 2445).2.2 j ∧ (h.2 2445).2.2 j ≤ 9223372036854775807 := (g.2 2445 (by decide) (by decide)).2.2 j hj
theorem gk2446 {h : MH} (g : GI h) : (h.2 2446).1 = 4 := (g.2 2446 (by decide) (by decide)).1
theorem gl2446 {h : MH} (g : GI h) : (h.2 2446).2.1 = 408 := (g.2 2446 (by decide) (by decide)).2.1
theorem ge2446 {h : MH} (g : GI h) {j : Nat} (hj : j < 408) : 0 ≤ (h.2 2446).2.2 j ∧ (h.2 2446).2.2 j ≤ 65535 := (g.2 2446 (by decide) (by decide)).2.2 j hj
theorem gk2447 {h : MH} (g : GI h) : (h.2 2447).1 = 2 := (g.2 2447 (by decide) (by decide)).1
theorem gl2447 {h : MH} (g : GI h) : (h.2 2447).2.1 = 6 := (g.2 2447 (by decide) (by decide)).2.1
theorem ge2447 {h : MH} (g : GI h) {j : Nat} (hj : j < 6) : 0 ≤ (h.2 2447).2.2 j ∧ (h.2 2447).2.2 j ≤ 1 := (g.2 2447 (by decide) (by decide)).2.2 j hj
theorem gk2448 {h : MH} (g : GI h) : (h.2 2448).1 = 16 + 20 := (g.2 2448 (by decide) (by decide)).1
theorem gf2448_0 {h : MH} (g : GI h) : -2147483648 ≤ (h.2 2448).2.2 0 ∧ (h.2 2448).2.2 0 ≤ 2147483647 := (g.2 2448 (by decide) (by decide)).2.2 0 (by decide)
theorem gf2448_1 {h : MH} (g : GI h) : (h.2 2448).2.2 1 = 2449 := by have h1 : 2449 ≤ (h.2 2448).2.2 1 ∧ (h.2 2448).2.2 1 ≤ 2449 := (g.2 2448 (by decide) (by decide)).2.2 1 (by decide); omega
theorem gf2448_2 {h : MH} (g : GI h) : (h.2 2448).2.2 2 = 2468 := by have h1 : 2468 ≤ (h.2 2448).2.2 2 ∧ (h.2 2448).2.2 2 ≤ 2468 := (g.2 2448 (by decide) (by decide)).2.2 2 (by decide); omega
theorem gf2448_3 {h : MH} (g : GI h) : (h.2 2448).2.2 3 = 2495 := by have h1 : 2495 ≤ (h.2 2448).2.2 3 ∧ (h.2 2448).2.2 3 ≤ 2495 := (g.2 2448 (by decide) (by decide)).2.2 3 (by decide); omega
theorem gf2448_4 {h : MH} (g : GI h) : (h.2 2448).2.2 4 = 2514 := by have h1 : 2514 ≤ (h.2 2448).2.2 4 ∧ (h.2 2448).2.2 4 ≤ 2514 := (g.2 2448 (by decide) (by decide)).2.2 4 (by decide); omega
theorem gf2448_5 {h : MH} (g : GI h) : (h.2 2448).2.2 5 = 2534 := by have h1 : 2534 ≤ (h.2 2448).2.2 5 ∧ (h.2 2448).2.2 5 ≤ 2534 := (g.2 2448 (by decide) (by decide)).2.2 5 (by decide); omega
theorem gf2448_6 {h : MH} (g : GI h) : (h.2 2448).2.2 6 = 2551 := by have h1 : 2551 ≤ (h.2 2448).2.2 6 ∧ (h.2 2448).2.2 6 ≤ 2551 := (g.2 2448 (by decide) (by decide)).2.2 6 (by decide); omega
theorem gf2448_7 {h : MH} (g : GI h) : (h.2 2448).2.2 7 = 2570 := by have h1 : 2570 ≤ (h.2 2448).2.2 7 ∧ (h.2 2448).2.2 7 ≤ 2570 := (g.2 2448 (by decide) (by decide)).2.2 7 (by decide); omega
theorem gf2448_8 {h : MH} (g : GI h) : (h.2 2448).2.2 8 = 2595 := by have h1 : 2595 ≤ (h.2 2448).2.2 8 ∧ (h.2 2448).2.2 8 ≤ 2595 := (g.2 2448 (by decide) (by decide)).2.2 8 (by decide); omega
theorem gf2448_9 {h : MH} (g : GI h) : (h.2 2448).2.2 9 = 2619 := by have h1 : 2619 ≤ (h.2 2448).2.2 9 ∧ (h.2 2448).2.2 9 ≤ 2619 := (g.2 2448 (by decide) (by decide)).2.2 9 (by decide); omega
theorem gf2448_10 {h : MH} (g : GI h) : (h.2 2448).2.2 10 = 2620 := by have h1 : 2620 ≤ (h.2 2448).2.2 10 ∧ (h.2 2448).2.2 10 ≤ 2620 := (g.2 2448 (by decide) (by decide)).2.2 10 (by decide); omega
theorem gf2448_11 {h : MH} (g : GI h) : (h.2 2448).2.2 11 = 2621 := by have h1 : 2621 ≤ (h.2 2448).2.2 11 ∧ (h.2 2448).2.2 11 ≤ 2621 := (g.2 2448 (by decide) (by decide)).2.2 11 (by decide); omega
theorem gf2448_12 {h : MH} (g : GI h) : (h.2 2448).2.2 12 = 2622 := by have h1 : 2622 ≤ (h.2 2448).2.2 12 ∧ (h.2 2448).2.2 12 ≤ 2622 := (g.2 2448 (by decide) (by decide)).2.2 12 (by decide); omega
theorem gf2448_13 {h : MH} (g : GI h) : -2147483648 ≤ (h.2 2448).2.2 13 ∧ (h.2 2448).2.2 13 ≤ 2147483647 := (g.2 2448 (by decide) (by decide)).2.2 13 (by decide)
theorem gf2448_14 {h : MH} (g : GI h) : (h.2 2448).2.2 14 = 2623 := by have h1 : 2623 ≤ (h.2 2448).2.2 14 ∧ (h.2 2448).2.2 14 ≤ 2623 := (g.2 2448 (by decide) (by decide)).2.2 14 (by decide); omega
theorem gf2448_15 {h : MH} (g : GI h) : (h.2 2448).2.2 15 = 2624 := by have h1 : 2624 ≤ (h.2 2448).2.2 15 ∧ (h.2 2448).2.2 15 ≤ 2624 := (g.2 2448 (by decide) (by decide)).2.2 15 (by decide); omega
theorem gf2448_16 {h : MH} (g : GI h) : (h.2 2448).2.2 16 = 2625 := by have h1 : 2625 ≤ (h.2 2448).2.2 16 ∧ (h.2 2448).2.2 16 ≤ 2625 := (g.2 2448 (by decide) (by decide)).2.2 16 (by decide); omega
theorem gf2448_17 {h : MH} (g : GI h) : (h.2 2448).2.2 17 = 2626 := by have h1 : 2626 ≤ (h.2 2448).2.2 17 ∧ (h.2 2448).2.2 17 ≤ 2626 := (g.2 2448 (by decide) (by decide)).2.2 17 (by decide); omega
theorem gf2448_18 {h : MH} (g : GI h) : -2147483648 ≤ (h.2 2448).2.2 18 ∧ (h.2 2448).2.2 18 ≤ 2147483647 := (g.2 2448 (by decide) (by decide)).2.2 18 (by decide)
theorem gk2449 {h : MH} (g : GI h) : (h.2 2449).1 = 16 + 12 := (g.2 2449 (by decide) (by decide)).1
theorem gf2449_0 {h : MH} (g : GI h) : -2147483648 ≤ (h.2 2449).2.2 0 ∧ (h.2 2449).2.2 0 ≤ 2147483647 := (g.2 2449 (by decide) (by decide)).2.2 0 (by decide)
theorem gf2449_1 {h : MH} (g : GI h) : -2147483648 ≤ (h.2 2449).2.2 1 ∧ (h.2 2449).2.2 1 ≤ 2147483647 := (g.2 2449 (by decide) (by decide)).2.2 1 (by decide)
theorem gf2449_2 {h : MH} (g : GI h) : (h.2 2449).2.2 2 = 2450 := by have h1 : 2450 ≤ (h.2 2449).2.2 2 ∧ (h.2 2449).2.2 2 ≤ 2450 := (g.2 2449 (by decide) (by decide)).2.2 2 (by decide); omega
theorem gf2449_3 {h : MH} (g : GI h) : (h.2 2449).2.2 3 = 2451 := by have h1 : 2451 ≤ (h.2 2449).2.2 3 ∧ (h.2 2449).2.2 3 ≤ 2451 := (g.2 2449 (by decide) (by decide)).2.2 3 (by decide); omega
theorem gf2449_4 {h : MH} (g : GI h) : (h.2 2449).2.2 4 = 2452 := by have h1 : 2452 ≤ (h.2 2449).2.2 4 ∧ (h.2 2449).2.2 4 ≤ 2452 := (g.2 2449 (by decide) (by decide)).2.2 4 (by decide); omega
theorem gf2449_5 {h : MH} (g : GI h) : (h.2 2449).2.2 5 = 2453 := by have h1 : 2453 ≤ (h.2 2449).2.2 5 ∧ (h.2 2449).2.2 5 ≤ 2453 := (g.2 2449 (by decide) (by decide)).2.2 5 (by decide); omega
theorem gf2449_6 {h : MH} (g : GI h) : (h.2 2449).2.2 6 = 2454 := by have h1 : 2454 ≤ (h.2 2449).2.2 6 ∧ (h.2 2449).2.2 6 ≤ 2454 := (g.2 2449 (by decide) (by decide)).2.2 6 (by decide); omega
theorem gf2449_7 {h : MH} (g : GI h) : (h.2 2449).2.2 7 = 2455 := by have h1 : 2455 ≤ (h.2 2449).2.2 7 ∧ (h.2 2449).2.2 7 ≤ 2455 := (g.2 2449 (by decide) (by decide)).2.2 7 (by decide); omega
theorem gf2449_8 {h : MH} (g : GI h) : (h.2 2449).2.2 8 = 2456 := by have h1 : 2456 ≤ (h.2 2449).2.2 8 ∧ (h.2 2449).2.2 8 ≤ 2456 := (g.2 2449 (by decide) (by decide)).2.2 8 (by decide); omega
theorem gf2449_9 {h : MH} (g : GI h) : (h.2 2449).2.2 9 = 2457 := by have h1 : 2457 ≤ (h.2 2449).2.2 9 ∧ (h.2 2449).2.2 9 ≤ 2457 := (g.2 2449 (by decide) (by decide)).2.2 9 (by decide); omega
theorem gf2449_10 {h : MH} (g : GI h) : (h.2 2449).2.2 10 = 2458 := by have h1 : 2458 ≤ (h.2 2449).2.2 10 ∧ (h.2 2449).2.2 10 ≤ 2458 := (g.2 2449 (by decide) (by decide)).2.2 10 (by decide); omega
theorem gf2449_11 {h : MH} (g : GI h) : (h.2 2449).2.2 11 = 2459 := by have h1 : 2459 ≤ (h.2 2449).2.2 11 ∧ (h.2 2449).2.2 11 ≤ 2459 := (g.2 2449 (by decide) (by decide)).2.2 11 (by decide); omega
theorem gf2449_12 {h : MH} (g : GI h) : -2147483648 ≤ (h.2 2449).2.2 12 ∧ (h.2 2449).2.2 12 ≤ 2147483647 := (g.2 2449 (by decide) (by decide)).2.2 12 (by decide)
theorem gf2449_13 {h : MH} (g : GI h) : -2147483648 ≤ (h.2 2449).2.2 13 ∧ (h.2 2449).2.2 13 ≤ 2147483647 := (g.2 2449 (by decide) (by decide)).2.2 13 (by decide)
theorem gf2449_14 {h : MH} (g : GI h) : -2147483648 ≤ (h.2 2449).2.2 14 ∧ (h.2 2449).2.2 14 ≤ 2147483647 := (g.2 2449 (by decide) (by decide)).2.2 14 (by decide)
theorem gf2449_15 {h : MH} (g : GI h) : (h.2 2449).2.2 15 = 2460 := by have h1 : 2460 ≤ (h.2 2449).2.2 15 ∧ (h.2 2449).2.2 15 ≤ 2460 := (g.2 2449 (by decide) (by decide)).2.2 15 (by decide); omega
theorem gf2449_16 {h : MH} (g : GI h) : (h.2 2449).2.2 16 = 2461 := by have h1 : 2461 ≤ (h.2 2449).2.2 16 ∧ (h.2 2449).2.2 16 ≤ 2461 := (g.2 2449 (by decide) (by decide)).2.2 16 (by decide); omega
theorem gf2449_17 {h : MH} (g : GI h) : (h.2 2449).2.2 17 = 2462 := by have h1 : 2462 ≤ (h.2 2449).2.2 17 ∧ (h.2 2449).2.2 17 ≤ 2462 := (g.2 2449 (by decide) (by decide)).2.2 17 (by decide); omega
theorem gf2449_18 {h : MH} (g : GI h) : (h.2 2449).2.2 18 = 2463 := by have h1 : 2463 ≤ (h.2 2449).2.2 18 ∧ (h.2 2449).2.2 18 ≤ 2463 := (g.2 2449 (by decide) (by decide)).2.2 18 (by decide); omega
theorem gf2449_19 {h : MH} (g : GI h) : (h.2 2449).2.2 19 = 2464 := by have h1 : 2464 ≤ (h.2 2449).2.2 19 ∧ (h.2 2449).2.2 19 ≤ 2464 := (g.2 2449 (by decide) (by decide)).2.2 19 (by decide); omega
theorem gf2449_20 {h : MH} (g : GI h) : -2147483648 ≤ (h.2 2449).2.2 20 ∧ (h.2 2449).2.2 20 ≤ 2147483647 := (g.2 2449 (by decide) (by decide)).2.2 20 (by decide)
theorem gf2449_21 {h : MH} (g : GI h) : -2147483648 ≤ (h.2 2449).2.2 21 ∧ (h.2 2449).2.2 21 ≤ 2147483647 := (g.2 2449 (by decide) (by decide)).2.2 21 (by decide)
theorem gf2449_22 {h : MH} (g : GI h) : -2147483648 ≤ (h.2 2449).2.2 22 ∧ (h.2 2449).2.2 22 ≤ 2147483647 := (g.2 2449 (by decide) (by decide)).2.2 22 (by decide)
theorem gf2449_23 {h : MH} (g : GI h) : -2147483648 ≤ (h.2 2449).2.2 23 ∧ (h.2 2449).2.2 23 ≤ 2147483647 := (g.2 2449 (by decide) (by decide)).2.2 23 (by decide)
theorem gf2449_24 {h : MH} (g : GI h) : (h.2 2449).2.2 24 = 2465 := by have h1 : 2465 ≤ (h.2 2449).2.2 24 ∧ (h.2 2449).2.2 24 ≤ 2465 := (g.2 2449 (by decide) (by decide)).2.2 24 (by decide); omega
theorem gf2449_25 {h : MH} (g : GI h) : (h.2 2449).2.2 25 = 2466 := by have h1 : 2466 ≤ (h.2 2449).2.2 25 ∧ (h.2 2449).2.2 25 ≤ 2466 := (g.2 2449 (by decide) (by decide)).2.2 25 (by decide); omega
theorem gf2449_26 {h : MH} (g : GI h) : (h.2 2449).2.2 26 = 2467 := by have h1 : 2467 ≤ (h.2 2449).2.2 26 ∧ (h.2 2449).2.2 26 ≤ 2467 := (g.2 2449 (by decide) (by decide)).2.2 26 (by decide); omega
theorem gf2449_27 {h : MH} (g : GI h) : 0 ≤ (h.2 2449).2.2 27 ∧ (h.2 2449).2.2 27 ≤ 1 := (g.2 2449 (by decide) (by decide)).2.2 27 (by decide)
theorem gf2449_28 {h : MH} (g : GI h) : 0 ≤ (h.2 2449).2.2 28 ∧ (h.2 2449).2.2 28 ≤ 1 := (g.2 2449 (by decide) (by decide)).2.2 28 (by decide)
theorem gf2449_29 {h : MH} (g : GI h) : -9223372036854775808 ≤ (h.2 2449).2.2 29 ∧ (h.2 2449).2.2 29 ≤ 9223372036854775807 := (g.2 2449 (by decide) (by decide)).2.2 29 (by decide)
theorem gf2449_30 {h : MH} (g : GI h) : -9223372036854775808 ≤ (h.2 2449).2.2 30 ∧ (h.2 2449).2.2 30 ≤ 9223372036854775807 := (g.2 2449 (by decide) (by decide)).2.2 30 (by decide)
theorem gf2449_31 {h : MH} (g : GI h) : -2147483648 ≤ (h.2 2449).2.2 31 ∧ (h.2 2449).2.2 31 ≤ 2147483647 := (g.2 2449 (by decide) (by decide)).2.2 31 (by decide)
theorem gk2455 {h : MH} (g : GI h) : (h.2 2455).1 = 2 := (g.2 2455 (by decide) (by decide)).1
theorem gl2455 {h : MH} (g : GI h) : (h.2 2455).2.1 = 144 := (g.2 2455 (by decide) (by decide)).2.1
theorem ge2455 {h : MH} (g : GI h) {j : Nat} (hj : j < 144) : 0 ≤ (h.2 2455).2.2 j ∧ (h.2 2455).2.2 j ≤ 1 := (g.2 2455 (by decide) (by decide)).2.2 j hj
theorem gk2456 {h : MH} (g : GI h) : (h.2 2456).1 = 0 := (g.2 2456 (by decide) (by decide)).1
theorem gl2456 {h : MH} (g : GI h) : (h.2 2456).2.1 = 576 := (g.2 2456 (by decide) (by decide)).2.1
theorem ge2456 {h : MH} (g : GI h) {j : Nat} (hj : j < 576) : -2147483648 ≤ (h.2 2456).2.2 j ∧ (h.2 2456).2.2 j ≤ 2147483647 := (g.2 2456 (by decide) (by decide)).2.2 j hj
theorem gk2457 {h : MH} (g : GI h) : (h.2 2457).1 = 0 := (g.2 2457 (by decide) (by decide)).1
theorem gl2457 {h : MH} (g : GI h) : (h.2 2457).2.1 = 1152 := (g.2 2457 (by decide) (by decide)).2.1
theorem ge2457 {h : MH} (g : GI h) {j : Nat} (hj : j < 1152) : -2147483648 ≤ (h.2 2457).2.2 j ∧ (h.2 2457).2.2 j ≤ 2147483647 := (g.2 2457 (by decide) (by decide)).2.2 j hj
theorem gk2458 {h : MH} (g : GI h) : (h.2 2458).1 = 0 := (g.2 2458 (by decide) (by decide)).1
theorem gl2458 {h : MH} (g : GI h) : (h.2 2458).2.1 = 4 := (g.2 2458 (by decide) (by decide)).2.1
theorem ge2458 {h : MH} (g : GI h) {j : Nat} (hj : j < 4) : -2147483648 ≤ (h.2 2458).2.2 j ∧ (h.2 2458).2.2 j ≤ 2147483647 := (g.2 2458 (by decide) (by decide)).2.2 j hj
theorem gk2459 {h : MH} (g : GI h) : (h.2 2459).1 = 0 := (g.2 2459 (by decide) (by decide)).1
theorem gl2459 {h : MH} (g : GI h) : (h.2 2459).2.1 = 4 := (g.2 2459 (by decide) (by decide)).2.1
theorem ge2459 {h : MH} (g : GI h) {j : Nat} (hj : j < 4) : -2147483648 ≤ (h.2 2459).2.2 j ∧ (h.2 2459).2.2 j ≤ 2147483647 := (g.2 2459 (by decide) (by decide)).2.2 j hj
theorem gk2460 {h : MH} (g : GI h) : (h.2 2460).1 = 1 := (g.2 2460 (by decide) (by decide)).1
theorem gl2460 {h : MH} (g : GI h) : (h.2 2460).2.1 = 88128 := (g.2 2460 (by decide) (by decide)).2.1
theorem ge2460 {h : MH} (g : GI h) {j : Nat} (hj : j < 88128) : -9223372036854775808 ≤ (h.2 2460).2.2 j ∧ (h.2 2460).2.2 j ≤ 9223372036854775807 := (g.2 2460 (by decide) (by decide)).2.2 j hj
theorem gk2461 {h : MH} (g : GI h) : (h.2 2461).1 = 0 := (g.2 2461 (by decide) (by decide)).1
theorem gl2461 {h : MH} (g : GI h) : (h.2 2461).2.1 = 88128 := (g.2 2461 (by decide) (by decide)).2.1
theorem ge2461 {h : MH} (g : GI h) {j : Nat} (hj : j < 88128) : -2147483648 ≤ (h.2 2461).2.2 j ∧ (h.2 2461).2.2 j ≤ 2147483647 := (g.2 2461 (by decide) (by decide)).2.2 j hj
theorem gk2462 {h : MH} (g : GI h) : (h.2 2462).1 = 0 := (g.2 2462 (by decide) (by decide)).1
theorem gl2462 {h : MH} (g : GI h) : (h.2 2462).2.1 = 88128 := (g.2 2462 (by decide) (by decide)).2.1
theorem ge2462 {h : MH} (g : GI h) {j : Nat} (hj : j < 88128) : -2147483648 ≤ (h.2 2462).2.2 j ∧ (h.2 2462).2.2 j ≤ 2147483647 := (g.2 2462 (by decide) (by decide)).2.2 j hj
theorem gk2463 {h : MH} (g : GI h) : (h.2 2463).1 = 2 := (g.2 2463 (by decide) (by decide)).1
theorem gl2463 {h : MH} (g : GI h) : (h.2 2463).2.1 = 88128 := (g.2 2463 (by decide) (by decide)).2.1
theorem ge2463 {h : MH} (g : GI h) {j : Nat} (hj : j < 88128) : 0 ≤ (h.2 2463).2.2 j ∧ (h.2 2463).2.2 j ≤ 1 := (g.2 2463 (by decide) (by decide)).2.2 j hj
theorem gk2464 {h : MH} (g : GI h) : (h.2 2464).1 = 2 := (g.2 2464 (by decide) (by decide)).1
theorem gl2464 {h : MH} (g : GI h) : (h.2 2464).2.1 = 144 := (g.2 2464 (by decide) (by decide)).2.1
theorem ge2464 {h : MH} (g : GI h) {j : Nat} (hj : j < 144) : 0 ≤ (h.2 2464).2.2 j ∧ (h.2 2464).2.2 j ≤ 1 := (g.2 2464 (by decide) (by decide)).2.2 j hj
theorem gk2465 {h : MH} (g : GI h) : (h.2 2465).1 = 0 := (g.2 2465 (by decide) (by decide)).1
theorem gl2465 {h : MH} (g : GI h) : (h.2 2465).2.1 = 6 := (g.2 2465 (by decide) (by decide)).2.1
theorem ge2465 {h : MH} (g : GI h) {j : Nat} (hj : j < 6) : -2147483648 ≤ (h.2 2465).2.2 j ∧ (h.2 2465).2.2 j ≤ 2147483647 := (g.2 2465 (by decide) (by decide)).2.2 j hj
theorem gk2466 {h : MH} (g : GI h) : (h.2 2466).1 = 0 := (g.2 2466 (by decide) (by decide)).1
theorem gl2466 {h : MH} (g : GI h) : (h.2 2466).2.1 = 6 := (g.2 2466 (by decide) (by decide)).2.1
theorem ge2466 {h : MH} (g : GI h) {j : Nat} (hj : j < 6) : -2147483648 ≤ (h.2 2466).2.2 j ∧ (h.2 2466).2.2 j ≤ 2147483647 := (g.2 2466 (by decide) (by decide)).2.2 j hj
theorem gk2467 {h : MH} (g : GI h) : (h.2 2467).1 = 3 := (g.2 2467 (by decide) (by decide)).1
theorem gl2467 {h : MH} (g : GI h) : (h.2 2467).2.1 = 30000 := (g.2 2467 (by decide) (by decide)).2.1
theorem ge2467 {h : MH} (g : GI h) {j : Nat} (hj : j < 30000) : -128 ≤ (h.2 2467).2.2 j ∧ (h.2 2467).2.2 j ≤ 127 := (g.2 2467 (by decide) (by decide)).2.2 j hj
theorem gk2468 {h : MH} (g : GI h) : (h.2 2468).1 = 16 + 13 := (g.2 2468 (by decide) (by decide)).1
theorem gf2468_0 {h : MH} (g : GI h) : 0 ≤ (h.2 2468).2.2 0 ∧ (h.2 2468).2.2 0 ≤ 1 := (g.2 2468 (by decide) (by decide)).2.2 0 (by decide)
theorem gf2468_1 {h : MH} (g : GI h) : 0 ≤ (h.2 2468).2.2 1 ∧ (h.2 2468).2.2 1 ≤ 8 := (g.2 2468 (by decide) (by decide)).2.2 1 (by decide)
theorem gf2468_2 {h : MH} (g : GI h) : (h.2 2468).2.2 2 = 2469 := by have h1 : 2469 ≤ (h.2 2468).2.2 2 ∧ (h.2 2468).2.2 2 ≤ 2469 := (g.2 2468 (by decide) (by decide)).2.2 2 (by decide); omega
theorem gf2468_3 {h : MH} (g : GI h) : (h.2 2468).2.2 3 = 2470 := by have h1 : 2470 ≤ (h.2 2468).2.2 3 ∧ (h.2 2468).2.2 3 ≤ 2470 := (g.2 2468 (by decide) (by decide)).2.2 3 (by decide); omega
theorem gf2468_4 {h : MH} (g : GI h) : (h.2 2468).2.2 4 = 2471 := by have h1 : 2471 ≤ (h.2 2468).2.2 4 ∧ (h.2 2468).2.2 4 ≤ 2471 := (g.2 2468 (by decide) (by decide)).2.2 4 (by decide); omega
theorem gf2468_5 {h : MH} (g : GI h) : (h.2 2468).2.2 5 = 2472 := by have h1 : 2472 ≤ (h.2 2468).2.2 5 ∧ (h.2 2468).2.2 5 ≤ 2472 := (g.2 2468 (by decide) (by decide)).2.2 5 (by decide); omega
theorem gf2468_6 {h : MH} (g : GI h) : 0 ≤ (h.2 2468).2.2 6 ∧ (h.2 2468).2.2 6 ≤ 4 := (g.2 2468 (by decide) (by decide)).2.2 6 (by decide)
theorem gf2468_7 {h : MH} (g : GI h) : (h.2 2468).2.2 7 = 2473 := by have h1 : 2473 ≤ (h.2 2468).2.2 7 ∧ (h.2 2468).2.2 7 ≤ 2473 := (g.2 2468 (by decide) (by decide)).2.2 7 (by decide); omega
theorem gf2468_8 {h : MH} (g : GI h) : (h.2 2468).2.2 8 = 2474 := by have h1 : 2474 ≤ (h.2 2468).2.2 8 ∧ (h.2 2468).2.2 8 ≤ 2474 := (g.2 2468 (by decide) (by decide)).2.2 8 (by decide); omega
theorem gf2468_9 {h : MH} (g : GI h) : 0 ≤ (h.2 2468).2.2 9 ∧ (h.2 2468).2.2 9 ≤ 8 := (g.2 2468 (by decide) (by decide)).2.2 9 (by decide)
theorem gf2468_10 {h : MH} (g : GI h) : (h.2 2468).2.2 10 = 2475 := by have h1 : 2475 ≤ (h.2 2468).2.2 10 ∧ (h.2 2468).2.2 10 ≤ 2475 := (g.2 2468 (by decide) (by decide)).2.2 10 (by decide); omega
theorem gf2468_11 {h : MH} (g : GI h) : (h.2 2468).2.2 11 = 2476 := by have h1 : 2476 ≤ (h.2 2468).2.2 11 ∧ (h.2 2468).2.2 11 ≤ 2476 := (g.2 2468 (by decide) (by decide)).2.2 11 (by decide); omega
theorem gf2468_12 {h : MH} (g : GI h) : (h.2 2468).2.2 12 = 2477 := by have h1 : 2477 ≤ (h.2 2468).2.2 12 ∧ (h.2 2468).2.2 12 ≤ 2477 := (g.2 2468 (by decide) (by decide)).2.2 12 (by decide); omega
theorem gf2468_13 {h : MH} (g : GI h) : 0 ≤ (h.2 2468).2.2 13 ∧ (h.2 2468).2.2 13 ≤ 6 := (g.2 2468 (by decide) (by decide)).2.2 13 (by decide)
theorem gf2468_14 {h : MH} (g : GI h) : (h.2 2468).2.2 14 = 2478 := by have h1 : 2478 ≤ (h.2 2468).2.2 14 ∧ (h.2 2468).2.2 14 ≤ 2478 := (g.2 2468 (by decide) (by decide)).2.2 14 (by decide); omega
theorem gf2468_15 {h : MH} (g : GI h) : (h.2 2468).2.2 15 = 2479 := by have h1 : 2479 ≤ (h.2 2468).2.2 15 ∧ (h.2 2468).2.2 15 ≤ 2479 := (g.2 2468 (by decide) (by decide)).2.2 15 (by decide); omega
theorem gf2468_16 {h : MH} (g : GI h) : (h.2 2468).2.2 16 = 2480 := by have h1 : 2480 ≤ (h.2 2468).2.2 16 ∧ (h.2 2468).2.2 16 ≤ 2480 := (g.2 2468 (by decide) (by decide)).2.2 16 (by decide); omega
theorem gf2468_17 {h : MH} (g : GI h) : (h.2 2468).2.2 17 = 2481 := by have h1 : 2481 ≤ (h.2 2468).2.2 17 ∧ (h.2 2468).2.2 17 ≤ 2481 := (g.2 2468 (by decide) (by decide)).2.2 17 (by decide); omega
theorem gf2468_18 {h : MH} (g : GI h) : (h.2 2468).2.2 18 = 2482 := by have h1 : 2482 ≤ (h.2 2468).2.2 18 ∧ (h.2 2468).2.2 18 ≤ 2482 := (g.2 2468 (by decide) (by decide)).2.2 18 (by decide); omega
theorem gf2468_19 {h : MH} (g : GI h) : (h.2 2468).2.2 19 = 2483 := by have h1 : 2483 ≤ (h.2 2468).2.2 19 ∧ (h.2 2468).2.2 19 ≤ 2483 := (g.2 2468 (by decide) (by decide)).2.2 19 (by decide); omega
theorem gf2468_20 {h : MH} (g : GI h) : (h.2 2468).2.2 20 = 2484 := by have h1 : 2484 ≤ (h.2 2468).2.2 20 ∧ (h.2 2468).2.2 20 ≤ 2484 := (g.2 2468 (by decide) (by decide)).2.2 20 (by decide); omega
theorem gf2468_21 {h : MH} (g : GI h) : (h.2 2468).2.2 21 = 2485 := by have h1 : 2485 ≤ (h.2 2468).2.2 21 ∧ (h.2 2468).2.2 21 ≤ 2485 := (g.2 2468 (by decide) (by decide)).2.2 21 (by decide); omega
theorem gf2468_22 {h : MH} (g : GI h) : 0 ≤ (h.2 2468).2.2 22 ∧ (h.2 2468).2.2 22 ≤ 140 := (g.2 2468 (by decide) (by decide)).2.2 22 (by decide)
theorem gf2468_23 {h : MH} (g : GI h) : (h.2 2468).2.2 23 = 2486 := by have h1 : 2486 ≤ (h.2 2468).2.2 23 ∧ (h.2 2468).2.2 23 ≤ 2486 := (g.2 2468 (by decide) (by decide)).2.2 23 (by decide); omega
theorem gf2468_24 {h : MH} (g : GI h) : (h.2 2468).2.2 24 = 2487 := by have h1 : 2487 ≤ (h.2 2468).2.2 24 ∧ (h.2 2468).2.2 24 ≤ 2487 := (g.2 2468 (by decide) (by decide)).2.2 24 (by decide); omega
theorem gf2468_25 {h : MH} (g : GI h) : (h.2 2468).2.2 25 = 2488 := by have h1 : 2488 ≤ (h.2 2468).2.2 25 ∧ (h.2 2468).2.2 25 ≤ 2488 := (g.2 2468 (by decide) (by decide)).2.2 25 (by decide); omega
theorem gf2468_26 {h : MH} (g : GI h) : (h.2 2468).2.2 26 = 2489 := by have h1 : 2489 ≤ (h.2 2468).2.2 26 ∧ (h.2 2468).2.2 26 ≤ 2489 := (g.2 2468 (by decide) (by decide)).2.2 26 (by decide); omega
theorem gf2468_27 {h : MH} (g : GI h) : (h.2 2468).2.2 27 = 2490 := by have h1 : 2490 ≤ (h.2 2468).2.2 27 ∧ (h.2 2468).2.2 27 ≤ 2490 := (g.2 2468 (by decide) (by decide)).2.2 27 (by decide); omega
theorem gf2468_28 {h : MH} (g : GI h) : (h.2 2468).2.2 28 = 2491 := by have h1 : 2491 ≤ (h.2 2468).2.2 28 ∧ (h.2 2468).2.2 28 ≤ 2491 := (g.2 2468 (by decide) (by decide)).2.2 28 (by decide); omega
theorem gf2468_29 {h : MH} (g : GI h) : (h.2 2468).2.2 29 = 2492 := by have h1 : 2492 ≤ (h.2 2468).2.2 29 ∧ (h.2 2468).2.2 29 ≤ 2492 := (g.2 2468 (by decide) (by decide)).2.2 29 (by decide); omega
theorem gf2468_30 {h : MH} (g : GI h) : (h.2 2468).2.2 30 = 2493 := by have h1 : 2493 ≤ (h.2 2468).2.2 30 ∧ (h.2 2468).2.2 30 ≤ 2493 := (g.2 2468 (by decide) (by decide)).2.2 30 (by decide); omega
theorem gf2468_31 {h : MH} (g : GI h) : -9223372036854775808 ≤ (h.2 2468).2.2 31 ∧ (h.2 2468).2.2 31 ≤ 9223372036854775807 := (g.2 2468 (by decide) (by decide)).2.2 31 (by decide)
theorem gf2468_32 {h : MH} (g : GI h) : -9223372036854775808 ≤ (h.2 2468).2.2 32 ∧ (h.2 2468).2.2 32 ≤ 9223372036854775807 := (g.2 2468 (by decide) (by decide)).2.2 32 (by decide)
theorem gf2468_33 {h : MH} (g : GI h) : 0 ≤ (h.2 2468).2.2 33 ∧ (h.2 2468).2.2 33 ≤ 1 := (g.2 2468 (by decide) (by decide)).2.2 33 (by decide)
theorem gf2468_34 {h : MH} (g : GI h) : 0 ≤ (h.2 2468).2.2 34 ∧ (h.2 2468).2.2 34 ≤ 1 := (g.2 2468 (by decide) (by decide)).2.2 34 (by decide)
theorem gf2468_35 {h : MH} (g : GI h) : -9223372036854775808 ≤ (h.2 2468).2.2 35 ∧ (h.2 2468).2.2 35 ≤ 9223372036854775807 := (g.2 2468 (by decide) (by decide)).2.2 35 (by decide)
theorem gf2468_36 {h : MH} (g : GI h) : -9223372036854775808 ≤ (h.2 2468).2.2 36 ∧ (h.2 2468).2.2 36 ≤ 9223372036854775807 := (g.2 2468 (by decide) (by decide)).2.2 36 (by decide)
theorem gf2468_37 {h : MH} (g : GI h) : (h.2 2468).2.2 37 = 2494 := by have h1 : 2494 ≤ (h.2 2468).2.2 37 ∧ (h.2 2468).2.2 37 ≤ 2494 := (g.2 2468 (by decide) (by decide)).2.2 37 (by decide); omega
theorem gk2469 {h : MH} (g : GI h) : (h.2 2469).1 = 0 := (g.2 2469 (by decide) (by decide)).1
theorem gl2469 {h : MH} (g : GI h) : (h.2 2469).2.1 = 8 := (g.2 2469 (by decide) (by decide)).2.1
theorem ge2469 {h : MH} (g : GI h) {j : Nat} (hj : j < 8) : 0 ≤ (h.2 2469).2.2 j ∧ (h.2 2469).2.2 j ≤ 1000000 := (g.2 2469 (by decide) (by decide)).2.2 j hj
theorem gk2470 {h : MH} (g : GI h) : (h.2 2470).1 = 0 := (g.2 2470 (by decide) (by decide)).1
theorem gl2470 {h : MH} (g : GI h) : (h.2 2470).2.1 = 8 := (g.2 2470 (by decide) (by decide)).2.1
theorem ge2470 {h : MH} (g : GI h) {j : Nat} (hj : j < 8) : 0 ≤ (h.2 2470).2.2 j ∧ (h.2 2470).2.2 j ≤ 3 := (g.2 2470 (by decide) (by decide)).2.2 j hj
theorem gk2471 {h : MH} (g : GI h) : (h.2 2471).1 = 0 := (g.2 2471 (by decide) (by decide)).1
theorem gl2471 {h : MH} (g : GI h) : (h.2 2471).2.1 = 8 := (g.2 2471 (by decide) (by decide)).2.1
theorem ge2471 {h : MH} (g : GI h) {j : Nat} (hj : j < 8) : 0 ≤ (h.2 2471).2.2 j ∧ (h.2 2471).2.2 j ≤ 11 := (g.2 2471 (by decide) (by decide)).2.2 j hj
theorem gk2472 {h : MH} (g : GI h) : (h.2 2472).1 = 0 := (g.2 2472 (by decide) (by decide)).1
theorem gl2472 {h : MH} (g : GI h) : (h.2 2472).2.1 = 8 := (g.2 2472 (by decide) (by decide)).2.1
theorem ge2472 {h : MH} (g : GI h) {j : Nat} (hj : j < 8) : 0 ≤ (h.2 2472).2.2 j ∧ (h.2 2472).2.2 j ≤ 100000 := (g.2 2472 (by decide) (by decide)).2.2 j hj
theorem gk2473 {h : MH} (g : GI h) : (h.2 2473).1 = 0 := (g.2 2473 (by decide) (by decide)).1
theorem gl2473 {h : MH} (g : GI h) : (h.2 2473).2.1 = 4 := (g.2 2473 (by decide) (by decide)).2.1
theorem ge2473 {h : MH} (g : GI h) {j : Nat} (hj : j < 4) : 0 ≤ (h.2 2473).2.2 j ∧ (h.2 2473).2.2 j ≤ 100000 := (g.2 2473 (by decide) (by decide)).2.2 j hj
theorem gk2474 {h : MH} (g : GI h) : (h.2 2474).1 = 0 := (g.2 2474 (by decide) (by decide)).1
theorem gl2474 {h : MH} (g : GI h) : (h.2 2474).2.1 = 4 := (g.2 2474 (by decide) (by decide)).2.1
theorem ge2474 {h : MH} (g : GI h) {j : Nat} (hj : j < 4) : 0 ≤ (h.2 2474).2.2 j ∧ (h.2 2474).2.2 j ≤ 100000 := (g.2 2474 (by decide) (by decide)).2.2 j hj
theorem gk2475 {h : MH} (g : GI h) : (h.2 2475).1 = 0 := (g.2 2475 (by decide) (by decide)).1
theorem gl2475 {h : MH} (g : GI h) : (h.2 2475).2.1 = 8 := (g.2 2475 (by decide) (by decide)).2.1
theorem ge2475 {h : MH} (g : GI h) {j : Nat} (hj : j < 8) : 0 ≤ (h.2 2475).2.2 j ∧ (h.2 2475).2.2 j ≤ 1000000 := (g.2 2475 (by decide) (by decide)).2.2 j hj
theorem gk2476 {h : MH} (g : GI h) : (h.2 2476).1 = 0 := (g.2 2476 (by decide) (by decide)).1
theorem gl2476 {h : MH} (g : GI h) : (h.2 2476).2.1 = 8 := (g.2 2476 (by decide) (by decide)).2.1
theorem ge2476 {h : MH} (g : GI h) {j : Nat} (hj : j < 8) : 0 ≤ (h.2 2476).2.2 j ∧ (h.2 2476).2.2 j ≤ 11 := (g.2 2476 (by decide) (by decide)).2.2 j hj
theorem gk2477 {h : MH} (g : GI h) : (h.2 2477).1 = 0 := (g.2 2477 (by decide) (by decide)).1
theorem gl2477 {h : MH} (g : GI h) : (h.2 2477).2.1 = 8 := (g.2 2477 (by decide) (by decide)).2.1
theorem ge2477 {h : MH} (g : GI h) {j : Nat} (hj : j < 8) : 0 ≤ (h.2 2477).2.2 j ∧ (h.2 2477).2.2 j ≤ 100000 := (g.2 2477 (by decide) (by decide)).2.2 j hj
theorem gk2478 {h : MH} (g : GI h) : (h.2 2478).1 = 0 := (g.2 2478 (by decide) (by decide)).1
theorem gl2478 {h : MH} (g : GI h) : (h.2 2478).2.1 = 6 := (g.2 2478 (by decide) (by decide)).2.1
theorem ge2478 {h : MH} (g : GI h) {j : Nat} (hj : j < 6) : 0 ≤ (h.2 2478).2.2 j ∧ (h.2 2478).2.2 j ≤ 100000 := (g.2 2478 (by decide) (by decide)).2.2 j hj
theorem gk2479 {h : MH} (g : GI h) : (h.2 2479).1 = 0 := (g.2 2479 (by decide) (by decide)).1
theorem gl2479 {h : MH} (g : GI h) : (h.2 2479).2.1 = 6 := (g.2 2479 (by decide) (by decide)).2.1
theorem ge2479 {h : MH} (g : GI h) {j : Nat} (hj : j < 6) : 0 ≤ (h.2 2479).2.2 j ∧ (h.2 2479).2.2 j ≤ 100000 := (g.2 2479 (by decide) (by decide)).2.2 j hj
theorem gk2480 {h : MH} (g : GI h) : (h.2 2480).1 = 0 := (g.2 2480 (by decide) (by decide)).1
theorem gl2480 {h : MH} (g : GI h) : (h.2 2480).2.1 = 6 := (g.2 2480 (by decide) (by decide)).2.1
theorem ge2480 {h : MH} (g : GI h) {j : Nat} (hj : j < 6) : 0 ≤ (h.2 2480).2.2 j ∧ (h.2 2480).2.2 j ≤ 100000 := (g.2 2480 (by decide) (by decide)).2.2 j hj
theorem gk2481 {h : MH} (g : GI h) : (h.2 2481).1 = 2 := (g.2 2481 (by decide) (by decide)).1
theorem gl2481 {h : MH} (g : GI h) : (h.2 2481).2.1 = 72 := (g.2 2481 (by decide) (by decide)).2.1
theorem ge2481 {h : MH} (g : GI h) {j : Nat} (hj : j < 72) : 0 ≤ (h.2 2481).2.2 j ∧ (h.2 2481).2.2 j ≤ 1 := (g.2 2481 (by decide) (by decide)).2.2 j hj
theorem gk2482 {h : MH} (g : GI h) : (h.2 2482).1 = 1 := (g.2 2482 (by decide) (by decide)).1
theorem gl2482 {h : MH} (g : GI h) : (h.2 2482).2.1 = 4 := (g.2 2482 (by decide) (by decide)).2.1
theorem ge2482 {h : MH} (g : GI h) {j : Nat} (hj : j < 4) : 1 ≤ (h.2 2482).2.2 j ∧ (h.2 2482).2.2 j ≤ 1000 := (g.2 2482 (by decide) (by decide)).2.2 j hj
theorem gk2483 {h : MH} (g : GI h) : (h.2 2483).1 = 1 := (g.2 2483 (by decide) (by decide)).1
theorem gl2483 {h : MH} (g : GI h) : (h.2 2483).2.1 = 4 := (g.2 2483 (by decide) (by decide)).2.1
theorem ge2483 {h : MH} (g : GI h) {j : Nat} (hj : j < 4) : 1 ≤ (h.2 2483).2.2 j ∧ (h.2 2483).2.2 j ≤ 1000 := (g.2 2483 (by decide) (by decide)).2.2 j hj
theorem gk2484 {h : MH} (g : GI h) : (h.2 2484).1 = 2 := (g.2 2484 (by decide) (by decide)).1
theorem gl2484 {h : MH} (g : GI h) : (h.2 2484).2.1 = 32 := (g.2 2484 (by decide) (by decide)).2.1
theorem ge2484 {h : MH} (g : GI h) {j : Nat} (hj : j < 32) : 0 ≤ (h.2 2484).2.2 j ∧ (h.2 2484).2.2 j ≤ 1 := (g.2 2484 (by decide) (by decide)).2.2 j hj
theorem gk2485 {h : MH} (g : GI h) : (h.2 2485).1 = 1 := (g.2 2485 (by decide) (by decide)).1
theorem gl2485 {h : MH} (g : GI h) : (h.2 2485).2.1 = 12 := (g.2 2485 (by decide) (by decide)).2.1
theorem ge2485 {h : MH} (g : GI h) {j : Nat} (hj : j < 12) : 0 ≤ (h.2 2485).2.2 j ∧ (h.2 2485).2.2 j ≤ 1125899906842624 := (g.2 2485 (by decide) (by decide)).2.2 j hj
theorem gk2486 {h : MH} (g : GI h) : (h.2 2486).1 = 0 := (g.2 2486 (by decide) (by decide)).1
theorem gl2486 {h : MH} (g : GI h) : (h.2 2486).2.1 = 140 := (g.2 2486 (by decide) (by decide)).2.1
theorem ge2486 {h : MH} (g : GI h) {j : Nat} (hj : j < 140) : 0 ≤ (h.2 2486).2.2 j ∧ (h.2 2486).2.2 j ≤ 33 := (g.2 2486 (by decide) (by decide)).2.2 j hj
theorem gk2487 {h : MH} (g : GI h) : (h.2 2487).1 = 0 := (g.2 2487 (by decide) (by decide)).1
theorem gl2487 {h : MH} (g : GI h) : (h.2 2487).2.1 = 140 := (g.2 2487 (by decide) (by decide)).2.1
theorem ge2487 {h : MH} (g : GI h) {j : Nat} (hj : j < 140) : 0 ≤ (h.2 2487).2.2 j ∧ (h.2 2487).2.2 j ≤ 33 := (g.2 2487 (by decide) (by decide)).2.2 j hj
theorem gk2488 {h : MH} (g : GI h) : (h.2 2488).1 = 1 := (g.2 2488 (by decide) (by decide)).1
theorem gl2488 {h : MH} (g : GI h) : (h.2 2488).2.1 = 140 := (g.2 2488 (by decide) (by decide)).2.1
theorem ge2488 {h : MH} (g : GI h) {j : Nat} (hj : j < 140) : -1 ≤ (h.2 2488).2.2 j ∧ (h.2 2488).2.2 j ≤ 1125899906842624 := (g.2 2488 (by decide) (by decide)).2.2 j hj
theorem gk2489 {h : MH} (g : GI h) : (h.2 2489).1 = 1 := (g.2 2489 (by decide) (by decide)).1
theorem gl2489 {h : MH} (g : GI h) : (h.2 2489).2.1 = 140 := (g.2 2489 (by decide) (by decide)).2.1
theorem ge2489 {h : MH} (g : GI h) {j : Nat} (hj : j < 140) : 0 ≤ (h.2 2489).2.2 j ∧ (h.2 2489).2.2 j ≤ 1000000000 := (g.2 2489 (by decide) (by decide)).2.2 j hj
theorem gk2490 {h : MH} (g : GI h) : (h.2 2490).1 = 1 := (g.2 2490 (by decide) (by decide)).1
theorem gl2490 {h : MH} (g : GI h) : (h.2 2490).2.1 = 140 := (g.2 2490 (by decide) (by decide)).2.1
theorem ge2490 {h : MH} (g : GI h) {j : Nat} (hj : j < 140) : -9223372036854775808 ≤ (h.2 2490).2.2 j ∧ (h.2 2490).2.2 j ≤ 9223372036854775807 := (g.2 2490 (by decide) (by decide)).2.2 j hj
theorem gk2491 {h : MH} (g : GI h) : (h.2 2491).1 = 2 := (g.2 2491 (by decide) (by decide)).1
theorem gl2491 {h : MH} (g : GI h) : (h.2 2491).2.1 = 140 := (g.2 2491 (by decide) (by decide)).2.1
theorem ge2491 {h : MH} (g : GI h) {j : Nat} (hj : j < 140) : 0 ≤ (h.2 2491).2.2 j ∧ (h.2 2491).2.2 j ≤ 1 := (g.2 2491 (by decide) (by decide)).2.2 j hj
theorem gk2492 {h : MH} (g : GI h) : (h.2 2492).1 = 1 := (g.2 2492 (by decide) (by decide)).1
theorem gl2492 {h : MH} (g : GI h) : (h.2 2492).2.1 = 34 := (g.2 2492 (by decide) (by decide)).2.1
theorem ge2492 {h : MH} (g : GI h) {j : Nat} (hj : j < 34) : -9223372036854775808 ≤ (h.2 2492).2.2 j ∧ (h.2 2492).2.2 j ≤ 9223372036854775807 := (g.2 2492 (by decide) (by decide)).2.2 j hj
theorem gk2493 {h : MH} (g : GI h) : (h.2 2493).1 = 0 := (g.2 2493 (by decide) (by decide)).1
theorem gl2493 {h : MH} (g : GI h) : (h.2 2493).2.1 = 34 := (g.2 2493 (by decide) (by decide)).2.1
theorem ge2493 {h : MH} (g : GI h) {j : Nat} (hj : j < 34) : -2147483648 ≤ (h.2 2493).2.2 j ∧ (h.2 2493).2.2 j ≤ 2147483647 := (g.2 2493 (by decide) (by decide)).2.2 j hj
theorem gk2494 {h : MH} (g : GI h) : (h.2 2494).1 = 1 := (g.2 2494 (by decide) (by decide)).1
theorem gl2494 {h : MH} (g : GI h) : (h.2 2494).2.1 = 96 := (g.2 2494 (by decide) (by decide)).2.1
theorem ge2494 {h : MH} (g : GI h) {j : Nat} (hj : j < 96) : -9223372036854775808 ≤ (h.2 2494).2.2 j ∧ (h.2 2494).2.2 j ≤ 9223372036854775807 := (g.2 2494 (by decide) (by decide)).2.2 j hj
theorem gk2495 {h : MH} (g : GI h) : (h.2 2495).1 = 16 + 14 := (g.2 2495 (by decide) (by decide)).1
theorem gf2495_0 {h : MH} (g : GI h) : -2147483648 ≤ (h.2 2495).2.2 0 ∧ (h.2 2495).2.2 0 ≤ 2147483647 := (g.2 2495 (by decide) (by decide)).2.2 0 (by decide)
theorem gf2495_1 {h : MH} (g : GI h) : (h.2 2495).2.2 1 = 2496 := by have h1 : 2496 ≤ (h.2 2495).2.2 1 ∧ (h.2 2495).2.2 1 ≤ 2496 := (g.2 2495 (by decide) (by decide)).2.2 1 (by decide); omega
theorem gf2495_2 {h : MH} (g : GI h) : (h.2 2495).2.2 2 = 2497 := by have h1 : 2497 ≤ (h.2 2495).2.2 2 ∧ (h.2 2495).2.2 2 ≤ 2497 := (g.2 2495 (by decide) (by decide)).2.2 2 (by decide); omega
theorem gf2495_3 {h : MH} (g : GI h) : -2147483648 ≤ (h.2 2495).2.2 3 ∧ (h.2 2495).2.2 3 ≤ 2147483647 := (g.2 2495 (by decide) (by decide)).2.2 3 (by decide)
theorem gf2495_4 {h : MH} (g : GI h) : (h.2 2495).2.2 4 = 2498 := by have h1 : 2498 ≤ (h.2 2495).2.2 4 ∧ (h.2 2495).2.2 4 ≤ 2498 := (g.2 2495 (by decide) (by decide)).2.2 4 (by decide); omega
theorem gf2495_5 {h : MH} (g : GI h) : (h.2 2495).2.2 5 = 2499 := by have h1 : 2499 ≤ (h.2 2495).2.2 5 ∧ (h.2 2495).2.2 5 ≤ 2499 := (g.2 2495 (by decide) (by decide)).2.2 5 (by decide); omega
theorem gf2495_6 {h : MH} (g : GI h) : (h.2 2495).2.2 6 = 2500 := by have h1 : 2500 ≤ (h.2 2495).2.2 6 ∧ (h.2 2495).2.2 6 ≤ 2500 := (g.2 2495 (by decide) (by decide)).2.2 6 (by decide); omega
theorem gf2495_7 {h : MH} (g : GI h) : (h.2 2495).2.2 7 = 2501 := by have h1 : 2501 ≤ (h.2 2495).2.2 7 ∧ (h.2 2495).2.2 7 ≤ 2501 := (g.2 2495 (by decide) (by decide)).2.2 7 (by decide); omega
theorem gf2495_8 {h : MH} (g : GI h) : (h.2 2495).2.2 8 = 2502 := by have h1 : 2502 ≤ (h.2 2495).2.2 8 ∧ (h.2 2495).2.2 8 ≤ 2502 := (g.2 2495 (by decide) (by decide)).2.2 8 (by decide); omega
theorem gf2495_9 {h : MH} (g : GI h) : (h.2 2495).2.2 9 = 2503 := by have h1 : 2503 ≤ (h.2 2495).2.2 9 ∧ (h.2 2495).2.2 9 ≤ 2503 := (g.2 2495 (by decide) (by decide)).2.2 9 (by decide); omega
theorem gf2495_10 {h : MH} (g : GI h) : -2147483648 ≤ (h.2 2495).2.2 10 ∧ (h.2 2495).2.2 10 ≤ 2147483647 := (g.2 2495 (by decide) (by decide)).2.2 10 (by decide)
theorem gf2495_11 {h : MH} (g : GI h) : (h.2 2495).2.2 11 = 2504 := by have h1 : 2504 ≤ (h.2 2495).2.2 11 ∧ (h.2 2495).2.2 11 ≤ 2504 := (g.2 2495 (by decide) (by decide)).2.2 11 (by decide); omega
theorem gf2495_12 {h : MH} (g : GI h) : -2147483648 ≤ (h.2 2495).2.2 12 ∧ (h.2 2495).2.2 12 ≤ 2147483647 := (g.2 2495 (by decide) (by decide)).2.2 12 (by decide)
theorem gf2495_13 {h : MH} (g : GI h) : (h.2 2495).2.2 13 = 2505 := by have h1 : 2505 ≤ (h.2 2495).2.2 13 ∧ (h.2 2495).2.2 13 ≤ 2505 := (g.2 2495 (by decide) (by decide)).2.2 13 (by decide); omega
theorem gf2495_14 {h : MH} (g : GI h) : (h.2 2495).2.2 14 = 2506 := by have h1 : 2506 ≤ (h.2 2495).2.2 14 ∧ (h.2 2495).2.2 14 ≤ 2506 := (g.2 2495 (by decide) (by decide)).2.2 14 (by decide); omega
theorem gf2495_15 {h : MH} (g : GI h) : (h.2 2495).2.2 15 = 2507 := by have h1 : 2507 ≤ (h.2 2495).2.2 15 ∧ (h.2 2495).2.2 15 ≤ 2507 := (g.2 2495 (by decide) (by decide)).2.2 15 (by decide); omega
theorem gf2495_16 {h : MH} (g : GI h) : 0 ≤ (h.2 2495).2.2 16 ∧ (h.2 2495).2.2 16 ≤ 1 := (g.2 2495 (by decide) (by decide)).2.2 16 (by decide)
theorem gf2495_17 {h : MH} (g : GI h) : -2147483648 ≤ (h.2 2495).2.2 17 ∧ (h.2 2495).2.2 17 ≤ 2147483647 := (g.2 2495 (by decide) (by decide)).2.2 17 (by decide)
theorem gf2495_18 {h : MH} (g : GI h) : -2147483648 ≤ (h.2 2495).2.2 18 ∧ (h.2 2495).2.2 18 ≤ 2147483647 := (g.2 2495 (by decide) (by decide)).2.2 18 (by decide)
theorem gf2495_19 {h : MH} (g : GI h) : (h.2 2495).2.2 19 = 2508 := by have h1 : 2508 ≤ (h.2 2495).2.2 19 ∧ (h.2 2495).2.2 19 ≤ 2508 := (g.2 2495 (by decide) (by decide)).2.2 19 (by decide); omega
theorem gf2495_20 {h : MH} (g : GI h) : -2147483648 ≤ (h.2 2495).2.2 20 ∧ (h.2 2495).2.2 20 ≤ 2147483647 := (g.2 2495 (by decide) (by decide)).2.2 20 (by decide)
theorem gf2495_21 {h : MH} (g : GI h) : (h.2 2495).2.2 21 = 2509 := by have h1 : 2509 ≤ (h.2 2495).2.2 21 ∧ (h.2 2495).2.2 21 ≤ 2509 := (g.2 2495 (by decide) (by decide)).2.2 21 (by decide); omega
theorem gf2495_22 {h : MH} (g : GI h) : (h.2 2495).2.2 22 = 2510 := by have h1 : 2510 ≤ (h.2 2495).2.2 22 ∧ (h.2 2495).2.2 22 ≤ 2510 := (g.2 2495 (by decide) (by decide)).2.2 22 (by decide); omega
theorem gf2495_23 {h : MH} (g : GI h) : (h.2 2495).2.2 23 = 2511 := by have h1 : 2511 ≤ (h.2 2495).2.2 23 ∧ (h.2 2495).2.2 23 ≤ 2511 := (g.2 2495 (by decide) (by decide)).2.2 23 (by decide); omega
theorem gf2495_24 {h : MH} (g : GI h) : (h.2 2495).2.2 24 = 2512 := by have h1 : 2512 ≤ (h.2 2495).2.2 24 ∧ (h.2 2495).2.2 24 ≤ 2512 := (g.2 2495 (by decide) (by decide)).2.2 24 (by decide); omega
theorem gf2495_25 {h : MH} (g : GI h) : (h.2 2495).2.2 25 = 2513 := by have h1 : 2513 ≤ (h.2 2495).2.2 25 ∧ (h.2 2495).2.2 25 ≤ 2513 := (g.2 2495 (by decide) (by decide)).2.2 25 (by decide); omega
theorem gk2496 {h : MH} (g : GI h) : (h.2 2496).1 = 0 := (g.2 2496 (by decide) (by decide)).1
theorem gl2496 {h : MH} (g : GI h) : (h.2 2496).2.1 = 48300 := (g.2 2496 (by decide) (by decide)).2.1
theorem ge2496 {h : MH} (g : GI h) {j : Nat} (hj : j < 48300) : -2147483648 ≤ (h.2 2496).2.2 j ∧ (h.2 2496).2.2 j ≤ 2147483647 := (g.2 2496 (by decide) (by decide)).2.2 j hj
theorem gk2497 {h : MH} (g : GI h) : (h.2 2497).1 = 0 := (g.2 2497 (by decide) (by decide)).1
theorem gl2497 {h : MH} (g : GI h) : (h.2 2497).2.1 = 690 := (g.2 2497 (by decide) (by decide)).2.1
theorem ge2497 {h : MH} (g : GI h) {j : Nat} (hj : j < 690) : -2147483648 ≤ (h.2 2497).2.2 j ∧ (h.2 2497).2.2 j ≤ 2147483647 := (g.2 2497 (by decide) (by decide)).2.2 j hj
theorem gk2498 {h : MH} (g : GI h) : (h.2 2498).1 = 0 := (g.2 2498 (by decide) (by decide)).1
theorem gl2498 {h : MH} (g : GI h) : (h.2 2498).2.1 = 3 := (g.2 2498 (by decide) (by decide)).2.1
theorem ge2498 {h : MH} (g : GI h) {j : Nat} (hj : j < 3) : -2147483648 ≤ (h.2 2498).2.2 j ∧ (h.2 2498).2.2 j ≤ 2147483647 := (g.2 2498 (by decide) (by decide)).2.2 j hj
theorem gk2499 {h : MH} (g : GI h) : (h.2 2499).1 = 0 := (g.2 2499 (by decide) (by decide)).1
theorem gl2499 {h : MH} (g : GI h) : (h.2 2499).2.1 = 3 := (g.2 2499 (by decide) (by decide)).2.1
theorem ge2499 {h : MH} (g : GI h) {j : Nat} (hj : j < 3) : -2147483648 ≤ (h.2 2499).2.2 j ∧ (h.2 2499).2.2 j ≤ 2147483647 := (g.2 2499 (by decide) (by decide)).2.2 j hj
theorem gk2500 {h : MH} (g : GI h) : (h.2 2500).1 = 2 := (g.2 2500 (by decide) (by decide)).1
theorem gl2500 {h : MH} (g : GI h) : (h.2 2500).2.1 = 4 := (g.2 2500 (by decide) (by decide)).2.1
theorem ge2500 {h : MH} (g : GI h) {j : Nat} (hj : j < 4) : 0 ≤ (h.2 2500).2.2 j ∧ (h.2 2500).2.2 j ≤ 1 := (g.2 2500 (by decide) (by decide)).2.2 j hj
theorem gk2501 {h : MH} (g : GI h) : (h.2 2501).1 = 2 := (g.2 2501 (by decide) (by decide)).1
theorem gl2501 {h : MH} (g : GI h) : (h.2 2501).2.1 = 4 := (g.2 2501 (by decide) (by decide)).2.1
theorem ge2501 {h : MH} (g : GI h) {j : Nat} (hj : j < 4) : 0 ≤ (h.2 2501).2.2 j ∧ (h.2 2501).2.2 j ≤ 1 := (g.2 2501 (by decide) (by decide)).2.2 j hj
theorem gk2502 {h : MH} (g : GI h) : (h.2 2502).1 = 2 := (g.2 2502 (by decide) (by decide)).1
theorem gl2502 {h : MH} (g : GI h) : (h.2 2502).2.1 = 6 := (g.2 2502 (by decide) (by decide)).2.1
theorem ge2502 {h : MH} (g : GI h) {j : Nat} (hj : j < 6) : 0 ≤ (h.2 2502).2.2 j ∧ (h.2 2502).2.2 j ≤ 1 := (g.2 2502 (by decide) (by decide)).2.2 j hj
theorem gk2503 {h : MH} (g : GI h) : (h.2 2503).1 = 0 := (g.2 2503 (by decide) (by decide)).1
theorem gl2503 {h : MH} (g : GI h) : (h.2 2503).2.1 = 4 := (g.2 2503 (by decide) (by decide)).2.1
theorem ge2503 {h : MH} (g : GI h) {j : Nat} (hj : j < 4) : -2147483648 ≤ (h.2 2503).2.2 j ∧ (h.2 2503).2.2 j ≤ 2147483647 := (g.2 2503 (by decide) (by decide)).2.2 j hj
theorem gk2504 {h : MH} (g : GI h) : (h.2 2504).1 = 0 := (g.2 2504 (by decide) (by decide)).1
theorem gl2504 {h : MH} (g : GI h) : (h.2 2504).2.1 = 50 := (g.2 2504 (by decide) (by decide)).2.1
theorem ge2504 {h : MH} (g : GI h) {j : Nat} (hj : j < 50) : -2147483648 ≤ (h.2 2504).2.2 j ∧ (h.2 2504).2.2 j ≤ 2147483647 := (g.2 2504 (by decide) (by decide)).2.2 j hj
theorem gk2505 {h : MH} (g : GI h) : (h.2 2505).1 = 0 := (g.2 2505 (by decide) (by decide)).1
theorem gl2505 {h : MH} (g : GI h) : (h.2 2505).2.1 = 8 := (g.2 2505 (by decide) (by decide)).2.1
theorem ge2505 {h : MH} (g : GI h) {j : Nat} (hj : j < 8) : -2147483648 ≤ (h.2 2505).2.2 j ∧ (h.2 2505).2.2 j ≤ 2147483647 := (g.2 2505 (by decide) (by decide)).2.2 j hj
theorem gk2506 {h : MH} (g : GI h) : (h.2 2506).1 = 0 := (g.2 2506 (by decide) (by decide)).1
theorem gl2506 {h : MH} (g : GI h) : (h.2 2506).2.1 = 8 := (g.2 2506 (by decide) (by decide)).2.1
theorem ge2506 {h : MH} (g : GI h) {j : Nat} (hj : j < 8) : -2147483648 ≤ (h.2 2506).2.2 j ∧ (h.2 2506).2.2 j ≤ 2147483647 := (g.2 2506 (by decide) (by decide)).2.2 j hj
theorem gk2507 {h : MH} (g : GI h) : (h.2 2507).1 = 0 := (g.2 2507 (by decide) (by decide)).1
theorem gl2507 {h : MH} (g : GI h) : (h.2 2507).2.1 = 8 := (g.2 2507 (by decide) (by decide)).2.1
theorem ge2507 {h : MH} (g : GI h) {j : Nat} (hj : j < 8) : -2147483648 ≤ (h.2 2507).2.2 j ∧ (h.2 2507).2.2 j ≤ 2147483647 := (g.2 2507 (by decide) (by decide)).2.2 j hj
theorem gk2508 {h : MH} (g : GI h) : (h.2 2508).1 = 0 := (g.2 2508 (by decide) (by decide)).1
theorem gl2508 {h : MH} (g : GI h) : (h.2 2508).2.1 = 12 := (g.2 2508 (by decide) (by decide)).2.1
theorem ge2508 {h : MH} (g : GI h) {j : Nat} (hj : j < 12) : -2147483648 ≤ (h.2 2508).2.2 j ∧ (h.2 2508).2.2 j ≤ 2147483647 := (g.2 2508 (by decide) (by decide)).2.2 j hj
theorem gk2509 {h : MH} (g : GI h) : (h.2 2509).1 = 0 := (g.2 2509 (by decide) (by decide)).1
theorem gl2509 {h : MH} (g : GI h) : (h.2 2509).2.1 = 3 := (g.2 2509 (by decide) (by decide)).2.1
theorem ge2509 {h : MH} (g : GI h) {j : Nat} (hj : j < 3) : -2147483648 ≤ (h.2 2509).2.2 j ∧ (h.2 2509).2.2 j ≤ 2147483647 := (g.2 2509 (by decide) (by decide)).2.2 j hj
theorem gk2510 {h : MH} (g : GI h) : (h.2 2510).1 = 0 := (g.2 2510 (by decide) (by decide)).1
theorem gl2510 {h : MH} (g : GI h) : (h.2 2510).2.1 = 3 := (g.2 2510 (by decide) (by decide)).2.1
theorem ge2510 {h : MH} (g : GI h) {j : Nat} (hj : j < 3) : -2147483648 ≤ (h.2 2510).2.2 j ∧ (h.2 2510).2.2 j ≤ 2147483647 := (g.2 2510 (by decide) (by decide)).2.2 j hj
theorem gk2511 {h : MH} (g : GI h) : (h.2 2511).1 = 2 := (g.2 2511 (by decide) (by decide)).1
theorem gl2511 {h : MH} (g : GI h) : (h.2 2511).2.1 = 4 := (g.2 2511 (by decide) (by decide)).2.1
theorem ge2511 {h : MH} (g : GI h) {j : Nat} (hj : j < 4) : 0 ≤ (h.2 2511).2.2 j ∧ (h.2 2511).2.2 j ≤ 1 := (g.2 2511 (by decide) (by decide)).2.2 j hj
theorem gk2512 {h : MH} (g : GI h) : (h.2 2512).1 = 2 := (g.2 2512 (by decide) (by decide)).1
theorem gl2512 {h : MH} (g : GI h) : (h.2 2512).2.1 = 4 := (g.2 2512 (by decide) (by decide)).2.1
theorem ge2512 {h : MH} (g : GI h) {j : Nat} (hj : j < 4) : 0 ≤ (h.2 2512).2.2 j ∧ (h.2 2512).2.2 j ≤ 1 := (g.2 2512 (by decide) (by decide)).2.2 j hj
theorem gk2513 {h : MH} (g : GI h) : (h.2 2513).1 = 2 := (g.2 2513 (by decide) (by decide)).1
theorem gl2513 {h : MH} (g : GI h) : (h.2 2513).2.1 = 6 := (g.2 2513 (by decide) (by decide)).2.1
theorem ge2513 {h : MH} (g : GI h) {j : Nat} (hj : j < 6) : 0 ≤ (h.2 2513).2.2 j ∧ (h.2 2513).2.2 j ≤ 1 := (g.2 2513 (by decide) (by decide)).2.2 j hj
theorem gk2514 {h : MH} (g : GI h) : (h.2 2514).1 = 16 + 19 := (g.2 2514 (by decide) (by decide)).1
theorem gf2514_0 {h : MH} (g : GI h) : (h.2 2514).2.2 0 = 2515 := by have h1 : 2515 ≤ (h.2 2514).2.2 0 ∧ (h.2 2514).2.2 0 ≤ 2515 := (g.2 2514 (by decide) (by decide)).2.2 0 (by decide); omega
theorem gf2514_1 {h : MH} (g : GI h) : (h.2 2514).2.2 1 = 2516 := by have h1 : 2516 ≤ (h.2 2514).2.2 1 ∧ (h.2 2514).2.2 1 ≤ 2516 := (g.2 2514 (by decide) (by decide)).2.2 1 (by decide); omega
theorem gf2514_2 {h : MH} (g : GI h) : -2147483648 ≤ (h.2 2514).2.2 2 ∧ (h.2 2514).2.2 2 ≤ 2147483647 := (g.2 2514 (by decide) (by decide)).2.2 2 (by decide)
theorem gf2514_3 {h : MH} (g : GI h) : (h.2 2514).2.2 3 = 2517 := by have h1 : 2517 ≤ (h.2 2514).2.2 3 ∧ (h.2 2514).2.2 3 ≤ 2517 := (g.2 2514 (by decide) (by decide)).2.2 3 (by decide); omega
theorem gf2514_4 {h : MH} (g : GI h) : (h.2 2514).2.2 4 = 2518 := by have h1 : 2518 ≤ (h.2 2514).2.2 4 ∧ (h.2 2514).2.2 4 ≤ 2518 := (g.2 2514 (by decide) (by decide)).2.2 4 (by decide); omega
theorem gf2514_5 {h : MH} (g : GI h) : (h.2 2514).2.2 5 = 2519 := by have h1 : 2519 ≤ (h.2 2514).2.2 5 ∧ (h.2 2514).2.2 5 ≤ 2519 := (g.2 2514 (by decide) (by decide)).2.2 5 (by decide); omega
theorem gf2514_6 {h : MH} (g : GI h) : 0 ≤ (h.2 2514).2.2 6 ∧ (h.2 2514).2.2 6 ≤ 1 := (g.2 2514 (by decide) (by decide)).2.2 6 (by decide)
theorem gf2514_7 {h : MH} (g : GI h) : -2147483648 ≤ (h.2 2514).2.2 7 ∧ (h.2 2514).2.2 7 ≤ 2147483647 := (g.2 2514 (by decide) (by decide)).2.2 7 (by decide)
theorem gf2514_8 {h : MH} (g : GI h) : (h.2 2514).2.2 8 = 2520 := by have h1 : 2520 ≤ (h.2 2514).2.2 8 ∧ (h.2 2514).2.2 8 ≤ 2520 := (g.2 2514 (by decide) (by decide)).2.2 8 (by decide); omega
theorem gf2514_9 {h : MH} (g : GI h) : (h.2 2514).2.2 9 = 2521 := by have h1 : 2521 ≤ (h.2 2514).2.2 9 ∧ (h.2 2514).2.2 9 ≤ 2521 := (g.2 2514 (by decide) (by decide)).2.2 9 (by decide); omega
theorem gf2514_10 {h : MH} (g : GI h) : (h.2 2514).2.2 10 = 2522 := by have h1 : 2522 ≤ (h.2 2514).2.2 10 ∧ (h.2 2514).2.2 10 ≤ 2522 := (g.2 2514 (by decide) (by decide)).2.2 10 (by decide); omega
theorem gf2514_11 {h : MH} (g : GI h) : (h.2 2514).2.2 11 = 2523 := by have h1 : 2523 ≤ (h.2 2514).2.2 11 ∧ (h.2 2514).2.2 11 ≤ 2523 := (g.2 2514 (by decide) (by decide)).2.2 11 (by decide); omega
theorem gf2514_12 {h : MH} (g : GI h) : (h.2 2514).2.2 12 = 2524 := by have h1 : 2524 ≤ (h.2 2514).2.2 12 ∧ (h.2 2514).2.2 12 ≤ 2524 := (g.2 2514 (by decide) (by decide)).2.2 12 (by decide); omega
theorem gf2514_13 {h : MH} (g : GI h) : 0 ≤ (h.2 2514).2.2 13 ∧ (h.2 2514).2.2 13 ≤ 1 := (g.2 2514 (by decide) (by decide)).2.2 13 (by decide)
theorem gf2514_14 {h : MH} (g : GI h) : -2147483648 ≤ (h.2 2514).2.2 14 ∧ (h.2 2514).2.2 14 ≤ 2147483647 := (g.2 2514 (by decide) (by decide)).2.2 14 (by decide)
theorem gf2514_15 {h : MH} (g : GI h) : -2147483648 ≤ (h.2 2514).2.2 15 ∧ (h.2 2514).2.2 15 ≤ 2147483647 := (g.2 2514 (by decide) (by decide)).2.2 15 (by decide)
theorem gf2514_16 {h : MH} (g : GI h) : 0 ≤ (h.2 2514).2.2 16 ∧ (h.2 2514).2.2 16 ≤ 1 := (g.2 2514 (by decide) (by decide)).2.2 16 (by decide)
theorem gf2514_17 {h : MH} (g : GI h) : -2147483648 ≤ (h.2 2514).2.2 17 ∧ (h.2 2514).2.2 17 ≤ 2147483647 := (g.2 2514 (by decide) (by decide)).2.2 17 (by decide)
theorem gf2514_18 {h : MH} (g : GI h) : -2147483648 ≤ (h.2 2514).2.2 18 ∧ (h.2 2514).2.2 18 ≤ 2147483647 := (g.2 2514 (by decide) (by decide)).2.2 18 (by decide)
theorem gf2514_19 {h : MH} (g : GI h) : 0 ≤ (h.2 2514).2.2 19 ∧ (h.2 2514).2.2 19 ≤ 1 := (g.2 2514 (by decide) (by decide)).2.2 19 (by decide)
theorem gf2514_20 {h : MH} (g : GI h) : -9223372036854775808 ≤ (h.2 2514).2.2 20 ∧ (h.2 2514).2.2 20 ≤ 9223372036854775807 := (g.2 2514 (by decide) (by decide)).2.2 20 (by decide)
theorem gf2514_21 {h : MH} (g : GI h) : -2147483648 ≤ (h.2 2514).2.2 21 ∧ (h.2 2514).2.2 21 ≤ 2147483647 := (g.2 2514 (by decide) (by decide)).2.2 21 (by decide)
theorem gf2514_22 {h : MH} (g : GI h) : (h.2 2514).2.2 22 = 2525 := by have h1 : 2525 ≤ (h.2 2514).2.2 22 ∧ (h.2 2514).2.2 22 ≤ 2525 := (g.2 2514 (by decide) (by decide)).2.2 22 (by decide); omega
theorem gf2514_23 {h : MH} (g : GI h) : (h.2 2514).2.2 23 = 2526 := by have h1 : 2526 ≤ (h.2 2514).2.2 23 ∧ (h.2 2514).2.2 23 ≤ 2526 := (g.2 2514 (by decide) (by decide)).2.2 23 (by decide); omega
theorem gf2514_24 {h : MH} (g : GI h) : -2147483648 ≤ (h.2 2514).2.2 24 ∧ (h.2 2514).2.2 24 ≤ 2147483647 := (g.2 2514 (by decide) (by decide)).2.2 24 (by decide)
theorem gf2514_25 {h : MH} (g : GI h) : (h.2 2514).2.2 25 = 2527 := by have h1 : 2527 ≤ (h.2 2514).2.2 25 ∧ (h.2 2514).2.2 25 ≤ 2527 := (g.2 2514 (by decide) (by decide)).2.2 25 (by decide); omega
theorem gf2514_26 {h : MH} (g : GI h) : -2147483648 ≤ (h.2 2514).2.2 26 ∧ (h.2 2514).2.2 26 ≤ 2147483647 := (g.2 2514 (by decide) (by decide)).2.2 26 (by decide)
theorem gf2514_27 {h : MH} (g : GI h) : (h.2 2514).2.2 27 = 2528 := by have h1 : 2528 ≤ (h.2 2514).2.2 27 ∧ (h.2 2514).2.2 27 ≤ 2528 := (g.2 2514 (by decide) (by decide)).2.2 27 (by decide); omega
theorem gf2514_28 {h : MH} (g : GI h) : (h.2 2514).2.2 28 = 2529 := by have h1 : 2529 ≤ (h.2 2514).2.2 28 ∧ (h.2 2514).2.2 28 ≤ 2529 := (g.2 2514 (by decide) (by decide)).2.2 28 (by decide); omega
theorem gf2514_29 {h : MH} (g : GI h) : (h.2 2514).2.2 29 = 2530 := by have h1 : 2530 ≤ (h.2 2514).2.2 29 ∧ (h.2 2514).2.2 29 ≤ 2530 := (g.2 2514 (by decide) (by decide)).2.2 29 (by decide); omega
theorem gf2514_30 {h : MH} (g : GI h) : (h.2 2514).2.2 30 = 2531 := by have h1 : 2531 ≤ (h.2 2514).2.2 30 ∧ (h.2 2514).2.2 30 ≤ 2531 := (g.2 2514 (by decide) (by decide)).2.2 30 (by decide); omega
theorem gf2514_31 {h : MH} (g : GI h) : -2147483648 ≤ (h.2 2514).2.2 31 ∧ (h.2 2514).2.2 31 ≤ 2147483647 := (g.2 2514 (by decide) (by decide)).2.2 31 (by decide)
theorem gf2514_32 {h : MH} (g : GI h) : (h.2 2514).2.2 32 = 2532 := by have h1 : 2532 ≤ (h.2 2514).2.2 32 ∧ (h.2 2514).2.2 32 ≤ 2532 := (g.2 2514 (by decide) (by decide)).2.2 32 (by decide); omega
theorem gf2514_33 {h : MH} (g : GI h) : -2147483648 ≤ (h.2 2514).2.2 33 ∧ (h.2 2514).2.2 33 ≤ 2147483647 := (g.2 2514 (by decide) (by decide)).2.2 33 (by decide)
theorem gf2514_34 {h : MH} (g : GI h) : (h.2 2514).2.2 34 = 2533 := by have h1 : 2533 ≤ (h.2 2514).2.2 34 ∧ (h.2 2514).2.2 34 ≤ 2533 := (g.2 2514 (by decide) (by decide)).2.2 34 (by decide); omega
theorem gk2515 {h : MH} (g : GI h) : (h.2 2515).1 = 0 := (g.2 2515 (by decide) (by decide)).1
theorem gl2515 {h : MH} (g : GI h) : (h.2 2515).2.1 = 4200 := (g.2 2515 (by decide) (by decide)).2.1
theorem ge2515 {h : MH} (g : GI h) {j : Nat} (hj : j < 4200) : -2147483648 ≤ (h.2 2515).2.2 j ∧ (h.2 2515).2.2 j ≤ 2147483647 := (g.2 2515 (by decide) (by decide)).2.2 j hj
theorem gk2516 {h : MH} (g : GI h) : (h.2 2516).1 = 0 := (g.2 2516 (by decide) (by decide)).1
theorem gl2516 {h : MH} (g : GI h) : (h.2 2516).2.1 = 30 := (g.2 2516 (by decide) (by decide)).2.1
theorem ge2516 {h : MH} (g : GI h) {j : Nat} (hj : j < 30) : -2147483648 ≤ (h.2 2516).2.2 j ∧ (h.2 2516).2.2 j ≤ 2147483647 := (g.2 2516 (by decide) (by decide)).2.2 j hj
theorem gk2517 {h : MH} (g : GI h) : (h.2 2517).1 = 0 := (g.2 2517 (by decide) (by decide)).1
theorem gl2517 {h : MH} (g : GI h) : (h.2 2517).2.1 = 14 := (g.2 2517 (by decide) (by decide)).2.1
theorem ge2517 {h : MH} (g : GI h) {j : Nat} (hj : j < 14) : -2147483648 ≤ (h.2 2517).2.2 j ∧ (h.2 2517).2.2 j ≤ 2147483647 := (g.2 2517 (by decide) (by decide)).2.2 j hj
theorem gk2518 {h : MH} (g : GI h) : (h.2 2518).1 = 1 := (g.2 2518 (by decide) (by decide)).1
theorem gl2518 {h : MH} (g : GI h) : (h.2 2518).2.1 = 14 := (g.2 2518 (by decide) (by decide)).2.1
theorem ge2518 {h : MH} (g : GI h) {j : Nat} (hj : j < 14) : -9223372036854775808 ≤ (h.2 2518).2.2 j ∧ (h.2 2518).2.2 j ≤ 9223372036854775807 := (g.2 2518 (by decide) (by decide)).2.2 j hj
theorem gk2519 {h : MH} (g : GI h) : (h.2 2519).1 = 1 := (g.2 2519 (by decide) (by decide)).1
theorem gl2519 {h : MH} (g : GI h) : (h.2 2519).2.1 = 14 := (g.2 2519 (by decide) (by decide)).2.1
theorem ge2519 {h : MH} (g : GI h) {j : Nat} (hj : j < 14) : -9223372036854775808 ≤ (h.2 2519).2.2 j ∧ (h.2 2519).2.2 j ≤ 9223372036854775807 := (g.2 2519 (by decide) (by decide)).2.2 j hj
theorem gk2520 {h : MH} (g : GI h) : (h.2 2520).1 = 0 := (g.2 2520 (by decide) (by decide)).1
theorem gl2520 {h : MH} (g : GI h) : (h.2 2520).2.1 = 6 := (g.2 2520 (by decide) (by decide)).2.1
theorem ge2520 {h : MH} (g : GI h) {j : Nat} (hj : j < 6) : -2147483648 ≤ (h.2 2520).2.2 j ∧ (h.2 2520).2.2 j ≤ 2147483647 := (g.2 2520 (by decide) (by decide)).2.2 j hj
theorem gk2521 {h : MH} (g : GI h) : (h.2 2521).1 = 0 := (g.2 2521 (by decide) (by decide)).1
theorem gl2521 {h : MH} (g : GI h) : (h.2 2521).2.1 = 30 := (g.2 2521 (by decide) (by decide)).2.1
theorem ge2521 {h : MH} (g : GI h) {j : Nat} (hj : j < 30) : -2147483648 ≤ (h.2 2521).2.2 j ∧ (h.2 2521).2.2 j ≤ 2147483647 := (g.2 2521 (by decide) (by decide)).2.2 j hj
theorem gk2522 {h : MH} (g : GI h) : (h.2 2522).1 = 0 := (g.2 2522 (by decide) (by decide)).1
theorem gl2522 {h : MH} (g : GI h) : (h.2 2522).2.1 = 30 := (g.2 2522 (by decide) (by decide)).2.1
theorem ge2522 {h : MH} (g : GI h) {j : Nat} (hj : j < 30) : -2147483648 ≤ (h.2 2522).2.2 j ∧ (h.2 2522).2.2 j ≤ 2147483647 := (g.2 2522 (by decide) (by decide)).2.2 j hj
theorem gk2523 {h : MH} (g : GI h) : (h.2 2523).1 = 0 := (g.2 2523 (by decide) (by decide)).1
theorem gl2523 {h : MH} (g : GI h) : (h.2 2523).2.1 = 6 := (g.2 2523 (by decide) (by decide)).2.1
theorem ge2523 {h : MH} (g : GI h) {j : Nat} (hj : j < 6) : -2147483648 ≤ (h.2 2523).2.2 j ∧ (h.2 2523).2.2 j ≤ 2147483647 := (g.2 2523 (by decide) (by decide)).2.2 j hj
theorem gk2524 {h : MH} (g : GI h) : (h.2 2524).1 = 0 := (g.2 2524 (by decide) (by decide)).1
theorem gl2524 {h : MH} (g : GI h) : (h.2 2524).2.1 = 6 := (g.2 2524 (by decide) (by decide)).2.1
theorem ge2524 {h : MH} (g : GI h) {j : Nat} (hj : j < 6) : -2147483648 ≤ (h.2 2524).2.2 j ∧ (h.2 2524).2.2 j ≤ 2147483647 := (g.2 2524 (by decide) (by decide)).2.2 j hj
theorem gk2525 {h : MH} (g : GI h) : (h.2 2525).1 = 1 := (g.2 2525 (by decide) (by decide)).1
theorem gl2525 {h : MH} (g : GI h) : (h.2 2525).2.1 = 4 := (g.2 2525 (by decide) (by decide)).2.1
theorem ge2525 {h : MH} (g : GI h) {j : Nat} (hj : j < 4) : -9223372036854775808 ≤ (h.2 2525).2.2 j ∧ (h.2 2525).2.2 j ≤ 9223372036854775807 := (g.2 2525 (by decide) (by decide)).2.2 j hj
theorem gk2526 {h : MH} (g : GI h) : (h.2 2526).1 = 1 := (g.2 2526 (by decide) (by decide)).1
theorem gl2526 {h : MH} (g : GI h) : (h.2 2526).2.1 = 4 := (g.2 2526 (by decide) (by decide)).2.1
theorem ge2526 {h : MH} (g : GI h) {j : Nat} (hj : j < 4) : -9223372036854775808 ≤ (h.2 2526).2.2 j ∧ (h.2 2526).2.2 j ≤ 9223372036854775807 := (g.2 2526 (by decide) (by decide)).2.2 j hj
theorem gk2527 {h : MH} (g : GI h) : (h.2 2527).1 = 0 := (g.2 2527 (by decide) (by decide)).1
theorem gl2527 {h : MH} (g : GI h) : (h.2 2527).2.1 = 100 := (g.2 2527 (by decide) (by decide)).2.1
theorem ge2527 {h : MH} (g : GI h) {j : Nat} (hj : j < 100) : -2147483648 ≤ (h.2 2527).2.2 j ∧ (h.2 2527).2.2 j ≤ 2147483647 := (g.2 2527 (by decide) (by decide)).2.2 j hj
theorem gk2528 {h : MH} (g : GI h) : (h.2 2528).1 = 0 := (g.2 2528 (by decide) (by decide)).1
theorem gl2528 {h : MH} (g : GI h) : (h.2 2528).2.1 = 8 := (g.2 2528 (by decide) (by decide)).2.1
theorem ge2528 {h : MH} (g : GI h) {j : Nat} (hj : j < 8) : -2147483648 ≤ (h.2 2528).2.2 j ∧ (h.2 2528).2.2 j ≤ 2147483647 := (g.2 2528 (by decide) (by decide)).2.2 j hj
theorem gk2529 {h : MH} (g : GI h) : (h.2 2529).1 = 0 := (g.2 2529 (by decide) (by decide)).1
theorem gl2529 {h : MH} (g : GI h) : (h.2 2529).2.1 = 144 := (g.2 2529 (by decide) (by decide)).2.1
theorem ge2529 {h : MH} (g : GI h) {j : Nat} (hj : j < 144) : -2147483648 ≤ (h.2 2529).2.2 j ∧ (h.2 2529).2.2 j ≤ 2147483647 := (g.2 2529 (by decide) (by decide)).2.2 j hj
theorem gk2530 {h : MH} (g : GI h) : (h.2 2530).1 = 0 := (g.2 2530 (by decide) (by decide)).1
theorem gl2530 {h : MH} (g : GI h) : (h.2 2530).2.1 = 8 := (g.2 2530 (by decide) (by decide)).2.1
theorem ge2530 {h : MH} (g : GI h) {j : Nat} (hj : j < 8) : -2147483648 ≤ (h.2 2530).2.2 j ∧ (h.2 2530).2.2 j ≤ 2147483647 := (g.2 2530 (by decide) (by decide)).2.2 j hj
theorem gk2531 {h : MH} (g : GI h) : (h.2 2531).1 = 0 := (g.2 2531 (by decide) (by decide)).1
theorem gl2531 {h : MH} (g : GI h) : (h.2 2531).2.1 = 144 := (g.2 2531 (by decide) (by decide)).2.1
theorem ge2531 {h : MH} (g : GI h) {j : Nat} (hj : j < 144) : -2147483648 ≤ (h.2 2531).2.2 j ∧ (h.2 2531).2.2 j ≤ 2147483647 := (g.2 2531 (by decide) (by decide)).2.2 j hj
theorem gk2532 {h : MH} (g : GI h) : (h.2 2532).1 = 0 := (g.2 2532 (by decide) (by decide)).1
theorem gl2532 {h : MH} (g : GI h) : (h.2 2532).2.1 = 80 := (g.2 2532 (by decide) (by decide)).2.1
theorem ge2532 {h : MH} (g : GI h) {j : Nat} (hj : j < 80) : -2147483648 ≤ (h.2 2532).2.2 j ∧ (h.2 2532).2.2 j ≤ 2147483647 := (g.2 2532 (by decide) (by decide)).2.2 j hj
theorem gk2533 {h : MH} (g : GI h) : (h.2 2533).1 = 0 := (g.2 2533 (by decide) (by decide)).1
theorem gl2533 {h : MH} (g : GI h) : (h.2 2533).2.1 = 80 := (g.2 2533 (by decide) (by decide)).2.1
theorem ge2533 {h : MH} (g : GI h) {j : Nat} (hj : j < 80) : -2147483648 ≤ (h.2 2533).2.2 j ∧ (h.2 2533).2.2 j ≤ 2147483647 := (g.2 2533 (by decide) (by decide)).2.2 j hj
theorem gk2534 {h : MH} (g : GI h) : (h.2 2534).1 = 16 + 18 := (g.2 2534 (by decide) (by decide)).1
theorem gf2534_0 {h : MH} (g : GI h) : -2147483648 ≤ (h.2 2534).2.2 0 ∧ (h.2 2534).2.2 0 ≤ 2147483647 := (g.2 2534 (by decide) (by decide)).2.2 0 (by decide)
theorem gf2534_1 {h : MH} (g : GI h) : (h.2 2534).2.2 1 = 2535 := by have h1 : 2535 ≤ (h.2 2534).2.2 1 ∧ (h.2 2534).2.2 1 ≤ 2535 := (g.2 2534 (by decide) (by decide)).2.2 1 (by decide); omega
theorem gf2534_2 {h : MH} (g : GI h) : -2147483648 ≤ (h.2 2534).2.2 2 ∧ (h.2 2534).2.2 2 ≤ 2147483647 := (g.2 2534 (by decide) (by decide)).2.2 2 (by decide)
theorem gf2534_3 {h : MH} (g : GI h) : (h.2 2534).2.2 3 = 2536 := by have h1 : 2536 ≤ (h.2 2534).2.2 3 ∧ (h.2 2534).2.2 3 ≤ 2536 := (g.2 2534 (by decide) (by decide)).2.2 3 (by decide); omega
theorem gf2534_4 {h : MH} (g : GI h) : -2147483648 ≤ (h.2 2534).2.2 4 ∧ (h.2 2534).2.2 4 ≤ 2147483647 := (g.2 2534 (by decide) (by decide)).2.2 4 (by decide)
theorem gf2534_5 {h : MH} (g : GI h) : (h.2 2534).2.2 5 = 2537 := by have h1 : 2537 ≤ (h.2 2534).2.2 5 ∧ (h.2 2534).2.2 5 ≤ 2537 := (g.2 2534 (by decide) (by decide)).2.2 5 (by decide); omega
theorem gf2534_6 {h : MH} (g : GI h) : (h.2 2534).2.2 6 = 2538 := by have h1 : 2538 ≤ (h.2 2534).2.2 6 ∧ (h.2 2534).2.2 6 ≤ 2538 := (g.2 2534 (by decide) (by decide)).2.2 6 (by decide); omega
theorem gf2534_7 {h : MH} (g : GI h) : (h.2 2534).2.2 7 = 2539 := by have h1 : 2539 ≤ (h.2 2534).2.2 7 ∧ (h.2 2534).2.2 7 ≤ 2539 := (g.2 2534 (by decide) (by decide)).2.2 7 (by decide); omega
theorem gf2534_8 {h : MH} (g : GI h) : (h.2 2534).2.2 8 = 2540 := by have h1 : 2540 ≤ (h.2 2534).2.2 8 ∧ (h.2 2534).2.2 8 ≤ 2540 := (g.2 2534 (by decide) (by decide)).2.2 8 (by decide); omega
theorem gf2534_9 {h : MH} (g : GI h) : (h.2 2534).2.2 9 = 2541 := by have h1 : 2541 ≤ (h.2 2534).2.2 9 ∧ (h.2 2534).2.2 9 ≤ 2541 := (g.2 2534 (by decide) (by decide)).2.2 9 (by decide); omega
theorem gf2534_10 {h : MH} (g : GI h) : (h.2 2534).2.2 10 = 2542 := by have h1 : 2542 ≤ (h.2 2534).2.2 10 ∧ (h.2 2534).2.2 10 ≤ 2542 := (g.2 2534 (by decide) (by decide)).2.2 10 (by decide); omega
theorem gf2534_11 {h : MH} (g : GI h) : (h.2 2534).2.2 11 = 2543 := by have h1 : 2543 ≤ (h.2 2534).2.2 11 ∧ (h.2 2534).2.2 11 ≤ 2543 := (g.2 2534 (by decide) (by decide)).2.2 11 (by decide); omega
theorem gf2534_12 {h : MH} (g : GI h) : -9223372036854775808 ≤ (h.2 2534).2.2 12 ∧ (h.2 2534).2.2 12 ≤ 9223372036854775807 := (g.2 2534 (by decide) (by decide)).2.2 12 (by decide)
theorem gf2534_13 {h : MH} (g : GI h) : -9223372036854775808 ≤ (h.2 2534).2.2 13 ∧ (h.2 2534).2.2 13 ≤ 9223372036854775807 := (g.2 2534 (by decide) (by decide)).2.2 13 (by decide)
theorem gf2534_14 {h : MH} (g : GI h) : -9223372036854775808 ≤ (h.2 2534).2.2 14 ∧ (h.2 2534).2.2 14 ≤ 9223372036854775807 := (g.2 2534 (by decide) (by decide)).2.2 14 (by decide)
theorem gf2534_15 {h : MH} (g : GI h) : (h.2 2534).2.2 15 = 2544 := by have h1 : 2544 ≤ (h.2 2534).2.2 15 ∧ (h.2 2534).2.2 15 ≤ 2544 := (g.2 2534 (by decide) (by decide)).2.2 15 (by decide); omega
theorem gf2534_16 {h : MH} (g : GI h) : -2147483648 ≤ (h.2 2534).2.2 16 ∧ (h.2 2534).2.2 16 ≤ 2147483647 := (g.2 2534 (by decide) (by decide)).2.2 16 (by decide)
theorem gf2534_17 {h : MH} (g : GI h) : (h.2 2534).2.2 17 = 2545 := by have h1 : 2545 ≤ (h.2 2534).2.2 17 ∧ (h.2 2534).2.2 17 ≤ 2545 := (g.2 2534 (by decide) (by decide)).2.2 17 (by decide); omega
theorem gf2534_18 {h : MH} (g : GI h) : 0 ≤ (h.2 2534).2.2 18 ∧ (h.2 2534).2.2 18 ≤ 18446744073709551615 := (g.2 2534 (by decide) (by decide)).2.2 18 (by decide)
theorem gf2534_19 {h : MH} (g : GI h) : -2147483648 ≤ (h.2 2534).2.2 19 ∧ (h.2 2534).2.2 19 ≤ 2147483647 := (g.2 2534 (by decide) (by decide)).2.2 19 (by decide)
theorem gf2534_20 {h : MH} (g : GI h) : (h.2 2534).2.2 20 = 2546 := by have h1 : 2546 ≤ (h.2 2534).2.2 20 ∧ (h.2 2534).2.2 20 ≤ 2546 := (g.2 2534 (by decide) (by decide)).2.2 20 (by decide); omega
theorem gf2534_21 {h : MH} (g : GI h) : (h.2 2534).2.2 21 = 2547 := by have h1 : 2547 ≤ (h.2 2534).2.2 21 ∧ (h.2 2534).2.2 21 ≤ 2547 := (g.2 2534 (by decide) (by decide)).2.2 21 (by decide); omega
theorem gf2534_22 {h : MH} (g : GI h) : (h.2 2534).2.2 22 = 2548 := by have h1 : 2548 ≤ (h.2 2534).2.2 22 ∧ (h.2 2534).2.2 22 ≤ 2548 := (g.2 2534 (by decide) (by decide)).2.2 22 (by decide); omega
theorem gf2534_23 {h : MH} (g : GI h) : (h.2 2534).2.2 23 = 2549 := by have h1 : 2549 ≤ (h.2 2534).2.2 23 ∧ (h.2 2534).2.2 23 ≤ 2549 := (g.2 2534 (by decide) (by decide)).2.2 23 (by decide); omega
theorem gf2534_24 {h : MH} (g : GI h) : (h.2 2534).2.2 24 = 2550 := by have h1 : 2550 ≤ (h.2 2534).2.2 24 ∧ (h.2 2534).2.2 24 ≤ 2550 := (g.2 2534 (by decide) (by decide)).2.2 24 (by decide); omega
theorem gk2535 {h : MH} (g : GI h) : (h.2 2535).1 = 0 := (g.2 2535 (by decide) (by decide)).1
theorem gl2535 {h : MH} (g : GI h) : (h.2 2535).2.1 = 300 := (g.2 2535 (by decide) (by decide)).2.1
theorem ge2535 {h : MH} (g : GI h) {j : Nat} (hj : j < 300) : -2147483648 ≤ (h.2 2535).2.2 j ∧ (h.2 2535).2.2 j ≤ 2147483647 := (g.2 2535 (by decide) (by decide)).2.2 j hj
theorem gk2536 {h : MH} (g : GI h) : (h.2 2536).1 = 0 := (g.2 2536 (by decide) (by decide)).1
theorem gl2536 {h : MH} (g : GI h) : (h.2 2536).2.1 = 301 := (g.2 2536 (by decide) (by decide)).2.1
theorem ge2536 {h : MH} (g : GI h) {j : Nat} (hj : j < 301) : -2147483648 ≤ (h.2 2536).2.2 j ∧ (h.2 2536).2.2 j ≤ 2147483647 := (g.2 2536 (by decide) (by decide)).2.2 j hj
theorem gk2537 {h : MH} (g : GI h) : (h.2 2537).1 = 0 := (g.2 2537 (by decide) (by decide)).1
theorem gl2537 {h : MH} (g : GI h) : (h.2 2537).2.1 = 300 := (g.2 2537 (by decide) (by decide)).2.1
theorem ge2537 {h : MH} (g : GI h) {j : Nat} (hj : j < 300) : -2147483648 ≤ (h.2 2537).2.2 j ∧ (h.2 2537).2.2 j ≤ 2147483647 := (g.2 2537 (by decide) (by decide)).2.2 j hj
theorem gk2538 {h : MH} (g : GI h) : (h.2 2538).1 = 0 := (g.2 2538 (by decide) (by decide)).1
theorem gl2538 {h : MH} (g : GI h) : (h.2 2538).2.1 = 300 := (g.2 2538 (by decide) (by decide)).2.1
theorem ge2538 {h : MH} (g : GI h) {j : Nat} (hj : j < 300) : -2147483648 ≤ (h.2 2538).2.2 j ∧ (h.2 2538).2.2 j ≤ 2147483647 := (g.2 2538 (by decide) (by decide)).2.2 j hj
theorem gk2539 {h : MH} (g : GI h) : (h.2 2539).1 = 0 := (g.2 2539 (by decide) (by decide)).1
theorem gl2539 {h : MH} (g : GI h) : (h.2 2539).2.1 = 300 := (g.2 2539 (by decide) (by decide)).2.1
theorem ge2539 {h : MH} (g : GI h) {j : Nat} (hj : j < 300) : -2147483648 ≤ (h.2 2539).2.2 j ∧ (h.2 2539).2.2 j ≤ 2147483647 := (g.2 2539 (by decide) (by decide)).2.2 j hj
theorem gk2540 {h : MH} (g : GI h) : (h.2 2540).1 = 0 := (g.2 2540 (by decide) (by decide)).1
theorem gl2540 {h : MH} (g : GI h) : (h.2 2540).2.1 = 8 := (g.2 2540 (by decide) (by decide)).2.1
theorem ge2540 {h : MH} (g : GI h) {j : Nat} (hj : j < 8) : -2147483648 ≤ (h.2 2540).2.2 j ∧ (h.2 2540).2.2 j ≤ 2147483647 := (g.2 2540 (by decide) (by decide)).2.2 j hj
theorem gk2541 {h : MH} (g : GI h) : (h.2 2541).1 = 1 := (g.2 2541 (by decide) (by decide)).1
theorem gl2541 {h : MH} (g : GI h) : (h.2 2541).2.1 = 32 := (g.2 2541 (by decide) (by decide)).2.1
theorem ge2541 {h : MH} (g : GI h) {j : Nat} (hj : j < 32) : -9223372036854775808 ≤ (h.2 2541).2.2 j ∧ (h.2 2541).2.2 j ≤ 9223372036854775807 := (g.2 2541 (by decide) (by decide)).2.2 j hj
theorem gk2542 {h : MH} (g : GI h) : (h.2 2542).1 = 1 := (g.2 2542 (by decide) (by decide)).1
theorem gl2542 {h : MH} (g : GI h) : (h.2 2542).2.1 = 32 := (g.2 2542 (by decide) (by decide)).2.1
theorem ge2542 {h : MH} (g : GI h) {j : Nat} (hj : j < 32) : -9223372036854775808 ≤ (h.2 2542).2.2 j ∧ (h.2 2542).2.2 j ≤ 9223372036854775807 := (g.2 2542 (by decide) (by decide)).2.2 j hj
theorem gk2543 {h : MH} (g : GI h) : (h.2 2543).1 = 1 := (g.2 2543 (by decide) (by decide)).1
theorem gl2543 {h : MH} (g : GI h) : (h.2 2543).2.1 = 8 := (g.2 2543 (by decide) (by decide)).2.1
theorem ge2543 {h : MH} (g : GI h) {j : Nat} (hj : j < 8) : -9223372036854775808 ≤ (h.2 2543).2.2 j ∧ (h.2 2543).2.2 j ≤ 9223372036854775807 := (g.2 2543 (by decide) (by decide)).2.2 j hj
theorem gk2544 {h : MH} (g : GI h) : (h.2 2544).1 = 1 := (g.2 2544 (by decide) (by decide)).1
theorem gl2544 {h : MH} (g : GI h) : (h.2 2544).2.1 = 2 := (g.2 2544 (by decide) (by decide)).2.1
theorem ge2544 {h : MH} (g : GI h) {j : Nat} (hj : j < 2) : -9223372036854775808 ≤ (h.2 2544).2.2 j ∧ (h.2 2544).2.2 j ≤ 9223372036854775807 := (g.2 2544 (by decide) (by decide)).2.2 j hj
theorem gk2545 {h : MH} (g : GI h) : (h.2 2545).1 = 0 := (g.2 2545 (by decide) (by decide)).1
theorem gl2545 {h : MH} (g : GI h) : (h.2 2545).2.1 = 80 := (g.2 2545 (by decide) (by decide)).2.1
theorem ge2545 {h : MH} (g : GI h) {j : Nat} (hj : j < 80) : -2147483648 ≤ (h.2 2545).2.2 j ∧ (h.2 2545).2.2 j ≤ 2147483647 := (g.2 2545 (by decide) (by decide)).2.2 j hj
theorem gk2546 {h : MH} (g : GI h) : (h.2 2546).1 = 0 := (g.2 2546 (by decide) (by decide)).1
theorem gl2546 {h : MH} (g : GI h) : (h.2 2546).2.1 = 32 := (g.2 2546 (by decide) (by decide)).2.1
theorem ge2546 {h : MH} (g : GI h) {j : Nat} (hj : j < 32) : -2147483648 ≤ (h.2 2546).2.2 j ∧ (h.2 2546).2.2 j ≤ 2147483647 := (g.2 2546 (by decide) (by decide)).2.2 j hj
theorem gk2547 {h : MH} (g : GI h) : (h.2 2547).1 = 0 := (g.2 2547 (by decide) (by decide)).1
theorem gl2547 {h : MH} (g : GI h) : (h.2 2547).2.1 = 64 := (g.2 2547 (by decide) (by decide)).2.1
theorem ge2547 {h : MH} (g : GI h) {j : Nat} (hj : j < 64) : -2147483648 ≤ (h.2 2547).2.2 j ∧ (h.2 2547).2.2 j ≤ 2147483647 := (g.2 2547 (by decide) (by decide)).2.2 j hj
theorem gk2548 {h : MH} (g : GI h) : (h.2 2548).1 = 0 := (g.2 2548 (by decide) (by decide)).1
theorem gl2548 {h : MH} (g : GI h) : (h.2 2548).2.1 = 64 := (g.2 2548 (by decide) (by decide)).2.1
theorem ge2548 {h : MH} (g : GI h) {j : Nat} (hj : j < 64) : -2147483648 ≤ (h.2 2548).2.2 j ∧ (h.2 2548).2.2 j ≤ 2147483647 := (g.2 2548 (by decide) (by decide)).2.2 j hj
theorem gk2549 {h : MH} (g : GI h) : (h.2 2549).1 = 0 := (g.2 2549 (by decide) (by decide)).1
theorem gl2549 {h : MH} (g : GI h) : (h.2 2549).2.1 = 64 := (g.2 2549 (by decide) (by decide)).2.1
theorem ge2549 {h : MH} (g : GI h) {j : Nat} (hj : j < 64) : -2147483648 ≤ (h.2 2549).2.2 j ∧ (h.2 2549).2.2 j ≤ 2147483647 := (g.2 2549 (by decide) (by decide)).2.2 j hj
theorem gk2550 {h : MH} (g : GI h) : (h.2 2550).1 = 1 := (g.2 2550 (by decide) (by decide)).1
theorem gl2550 {h : MH} (g : GI h) : (h.2 2550).2.1 = 961 := (g.2 2550 (by decide) (by decide)).2.1
theorem ge2550 {h : MH} (g : GI h) {j : Nat} (hj : j < 961) : -9223372036854775808 ≤ (h.2 2550).2.2 j ∧ (h.2 2550).2.2 j ≤ 9223372036854775807 := (g.2 2550 (by decide) (by decide)).2.2 j hj
theorem gk2551 {h : MH} (g : GI h) : (h.2 2551).1 = 16 + 16 := (g.2 2551 (by decide) (by decide)).1
theorem gf2551_0 {h : MH} (g : GI h) : -2147483648 ≤ (h.2 2551).2.2 0 ∧ (h.2 2551).2.2 0 ≤ 2147483647 := (g.2 2551 (by decide) (by decide)).2.2 0 (by decide)
theorem gf2551_1 {h : MH} (g : GI h) : -2147483648 ≤ (h.2 2551).2.2 1 ∧ (h.2 2551).2.2 1 ≤ 2147483647 := (g.2 2551 (by decide) (by decide)).2.2 1 (by decide)
theorem gf2551_2 {h : MH} (g : GI h) : (h.2 2551).2.2 2 = 2552 := by have h1 : 2552 ≤ (h.2 2551).2.2 2 ∧ (h.2 2551).2.2 2 ≤ 2552 := (g.2 2551 (by decide) (by decide)).2.2 2 (by decide); omega
theorem gf2551_3 {h : MH} (g : GI h) : (h.2 2551).2.2 3 = 2553 := by have h1 : 2553 ≤ (h.2 2551).2.2 3 ∧ (h.2 2551).2.2 3 ≤ 2553 := (g.2 2551 (by decide) (by decide)).2.2 3 (by decide); omega
theorem gf2551_4 {h : MH} (g : GI h) : (h.2 2551).2.2 4 = 2554 := by have h1 : 2554 ≤ (h.2 2551).2.2 4 ∧ (h.2 2551).2.2 4 ≤ 2554 := (g.2 2551 (by decide) (by decide)).2.2 4 (by decide); omega
theorem gf2551_5 {h : MH} (g : GI h) : (h.2 2551).2.2 5 = 2555 := by have h1 : 2555 ≤ (h.2 2551).2.2 5 ∧ (h.2 2551).2.2 5 ≤ 2555 := (g.2 2551 (by decide) (by decide)).2.2 5 (by decide); omega
theorem gf2551_6 {h : MH} (g : GI h) : -2147483648 ≤ (h.2 2551).2.2 6 ∧ (h.2 2551).2.2 6 ≤ 2147483647 := (g.2 2551 (by decide) (by decide)).2.2 6 (by decide)
theorem gf2551_7 {h : MH} (g : GI h) : (h.2 2551).2.2 7 = 2556 := by have h1 : 2556 ≤ (h.2 2551).2.2 7 ∧ (h.2 2551).2.2 7 ≤ 2556 := (g.2 2551 (by decide) (by decide)).2.2 7 (by decide); omega
theorem gf2551_8 {h : MH} (g : GI h) : (h.2 2551).2.2 8 = 2557 := by have h1 : 2557 ≤ (h.2 2551).2.2 8 ∧ (h.2 2551).2.2 8 ≤ 2557 := (g.2 2551 (by decide) (by decide)).2.2 8 (by decide); omega
theorem gf2551_9 {h : MH} (g : GI h) : (h.2 2551).2.2 9 = 2558 := by have h1 : 2558 ≤ (h.2 2551).2.2 9 ∧ (h.2 2551).2.2 9 ≤ 2558 := (g.2 2551 (by decide) (by decide)).2.2 9 (by decide); omega
theorem gf2551_10 {h : MH} (g : GI h) : -2147483648 ≤ (h.2 2551).2.2 10 ∧ (h.2 2551).2.2 10 ≤ 2147483647 := (g.2 2551 (by decide) (by decide)).2.2 10 (by decide)
theorem gf2551_11 {h : MH} (g : GI h) : (h.2 2551).2.2 11 = 2559 := by have h1 : 2559 ≤ (h.2 2551).2.2 11 ∧ (h.2 2551).2.2 11 ≤ 2559 := (g.2 2551 (by decide) (by decide)).2.2 11 (by decide); omega
theorem gf2551_12 {h : MH} (g : GI h) : (h.2 2551).2.2 12 = 2560 := by have h1 : 2560 ≤ (h.2 2551).2.2 12 ∧ (h.2 2551).2.2 12 ≤ 2560 := (g.2 2551 (by decide) (by decide)).2.2 12 (by decide); omega
theorem gf2551_13 {h : MH} (g : GI h) : (h.2 2551).2.2 13 = 2561 := by have h1 : 2561 ≤ (h.2 2551).2.2 13 ∧ (h.2 2551).2.2 13 ≤ 2561 := (g.2 2551 (by decide) (by decide)).2.2 13 (by decide); omega
theorem gf2551_14 {h : MH} (g : GI h) : -2147483648 ≤ (h.2 2551).2.2 14 ∧ (h.2 2551).2.2 14 ≤ 2147483647 := (g.2 2551 (by decide) (by decide)).2.2 14 (by decide)
theorem gf2551_15 {h : MH} (g : GI h) : -2147483648 ≤ (h.2 2551).2.2 15 ∧ (h.2 2551).2.2 15 ≤ 2147483647 := (g.2 2551 (by decide) (by decide)).2.2 15 (by decide)
theorem gf2551_16 {h : MH} (g : GI h) : (h.2 2551).2.2 16 = 2562 := by have h1 : 2562 ≤ (h.2 2551).2.2 16 ∧ (h.2 2551).2.2 16 ≤ 2562 := (g.2 2551 (by decide) (by decide)).2.2 16 (by decide); omega
theorem gf2551_17 {h : MH} (g : GI h) : (h.2 2551).2.2 17 = 2563 := by have h1 : 2563 ≤ (h.2 2551).2.2 17 ∧ (h.2 2551).2.2 17 ≤ 2563 := (g.2 2551 (by decide) (by decide)).2.2 17 (by decide); omega
theorem gf2551_18 {h : MH} (g : GI h) : 0 ≤ (h.2 2551).2.2 18 ∧ (h.2 2551).2.2 18 ≤ 1 := (g.2 2551 (by decide) (by decide)).2.2 18 (by decide)
theorem gf2551_19 {h : MH} (g : GI h) : 0 ≤ (h.2 2551).2.2 19 ∧ (h.2 2551).2.2 19 ≤ 1 := (g.2 2551 (by decide) (by decide)).2.2 19 (by decide)
theorem gf2551_20 {h : MH} (g : GI h) : -2147483648 ≤ (h.2 2551).2.2 20 ∧ (h.2 2551).2.2 20 ≤ 2147483647 := (g.2 2551 (by decide) (by decide)).2.2 20 (by decide)
theorem gf2551_21 {h : MH} (g : GI h) : -2147483648 ≤ (h.2 2551).2.2 21 ∧ (h.2 2551).2.2 21 ≤ 2147483647 := (g.2 2551 (by decide) (by decide)).2.2 21 (by decide)
theorem gf2551_22 {h : MH} (g : GI h) : (h.2 2551).2.2 22 = 2564 := by have h1 : 2564 ≤ (h.2 2551).2.2 22 ∧ (h.2 2551).2.2 22 ≤ 2564 := (g.2 2551 (by decide) (by decide)).2.2 22 (by decide); omega
theorem gf2551_23 {h : MH} (g : GI h) : (h.2 2551).2.2 23 = 2565 := by have h1 : 2565 ≤ (h.2 2551).2.2 23 ∧ (h.2 2551).2.2 23 ≤ 2565 := (g.2 2551 (by decide) (by decide)).2.2 23 (by decide); omega
theorem gf2551_24 {h : MH} (g : GI h) : (h.2 2551).2.2 24 = 2566 := by have h1 : 2566 ≤ (h.2 2551).2.2 24 ∧ (h.2 2551).2.2 24 ≤ 2566 := (g.2 2551 (by decide) (by decide)).2.2 24 (by decide); omega
theorem gf2551_25 {h : MH} (g : GI h) : (h.2 2551).2.2 25 = 2567 := by have h1 : 2567 ≤ (h.2 2551).2.2 25 ∧ (h.2 2551).2.2 25 ≤ 2567 := (g.2 2551 (by decide) (by decide)).2.2 25 (by decide); omega
theorem gf2551_26 {h : MH} (g : GI h) : (h.2 2551).2.2 26 = 2568 := by have h1 : 2568 ≤ (h.2 2551).2.2 26 ∧ (h.2 2551).2.2 26 ≤ 2568 := (g.2 2551 (by decide) (by decide)).2.2 26 (by decide); omega
theorem gf2551_27 {h : MH} (g : GI h) : -2147483648 ≤ (h.2 2551).2.2 27 ∧ (h.2 2551).2.2 27 ≤ 2147483647 := (g.2 2551 (by decide) (by decide)).2.2 27 (by decide)
theorem gf2551_28 {h : MH} (g : GI h) : -2147483648 ≤ (h.2 2551).2.2 28 ∧ (h.2 2551).2.2 28 ≤ 2147483647 := (g.2 2551 (by decide) (by decide)).2.2 28 (by decide)
theorem gf2551_29 {h : MH} (g : GI h) : (h.2 2551).2.2 29 = 2569 := by have h1 : 2569 ≤ (h.2 2551).2.2 29 ∧ (h.2 2551).2.2 29 ≤ 2569 := (g.2 2551 (by decide) (by decide)).2.2 29 (by decide); omega
theorem gk2552 {h : MH} (g : GI h) : (h.2 2552).1 = 0 := (g.2 2552 (by decide) (by decide)).1
theorem gl2552 {h : MH} (g : GI h) : (h.2 2552).2.1 = 6 := (g.2 2552 (by decide) (by decide)).2.1
theorem ge2552 {h : MH} (g : GI h) {j : Nat} (hj : j < 6) : -2147483648 ≤ (h.2 2552).2.2 j ∧ (h.2 2552).2.2 j ≤ 2147483647 := (g.2 2552 (by decide) (by decide)).2.2 j hj
theorem gk2553 {h : MH} (g : GI h) : (h.2 2553).1 = 0 := (g.2 2553 (by decide) (by decide)).1
theorem gl2553 {h : MH} (g : GI h) : (h.2 2553).2.1 = 6 := (g.2 2553 (by decide) (by decide)).2.1
theorem ge2553 {h : MH} (g : GI h) {j : Nat} (hj : j < 6) : -2147483648 ≤ (h.2 2553).2.2 j ∧ (h.2 2553).2.2 j ≤ 2147483647 := (g.2 2553 (by decide) (by decide)).2.2 j hj
theorem gk2554 {h : MH} (g : GI h) : (h.2 2554).1 = 2 := (g.2 2554 (by decide) (by decide)).1
theorem gl2554 {h : MH} (g : GI h) : (h.2 2554).2.1 = 36 := (g.2 2554 (by decide) (by decide)).2.1
theorem ge2554 {h : MH} (g : GI h) {j : Nat} (hj : j < 36) : 0 ≤ (h.2 2554).2.2 j ∧ (h.2 2554).2.2 j ≤ 1 := (g.2 2554 (by decide) (by decide)).2.2 j hj
theorem gk2555 {h : MH} (g : GI h) : (h.2 2555).1 = 0 := (g.2 2555 (by decide) (by decide)).1
theorem gl2555 {h : MH} (g : GI h) : (h.2 2555).2.1 = 36 := (g.2 2555 (by decide) (by decide)).2.1
theorem ge2555 {h : MH} (g : GI h) {j : Nat} (hj : j < 36) : -2147483648 ≤ (h.2 2555).2.2 j ∧ (h.2 2555).2.2 j ≤ 2147483647 := (g.2 2555 (by decide) (by decide)).2.2 j hj
theorem gk2556 {h : MH} (g : GI h) : (h.2 2556).1 = 0 := (g.2 2556 (by decide) (by decide)).1
theorem gl2556 {h : MH} (g : GI h) : (h.2 2556).2.1 = 3 := (g.2 2556 (by decide) (by decide)).2.1
theorem ge2556 {h : MH} (g : GI h) {j : Nat} (hj : j < 3) : -2147483648 ≤ (h.2 2556).2.2 j ∧ (h.2 2556).2.2 j ≤ 2147483647 := (g.2 2556 (by decide) (by decide)).2.2 j hj
theorem gk2557 {h : MH} (g : GI h) : (h.2 2557).1 = 0 := (g.2 2557 (by decide) (by decide)).1
theorem gl2557 {h : MH} (g : GI h) : (h.2 2557).2.1 = 45 := (g.2 2557 (by decide) (by decide)).2.1
theorem ge2557 {h : MH} (g : GI h) {j : Nat} (hj : j < 45) : -2147483648 ≤ (h.2 2557).2.2 j ∧ (h.2 2557).2.2 j ≤ 2147483647 := (g.2 2557 (by decide) (by decide)).2.2 j hj
theorem gk2558 {h : MH} (g : GI h) : (h.2 2558).1 = 0 := (g.2 2558 (by decide) (by decide)).1
theorem gl2558 {h : MH} (g : GI h) : (h.2 2558).2.1 = 15 := (g.2 2558 (by decide) (by decide)).2.1
theorem ge2558 {h : MH} (g : GI h) {j : Nat} (hj : j < 15) : -2147483648 ≤ (h.2 2558).2.2 j ∧ (h.2 2558).2.2 j ≤ 2147483647 := (g.2 2558 (by decide) (by decide)).2.2 j hj
theorem gk2559 {h : MH} (g : GI h) : (h.2 2559).1 = 0 := (g.2 2559 (by decide) (by decide)).1
theorem gl2559 {h : MH} (g : GI h) : (h.2 2559).2.1 = 60 := (g.2 2559 (by decide) (by decide)).2.1
theorem ge2559 {h : MH} (g : GI h) {j : Nat} (hj : j < 60) : -2147483648 ≤ (h.2 2559).2.2 j ∧ (h.2 2559).2.2 j ≤ 2147483647 := (g.2 2559 (by decide) (by decide)).2.2 j hj
theorem gk2560 {h : MH} (g : GI h) : (h.2 2560).1 = 0 := (g.2 2560 (by decide) (by decide)).1
theorem gl2560 {h : MH} (g : GI h) : (h.2 2560).2.1 = 14 := (g.2 2560 (by decide) (by decide)).2.1
theorem ge2560 {h : MH} (g : GI h) {j : Nat} (hj : j < 14) : -2147483648 ≤ (h.2 2560).2.2 j ∧ (h.2 2560).2.2 j ≤ 2147483647 := (g.2 2560 (by decide) (by decide)).2.2 j hj
theorem gk2561 {h : MH} (g : GI h) : (h.2 2561).1 = 0 := (g.2 2561 (by decide) (by decide)).1
theorem gl2561 {h : MH} (g : GI h) : (h.2 2561).2.1 = 14 := (g.2 2561 (by decide) (by decide)).2.1
theorem ge2561 {h : MH} (g : GI h) {j : Nat} (hj : j < 14) : -2147483648 ≤ (h.2 2561).2.2 j ∧ (h.2 2561).2.2 j ≤ 2147483647 := (g.2 2561 (by decide) (by decide)).2.2 j hj
theorem gk2562 {h : MH} (g : GI h) : (h.2 2562).1 = 0 := (g.2 2562 (by decide) (by decide)).1
theorem gl2562 {h : MH} (g : GI h) : (h.2 2562).2.1 = 60 := (g.2 2562 (by decide) (by decide)).2.1
theorem ge2562 {h : MH} (g : GI h) {j : Nat} (hj : j < 60) : -2147483648 ≤ (h.2 2562).2.2 j ∧ (h.2 2562).2.2 j ≤ 2147483647 := (g.2 2562 (by decide) (by decide)).2.2 j hj
theorem gk2563 {h : MH} (g : GI h) : (h.2 2563).1 = 0 := (g.2 2563 (by decide) (by decide)).1
theorem gl2563 {h : MH} (g : GI h) : (h.2 2563).2.1 = 60 := (g.2 2563 (by decide) (by decide)).2.1
theorem ge2563 {h : MH} (g : GI h) {j : Nat} (hj : j < 60) : -2147483648 ≤ (h.2 2563).2.2 j ∧ (h.2 2563).2.2 j ≤ 2147483647 := (g.2 2563 (by decide) (by decide)).2.2 j hj
theorem gk2564 {h : MH} (g : GI h) : (h.2 2564).1 = 0 := (g.2 2564 (by decide) (by decide)).1
theorem gl2564 {h : MH} (g : GI h) : (h.2 2564).2.1 = 5600 := (g.2 2564 (by decide) (by decide)).2.1
theorem ge2564 {h : MH} (g : GI h) {j : Nat} (hj : j < 5600) : -2147483648 ≤ (h.2 2564).2.2 j ∧ (h.2 2564).2.2 j ≤ 2147483647 := (g.2 2564 (by decide) (by decide)).2.2 j hj
theorem gk2565 {h : MH} (g : GI h) : (h.2 2565).1 = 0 := (g.2 2565 (by decide) (by decide)).1
theorem gl2565 {h : MH} (g : GI h) : (h.2 2565).2.1 = 400 := (g.2 2565 (by decide) (by decide)).2.1
theorem ge2565 {h : MH} (g : GI h) {j : Nat} (hj : j < 400) : -2147483648 ≤ (h.2 2565).2.2 j ∧ (h.2 2565).2.2 j ≤ 2147483647 := (g.2 2565 (by decide) (by decide)).2.2 j hj
theorem gk2566 {h : MH} (g : GI h) : (h.2 2566).1 = 0 := (g.2 2566 (by decide) (by decide)).1
theorem gl2566 {h : MH} (g : GI h) : (h.2 2566).2.1 = 400 := (g.2 2566 (by decide) (by decide)).2.1
theorem ge2566 {h : MH} (g : GI h) {j : Nat} (hj : j < 400) : -2147483648 ≤ (h.2 2566).2.2 j ∧ (h.2 2566).2.2 j ≤ 2147483647 := (g.2 2566 (by decide) (by decide)).2.2 j hj
theorem gk2567 {h : MH} (g : GI h) : (h.2 2567).1 = 0 := (g.2 2567 (by decide) (by decide)).1
theorem gl2567 {h : MH} (g : GI h) : (h.2 2567).2.1 = 400 := (g.2 2567 (by decide) (by decide)).2.1
theorem ge2567 {h : MH} (g : GI h) {j : Nat} (hj : j < 400) : -2147483648 ≤ (h.2 2567).2.2 j ∧ (h.2 2567).2.2 j ≤ 2147483647 := (g.2 2567 (by decide) (by decide)).2.2 j hj
theorem gk2568 {h : MH} (g : GI h) : (h.2 2568).1 = 0 := (g.2 2568 (by decide) (by decide)).1
theorem gl2568 {h : MH} (g : GI h) : (h.2 2568).2.1 = 4000 := (g.2 2568 (by decide) (by decide)).2.1
theorem ge2568 {h : MH} (g : GI h) {j : Nat} (hj : j < 4000) : -2147483648 ≤ (h.2 2568).2.2 j ∧ (h.2 2568).2.2 j ≤ 2147483647 := (g.2 2568 (by decide) (by decide)).2.2 j hj
theorem gk2569 {h : MH} (g : GI h) : (h.2 2569).1 = 0 := (g.2 2569 (by decide) (by decide)).1
theorem gl2569 {h : MH} (g : GI h) : (h.2 2569).2.1 = 400 := (g.2 2569 (by decide) (by decide)).2.1
theorem ge2569 {h : MH} (g : GI h) {j : Nat} (hj : j < 400) : -2147483648 ≤ (h.2 2569).2.2 j ∧ (h.2 2569).2.2 j ≤ 2147483647 := (g.2 2569 (by decide) (by decide)).2.2 j hj
theorem gk2570 {h : MH} (g : GI h) : (h.2 2570).1 = 16 + 17 := (g.2 2570 (by decide) (by decide)).1
theorem gf2570_0 {h : MH} (g : GI h) : -2147483648 ≤ (h.2 2570).2.2 0 ∧ (h.2 2570).2.2 0 ≤ 2147483647 := (g.2 2570 (by decide) (by decide)).2.2 0 (by decide)
theorem gf2570_1 {h : MH} (g : GI h) : (h.2 2570).2.2 1 = 2571 := by have h1 : 2571 ≤ (h.2 2570).2.2 1 ∧ (h.2 2570).2.2 1 ≤ 2571 := (g.2 2570 (by decide) (by decide)).2.2 1 (by decide); omega
theorem gf2570_2 {h : MH} (g : GI h) : (h.2 2570).2.2 2 = 2572 := by have h1 : 2572 ≤ (h.2 2570).2.2 2 ∧ (h.2 2570).2.2 2 ≤ 2572 := (g.2 2570 (by decide) (by decide)).2.2 2 (by decide); omega
theorem gf2570_3 {h : MH} (g : GI h) : (h.2 2570).2.2 3 = 2573 := by have h1 : 2573 ≤ (h.2 2570).2.2 3 ∧ (h.2 2570).2.2 3 ≤ 2573 := (g.2 2570 (by decide) (by decide)).2.2 3 (by decide); omega
theorem gf2570_4 {h : MH} (g : GI h) : (h.2 2570).2.2 4 = 2574 := by have h1 : 2574 ≤ (h.2 2570).2.2 4 ∧ (h.2 2570).2.2 4 ≤ 2574 := (g.2 2570 (by decide) (by decide)).2.2 4 (by decide); omega
theorem gf2570_5 {h : MH} (g : GI h) : (h.2 2570).2.2 5 = 2575 := by have h1 : 2575 ≤ (h.2 2570).2.2 5 ∧ (h.2 2570).2.2 5 ≤ 2575 := (g.2 2570 (by decide) (by decide)).2.2 5 (by decide); omega
theorem gf2570_6 {h : MH} (g : GI h) : -2147483648 ≤ (h.2 2570).2.2 6 ∧ (h.2 2570).2.2 6 ≤ 2147483647 := (g.2 2570 (by decide) (by decide)).2.2 6 (by decide)
theorem gf2570_7 {h : MH} (g : GI h) : (h.2 2570).2.2 7 = 2576 := by have h1 : 2576 ≤ (h.2 2570).2.2 7 ∧ (h.2 2570).2.2 7 ≤ 2576 := (g.2 2570 (by decide) (by decide)).2.2 7 (by decide); omega
theorem gf2570_8 {h : MH} (g : GI h) : (h.2 2570).2.2 8 = 2577 := by have h1 : 2577 ≤ (h.2 2570).2.2 8 ∧ (h.2 2570).2.2 8 ≤ 2577 := (g.2 2570 (by decide) (by decide)).2.2 8 (by decide); omega
theorem gf2570_9 {h : MH} (g : GI h) : (h.2 2570).2.2 9 = 2578 := by have h1 : 2578 ≤ (h.2 2570).2.2 9 ∧ (h.2 2570).2.2 9 ≤ 2578 := (g.2 2570 (by decide) (by decide)).2.2 9 (by decide); omega
theorem gf2570_10 {h : MH} (g : GI h) : (h.2 2570).2.2 10 = 2579 := by have h1 : 2579 ≤ (h.2 2570).2.2 10 ∧ (h.2 2570).2.2 10 ≤ 2579 := (g.2 2570 (by decide) (by decide)).2.2 10 (by decide); omega
theorem gf2570_11 {h : MH} (g : GI h) : (h.2 2570).2.2 11 = 2580 := by have h1 : 2580 ≤ (h.2 2570).2.2 11 ∧ (h.2 2570).2.2 11 ≤ 2580 := (g.2 2570 (by decide) (by decide)).2.2 11 (by decide); omega
theorem gf2570_12 {h : MH} (g : GI h) : (h.2 2570).2.2 12 = 2581 := by have h1 : 2581 ≤ (h.2 2570).2.2 12 ∧ (h.2 2570).2.2 12 ≤ 2581 := (g.2 2570 (by decide) (by decide)).2.2 12 (by decide); omega
theorem gf2570_13 {h : MH} (g : GI h) : (h.2 2570).2.2 13 = 2582 := by have h1 : 2582 ≤ (h.2 2570).2.2 13 ∧ (h.2 2570).2.2 13 ≤ 2582 := (g.2 2570 (by decide) (by decide)).2.2 13 (by decide); omega
theorem gf2570_14 {h : MH} (g : GI h) : -2147483648 ≤ (h.2 2570).2.2 14 ∧ (h.2 2570).2.2 14 ≤ 2147483647 := (g.2 2570 (by decide) (by decide)).2.2 14 (by decide)
theorem gf2570_15 {h : MH} (g : GI h) : (h.2 2570).2.2 15 = 2583 := by have h1 : 2583 ≤ (h.2 2570).2.2 15 ∧ (h.2 2570).2.2 15 ≤ 2583 := (g.2 2570 (by decide) (by decide)).2.2 15 (by decide); omega
theorem gf2570_16 {h : MH} (g : GI h) : -2147483648 ≤ (h.2 2570).2.2 16 ∧ (h.2 2570).2.2 16 ≤ 2147483647 := (g.2 2570 (by decide) (by decide)).2.2 16 (by decide)
theorem gf2570_17 {h : MH} (g : GI h) : (h.2 2570).2.2 17 = 2584 := by have h1 : 2584 ≤ (h.2 2570).2.2 17 ∧ (h.2 2570).2.2 17 ≤ 2584 := (g.2 2570 (by decide) (by decide)).2.2 17 (by decide); omega
theorem gf2570_18 {h : MH} (g : GI h) : -2147483648 ≤ (h.2 2570).2.2 18 ∧ (h.2 2570).2.2 18 ≤ 2147483647 := (g.2 2570 (by decide) (by decide)).2.2 18 (by decide)
theorem gf2570_19 {h : MH} (g : GI h) : (h.2 2570).2.2 19 = 2585 := by have h1 : 2585 ≤ (h.2 2570).2.2 19 ∧ (h.2 2570).2.2 19 ≤ 2585 := (g.2 2570 (by decide) (by decide)).2.2 19 (by decide); omega
theorem gf2570_20 {h : MH} (g : GI h) : -2147483648 ≤ (h.2 2570).2.2 20 ∧ (h.2 2570).2.2 20 ≤ 2147483647 := (g.2 2570 (by decide) (by decide)).2.2 20 (by decide)
theorem gf2570_21 {h : MH} (g : GI h) : (h.2 2570).2.2 21 = 2586 := by have h1 : 2586 ≤ (h.2 2570).2.2 21 ∧ (h.2 2570).2.2 21 ≤ 2586 := (g.2 2570 (by decide) (by decide)).2.2 21 (by decide); omega
theorem gf2570_22 {h : MH} (g : GI h) : (h.2 2570).2.2 22 = 2587 := by have h1 : 2587 ≤ (h.2 2570).2.2 22 ∧ (h.2 2570).2.2 22 ≤ 2587 := (g.2 2570 (by decide) (by decide)).2.2 22 (by decide); omega
theorem gf2570_23 {h : MH} (g : GI h) : (h.2 2570).2.2 23 = 2588 := by have h1 : 2588 ≤ (h.2 2570).2.2 23 ∧ (h.2 2570).2.2 23 ≤ 2588 := (g.2 2570 (by decide) (by decide)).2.2 23 (by decide); omega
theorem gf2570_24 {h : MH} (g : GI h) : -2147483648 ≤ (h.2 2570).2.2 24 ∧ (h.2 2570).2.2 24 ≤ 2147483647 := (g.2 2570 (by decide) (by decide)).2.2 24 (by decide)
theorem gf2570_25 {h : MH} (g : GI h) : (h.2 2570).2.2 25 = 2589 := by have h1 : 2589 ≤ (h.2 2570).2.2 25 ∧ (h.2 2570).2.2 25 ≤ 2589 := (g.2 2570 (by decide) (by decide)).2.2 25 (by decide); omega
theorem gf2570_26 {h : MH} (g : GI h) : (h.2 2570).2.2 26 = 2590 := by have h1 : 2590 ≤ (h.2 2570).2.2 26 ∧ (h.2 2570).2.2 26 ≤ 2590 := (g.2 2570 (by decide) (by decide)).2.2 26 (by decide); omega
theorem gf2570_27 {h : MH} (g : GI h) : (h.2 2570).2.2 27 = 2591 := by have h1 : 2591 ≤ (h.2 2570).2.2 27 ∧ (h.2 2570).2.2 27 ≤ 2591 := (g.2 2570 (by decide) (by decide)).2.2 27 (by decide); omega
theorem gf2570_28 {h : MH} (g : GI h) : (h.2 2570).2.2 28 = 2592 := by have h1 : 2592 ≤ (h.2 2570).2.2 28 ∧ (h.2 2570).2.2 28 ≤ 2592 := (g.2 2570 (by decide) (by decide)).2.2 28 (by decide); omega
theorem gf2570_29 {h : MH} (g : GI h) : (h.2 2570).2.2 29 = 2593 := by have h1 : 2593 ≤ (h.2 2570).2.2 29 ∧ (h.2 2570).2.2 29 ≤ 2593 := (g.2 2570 (by decide) (by decide)).2.2 29 (by decide); omega
theorem gf2570_30 {h : MH} (g : GI h) : (h.2 2570).2.2 30 = 2594 := by have h1 : 2594 ≤ (h.2 2570).2.2 30 ∧ (h.2 2570).2.2 30 ≤ 2594 := (g.2 2570 (by decide) (by decide)).2.2 30 (by decide); omega
theorem gf2570_31 {h : MH} (g : GI h) : -2147483648 ≤ (h.2 2570).2.2 31 ∧ (h.2 2570).2.2 31 ≤ 2147483647 := (g.2 2570 (by decide) (by decide)).2.2 31 (by decide)
theorem gk2583 {h : MH} (g : GI h) : (h.2 2583).1 = 0 := (g.2 2583 (by decide) (by decide)).1
theorem gl2583 {h : MH} (g : GI h) : (h.2 2583).2.1 = 1200 := (g.2 2583 (by decide) (by decide)).2.1
theorem ge2583 {h : MH} (g : GI h) {j : Nat} (hj : j < 1200) : -2147483648 ≤ (h.2 2583).2.2 j ∧ (h.2 2583).2.2 j ≤ 2147483647 := (g.2 2583 (by decide) (by decide)).2.2 j hj
theorem gk2584 {h : MH} (g : GI h) : (h.2 2584).1 = 0 := (g.2 2584 (by decide) (by decide)).1
theorem gl2584 {h : MH} (g : GI h) : (h.2 2584).2.1 = 600 := (g.2 2584 (by decide) (by decide)).2.1
theorem ge2584 {h : MH} (g : GI h) {j : Nat} (hj : j < 600) : -2147483648 ≤ (h.2 2584).2.2 j ∧ (h.2 2584).2.2 j ≤ 2147483647 := (g.2 2584 (by decide) (by decide)).2.2 j hj
theorem gk2585 {h : MH} (g : GI h) : (h.2 2585).1 = 0 := (g.2 2585 (by decide) (by decide)).1
theorem gl2585 {h : MH} (g : GI h) : (h.2 2585).2.1 = 180 := (g.2 2585 (by decide) (by decide)).2.1
theorem ge2585 {h : MH} (g : GI h) {j : Nat} (hj : j < 180) : -2147483648 ≤ (h.2 2585).2.2 j ∧ (h.2 2585).2.2 j ≤ 2147483647 := (g.2 2585 (by decide) (by decide)).2.2 j hj
theorem gk2586 {h : MH} (g : GI h) : (h.2 2586).1 = 0 := (g.2 2586 (by decide) (by decide)).1
theorem gl2586 {h : MH} (g : GI h) : (h.2 2586).2.1 = 36 := (g.2 2586 (by decide) (by decide)).2.1
theorem ge2586 {h : MH} (g : GI h) {j : Nat} (hj : j < 36) : -2147483648 ≤ (h.2 2586).2.2 j ∧ (h.2 2586).2.2 j ≤ 2147483647 := (g.2 2586 (by decide) (by decide)).2.2 j hj
theorem gk2587 {h : MH} (g : GI h) : (h.2 2587).1 = 1 := (g.2 2587 (by decide) (by decide)).1
theorem gl2587 {h : MH} (g : GI h) : (h.2 2587).2.1 = 10216 := (g.2 2587 (by decide) (by decide)).2.1
theorem ge2587 {h : MH} (g : GI h) {j : Nat} (hj : j < 10216) : -9223372036854775808 ≤ (h.2 2587).2.2 j ∧ (h.2 2587).2.2 j ≤ 9223372036854775807 := (g.2 2587 (by decide) (by decide)).2.2 j hj
theorem gk2588 {h : MH} (g : GI h) : (h.2 2588).1 = 1 := (g.2 2588 (by decide) (by decide)).1
theorem gl2588 {h : MH} (g : GI h) : (h.2 2588).2.1 = 40864 := (g.2 2588 (by decide) (by decide)).2.1
theorem ge2588 {h : MH} (g : GI h) {j : Nat} (hj : j < 40864) : -9223372036854775808 ≤ (h.2 2588).2.2 j ∧ (h.2 2588).2.2 j ≤ 9223372036854775807 := (g.2 2588 (by decide) (by decide)).2.2 j hj
theorem gk2589 {h : MH} (g : GI h) : (h.2 2589).1 = 0 := (g.2 2589 (by decide) (by decide)).1
theorem gl2589 {h : MH} (g : GI h) : (h.2 2589).2.1 = 24 := (g.2 2589 (by decide) (by decide)).2.1
theorem ge2589 {h : MH} (g : GI h) {j : Nat} (hj : j < 24) : -2147483648 ≤ (h.2 2589).2.2 j ∧ (h.2 2589).2.2 j ≤ 2147483647 := (g.2 2589 (by decide) (by decide)).2.2 j hj
theorem gk2590 {h : MH} (g : GI h) : (h.2 2590).1 = 0 := (g.2 2590 (by decide) (by decide)).1
theorem gl2590 {h : MH} (g : GI h) : (h.2 2590).2.1 = 24 := (g.2 2590 (by decide) (by decide)).2.1
theorem ge2590 {h : MH} (g : GI h) {j : Nat} (hj : j < 24) : -2147483648 ≤ (h.2 2590).2.2 j ∧ (h.2 2590).2.2 j ≤ 2147483647 := (g.2 2590 (by decide) (by decide)).2.2 j hj
theorem gk2591 {h : MH} (g : GI h) : (h.2 2591).1 = 0 := (g.2 2591 (by decide) (by decide)).1
theorem gl2591 {h : MH} (g : GI h) : (h.2 2591).2.1 = 24 := (g.2 2591 (by decide) (by decide)).2.1
theorem ge2591 {h : MH} (g : GI h) {j : Nat} (hj : j < 24) : -2147483648 ≤ (h.2 2591).2.2 j ∧ (h.2 2591).2.2 j ≤ 2147483647 := (g.2 2591 (by decide) (by decide)).2.2 j hj
theorem gk2592 {h : MH} (g : GI h) : (h.2 2592).1 = 0 := (g.2 2592 (by decide) (by decide)).1
theorem gl2592 {h : MH} (g : GI h) : (h.2 2592).2.1 = 24 := (g.2 2592 (by decide) (by decide)).2.1
theorem ge2592 {h : MH} (g : GI h) {j : Nat} (hj : j < 24) : -2147483648 ≤ (h.2 2592).2.2 j ∧ (h.2 2592).2.2 j ≤ 2147483647 := (g.2 2592 (by decide) (by decide)).2.2 j hj
theorem gk2593 {h : MH} (g : GI h) : (h.2 2593).1 = 2 := (g.2 2593 (by decide) (by decide)).1
theorem gl2593 {h : MH} (g : GI h) : (h.2 2593).2.1 = 24 := (g.2 2593 (by decide) (by decide)).2.1
theorem ge2593 {h : MH} (g : GI h) {j : Nat} (hj : j < 24) : 0 ≤ (h.2 2593).2.2 j ∧ (h.2 2593).2.2 j ≤ 1 := (g.2 2593 (by decide) (by decide)).2.2 j hj
theorem gk2594 {h : MH} (g : GI h) : (h.2 2594).1 = 0 := (g.2 2594 (by decide) (by decide)).1
theorem gl2594 {h : MH} (g : GI h) : (h.2 2594).2.1 = 24 := (g.2 2594 (by decide) (by decide)).2.1
theorem ge2594 {h : MH} (g : GI h) {j : Nat} (hj : j < 24) : -2147483648 ≤ (h.2 2594).2.2 j ∧ (h.2 2594).2.2 j ≤ 2147483647 := (g.2 2594 (by decide) (by decide)).2.2 j hj
theorem gk2595 {h : MH} (g : GI h) : (h.2 2595).1 = 16 + 15 := (g.2 2595 (by decide) (by decide)).1
theorem gf2595_0 {h : MH} (g : GI h) : -2147483648 ≤ (h.2 2595).2.2 0 ∧ (h.2 2595).2.2 0 ≤ 2147483647 := (g.2 2595 (by decide) (by decide)).2.2 0 (by decide)
theorem gf2595_1 {h : MH} (g : GI h) : -2147483648 ≤ (h.2 2595).2.2 1 ∧ (h.2 2595).2.2 1 ≤ 2147483647 := (g.2 2595 (by decide) (by decide)).2.2 1 (by decide)
theorem gf2595_2 {h : MH} (g : GI h) : (h.2 2595).2.2 2 = 2596 := by have h1 : 2596 ≤ (h.2 2595).2.2 2 ∧ (h.2 2595).2.2 2 ≤ 2596 := (g.2 2595 (by decide) (by decide)).2.2 2 (by decide); omega
theorem gf2595_3 {h : MH} (g : GI h) : (h.2 2595).2.2 3 = 2597 := by have h1 : 2597 ≤ (h.2 2595).2.2 3 ∧ (h.2 2595).2.2 3 ≤ 2597 := (g.2 2595 (by decide) (by decide)).2.2 3 (by decide); omega
theorem gf2595_4 {h : MH} (g : GI h) : -2147483648 ≤ (h.2 2595).2.2 4 ∧ (h.2 2595).2.2 4 ≤ 2147483647 := (g.2 2595 (by decide) (by decide)).2.2 4 (by decide)
theorem gf2595_5 {h : MH} (g : GI h) : (h.2 2595).2.2 5 = 2598 := by have h1 : 2598 ≤ (h.2 2595).2.2 5 ∧ (h.2 2595).2.2 5 ≤ 2598 := (g.2 2595 (by decide) (by decide)).2.2 5 (by decide); omega
theorem gf2595_6 {h : MH} (g : GI h) : (h.2 2595).2.2 6 = 2599 := by have h1 : 2599 ≤ (h.2 2595).2.2 6 ∧ (h.2 2595).2.2 6 ≤ 2599 := (g.2 2595 (by decide) (by decide)).2.2 6 (by decide); omega
theorem gf2595_7 {h : MH} (g : GI h) : -2147483648 ≤ (h.2 2595).2.2 7 ∧ (h.2 2595).2.2 7 ≤ 2147483647 := (g.2 2595 (by decide) (by decide)).2.2 7 (by decide)
theorem gf2595_8 {h : MH} (g : GI h) : (h.2 2595).2.2 8 = 2600 := by have h1 : 2600 ≤ (h.2 2595).2.2 8 ∧ (h.2 2595).2.2 8 ≤ 2600 := (g.2 2595 (by decide) (by decide)).2.2 8 (by decide); omega
theorem gf2595_9 {h : MH} (g : GI h) : (h.2 2595).2.2 9 = 2601 := by have h1 : 2601 ≤ (h.2 2595).2.2 9 ∧ (h.2 2595).2.2 9 ≤ 2601 := (g.2 2595 (by decide) (by decide)).2.2 9 (by decide); omega
theorem gf2595_10 {h : MH} (g : GI h) : (h.2 2595).2.2 10 = 2602 := by have h1 : 2602 ≤ (h.2 2595).2.2 10 ∧ (h.2 2595).2.2 10 ≤ 2602 := (g.2 2595 (by decide) (by decide)).2.2 10 (by decide); omega
theorem gf2595_11 {h : MH} (g : GI h) : (h.2 2595).2.2 11 = 2603 := by have h1 : 2603 ≤ (h.2 2595).2.2 11 ∧ (h.2 2595).2.2 11 ≤ 2603 := (g.2 2595 (by decide) (by decide)).2.2 11 (by decide); omega
theorem gf2595_12 {h : MH} (g : GI h) : -2147483648 ≤ (h.2 2595).2.2 12 ∧ (h.2 2595).2.2 12 ≤ 2147483647 := (g.2 2595 (by decide) (by decide)).2.2 12 (by decide)
theorem gf2595_13 {h : MH} (g : GI h) : -2147483648 ≤ (h.2 2595).2.2 13 ∧ (h.2 2595).2.2 13 ≤ 2147483647 := (g.2 2595 (by decide) (by decide)).2.2 13 (by decide)
theorem gf2595_14 {h : MH} (g : GI h) : (h.2 2595).2.2 14 = 2604 := by have h1 : 2604 ≤ (h.2 2595).2.2 14 ∧ (h.2 2595).2.2 14 ≤ 2604 := (g.2 2595 (by decide) (by decide)).2.2 14 (by decide); omega
theorem gf2595_15 {h : MH} (g : GI h) : (h.2 2595).2.2 15 = 2605 := by have h1 : 2605 ≤ (h.2 2595).2.2 15 ∧ (h.2 2595).2.2 15 ≤ 2605 := (g.2 2595 (by decide) (by decide)).2.2 15 (by decide); omega
theorem gf2595_16 {h : MH} (g : GI h) : -2147483648 ≤ (h.2 2595).2.2 16 ∧ (h.2 2595).2.2 16 ≤ 2147483647 := (g.2 2595 (by decide) (by decide)).2.2 16 (by decide)
theorem gf2595_17 {h : MH} (g : GI h) : (h.2 2595).2.2 17 = 2606 := by have h1 : 2606 ≤ (h.2 2595).2.2 17 ∧ (h.2 2595).2.2 17 ≤ 2606 := (g.2 2595 (by decide) (by decide)).2.2 17 (by decide); omega
theorem gf2595_18 {h : MH} (g : GI h) : -2147483648 ≤ (h.2 2595).2.2 18 ∧ (h.2 2595).2.2 18 ≤ 2147483647 := (g.2 2595 (by decide) (by decide)).2.2 18 (by decide)
theorem gf2595_19 {h : MH} (g : GI h) : (h.2 2595).2.2 19 = 2607 := by have h1 : 2607 ≤ (h.2 2595).2.2 19 ∧ (h.2 2595).2.2 19 ≤ 2607 := (g.2 2595 (by decide) (by decide)).2.2 19 (by decide); omega
theorem gf2595_20 {h : MH} (g : GI h) : (h.2 2595).2.2 20 = 2608 := by have h1 : 2608 ≤ (h.2 2595).2.2 20 ∧ (h.2 2595).2.2 20 ≤ 2608 := (g.2 2595 (by decide) (by decide)).2.2 20 (by decide); omega
theorem gf2595_21 {h : MH} (g : GI h) : (h.2 2595).2.2 21 = 2609 := by have h1 : 2609 ≤ (h.2 2595).2.2 21 ∧ (h.2 2595).2.2 21 ≤ 2609 := (g.2 2595 (by decide) (by decide)).2.2 21 (by decide); omega
theorem gf2595_22 {h : MH} (g : GI h) : -2147483648 ≤ (h.2 2595).2.2 22 ∧ (h.2 2595).2.2 22 ≤ 2147483647 := (g.2 2595 (by decide) (by decide)).2.2 22 (by decide)
theorem gf2595_23 {h : MH} (g : GI h) : (h.2 2595).2.2 23 = 2610 := by have h1 : 2610 ≤ (h.2 2595).2.2 23 ∧ (h.2 2595).2.2 23 ≤ 2610 := (g.2 2595 (by decide) (by decide)).2.2 23 (by decide); omega
theorem gf2595_24 {h : MH} (g : GI h) : -2147483648 ≤ (h.2 2595).2.2 24 ∧ (h.2 2595).2.2 24 ≤ 2147483647 := (g.2 2595 (by decide) (by decide)).2.2 24 (by decide)
theorem gf2595_25 {h : MH} (g : GI h) : (h.2 2595).2.2 25 = 2611 := by have h1 : 2611 ≤ (h.2 2595).2.2 25 ∧ (h.2 2595).2.2 25 ≤ 2611 := (g.2 2595 (by decide) (by decide)).2.2 25 (by decide); omega
theorem gf2595_26 {h : MH} (g : GI h) : -2147483648 ≤ (h.2 2595).2.2 26 ∧ (h.2 2595).2.2 26 ≤ 2147483647 := (g.2 2595 (by decide) (by decide)).2.2 26 (by decide)
theorem gf2595_27 {h : MH} (g : GI h) : (h.2 2595).2.2 27 = 2612 := by have h1 : 2612 ≤ (h.2 2595).2.2 27 ∧ (h.2 2595).2.2 27 ≤ 2612 := (g.2 2595 (by decide) (by decide)).2.2 27 (by decide); omega
theorem gf2595_28 {h : MH} (g : GI h) : (h.2 2595).2.2 28 = 2613 := by have h1 : 2613 ≤ (h.2 2595).2.2 28 ∧ (h.2 2595).2.2 28 ≤ 2613 := (g.2 2595 (by decide) (by decide)).2.2 28 (by decide); omega
theorem gf2595_29 {h : MH} (g : GI h) : (h.2 2595).2.2 29 = 2614 := by have h1 : 2614 ≤ (h.2 2595).2.2 29 ∧ (h.2 2595).2.2 29 ≤ 2614 := (g.2 2595 (by decide) (by decide)).2.2 29 (by decide); omega
theorem gf2595_30 {h : MH} (g : GI h) : (h.2 2595).2.2 30 = 2615 := by have h1 : 2615 ≤ (h.2 2595).2.2 30 ∧ (h.2 2595).2.2 30 ≤ 2615 := (g.2 2595 (by decide) (by decide)).2.2 30 (by decide); omega
theorem gf2595_31 {h : MH} (g : GI h) : -9223372036854775808 ≤ (h.2 2595).2.2 31 ∧ (h.2 2595).2.2 31 ≤ 9223372036854775807 := (g.2 2595 (by decide) (by decide)).2.2 31 (by decide)
theorem gf2595_32 {h : MH} (g : GI h) : -9223372036854775808 ≤ (h.2 2595).2.2 32 ∧ (h.2 2595).2.2 32 ≤ 9223372036854775807 := (g.2 2595 (by decide) (by decide)).2.2 32 (by decide)
theorem gf2595_33 {h : MH} (g : GI h) : -2147483648 ≤ (h.2 2595).2.2 33 ∧ (h.2 2595).2.2 33 ≤ 2147483647 := (g.2 2595 (by decide) (by decide)).2.2 33 (by decide)
theorem gf2595_34 {h : MH} (g : GI h) : (h.2 2595).2.2 34 = 2616 := by have h1 : 2616 ≤ (h.2 2595).2.2 34 ∧ (h.2 2595).2.2 34 ≤ 2616 := (g.2 2595 (by decide) (by decide)).2.2 34 (by decide); omega
theorem gf2595_35 {h : MH} (g : GI h) : (h.2 2595).2.2 35 = 2617 := by have h1 : 2617 ≤ (h.2 2595).2.2 35 ∧ (h.2 2595).2.2 35 ≤ 2617 := (g.2 2595 (by decide) (by decide)).2.2 35 (by decide); omega
theorem gf2595_36 {h : MH} (g : GI h) : 0 ≤ (h.2 2595).2.2 36 ∧ (h.2 2595).2.2 36 ≤ 1 := (g.2 2595 (by decide) (by decide)).2.2 36 (by decide)
theorem gf2595_37 {h : MH} (g : GI h) : -2147483648 ≤ (h.2 2595).2.2 37 ∧ (h.2 2595).2.2 37 ≤ 2147483647 := (g.2 2595 (by decide) (by decide)).2.2 37 (by decide)
theorem gf2595_38 {h : MH} (g : GI h) : (h.2 2595).2.2 38 = 2618 := by have h1 : 2618 ≤ (h.2 2595).2.2 38 ∧ (h.2 2595).2.2 38 ≤ 2618 := (g.2 2595 (by decide) (by decide)).2.2 38 (by decide); omega
theorem gf2595_39 {h : MH} (g : GI h) : -2147483648 ≤ (h.2 2595).2.2 39 ∧ (h.2 2595).2.2 39 ≤ 2147483647 := (g.2 2595 (by decide) (by decide)).2.2 39 (by decide)
theorem gk2596 {h : MH} (g : GI h) : (h.2 2596).1 = 0 := (g.2 2596 (by decide) (by decide)).1
theorem gl2596 {h : MH} (g : GI h) : (h.2 2596).2.1 = 200 := (g.2 2596 (by decide) (by decide)).2.1
theorem ge2596 {h : MH} (g : GI h) {j : Nat} (hj : j < 200) : -2147483648 ≤ (h.2 2596).2.2 j ∧ (h.2 2596).2.2 j ≤ 2147483647 := (g.2 2596 (by decide) (by decide)).2.2 j hj
theorem gk2597 {h : MH} (g : GI h) : (h.2 2597).1 = 0 := (g.2 2597 (by decide) (by decide)).1
theorem gl2597 {h : MH} (g : GI h) : (h.2 2597).2.1 = 200 := (g.2 2597 (by decide) (by decide)).2.1
theorem ge2597 {h : MH} (g : GI h) {j : Nat} (hj : j < 200) : -2147483648 ≤ (h.2 2597).2.2 j ∧ (h.2 2597).2.2 j ≤ 2147483647 := (g.2 2597 (by decide) (by decide)).2.2 j hj
theorem gk2598 {h : MH} (g : GI h) : (h.2 2598).1 = 0 := (g.2 2598 (by decide) (by decide)).1
theorem gl2598 {h : MH} (g : GI h) : (h.2 2598).2.1 = 201 := (g.2 2598 (by decide) (by decide)).2.1
theorem ge2598 {h : MH} (g : GI h) {j : Nat} (hj : j < 201) : -2147483648 ≤ (h.2 2598).2.2 j ∧ (h.2 2598).2.2 j ≤ 2147483647 := (g.2 2598 (by decide) (by decide)).2.2 j hj
theorem gk2599 {h : MH} (g : GI h) : (h.2 2599).1 = 0 := (g.2 2599 (by decide) (by decide)).1
theorem gl2599 {h : MH} (g : GI h) : (h.2 2599).2.1 = 201 := (g.2 2599 (by decide) (by decide)).2.1
theorem ge2599 {h : MH} (g : GI h) {j : Nat} (hj : j < 201) : -2147483648 ≤ (h.2 2599).2.2 j ∧ (h.2 2599).2.2 j ≤ 2147483647 := (g.2 2599 (by decide) (by decide)).2.2 j hj
theorem gk2600 {h : MH} (g : GI h) : (h.2 2600).1 = 0 := (g.2 2600 (by decide) (by decide)).1
theorem gl2600 {h : MH} (g : GI h) : (h.2 2600).2.1 = 8 := (g.2 2600 (by decide) (by decide)).2.1
theorem ge2600 {h : MH} (g : GI h) {j : Nat} (hj : j < 8) : -2147483648 ≤ (h.2 2600).2.2 j ∧ (h.2 2600).2.2 j ≤ 2147483647 := (g.2 2600 (by decide) (by decide)).2.2 j hj
theorem gk2601 {h : MH} (g : GI h) : (h.2 2601).1 = 0 := (g.2 2601 (by decide) (by decide)).1
theorem gl2601 {h : MH} (g : GI h) : (h.2 2601).2.1 = 8 := (g.2 2601 (by decide) (by decide)).2.1
theorem ge2601 {h : MH} (g : GI h) {j : Nat} (hj : j < 8) : -2147483648 ≤ (h.2 2601).2.2 j ∧ (h.2 2601).2.2 j ≤ 2147483647 := (g.2 2601 (by decide) (by decide)).2.2 j hj
theorem gk2602 {h : MH} (g : GI h) : (h.2 2602).1 = 0 := (g.2 2602 (by decide) (by decide)).1
theorem gl2602 {h : MH} (g : GI h) : (h.2 2602).2.1 = 8 := (g.2 2602 (by decide) (by decide)).2.1
theorem ge2602 {h : MH} (g : GI h) {j : Nat} (hj : j < 8) : -2147483648 ≤ (h.2 2602).2.2 j ∧ (h.2 2602).2.2 j ≤ 2147483647 := (g.2 2602 (by decide) (by decide)).2.2 j hj
theorem gk2603 {h : MH} (g : GI h) : (h.2 2603).1 = 0 := (g.2 2603 (by decide) (by decide)).1
theorem gl2603 {h : MH} (g : GI h) : (h.2 2603).2.1 = 8 := (g.2 2603 (by decide) (by decide)).2.1
theorem ge2603 {h : MH} (g : GI h) {j : Nat} (hj : j < 8) : -2147483648 ≤ (h.2 2603).2.2 j ∧ (h.2 2603).2.2 j ≤ 2147483647 := (g.2 2603 (by decide) (by decide)).2.2 j hj
theorem gk2604 {h : MH} (g : GI h) : (h.2 2604).1 = 1 := (g.2 2604 (by decide) (by decide)).1
theorem gl2604 {h : MH} (g : GI h) : (h.2 2604).2.1 = 8 := (g.2 2604 (by decide) (by decide)).2.1
theorem ge2604 {h : MH} (g : GI h) {j : Nat} (hj : j < 8) : -9223372036854775808 ≤ (h.2 2604).2.2 j ∧ (h.2 2604).2.2 j ≤ 9223372036854775807 := (g.2 2604 (by decide) (by decide)).2.2 j hj
theorem gk2605 {h : MH} (g : GI h) : (h.2 2605).1 = 0 := (g.2 2605 (by decide) (by decide)).1
theorem gl2605 {h : MH} (g : GI h) : (h.2 2605).2.1 = 8 := (g.2 2605 (by decide) (by decide)).2.1
theorem ge2605 {h : MH} (g : GI h) {j : Nat} (hj : j < 8) : -2147483648 ≤ (h.2 2605).2.2 j ∧ (h.2 2605).2.2 j ≤ 2147483647 := (g.2 2605 (by decide) (by decide)).2.2 j hj
theorem gk2606 {h : MH} (g : GI h) : (h.2 2606).1 = 0 := (g.2 2606 (by decide) (by decide)).1
theorem gl2606 {h : MH} (g : GI h) : (h.2 2606).2.1 = 160 := (g.2 2606 (by decide) (by decide)).2.1
theorem ge2606 {h : MH} (g : GI h) {j : Nat} (hj : j < 160) : -2147483648 ≤ (h.2 2606).2.2 j ∧ (h.2 2606).2.2 j ≤ 2147483647 := (g.2 2606 (by decide) (by decide)).2.2 j hj
theorem gk2607 {h : MH} (g : GI h) : (h.2 2607).1 = 0 := (g.2 2607 (by decide) (by decide)).1
theorem gl2607 {h : MH} (g : GI h) : (h.2 2607).2.1 = 240 := (g.2 2607 (by decide) (by decide)).2.1
theorem ge2607 {h : MH} (g : GI h) {j : Nat} (hj : j < 240) : -2147483648 ≤ (h.2 2607).2.2 j ∧ (h.2 2607).2.2 j ≤ 2147483647 := (g.2 2607 (by decide) (by decide)).2.2 j hj
theorem gk2608 {h : MH} (g : GI h) : (h.2 2608).1 = 0 := (g.2 2608 (by decide) (by decide)).1
theorem gl2608 {h : MH} (g : GI h) : (h.2 2608).2.1 = 240 := (g.2 2608 (by decide) (by decide)).2.1
theorem ge2608 {h : MH} (g : GI h) {j : Nat} (hj : j < 240) : -2147483648 ≤ (h.2 2608).2.2 j ∧ (h.2 2608).2.2 j ≤ 2147483647 := (g.2 2608 (by decide) (by decide)).2.2 j hj
theorem gk2609 {h : MH} (g : GI h) : (h.2 2609).1 = 0 := (g.2 2609 (by decide) (by decide)).1
theorem gl2609 {h : MH} (g : GI h) : (h.2 2609).2.1 = 240 := (g.2 2609 (by decide) (by decide)).2.1
theorem ge2609 {h : MH} (g : GI h) {j : Nat} (hj : j < 240) : -2147483648 ≤ (h.2 2609).2.2 j ∧ (h.2 2609).2.2 j ≤ 2147483647 := (g.2 2609 (by decide) (by decide)).2.2 j hj
theorem gk2610 {h : MH} (g : GI h) : (h.2 2610).1 = 0 := (g.2 2610 (by decide) (by decide)).1
theorem gl2610 {h : MH} (g : GI h) : (h.2 2610).2.1 = 80 := (g.2 2610 (by decide) (by decide)).2.1
theorem ge2610 {h : MH} (g : GI h) {j : Nat} (hj : j < 80) : -2147483648 ≤ (h.2 2610).2.2 j ∧ (h.2 2610).2.2 j ≤ 2147483647 := (g.2 2610 (by decide) (by decide)).2.2 j hj
theorem gk2611 {h : MH} (g : GI h) : (h.2 2611).1 = 0 := (g.2 2611 (by decide) (by decide)).1
theorem gl2611 {h : MH} (g : GI h) : (h.2 2611).2.1 = 30 := (g.2 2611 (by decide) (by decide)).2.1
theorem ge2611 {h : MH} (g : GI h) {j : Nat} (hj : j < 30) : -2147483648 ≤ (h.2 2611).2.2 j ∧ (h.2 2611).2.2 j ≤ 2147483647 := (g.2 2611 (by decide) (by decide)).2.2 j hj
theorem gk2612 {h : MH} (g : GI h) : (h.2 2612).1 = 0 := (g.2 2612 (by decide) (by decide)).1
theorem gl2612 {h : MH} (g : GI h) : (h.2 2612).2.1 = 300 := (g.2 2612 (by decide) (by decide)).2.1
theorem ge2612 {h : MH} (g : GI h) {j : Nat} (hj : j < 300) : -2147483648 ≤ (h.2 2612).2.2 j ∧ (h.2 2612).2.2 j ≤ 2147483647 := (g.2 2612 (by decide) (by decide)).2.2 j hj
theorem gk2613 {h : MH} (g : GI h) : (h.2 2613).1 = 1 := (g.2 2613 (by decide) (by decide)).1
theorem gl2613 {h : MH} (g : GI h) : (h.2 2613).2.1 = 12 := (g.2 2613 (by decide) (by decide)).2.1
theorem ge2613 {h : MH} (g : GI h) {j : Nat} (hj : j < 12) : -9223372036854775808 ≤ (h.2 2613).2.2 j ∧ (h.2 2613).2.2 j ≤ 9223372036854775807 := (g.2 2613 (by decide) (by decide)).2.2 j hj
theorem gk2614 {h : MH} (g : GI h) : (h.2 2614).1 = 1 := (g.2 2614 (by decide) (by decide)).1
theorem gl2614 {h : MH} (g : GI h) : (h.2 2614).2.1 = 12 := (g.2 2614 (by decide) (by decide)).2.1
theorem ge2614 {h : MH} (g : GI h) {j : Nat} (hj : j < 12) : -9223372036854775808 ≤ (h.2 2614).2.2 j ∧ (h.2 2614).2.2 j ≤ 9223372036854775807 := (g.2 2614 (by decide) (by decide)).2.2 j hj
theorem gk2615 {h : MH} (g : GI h) : (h.2 2615).1 = 1 := (g.2 2615 (by decide) (by decide)).1
theorem gl2615 {h : MH} (g : GI h) : (h.2 2615).2.1 = 4 := (g.2 2615 (by decide) (by decide)).2.1
theorem ge2615 {h : MH} (g : GI h) {j : Nat} (hj : j < 4) : -9223372036854775808 ≤ (h.2 2615).2.2 j ∧ (h.2 2615).2.2 j ≤ 9223372036854775807 := (g.2 2615 (by decide) (by decide)).2.2 j hj
theorem gk2616 {h : MH} (g : GI h) : (h.2 2616).1 = 1 := (g.2 2616 (by decide) (by decide)).1
theorem gl2616 {h : MH} (g : GI h) : (h.2 2616).2.1 = 64 := (g.2 2616 (by decide) (by decide)).2.1
theorem ge2616 {h : MH} (g : GI h) {j : Nat} (hj : j < 64) : -9223372036854775808 ≤ (h.2 2616).2.2 j ∧ (h.2 2616).2.2 j ≤ 9223372036854775807 := (g.2 2616 (by decide) (by decide)).2.2 j hj
theorem gk2617 {h : MH} (g : GI h) : (h.2 2617).1 = 0 := (g.2 2617 (by decide) (by decide)).1
theorem gl2617 {h : MH} (g : GI h) : (h.2 2617).2.1 = 64 := (g.2 2617 (by decide) (by decide)).2.1
theorem ge2617 {h : MH} (g : GI h) {j : Nat} (hj : j < 64) : -2147483648 ≤ (h.2 2617).2.2 j ∧ (h.2 2617).2.2 j ≤ 2147483647 := (g.2 2617 (by decide) (by decide)).2.2 j hj
theorem gk2618 {h : MH} (g : GI h) : (h.2 2618).1 = 0 := (g.2 2618 (by decide) (by decide)).1
theorem gl2618 {h : MH} (g : GI h) : (h.2 2618).2.1 = 600 := (g.2 2618 (by decide) (by decide)).2.1
theorem ge2618 {h : MH} (g : GI h) {j : Nat} (hj : j < 600) : -2147483648 ≤ (h.2 2618).2.2 j ∧ (h.2 2618).2.2 j ≤ 2147483647 := (g.2 2618 (by decide) (by decide)).2.2 j hj
theorem gk2619 {h : MH} (g : GI h) : (h.2 2619).1 = 0 := (g.2 2619 (by decide) (by decide)).1
theorem gl2619 {h : MH} (g : GI h) : (h.2 2619).2.1 = 144 := (g.2 2619 (by decide) (by decide)).2.1
theorem ge2619 {h : MH} (g : GI h) {j : Nat} (hj : j < 144) : -2147483648 ≤ (h.2 2619).2.2 j ∧ (h.2 2619).2.2 j ≤ 2147483647 := (g.2 2619 (by decide) (by decide)).2.2 j hj
theorem gk2620 {h : MH} (g : GI h) : (h.2 2620).1 = 0 := (g.2 2620 (by decide) (by decide)).1
theorem gl2620 {h : MH} (g : GI h) : (h.2 2620).2.1 = 144 := (g.2 2620 (by decide) (by decide)).2.1
theorem ge2620 {h : MH} (g : GI h) {j : Nat} (hj : j < 144) : -2147483648 ≤ (h.2 2620).2.2 j ∧ (h.2 2620).2.2 j ≤ 2147483647 := (g.2 2620 (by decide) (by decide)).2.2 j hj
theorem gk2621 {h : MH} (g : GI h) : (h.2 2621).1 = 0 := (g.2 2621 (by decide) (by decide)).1
theorem gl2621 {h : MH} (g : GI h) : (h.2 2621).2.1 = 8 := (g.2 2621 (by decide) (by decide)).2.1
theorem ge2621 {h : MH} (g : GI h) {j : Nat} (hj : j < 8) : -2147483648 ≤ (h.2 2621).2.2 j ∧ (h.2 2621).2.2 j ≤ 2147483647 := (g.2 2621 (by decide) (by decide)).2.2 j hj
theorem gk2622 {h : MH} (g : GI h) : (h.2 2622).1 = 2 := (g.2 2622 (by decide) (by decide)).1
theorem gl2622 {h : MH} (g : GI h) : (h.2 2622).2.1 = 6 := (g.2 2622 (by decide) (by decide)).2.1
theorem ge2622 {h : MH} (g : GI h) {j : Nat} (hj : j < 6) : 0 ≤ (h.2 2622).2.2 j ∧ (h.2 2622).2.2 j ≤ 1 := (g.2 2622 (by decide) (by decide)).2.2 j hj
theorem gk2623 {h : MH} (g : GI h) : (h.2 2623).1 = 0 := (g.2 2623 (by decide) (by decide)).1
theorem gl2623 {h : MH} (g : GI h) : (h.2 2623).2.1 = 5001 := (g.2 2623 (by decide) (by decide)).2.1
theorem ge2623 {h : MH} (g : GI h) {j : Nat} (hj : j < 5001) : -2147483648 ≤ (h.2 2623).2.2 j ∧ (h.2 2623).2.2 j ≤ 2147483647 := (g.2 2623 (by decide) (by decide)).2.2 j hj
theorem gk2624 {h : MH} (g : GI h) : (h.2 2624).1 = 0 := (g.2 2624 (by decide) (by decide)).1
theorem gl2624 {h : MH} (g : GI h) : (h.2 2624).2.1 = 5001 := (g.2 2624 (by decide) (by decide)).2.1
theorem ge2624 {h : MH} (g : GI h) {j : Nat} (hj : j < 5001) : -2147483648 ≤ (h.2 2624).2.2 j ∧ (h.2 2624).2.2 j ≤ 2147483647 := (g.2 2624 (by decide) (by decide)).2.2 j hj
theorem gk2625 {h : MH} (g : GI h) : (h.2 2625).1 = 0 := (g.2 2625 (by decide) (by decide)).1
theorem gl2625 {h : MH} (g : GI h) : (h.2 2625).2.1 = 5001 := (g.2 2625 (by decide) (by decide)).2.1
theorem ge2625 {h : MH} (g : GI h) {j : Nat} (hj : j < 5001) : -2147483648 ≤ (h.2 2625).2.2 j ∧ (h.2 2625).2.2 j ≤ 2147483647 := (g.2 2625 (by decide) (by decide)).2.2 j hj
theorem gk2626 {h : MH} (g : GI h) : (h.2 2626).1 = 1 := (g.2 2626 (by decide) (by decide)).1
theorem gl2626 {h : MH} (g : GI h) : (h.2 2626).2.1 = 14 := (g.2 2626 (by decide) (by decide)).2.1
theorem ge2626 {h : MH} (g : GI h) {j : Nat} (hj : j < 14) : -9223372036854775808 ≤ (h.2 2626).2.2 j ∧ (h.2 2626).2.2 j ≤ 9223372036854775807 := (g.2 2626 (by decide) (by decide)).2.2 j hj
theorem gk2627 {h : MH} (g : GI h) : (h.2 2627).1 = 1 := (g.2 2627 (by decide) (by decide)).1
theorem gl2627 {h : MH} (g : GI h) : (h.2 2627).2.1 = 1 := (g.2 2627 (by decide) (by decide)).2.1
theorem ge2627 {h : MH} (g : GI h) {j : Nat} (hj : j < 1) : -9223372036854775808 ≤ (h.2 2627).2.2 j ∧ (h.2 2627).2.2 j ≤ 9223372036854775807 := (g.2 2627 (by decide) (by decide)).2.2 j hj
