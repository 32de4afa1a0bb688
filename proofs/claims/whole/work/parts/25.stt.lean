/-! ===== THE START: what the statement gives of the cells that were there before ===== -/
def kN : List String := ["TAVERN", "ROAD", "FROM", "TO", "MILES", "RUMOUR", "AT", "ON", "HURT", "BY", "MEND", "HUSH", "WHEN", "HOUR", "LENGTH", "WOUNDS", "FAR", "HEARD", "OPEN", "KNOWS", "PARTED", "NOT", "AND", "OR", "MIN", "MAX", "ROUND_OPENING", "ROUND_CLOSING", "SQUARE_OPENING", "SQUARE_CLOSING", "SEMICOLON", "COMMA", "PLUS", "MINUS", "TIMES", "OVER", "LESS", "GREATER", "EQUAL", "AT_MOST", "AT_LEAST", "NEGATE", "NAME", "NUMBER", "WRONG", "END"]
def kOp : List Nat := [0, 0, 0, 0, 0, 0, 0, 0, 0, 0, 0, 0, 0, 0, 0, 0, 0, 0, 0, 0, 0, 1, 2, 2, 2, 2, 0, 0, 0, 0, 0, 0, 2, 2, 2, 2, 2, 2, 2, 2, 2, 1, 0, 0, 0, 0]
def kTx : List Nat := [0, 1, 2, 3, 4, 5, 6, 7, 8, 9, 10, 11, 12, 13, 14, 15, 16, 17, 18, 19, 20, 21, 22, 23, 24, 25, 26, 27, 28, 29, 30, 31, 32, 33, 34, 35, 36, 37, 38, 39, 40, 41, 41, 41, 41, 41]
def sR : List (String × Nat) := [("TavernRumours$Kind", 170), ("TavernRumours$Kind", 176), ("TavernRumours$Kind", 179), ("TavernRumours$Kind", 182), ("TavernRumours$Kind", 185), ("TavernRumours$Kind", 188), ("TavernRumours$Kind", 191), ("TavernRumours$Kind", 194), ("TavernRumours$Kind", 197), ("TavernRumours$Kind", 200), ("TavernRumours$Kind", 203), ("TavernRumours$Kind", 206), ("TavernRumours$Kind", 209), ("TavernRumours$Kind", 212), ("TavernRumours$Kind", 215), ("TavernRumours$Kind", 218), ("TavernRumours$Kind", 221), ("TavernRumours$Kind", 224), ("TavernRumours$Kind", 227), ("TavernRumours$Kind", 230), ("TavernRumours$Kind", 233), ("TavernRumours$Kind", 236), ("TavernRumours$Kind", 239), ("TavernRumours$Kind", 242), ("TavernRumours$Kind", 245), ("TavernRumours$Kind", 248), ("TavernRumours$Kind", 251), ("TavernRumours$Kind", 254), ("TavernRumours$Kind", 257), ("TavernRumours$Kind", 260), ("TavernRumours$Kind", 263), ("TavernRumours$Kind", 266), ("TavernRumours$Kind", 269), ("TavernRumours$Kind", 272), ("TavernRumours$Kind", 275), ("TavernRumours$Kind", 278), ("TavernRumours$Kind", 281), ("TavernRumours$Kind", 284), ("TavernRumours$Kind", 287), ("TavernRumours$Kind", 290), ("TavernRumours$Kind", 293), ("TavernRumours$Kind", 296), ("TavernRumoursModel", 94)]
def sB : List (List Nat) := [[116, 97, 118, 101, 114, 110], [114, 111, 97, 100], [102, 114, 111, 109], [116, 111], [109, 105, 108, 101, 115], [114, 117, 109, 111, 117, 114], [97, 116], [111, 110], [104, 117, 114, 116], [98, 121], [109, 101, 110, 100], [104, 117, 115, 104], [119, 104, 101, 110], [104, 111, 117, 114], [108, 101, 110, 103, 116, 104], [119, 111, 117, 110, 100, 115], [102, 97, 114], [104, 101, 97, 114, 100], [111, 112, 101, 110], [107, 110, 111, 119, 115], [112, 97, 114, 116, 101, 100], [110, 111, 116], [97, 110, 100], [111, 114], [109, 105, 110], [109, 97, 120], [40], [41], [91], [93], [59], [44], [43], [45], [42], [47], [60], [62], [61], [60, 61], [62, 61], [], [40, 41, 91, 93, 59, 44, 43, 45, 42, 47, 60, 62, 61]]
def wI : List Nat := [465, 467, 468, 469, 471, 472, 473, 474, 475, 477, 479, 481, 483, 484, 485, 486, 487, 488, 489, 491, 492, 494, 496, 498, 500, 501]
def swV : List Nat := [1, 2, 0, 0, 0, 3, 0, 0, 19, 0, 20, 21, 0, 12, 13, 14, 16, 15, 6, 7, 8, 5, 30, 0, 17, 18, 9, 0, 4, 0, 0, 0, 22, 10, 23, 24, 25, 26, 27, 28, 29, 0, 0, 11, 0, 0]
def liV : List Nat := [10, 14, 6]
def pEx : List Nat := [123, 127, 131, 135, 139, 143, 147, 151, 155, 159, 243, 247, 251, 296, 300, 304, 235, 308, 175, 312, 316, 171, 183, 179, 320, 324, 223, 227, 163, 167, 255, 239, 207, 211, 215, 219, 187, 191, 195, 199, 203, 231, 10, 70, 6, 2]
def pOr : List Nat := [124, 128, 132, 136, 140, 144, 148, 152, 156, 160, 244, 248, 252, 297, 301, 305, 236, 309, 176, 313, 317, 172, 184, 180, 321, 325, 224, 228, 164, 168, 256, 240, 208, 212, 216, 220, 188, 192, 196, 200, 204, 232, 11, 71, 7, 3]
def pTe : List Nat := [125, 129, 133, 137, 141, 145, 149, 153, 157, 161, 245, 249, 253, 298, 302, 306, 237, 310, 177, 314, 318, 173, 185, 181, 322, 326, 225, 229, 165, 169, 257, 241, 209, 213, 217, 221, 189, 193, 197, 201, 205, 233, 12, 72, 8, 4]
def pOp : List Nat := [126, 130, 134, 138, 142, 146, 150, 154, 158, 162, 246, 250, 254, 299, 303, 307, 238, 311, 178, 315, 319, 174, 186, 182, 323, 327, 226, 230, 166, 170, 258, 242, 210, 214, 218, 222, 190, 194, 198, 202, 206, 234, 13, 73, 9, 5]
def pSx : List Nat := [826, 836, 844, 852, 858, 867, 877, 883, 889, 897, 1010, 1018, 1026, 1263, 1272, 1283, 998, 1294, 920, 1304, 1314, 913, 934, 928, 1325, 1333, 988, 993, 903, 908, 1034, 1005, 968, 973, 978, 983, 941, 946, 951, 956, 962, 822, 805]
def pSc : List Nat := [827, 837, 845, 853, 859, 868, 878, 884, 890, 898, 1011, 1019, 1027, 1264, 1273, 1284, 999, 1295, 921, 1305, 1315, 914, 935, 929, 1326, 1334, 989, 994, 904, 909, 1035, 1006, 969, 974, 979, 984, 942, 947, 952, 957, 963, 823, 806]
def pSa : List Nat := [828, 838, 846, 854, 860, 869, 879, 885, 891, 899, 1012, 1020, 1028, 1265, 1274, 1285, 1000, 1296, 922, 1306, 1316, 915, 936, 930, 1327, 1335, 990, 995, 905, 910, 1036, 1007, 970, 975, 980, 985, 943, 948, 953, 958, 964, 824, 807]
def pSl : List Nat := [829, 839, 847, 855, 861, 870, 880, 886, 892, 900, 1013, 1021, 1029, 1266, 1275, 1286, 1001, 1297, 923, 1307, 1317, 916, 937, 931, 1328, 1336, 991, 996, 906, 911, 1037, 1008, 971, 976, 981, 986, 944, 949, 954, 959, 965, 825, 808]
def pWe : List Nat := [270, 271, 272, 273, 274, 275, 276, 277, 278, 279, 280, 281, 282, 283, 284, 285, 286, 287, 288, 289, 290, 291, 292, 293, 294, 295]
def pWq : List Nat := [1049, 1058, 1067, 1074, 1084, 1095, 1102, 1109, 1118, 1125, 1134, 1143, 1152, 1271, 1282, 1293, 1188, 1303, 1206, 1313, 1324, 1233, 1241, 1248, 1332, 1340]
def pAe : List Nat := [19, 20, 21, 22, 23, 24, 25, 26, 27, 28, 29, 30, 31, 32, 33, 34, 35, 36, 37, 38, 39, 40, 41, 42, 43, 44, 45, 46, 47, 48, 49, 50, 51, 52, 53, 54, 55, 56, 57, 58, 59, 60, 61, 62, 63, 64]
def pSw : List Nat := [77, 78, 79, 80, 81, 82, 83, 84, 85, 86, 87, 88, 89, 90, 91, 92, 93, 94, 95, 96, 97, 98, 99, 100, 101, 102, 103, 104, 105, 106, 107, 108, 109, 110, 111, 112, 113, 114, 115, 116, 117, 118, 119, 120, 121, 122]
def pLi : List Nat := [262, 263, 264]
def pNc : List Nat := [0, 354, 368, 340, 0, 369, 341, 355, 0]
def pXs : List Nat := [370, 400, 434, 451, 495, 537, 581, 609, 627, 643, 673, 698, 729, 758, 787]
def tZl : List Nat := [596, 603, 605, 607, 609, 612, 614, 616, 622, 624, 694, 696, 698, 2058, 2059, 2060, 690, 2061, 644, 2062, 2063, 642, 652, 650, 2064, 2065, 680, 682, 638, 640, 704, 692, 664, 666, 668, 670, 654, 656, 658, 660, 662, 684, 505, 563, 503, 168, 510, 1620, 741, 588, 520]
def tZi : List Nat := [121, 121, 121, 121, 121, 121, 121, 121, 121, 121, 121, 121, 121, 121, 121, 121, 121, 121, 121, 121, 121, 121, 121, 121, 121, 121, 121, 121, 121, 121, 121, 121, 121, 121, 121, 121, 121, 121, 121, 121, 121, 121, 121, 121, 121, 121, 121, 127, 123, 139, 135]
def tXr : List Nat := [1030, 1077, 1101, 1119, 1131, 1143, 1151, 1159, 1183, 1198, 1213, 1225, 1233, 1241, 1349]
def tCa : List Nat := [991, 1070, 1094]
def tDe : List Nat := [993, 995, 997]
def pSe : List (List Nat) := [[830, 831, 832, 833, 834, 835], [840, 841, 842, 843], [848, 849, 850, 851], [856, 857], [862, 863, 864, 865, 866], [871, 872, 873, 874, 875, 876], [881, 882], [887, 888], [893, 894, 895, 896], [901, 902], [1014, 1015, 1016, 1017], [1022, 1023, 1024, 1025], [1030, 1031, 1032, 1033], [1267, 1268, 1269, 1270], [1276, 1277, 1278, 1279, 1280, 1281], [1287, 1288, 1289, 1290, 1291, 1292], [1002, 1003, 1004], [1298, 1299, 1300, 1301, 1302], [924, 925, 926, 927], [1308, 1309, 1310, 1311, 1312], [1318, 1319, 1320, 1321, 1322, 1323], [917, 918, 919], [938, 939, 940], [932, 933], [1329, 1330, 1331], [1337, 1338, 1339], [992], [997], [907], [912], [1038], [1009], [972], [977], [982], [987], [945], [950], [955], [960, 961], [966, 967], [], [809, 810, 811, 812, 813, 814, 815, 816, 817, 818, 819, 820, 821]]
abbrev kS (i : Nat) : Term := .static "TavernRumours$Kind" (kN.getD i "") "LTavernRumours$Kind;"
abbrev sT (j : Nat) : Term := .string (sR.getD j ("", 0)).1 (sR.getD j ("", 0)).2
abbrev sV (j : Nat) : Term := .field (sT j) "java/lang/String" "value" "[B"
abbrev sAL : Term := .static "TavernRumours$Kind" "ALL" "[LTavernRumours$Kind;"
abbrev sWD : Term := .static "TavernRumoursModel" "WORDS" "[Ljava/lang/String;"
abbrev sSW : Term := .static "TavernRumours$1" "$SwitchMap$TavernRumours$Kind" "[I"
abbrev sLI : Term := .static "TavernRumours$Names" "LIMITS" "[I"
def pA (pos : Nat) (w : Jvm.Cond) : Bool := match (flatC narrow_1)[pos]? with
  | some v => decide (v = w)
  | none => false
theorem pA_ok {pos : Nat} {w : Jvm.Cond} {args : Array Value} {s : State} (h : pA pos w = true) (hg : (Jvm.Cond.and given_1 narrow_1).before args s = true) : w.before args s = true := by
  unfold pA at h
  split at h
  · rename_i v hv
    rw [← of_decide_eq_true h]
    refine flat_of_before _ hg v ?_
    show v ∈ flatC given_1 ++ flatC narrow_1
    exact List.mem_append_right _ (List.mem_of_getElem? hv)
  · cases h
abbrev n32 (n : Nat) : Int32 := Int32.ofNat n
theorem cEx : (List.range 46).all (fun i => pA (pEx.getD i 0) (.exactly (kS i) "TavernRumours$Kind")) = true := by decide +kernel
theorem cOr : (List.range 46).all (fun i => pA (pOr.getD i 0) (.eq (.field (kS i) "java/lang/Enum" "ordinal" "I") (.int (n32 i)))) = true := by decide +kernel
theorem cTe : (List.range 46).all (fun i => pA (pTe.getD i 0) (.eq (.field (kS i) "TavernRumours$Kind" "text" "Ljava/lang/String;") (sT (kTx.getD i 0))) && decide (kTx.getD i 0 < 43)) = true := by decide +kernel
theorem cOp : (List.range 46).all (fun i => pA (pOp.getD i 0) (.eq (.field (kS i) "TavernRumours$Kind" "operands" "I") (.int (n32 (kOp.getD i 0)))) && decide (kOp.getD i 0 < 100)) = true := by decide +kernel
theorem cSx : (List.range 43).all (fun i => pA (pSx.getD i 0) (.exactly (sT i) "java/lang/String")) = true := by decide +kernel
theorem cSc : (List.range 43).all (fun i => pA (pSc.getD i 0) (.eq (.field (sT i) "java/lang/String" "coder" "B") (.int 0))) = true := by decide +kernel
theorem cSa : (List.range 43).all (fun i => pA (pSa.getD i 0) (.arrayOf (sV i) .byte)) = true := by decide +kernel
theorem cSl : (List.range 43).all (fun i => pA (pSl.getD i 0) (.eq (.length (sV i)) (.int (n32 (sB.getD i []).length))) && decide ((sB.getD i []).length < 100)) = true := by decide +kernel
theorem cSe : (List.range 43).all (fun i => (List.range (sB.getD i []).length).all (fun k => pA ((pSe.getD i []).getD k 0) (.eq (.elem (sV i) (.int (n32 k))) (.int (n32 ((sB.getD i []).getD k 0)))) && decide ((sB.getD i []).getD k 0 < 128))) = true := by decide +kernel
theorem cWe : (List.range 26).all (fun i => pA (pWe.getD i 0) (.eq (.elem sWD (.int (n32 i))) (.string "TavernRumoursModel" (wI.getD i 0)))) = true := by decide +kernel
theorem cWq : (List.range 26).all (fun i => pA (pWq.getD i 0) (.eq (sT i) (.string "TavernRumoursModel" (wI.getD i 0))) || pA (pWq.getD i 0) (.eq (.string "TavernRumoursModel" (wI.getD i 0)) (sT i))) = true := by decide +kernel
theorem cAe : (List.range 46).all (fun i => pA (pAe.getD i 0) (.eq (.elem sAL (.int (n32 i))) (kS i))) = true := by decide +kernel
theorem cSw : (List.range 46).all (fun i => pA (pSw.getD i 0) (.eq (.elem sSW (.int (n32 i))) (.int (n32 (swV.getD i 0)))) && decide (swV.getD i 0 < 100)) = true := by decide +kernel
theorem cLi : (List.range 3).all (fun i => pA (pLi.getD i 0) (.eq (.elem sLI (.int (n32 i))) (.int (n32 (liV.getD i 0)))) && decide (liV.getD i 0 < 100)) = true := by decide +kernel
theorem cNc : (List.range 3).all (fun i => (List.range 3).all (fun j => decide (i = j) || pA (pNc.getD (3 * i + j) 0) (.not (.castable (excN i) (excN j))))) = true := by decide +kernel
theorem cXs : (List.range 15).all (fun i => match (LXc 9)[i]? with | some x => pA (pXs.getD i 0) (.exactly (.string "TavernRumours" x.2.1) "java/lang/String") && inU (tXr.getD i 0) (.stringRef "TavernRumours" x.2.1 x.2.2.2.2.2) | none => false) = true := by decide +kernel
theorem cXn : (LXc 9).length = 15 := rfl
theorem cXo : (List.range 19).all (fun o => o == 9 || (LXc o).isEmpty) = true := by decide +kernel
theorem cTo : (List.range 19).all (fun o => (LTx o).all (fun x => decide (o = 12 ∧ x = (94, 42, "()[];,+-*/<>=")))) = true := by decide +kernel
theorem cAo : (List.range 19).all (fun o => (LMt o).all (fun e => match e with | (idx, m, kd, _, pos) => (kd != 3 && kd != 4) || inU pos (.methodLinkNest (CN o) idx (mInf m).1 (HN o)))) = true := by decide +kernel
theorem c1_0 : pA 16 (.arrayOf sAL (.object "TavernRumours$Kind")) = true := by decide +kernel
theorem c1_1 : pA 17 (.eq (.length sAL) (.int (Int32.ofNat 46))) = true := by decide +kernel
theorem c1_2 : pA 268 (.arrayOf sWD (.object "java/lang/String")) = true := by decide +kernel
theorem c1_3 : pA 269 (.eq (.length sWD) (.int (Int32.ofNat 26))) = true := by decide +kernel
theorem c1_4 : pA 75 (.arrayOf sSW .int) = true := by decide +kernel
theorem c1_5 : pA 76 (.eq (.length sSW) (.int (Int32.ofNat 46))) = true := by decide +kernel
theorem c1_6 : pA 260 (.arrayOf sLI .int) = true := by decide +kernel
theorem c1_7 : pA 261 (.eq (.length sLI) (.int (Int32.ofNat 3))) = true := by decide +kernel
theorem c1_8 : pA 65 (.eq (.static "java/lang/String" "COMPACT_STRINGS" "Z") (.int 1)) = true := by decide +kernel
theorem c1_9 : pA 66 (.isRef (.static "jdk/internal/util/Preconditions" "SIOOBE_FORMATTER" "Ljava/util/function/BiFunction;")) = true := by decide +kernel
theorem c1_10 : pA 265 (.isRef (.static Bundle.tN "UNASSIGNED_STACK" Bundle.steD)) = true := by decide +kernel
theorem c1_11 : pA 266 (.isRef (.static Bundle.tN "SUPPRESSED_SENTINEL" Bundle.listD)) = true := by decide +kernel
theorem t1_0 : inU 539 (.laysStatic "jdk/internal/util/Preconditions" "SIOOBE_FORMATTER" "Ljava/util/function/BiFunction;") = true := by decide +kernel
theorem t1_1 : inU 137 (.initialized "jdk/internal/util/Preconditions") = true := by decide +kernel
theorem t1_2 : inU 1016 (.laysStatic Bundle.tN "UNASSIGNED_STACK" Bundle.steD) = true := by decide +kernel
theorem t1_3 : inU 1018 (.laysStatic Bundle.tN "SUPPRESSED_SENTINEL" Bundle.listD) = true := by decide +kernel
theorem t1_4 : inU 130 (.initialized Bundle.tN) = true := by decide +kernel
theorem t1_5 : inU 1623 (.stringRef "TavernRumoursModel" 94 "()[];,+-*/<>=") = true := by decide +kernel
theorem t1_6 : inU 166 (.arrayOver (.object "TavernRumours$Kind")) = true := by decide +kernel
theorem t1_7 : inU 324 (.arrayOver (.array .int)) = true := by decide +kernel
theorem t1_8 : inU 290 (.arrayOver (.array .long)) = true := by decide +kernel
theorem cZl : (List.range 51).all (fun i => match ZS[i]? with | some z => inU (tZl.getD i 0) (.laysStatic z.1 z.2.1 z.2.2.1) && inU (tZi.getD i 0) (.initialized z.1) | none => false) = true := by decide +kernel
theorem cZk : (List.range 46).all (fun i => match ZS[i]? with | some z => decide (z.1 = "TavernRumours$Kind") && decide (z.2.1 = kN.getD i "") && decide (z.2.2.1 = "LTavernRumours$Kind;") && decide (z.2.2.2 = qS i) | none => false) = true := by decide +kernel
theorem cCa : (List.range 3).all (fun i => inU (tCa.getD i 0) (.castable (excN i) (excN i))) = true := by decide +kernel
theorem cDe : (List.range 3).all (fun i => inU (tDe.getD i 0) (.declares (dcX (dcN.getD i "")))) = true := by decide +kernel
