/-! ===== TABLES, by program out of the claim's own listing: classes, fields, links, methods ===== -/
def nC : List String := ["java/util/ArrayList$Itr", "TavernRumours$Grammar", "TavernRumours$Kind", "TavernRumours$Land", "TavernRumours$Names", "TavernRumours$Plan", "TavernRumours$Reckoner", "TavernRumours$Roads", "TavernRumours$Tokens", "TavernRumours", "TavernRumoursLaw$Sim", "java/lang/StringBuilder", "java/util/ArrayList", "TavernRumoursLaw", "java/lang/String", "java/lang/StringLatin1", "jdk/internal/util/Preconditions", "java/util/Arrays", "java/lang/Enum", "TavernRumours$1", "java/lang/AbstractStringBuilder", "java/lang/Integer", "jdk/internal/util/ArraysSupport", "java/util/Objects", "java/util/AbstractList", "java/util/AbstractCollection"]
def CN (o : Nat) : String := nC.getD o ""
def uT0 : u_T := fun k => match k with
  | 0 => ("java/util/ArrayList$Itr", "cursor", "I", false)
  | 1 => ("java/util/ArrayList$Itr", "lastRet", "I", false)
  | 2 => ("java/util/ArrayList$Itr", "expectedModCount", "I", false)
  | _ => ("java/util/ArrayList$Itr", "this$0", "Ljava/util/ArrayList;", true)
def uT1 : u_T := fun k => match k with
  | 0 => ("TavernRumours$Grammar", "plan", "LTavernRumours$Plan;", false)
  | 1 => ("TavernRumours$Grammar", "next", "I", false)
  | _ => ("TavernRumours$Grammar", "ahead", "LTavernRumours$Kind;", false)
def uT2 : u_T := fun k => match k with
  | _ => ("", "", "", false)
def uT3 : u_T := fun k => match k with
  | 0 => ("TavernRumours$Land", "roads", "LTavernRumours$Roads;", true)
  | 1 => ("TavernRumours$Land", "reckoner", "LTavernRumours$Reckoner;", true)
  | 2 => ("TavernRumours$Land", "plan", "LTavernRumours$Plan;", false)
  | 3 => ("TavernRumours$Land", "hour", "I", false)
  | 4 => ("TavernRumours$Land", "carriedOut", "I", false)
  | 5 => ("TavernRumours$Land", "lost", "I", false)
  | 6 => ("TavernRumours$Land", "heardOn", "[I", true)
  | 7 => ("TavernRumours$Land", "sentOut", "[Z", true)
  | 8 => ("TavernRumours$Land", "hushed", "[Z", true)
  | 9 => ("TavernRumours$Land", "walkers", "I", false)
  | 10 => ("TavernRumours$Land", "walkerRoad", "[I", true)
  | 11 => ("TavernRumours$Land", "walkerGoal", "[I", true)
  | 12 => ("TavernRumours$Land", "walkerRumour", "[I", true)
  | _ => ("TavernRumours$Land", "walkerMiles", "[I", true)
def uT4 : u_T := fun k => match k with
  | 0 => ("TavernRumours$Names", "spellings", "[[J", true)
  | 1 => ("TavernRumours$Names", "counts", "[I", true)
  | 2 => ("TavernRumours$Names", "orders", "I", false)
  | 3 => ("TavernRumours$Names", "plan", "LTavernRumours$Plan;", false)
  | 4 => ("TavernRumours$Names", "error", "I", false)
  | _ => ("TavernRumours$Names", "errorToken", "I", false)
def uT5 : u_T := fun k => match k with
  | 0 => ("TavernRumours$Plan", "tokens", "LTavernRumours$Tokens;", true)
  | 1 => ("TavernRumours$Plan", "code", "[I", true)
  | 2 => ("TavernRumours$Plan", "codeLength", "I", false)
  | 3 => ("TavernRumours$Plan", "taverns", "I", false)
  | 4 => ("TavernRumours$Plan", "roads", "I", false)
  | 5 => ("TavernRumours$Plan", "rumours", "I", false)
  | 6 => ("TavernRumours$Plan", "orders", "I", false)
  | 7 => ("TavernRumours$Plan", "from", "[I", true)
  | 8 => ("TavernRumours$Plan", "to", "[I", true)
  | 9 => ("TavernRumours$Plan", "miles", "[I", true)
  | 10 => ("TavernRumours$Plan", "beginsAt", "[I", true)
  | 11 => ("TavernRumours$Plan", "beginsOn", "[I", true)
  | 12 => ("TavernRumours$Plan", "orderToken", "[I", true)
  | 13 => ("TavernRumours$Plan", "sumFrom", "[I", true)
  | 14 => ("TavernRumours$Plan", "testFrom", "[I", true)
  | _ => ("TavernRumours$Plan", "testEnd", "[I", true)
def uT6 : u_T := fun k => match k with
  | 0 => ("TavernRumours$Reckoner", "stack", "[I", true)
  | _ => ("TavernRumours$Reckoner", "height", "I", false)
def uT7 : u_T := fun k => match k with
  | 0 => ("TavernRumours$Roads", "taverns", "I", false)
  | 1 => ("TavernRumours$Roads", "count", "I", false)
  | 2 => ("TavernRumours$Roads", "from", "[I", true)
  | 3 => ("TavernRumours$Roads", "to", "[I", true)
  | 4 => ("TavernRumours$Roads", "miles", "[I", true)
  | 5 => ("TavernRumours$Roads", "wounds", "[I", true)
  | 6 => ("TavernRumours$Roads", "length", "[I", true)
  | 7 => ("TavernRumours$Roads", "rows", "[[I", true)
  | 8 => ("TavernRumours$Roads", "rowIsFresh", "[Z", true)
  | 9 => ("TavernRumours$Roads", "rowAround", "[I", true)
  | 10 => ("TavernRumours$Roads", "netWithout", "I", false)
  | 11 => ("TavernRumours$Roads", "netRoads", "I", false)
  | 12 => ("TavernRumours$Roads", "netLength", "I", false)
  | 13 => ("TavernRumours$Roads", "inNet", "[Z", true)
  | 14 => ("TavernRumours$Roads", "inNetBefore", "[Z", true)
  | 15 => ("TavernRumours$Roads", "shortestFirst", "[I", true)
  | _ => ("TavernRumours$Roads", "group", "[I", true)
def uT8 : u_T := fun k => match k with
  | 0 => ("TavernRumours$Tokens", "kinds", "[LTavernRumours$Kind;", true)
  | 1 => ("TavernRumours$Tokens", "places", "[I", true)
  | 2 => ("TavernRumours$Tokens", "values", "[I", true)
  | 3 => ("TavernRumours$Tokens", "spellings", "[J", true)
  | _ => ("TavernRumours$Tokens", "count", "I", false)
def uT9 : u_T := fun k => match k with
  | 0 => ("TavernRumours", "tape", "[B", true)
  | 1 => ("TavernRumours", "tapeLength", "I", false)
  | 2 => ("TavernRumours", "errorPlace", "I", false)
  | 3 => ("TavernRumours", "told", "LTavernRumours$Plan;", false)
  | 4 => ("TavernRumours", "draft", "LTavernRumours$Plan;", false)
  | 5 => ("TavernRumours", "grammar", "LTavernRumours$Grammar;", true)
  | 6 => ("TavernRumours", "names", "LTavernRumours$Names;", true)
  | 7 => ("TavernRumours", "land", "LTavernRumours$Land;", true)
  | _ => ("TavernRumours", "trial", "LTavernRumours$Land;", true)
def uT10 : u_T := fun k => match k with
  | 0 => ("TavernRumoursLaw$Sim", "hour", "I", false)
  | 1 => ("TavernRumoursLaw$Sim", "carried", "I", false)
  | 2 => ("TavernRumoursLaw$Sim", "lost", "I", false)
  | 3 => ("TavernRumoursLaw$Sim", "taverns", "I", false)
  | 4 => ("TavernRumoursLaw$Sim", "roads", "[[I", false)
  | 5 => ("TavernRumoursLaw$Sim", "rumours", "[[I", false)
  | 6 => ("TavernRumoursLaw$Sim", "since", "[[I", false)
  | 7 => ("TavernRumoursLaw$Sim", "sent", "[[Z", false)
  | 8 => ("TavernRumoursLaw$Sim", "isHushed", "[Z", false)
  | 9 => ("TavernRumoursLaw$Sim", "away", "Ljava/util/ArrayList;", false)
  | _ => ("TavernRumoursLaw$Sim", "orders", "[[I", false)
def uT11 : u_T := fun k => match k with
  | 0 => ("java/lang/AbstractStringBuilder", "value", "[B", false)
  | 1 => ("java/lang/AbstractStringBuilder", "coder", "B", false)
  | 2 => ("java/lang/AbstractStringBuilder", "maybeLatin1", "Z", false)
  | _ => ("java/lang/AbstractStringBuilder", "count", "I", false)
def uT12 : u_T := fun k => match k with
  | 0 => ("java/util/AbstractList", "modCount", "I", false)
  | 1 => ("java/util/ArrayList", "elementData", "[Ljava/lang/Object;", false)
  | _ => ("java/util/ArrayList", "size", "I", false)
def uT13 : u_T := fun k => match k with
  | _ => ("", "", "", false)
def uT14 : u_T := fun k => match k with
  | 0 => ("java/lang/String", "value", "[B", true)
  | 1 => ("java/lang/String", "coder", "B", true)
  | 2 => ("java/lang/String", "hash", "I", false)
  | _ => ("java/lang/String", "hashIsZero", "Z", false)
def clsT : List vw_C := [("java/util/ArrayList$Itr", uT0, 4), ("TavernRumours$Grammar", uT1, 3), ("TavernRumours$Grammar", uT2, 0), ("TavernRumours$Land", uT3, 14), ("TavernRumours$Names", uT4, 6), ("TavernRumours$Plan", uT5, 16), ("TavernRumours$Reckoner", uT6, 2), ("TavernRumours$Roads", uT7, 17), ("TavernRumours$Tokens", uT8, 5), ("TavernRumours", uT9, 9), ("TavernRumoursLaw$Sim", uT10, 11), ("java/lang/StringBuilder", uT11, 4), ("java/util/ArrayList", uT12, 3), ("TavernRumours$Grammar", uT13, 0), ("java/lang/String", uT14, 4)]
/-- kinds of fields: 0 int, 1 long, 2 a reference, 3 byte, 4 boolean -/
def CF : Nat → List Nat
  | 0 => [0, 0, 0, 2]
  | 1 => [2, 0, 2]
  | 2 => []
  | 3 => [2, 2, 2, 0, 0, 0, 2, 2, 2, 0, 2, 2, 2, 2]
  | 4 => [2, 2, 0, 2, 0, 0]
  | 5 => [2, 2, 0, 0, 0, 0, 0, 2, 2, 2, 2, 2, 2, 2, 2, 2]
  | 6 => [2, 0]
  | 7 => [0, 0, 2, 2, 2, 2, 2, 2, 2, 2, 0, 0, 0, 2, 2, 2, 2]
  | 8 => [2, 2, 2, 2, 0]
  | 9 => [2, 0, 0, 2, 2, 2, 2, 2, 2]
  | 10 => [0, 0, 0, 0, 2, 2, 2, 2, 2, 2, 2]
  | 11 => [2, 3, 4, 0]
  | 12 => [0, 2, 0]
  | 13 => []
  | 14 => [2, 3, 0, 4]
  | _ => []
def FS : Nat → String × String × String
  | 50 => ("TavernRumours$Kind", "text", "Ljava/lang/String;")
  | 51 => ("TavernRumours$Kind", "operands", "I")
  | 52 => ("java/lang/Enum", "ordinal", "I")
  | 53 => ("java/lang/String", "value", "[B")
  | 54 => ("java/lang/String", "coder", "B")
  | _ => ("", "", "")
def ZS : List (String × String × String × MV) := [("TavernRumours$Kind", "TAVERN", "LTavernRumours$Kind;", qS 0), ("TavernRumours$Kind", "ROAD", "LTavernRumours$Kind;", qS 1), ("TavernRumours$Kind", "FROM", "LTavernRumours$Kind;", qS 2), ("TavernRumours$Kind", "TO", "LTavernRumours$Kind;", qS 3), ("TavernRumours$Kind", "MILES", "LTavernRumours$Kind;", qS 4), ("TavernRumours$Kind", "RUMOUR", "LTavernRumours$Kind;", qS 5), ("TavernRumours$Kind", "AT", "LTavernRumours$Kind;", qS 6), ("TavernRumours$Kind", "ON", "LTavernRumours$Kind;", qS 7), ("TavernRumours$Kind", "HURT", "LTavernRumours$Kind;", qS 8), ("TavernRumours$Kind", "BY", "LTavernRumours$Kind;", qS 9), ("TavernRumours$Kind", "MEND", "LTavernRumours$Kind;", qS 10), ("TavernRumours$Kind", "HUSH", "LTavernRumours$Kind;", qS 11), ("TavernRumours$Kind", "WHEN", "LTavernRumours$Kind;", qS 12), ("TavernRumours$Kind", "HOUR", "LTavernRumours$Kind;", qS 13), ("TavernRumours$Kind", "LENGTH", "LTavernRumours$Kind;", qS 14), ("TavernRumours$Kind", "WOUNDS", "LTavernRumours$Kind;", qS 15), ("TavernRumours$Kind", "FAR", "LTavernRumours$Kind;", qS 16), ("TavernRumours$Kind", "HEARD", "LTavernRumours$Kind;", qS 17), ("TavernRumours$Kind", "OPEN", "LTavernRumours$Kind;", qS 18), ("TavernRumours$Kind", "KNOWS", "LTavernRumours$Kind;", qS 19), ("TavernRumours$Kind", "PARTED", "LTavernRumours$Kind;", qS 20), ("TavernRumours$Kind", "NOT", "LTavernRumours$Kind;", qS 21), ("TavernRumours$Kind", "AND", "LTavernRumours$Kind;", qS 22), ("TavernRumours$Kind", "OR", "LTavernRumours$Kind;", qS 23), ("TavernRumours$Kind", "MIN", "LTavernRumours$Kind;", qS 24), ("TavernRumours$Kind", "MAX", "LTavernRumours$Kind;", qS 25), ("TavernRumours$Kind", "ROUND_OPENING", "LTavernRumours$Kind;", qS 26), ("TavernRumours$Kind", "ROUND_CLOSING", "LTavernRumours$Kind;", qS 27), ("TavernRumours$Kind", "SQUARE_OPENING", "LTavernRumours$Kind;", qS 28), ("TavernRumours$Kind", "SQUARE_CLOSING", "LTavernRumours$Kind;", qS 29), ("TavernRumours$Kind", "SEMICOLON", "LTavernRumours$Kind;", qS 30), ("TavernRumours$Kind", "COMMA", "LTavernRumours$Kind;", qS 31), ("TavernRumours$Kind", "PLUS", "LTavernRumours$Kind;", qS 32), ("TavernRumours$Kind", "MINUS", "LTavernRumours$Kind;", qS 33), ("TavernRumours$Kind", "TIMES", "LTavernRumours$Kind;", qS 34), ("TavernRumours$Kind", "OVER", "LTavernRumours$Kind;", qS 35), ("TavernRumours$Kind", "LESS", "LTavernRumours$Kind;", qS 36), ("TavernRumours$Kind", "GREATER", "LTavernRumours$Kind;", qS 37), ("TavernRumours$Kind", "EQUAL", "LTavernRumours$Kind;", qS 38), ("TavernRumours$Kind", "AT_MOST", "LTavernRumours$Kind;", qS 39), ("TavernRumours$Kind", "AT_LEAST", "LTavernRumours$Kind;", qS 40), ("TavernRumours$Kind", "NEGATE", "LTavernRumours$Kind;", qS 41), ("TavernRumours$Kind", "NAME", "LTavernRumours$Kind;", qS 42), ("TavernRumours$Kind", "NUMBER", "LTavernRumours$Kind;", qS 43), ("TavernRumours$Kind", "WRONG", "LTavernRumours$Kind;", qS 44), ("TavernRumours$Kind", "END", "LTavernRumours$Kind;", qS 45), ("TavernRumours$Kind", "ALL", "[LTavernRumours$Kind;", qS 300), ("java/util/ArrayList", "DEFAULTCAPACITY_EMPTY_ELEMENTDATA", "[Ljava/lang/Object;", qS 301), ("TavernRumours$Names", "LIMITS", "[I", qS 302), ("TavernRumours$1", "$SwitchMap$TavernRumours$Kind", "[I", qS 303), ("java/lang/String", "COMPACT_STRINGS", "Z", qI 1), ("java/lang/Integer", "DigitTens", "[B", qS 304), ("java/lang/Integer", "DigitOnes", "[B", qS 305)]
def strT : List String := ["tavern", "road", "from", "to", "miles", "rumour", "at", "on", "hurt", "by", "mend", "hush", "when", "hour", "length", "wounds", "far", "heard", "open", "knows", "parted", "not", "and", "or", "min", "max", "(", ")", "[", "]", ";", ",", "+", "-", "*", "/", "<", ">", "=", "<=", ">=", "", " ", " wounds r", " heard k", "-", " hour/5", " far t", " t", " - ", " min(length r", ",", ")/3", " -", " max(1, ", "-5)", " r", " when hour>", " when open", " when not open", " or wounds", ">1", " when knows t", " k", " when parted t", " when heard k", ">=", " when far t", "<4*", " when [knows t", " and length", "<9*", "]or hour/4*4=hour", " when ", "<=", "tavern t", " ;\n", ";", "road r", " from t", " to t", " miles ", "rumour k", " at t", " on ", "hurt r", " by", "mend r", "hush t", ";\n"]
def excT : List String := ["java/lang/IllegalStateException", "java/lang/IllegalArgumentException", "java/lang/IndexOutOfBoundsException"]
def LFd : Nat → List (Nat × Nat × Nat × Nat)
  | 0 => [(1, 0, 3, 1062), (22, 0, 2, 1061), (25, 0, 0, 1059), (13, 0, 1, 1060), (37, 12, 1, 1463)]
  | 1 => [(9, 1, 1, 218), (21, 1, 2, 220), (24, 1, 0, 217), (28, 5, 0, 137), (51, 8, 4, 121), (54, 8, 0, 115), (101, 5, 2, 143)]
  | 3 => [(12, 3, 0, 344), (21, 3, 1, 347), (25, 3, 3, 350), (29, 3, 4, 353), (32, 3, 5, 354), (35, 3, 6, 355), (39, 3, 7, 356), (43, 3, 8, 357), (46, 3, 9, 358), (49, 3, 10, 359), (52, 3, 11, 360), (55, 3, 12, 361), (58, 3, 13, 362), (61, 3, 2, 348), (90, 5, 5, 153), (85, 5, 3, 147), (135, 5, 6, 157), (138, 5, 14, 174), (141, 5, 15, 176), (148, 5, 13, 172), (194, 5, 11, 169), (197, 5, 10, 166), (203, 7, 6, 284), (209, 7, 1, 272)]
  | 4 => [(13, 4, 0, 236), (16, 4, 1, 237), (20, 4, 2, 238), (24, 4, 4, 240), (27, 4, 5, 241), (30, 4, 3, 239), (40, 5, 0, 139), (46, 8, 4, 120), (55, 5, 3, 146)]
  | 5 => [(12, 5, 0, 136), (18, 5, 1, 141), (22, 5, 2, 142), (26, 5, 3, 144), (29, 5, 4, 149), (32, 5, 5, 152), (35, 5, 6, 155), (38, 5, 7, 158), (41, 5, 8, 160), (44, 5, 9, 162), (47, 5, 10, 164), (50, 5, 11, 167), (53, 5, 12, 170), (56, 5, 13, 171), (59, 5, 14, 173), (62, 5, 15, 175)]
  | 6 => [(9, 6, 0, 337), (15, 6, 1, 338), (31, 5, 0, 138), (90, 3, 3, 351), (93, 3, 0, 345)]
  | 7 => [(9, 7, 0, 270), (15, 7, 1, 271), (18, 7, 2, 274), (22, 7, 3, 276), (25, 7, 4, 278), (28, 7, 5, 280), (31, 7, 6, 282), (36, 7, 7, 285), (39, 7, 8, 286), (43, 7, 9, 287), (46, 7, 10, 288), (49, 7, 11, 289), (52, 7, 12, 290), (55, 7, 13, 291), (58, 7, 14, 292), (61, 7, 15, 293), (64, 7, 16, 294), (67, 5, 3, 145), (70, 5, 4, 150), (73, 5, 7, 159), (80, 5, 8, 161), (81, 5, 9, 163)]
  | 8 => [(11, 8, 0, 114), (17, 8, 1, 116), (21, 8, 2, 117), (24, 8, 3, 118), (28, 8, 4, 119)]
  | 9 => [(9, 9, 0, 392), (13, 9, 1, 393), (17, 9, 2, 394), (23, 9, 3, 395), (27, 9, 4, 396), (35, 9, 5, 397), (42, 9, 6, 398), (49, 9, 7, 399), (53, 9, 8, 400), (75, 5, 0, 140), (89, 1, 1, 219), (100, 4, 5, 242), (114, 3, 3, 352), (117, 5, 3, 148), (120, 5, 4, 151), (123, 5, 5, 154), (126, 5, 6, 156), (142, 3, 0, 346), (167, 7, 2, 275), (171, 7, 3, 277), (174, 7, 4, 279), (177, 7, 5, 281), (180, 7, 6, 283), (203, 5, 10, 165), (206, 5, 11, 168), (276, 7, 1, 273)]
  | 10 => [(9, 10, 4, 1482), (15, 10, 5, 1484), (18, 10, 6, 1486), (23, 10, 7, 1488), (27, 10, 8, 1490), (33, 10, 9, 1492), (37, 10, 10, 1493), (51, 10, 3, 1480), (41, 10, 0, 1477), (45, 10, 1, 1478), (48, 10, 2, 1479)]
  | 12 => [(48, 12, 2, 1465), (9, 12, 1, 1462)]
  | 13 => [(125, 10, 3, 1481), (137, 10, 4, 1483), (149, 10, 5, 1485), (159, 10, 6, 1487), (170, 10, 7, 1489), (173, 10, 8, 1491), (177, 10, 10, 1494)]
  | 14 => [(15, 14, 1, 1726), (9, 14, 0, 1725), (1048, 11, 2, 1663)]
  | 20 => [(79, 11, 3, 1664), (15, 11, 0, 1661), (22, 11, 1, 1662)]
  | 24 => [(7, 12, 0, 1466)]
  | _ => []
def LSf : Nat → List (Nat × Nat × Nat × Nat × Nat)
  | 0 => [(17, 12, 0, 1467, 1468)]
  | 12 => [(63, 12, 0, 1469, 1468)]
  | _ => []
def LNe : Nat → List (Nat × Nat × Nat × Nat)
  | 0 => [(28, 12, 2, 1464)]
  | 6 => [(19, 3, 2, 349)]
  | _ => []
def LSt : Nat → List (Nat × Nat × Nat)
  | 6 => [(41, 51, 1847)]
  | 8 => [(83, 50, 1845)]
  | 14 => [(9, 53, 1725), (15, 54, 1726)]
  | 18 => [(7, 52, 1846)]
  | _ => []
def LZt : Nat → List (Nat × Nat × Nat)
  | 1 => [(15, 45, 216), (44, 30, 1360), (58, 49, 1251), (68, 0, 1253), (71, 42, 1259), (74, 1, 1260), (77, 2, 1262), (80, 3, 1264), (83, 4, 1266), (86, 43, 1268), (89, 5, 1269), (92, 6, 1271), (95, 7, 1273), (104, 8, 1279), (107, 9, 1281), (114, 10, 1350), (117, 11, 1352), (120, 12, 1354), (138, 23, 1307), (141, 22, 1309), (144, 36, 1311), (147, 37, 1313), (150, 38, 1315), (153, 39, 1317), (156, 40, 1319), (159, 32, 1321), (162, 33, 1323), (165, 34, 1325), (168, 35, 1327), (177, 28, 1295), (180, 29, 1297), (183, 21, 1299), (186, 18, 1301), (189, 26, 1337), (192, 27, 1339), (195, 41, 1341), (202, 16, 1346), (205, 31, 1348)]
  | 3 => [(157, 49, 786)]
  | 4 => [(58, 49, 1377), (112, 48, 1397)]
  | 6 => [(58, 41, 756), (66, 49, 737)]
  | 8 => [(32, 45, 112), (53, 44, 1219), (56, 43, 1233), (62, 42, 1221)]
  | 12 => [(39, 47, 974)]
  | 14 => [(38, 50, 1130), (1053, 99, 1146)]
  | 20 => [(18, 50, 1556)]
  | 21 => [(83, 52, 1627), (87, 51, 1629)]
  | _ => []
def LZn : Nat → List (Nat × Nat × Nat)
  | 8 => [(80, 46, 1226)]
  | _ => []
def LMt : Nat → List (Nat × Nat × Nat × Nat × Nat)
  | 0 => [(31, 190, 0, 1, 1091)]
  | 1 => [(34, 88, 0, 2, 1246), (40, 3, 0, 1, 1247), (47, 2, 0, 2, 1255), (64, 283, 5, 1, 1252), (98, 4, 0, 1, 1275), (110, 5, 0, 3, 1283), (123, 48, 0, 4, 1356), (127, 7, 0, 3, 1287), (130, 6, 0, 2, 1303), (134, 44, 0, 2, 1329), (171, 8, 0, 2, 1291), (174, 9, 0, 2, 1333), (198, 93, 0, 3, 1342)]
  | 3 => [(11, 58, 3, 1, 264), (20, 51, 3, 1, 333), (65, 59, 0, 2, 1436), (69, 282, 1, 2, 1440), (75, 60, 0, 2, 851), (93, 284, 0, 3, 555), (97, 14, 0, 3, 551), (100, 17, 0, 2, 547), (104, 66, 0, 1, 499), (108, 78, 0, 2, 511), (111, 81, 0, 1, 527), (114, 18, 0, 1, 543), (117, 80, 0, 1, 559), (120, 23, 0, 1, 710), (123, 25, 0, 1, 812), (126, 27, 0, 1, 821), (129, 28, 0, 1, 829), (132, 29, 0, 1, 833), (144, 52, 0, 4, 714), (151, 24, 0, 3, 777), (154, 50, 0, 2, 781), (162, 49, 0, 2, 787), (166, 283, 5, 1, 792), (180, 63, 0, 3, 795), (183, 64, 0, 2, 808), (187, 65, 0, 2, 816), (190, 26, 0, 3, 817), (200, 15, 0, 3, 825), (206, 30, 0, 3, 837), (212, 68, 0, 3, 841), (215, 69, 0, 3, 842)]
  | 4 => [(34, 282, 1, 2, 1370), (51, 33, 0, 2, 1373), (63, 88, 0, 2, 1378), (67, 283, 5, 1, 1379), (73, 38, 0, 3, 1380), (77, 34, 0, 2, 1399), (80, 35, 0, 2, 1420), (83, 36, 0, 2, 1428), (86, 39, 0, 3, 1403), (90, 37, 0, 3, 1393), (93, 41, 0, 4, 1411), (97, 46, 0, 4, 1416), (101, 47, 0, 3, 1424), (104, 91, 0, 2, 1384), (108, 40, 0, 3, 1389), (115, 92, 0, 3, 1407), (118, 90, 0, 2, 1415)]
  | 5 => [(11, 86, 2, 1, 106), (65, 88, 0, 2, 791), (69, 90, 0, 2, 785)]
  | 6 => [(25, 45, 0, 2, 718), (35, 88, 0, 2, 722), (46, 54, 0, 1, 730), (50, 55, 1, 3, 734), (54, 53, 0, 2, 752), (62, 57, 1, 3, 758), (71, 283, 5, 1, 739), (83, 56, 1, 3, 749), (87, 90, 0, 2, 761), (97, 286, 0, 2, 765), (102, 287, 0, 2, 769), (105, 16, 0, 2, 773), (108, 71, 0, 3, 774), (111, 65, 0, 2, 775), (115, 14, 0, 3, 776)]
  | 7 => [(82, 61, 0, 4, 800), (86, 62, 0, 1, 804), (89, 285, 0, 2, 507), (99, 65, 0, 2, 503), (102, 68, 0, 3, 580), (106, 72, 0, 4, 523), (110, 71, 0, 3, 589), (116, 69, 0, 3, 667), (119, 76, 0, 2, 519), (123, 77, 0, 2, 515), (126, 83, 0, 2, 531), (130, 79, 0, 2, 685), (133, 85, 0, 2, 535), (136, 84, 0, 3, 539)]
  | 8 => [(36, 87, 0, 2, 726), (42, 95, 1, 3, 1204), (46, 96, 1, 3, 1207), (49, 97, 1, 3, 1216), (59, 100, 1, 3, 1235), (65, 101, 1, 3, 1238), (69, 102, 1, 1, 1210), (73, 103, 1, 1, 1213), (76, 98, 1, 4, 1223), (87, 270, 0, 1, 1228), (93, 99, 1, 3, 1229), (97, 271, 0, 2, 1232)]
  | 9 => [(22, 42, 3, 1, 100), (32, 0, 2, 2, 212), (41, 31, 2, 2, 230), (48, 10, 2, 2, 258), (63, 106, 0, 2, 1188), (72, 43, 0, 1, 1196), (79, 94, 0, 3, 1200), (85, 1, 0, 2, 1242), (92, 89, 0, 2, 1362), (96, 32, 0, 2, 1366), (103, 11, 0, 2, 1432), (111, 111, 0, 2, 491), (129, 21, 0, 2, 495), (132, 119, 0, 2, 567), (138, 113, 0, 3, 572), (145, 70, 0, 2, 576), (150, 17, 0, 2, 584), (153, 73, 0, 2, 585), (156, 74, 0, 2, 593), (159, 120, 0, 2, 604), (164, 115, 0, 3, 609), (183, 65, 0, 2, 613), (186, 77, 0, 2, 614), (189, 79, 0, 2, 615), (192, 19, 0, 2, 619), (195, 121, 0, 2, 627), (200, 117, 0, 3, 632), (209, 16, 0, 2, 636), (212, 20, 0, 2, 640), (217, 13, 0, 3, 649), (222, 71, 0, 3, 658), (225, 75, 0, 3, 663), (230, 76, 0, 2, 676), (233, 82, 0, 2, 681), (238, 63, 0, 3, 1784), (242, 64, 0, 2, 863), (247, 15, 0, 3, 1795), (254, 61, 0, 4, 866), (260, 22, 0, 2, 706), (265, 12, 0, 2, 847), (279, 81, 0, 1, 864), (283, 80, 0, 1, 865), (286, 66, 0, 1, 1101), (289, 67, 0, 1, 1102), (296, 138, 0, 2, 873), (300, 139, 0, 2, 877)]
  | 10 => [(32, 201, 2, 1, 1452), (77, 131, 0, 2, 902), (81, 133, 0, 2, 915), (91, 134, 0, 2, 910), (99, 144, 0, 2, 1030), (102, 146, 0, 2, 889), (105, 140, 0, 3, 906), (111, 149, 0, 2, 898), (115, 148, 0, 2, 921), (119, 147, 0, 1, 885), (123, 150, 0, 2, 893), (126, 204, 0, 1, 925), (129, 198, 0, 2, 929), (133, 203, 0, 2, 944), (136, 151, 0, 3, 954), (72, 195, 0, 2, 958), (140, 145, 0, 2, 1026), (143, 141, 0, 1, 1034), (95, 142, 0, 2, 1038), (146, 143, 0, 2, 1042), (150, 153, 0, 1, 1022), (154, 110, 0, 2, 1046), (159, 118, 0, 3, 1047), (161, 112, 0, 3, 1048), (59, 202, 0, 1, 1049), (63, 191, 9, 1, 1073), (69, 193, 9, 1, 1083), (164, 114, 0, 3, 1095), (167, 116, 0, 3, 1096), (170, 136, 0, 1, 1097)]
  | 11 => [(29, 172, 10, 2, 1523), (53, 171, 10, 2, 1618), (1, 176, 2, 2, 1657), (137, 164, 2, 2, 1685), (343, 178, 10, 1, 1703)]
  | 12 => [(129, 200, 0, 1, 966), (131, 194, 0, 4, 962), (118, 166, 1, 2, 933), (123, 196, 0, 2, 939), (73, 189, 1, 3, 976), (66, 186, 1, 2, 984), (69, 199, 0, 2, 970), (1, 206, 2, 1, 1455), (269, 192, 2, 2, 1055), (144, 197, 0, 3, 948)]
  | 13 => [(9, 107, 0, 2, 1117), (15, 270, 0, 1, 1122), (21, 271, 0, 2, 1132), (25, 105, 0, 6, 1168), (29, 108, 0, 1, 1192), (34, 169, 2, 1, 1654), (37, 167, 0, 2, 1519), (41, 168, 0, 2, 1614), (44, 170, 0, 1, 1679), (114, 109, 3, 1, 1445), (115, 156, 1, 2, 1110), (121, 155, 1, 2, 1106), (162, 282, 1, 2, 1650), (184, 158, 1, 1, 1675), (192, 159, 1, 1, 1751), (202, 126, 0, 3, 1779), (205, 127, 0, 2, 1785), (210, 151, 0, 3, 1790), (214, 128, 0, 3, 1791), (217, 146, 0, 2, 1797), (220, 129, 0, 3, 1798), (223, 130, 0, 2, 686), (226, 152, 0, 2, 881), (236, 110, 0, 2, 420), (260, 114, 0, 3, 600), (227, 104, 2, 1, 92), (228, 160, 1, 2, 1441), (232, 157, 1, 2, 1114), (239, 161, 6, 3, 1774), (243, 137, 0, 1, 867), (247, 122, 0, 3, 653), (250, 123, 0, 3, 659), (253, 162, 1, 4, 1803), (257, 112, 0, 3, 563), (263, 124, 0, 2, 671), (266, 125, 0, 2, 677), (269, 118, 0, 3, 644), (271, 116, 0, 3, 623), (274, 135, 0, 1, 859), (277, 132, 0, 3, 843), (280, 154, 0, 2, 1018)]
  | 14 => [(335, 274, 0, 1, 1126), (489, 165, 2, 3, 1688), (552, 174, 8, 1, 1692), (549, 207, 11, 1, 1697), (1047, 177, 8, 1, 1705), (54, 185, 1, 3, 1706), (492, 275, 0, 1, 1136), (495, 277, 1, 2, 1140), (1059, 281, 1, 3, 1148)]
  | 15 => [(9, 276, 1, 2, 1143)]
  | 17 => [(343, 183, 1, 2, 1712), (339, 184, 1, 3, 1709), (300, 187, 1, 3, 1008)]
  | 20 => [(245, 182, 1, 1, 1621), (100, 173, 8, 2, 1531), (83, 177, 8, 1, 1551), (248, 181, 1, 3, 1624), (32, 270, 0, 1, 1572), (208, 180, 8, 3, 1573), (104, 179, 8, 2, 1535), (108, 188, 1, 2, 1541), (40, 274, 0, 1, 1581), (114, 189, 1, 3, 1539), (397, 175, 8, 2, 1577), (399, 163, 0, 4, 1608)]
  | 23 => [(105, 281, 1, 3, 936)]
  | 24 => [(1, 205, 2, 1, 1458)]
  | _ => []
def LCl : Nat → List (Nat × Nat × Nat)
  | 3 => [(9, 7, 262), (18, 6, 331)]
  | 4 => [(11, 101, 234)]
  | 5 => [(9, 8, 104)]
  | 7 => [(34, 100, 268)]
  | 8 => [(9, 99, 110)]
  | 9 => [(20, 5, 98), (30, 1, 210), (39, 4, 228), (46, 3, 256)]
  | 10 => [(7, 104, 943), (21, 106, 1449), (30, 12, 1451), (76, 100, 914)]
  | 11 => [(18, 14, 1683)]
  | 12 => [(7, 105, 1017), (267, 0, 1053)]
  | 13 => [(32, 11, 1652), (112, 10, 1444), (135, 104, 1641), (158, 100, 1649), (168, 103, 1651), (10, 9, 90)]
  | 17 => [(311, 107, 1550), (110, 102, 1011), (2, 105, 1013)]
  | _ => []
def LJg : Nat → List (Nat × Int × Nat)
  | 8 => [(40, -1, 1388), (101, 37, 1241)]
  | 9 => [(292, 1697, 871), (294, 31, 872)]
  | _ => []
def LIn : Nat → List (Nat × Int × Nat)
  | 13 => [(7, 2147483647, 1109), (8, 790386105, 1113)]
  | 20 => [(39, 2147483647, 1540)]
  | 22 => [(200, 2147483639, 980)]
  | _ => []
def LPr : Nat → List (Nat × Nat × Nat)
  | 0 => [(7, 5, 1058)]
  | 1 => [(3, 5, 215)]
  | 3 => [(3, 5, 261), (79, 0, 858), (171, 2, 793), (177, 1, 794)]
  | 4 => [(3, 5, 233)]
  | 5 => [(3, 5, 103)]
  | 6 => [(3, 5, 336), (74, 2, 745), (80, 1, 748)]
  | 7 => [(3, 5, 267), (74, 0, 855), (93, 2, 799), (113, 1, 597)]
  | 8 => [(3, 5, 109)]
  | 9 => [(3, 5, 95)]
  | 10 => [(1, 5, 1448), (85, 2, 919), (108, 1, 920)]
  | 12 => [(112, 0, 953), (79, 1, 1016)]
  | 13 => [(197, 2, 1778)]
  | 14 => [(212, 0, 1612), (1, 5, 1691)]
  | 17 => [(304, 2, 1014), (150, 0, 1015), (310, 6, 1544), (86, 7, 987)]
  | 20 => [(3, 5, 1660)]
  | 22 => [(194, 1, 979)]
  | 25 => [(1, 5, 1461)]
  | _ => []
def LXc : Nat → List (Nat × Nat × Nat × Nat × Nat × String)
  | 9 => [(56, 58, 60, 0, 0, "the tape would be too long"), (67, 69, 71, 1, 0, "the tape has not so many bytes"), (106, 108, 110, 2, 0, "no such count"), (106, 136, 110, 2, 0, "no such tavern, or nothing to tell of it"), (106, 162, 110, 2, 0, "no such road, or nothing to tell of it"), (106, 198, 110, 2, 0, "no such rumour, or nothing to tell of it"), (106, 215, 110, 2, 0, "no such tavern or rumour"), (106, 220, 110, 2, 0, "no such tavern"), (106, 228, 110, 2, 0, "no such road"), (67, 236, 71, 1, 0, "not so many wounds at once"), (56, 245, 60, 0, 0, "the road has no wound"), (56, 250, 60, 0, 0, "the tavern knows the rumour"), (67, 252, 71, 1, 0, "no road has so many miles"), (67, 258, 71, 1, 1, "not so many hours at once")]
  | _ => []
def LTx : Nat → List (Nat × Nat × String)
  | 13 => [(35, 42, " "), (48, 43, " wounds r"), (50, 44, " heard k"), (52, 45, "-"), (54, 46, " hour/5"), (56, 47, " far t"), (58, 48, " t"), (60, 49, " - "), (62, 50, " min(length r"), (64, 51, ","), (66, 52, ")/3"), (68, 53, " -"), (70, 54, " max(1, "), (72, 55, "-5)"), (74, 56, " r"), (76, 57, " when hour>"), (78, 58, " when open"), (80, 59, " when not open"), (82, 60, " or wounds"), (84, 61, ">1"), (86, 62, " when knows t"), (88, 63, " k"), (90, 64, " when parted t"), (92, 65, " when heard k"), (94, 66, ">="), (96, 67, " when far t"), (98, 68, "<4*"), (100, 69, " when [knows t"), (102, 70, " and length"), (104, 71, "<9*"), (106, 72, "]or hour/4*4=hour"), (108, 73, " when "), (110, 74, "<="), (129, 75, "tavern t"), (131, 76, " ;\n"), (133, 77, ";"), (141, 78, "road r"), (143, 79, " from t"), (145, 80, " to t"), (147, 81, " miles "), (152, 82, "rumour k"), (154, 83, " at t"), (156, 84, " on "), (180, 85, "hurt r"), (182, 86, " by"), (188, 87, "mend r"), (190, 88, "hush t"), (195, 89, ";\n")]
  | _ => []
def HN (o : Nat) : String := if 0 < o ∧ o < 10 then "TavernRumours" else if o = 0 then "java/util/ArrayList" else "TavernRumoursLaw"
/-- name, bytes, class, locals, what it returns, static or not, places of its words: code, instance or static, selects, initialized; its handlers -/
abbrev MQ1 : Type := MethodName × ByteArray × Nat × Nat × Option FieldType × Bool × Nat × Nat × Nat × Nat × List (Nat × Nat × Nat × Nat)
def MT : List MQ1 := [
  (⟨"TavernRumours$Grammar", "<init>", "(LTavernRumours$Plan;)V"⟩, prog_3_method_1_code, 1, 2, none, false, 214, 213, 0, 60, []),
  (⟨"TavernRumours$Grammar", "reads", "(LTavernRumours$Plan;)Z"⟩, prog_3_method_2_code, 1, 4, (some .boolean), false, 1245, 1243, 1244, 60, []),
  (⟨"TavernRumours$Grammar", "take", "(LTavernRumours$Kind;)Z"⟩, prog_3_method_3_code, 1, 3, (some .boolean), false, 1258, 1257, 38, 60, []),
  (⟨"TavernRumours$Grammar", "line", "()Z"⟩, prog_3_method_4_code, 1, 1, (some .boolean), false, 1250, 1249, 37, 60, []),
  (⟨"TavernRumours$Grammar", "order", "()Z"⟩, prog_3_method_5_code, 1, 5, (some .boolean), false, 1278, 1277, 39, 60, []),
  (⟨"TavernRumours$Grammar", "chain", "(II)Z"⟩, prog_3_method_6_code, 1, 6, (some .boolean), false, 1286, 1285, 40, 60, []),
  (⟨"TavernRumours$Grammar", "joinsAt", "(I)Z"⟩, prog_3_method_7_code, 1, 2, (some .boolean), false, 1306, 1305, 43, 60, []),
  (⟨"TavernRumours$Grammar", "part", "(II)Z"⟩, prog_3_method_8_code, 1, 3, (some .boolean), false, 1290, 1289, 41, 60, []),
  (⟨"TavernRumours$Grammar", "single", "(I)Z"⟩, prog_3_method_9_code, 1, 4, (some .boolean), false, 1294, 1293, 42, 60, []),
  (⟨"TavernRumours$Grammar", "value", "(I)Z"⟩, prog_3_method_10_code, 1, 4, (some .boolean), false, 1336, 1335, 44, 60, []),
  (⟨"TavernRumours$Land", "<init>", "(LTavernRumours$Plan;)V"⟩, prog_5_method_1_code, 3, 2, none, false, 260, 259, 0, 62, []),
  (⟨"TavernRumours$Land", "begin", "(LTavernRumours$Plan;)V"⟩, prog_5_method_2_code, 3, 3, none, false, 1435, 1433, 1434, 62, []),
  (⟨"TavernRumours$Land", "copy", "(LTavernRumours$Land;)V"⟩, prog_5_method_3_code, 3, 3, none, false, 850, 848, 849, 62, []),
  (⟨"TavernRumours$Land", "hourOfHearing", "(II)I"⟩, prog_5_method_4_code, 3, 3, (some .int), false, 652, 650, 651, 62, []),
  (⟨"TavernRumours$Land", "knows", "(II)Z"⟩, prog_5_method_6_code, 3, 3, (some .boolean), false, 554, 552, 553, 62, []),
  (⟨"TavernRumours$Land", "hears", "(II)Z"⟩, prog_5_method_7_code, 3, 4, (some .boolean), false, 828, 826, 827, 62, []),
  (⟨"TavernRumours$Land", "knowersOf", "(I)I"⟩, prog_5_method_8_code, 3, 5, (some .int), false, 639, 637, 638, 62, []),
  (⟨"TavernRumours$Land", "knownBy", "(I)I"⟩, prog_5_method_9_code, 3, 4, (some .int), false, 550, 548, 549, 62, []),
  (⟨"TavernRumours$Land", "knownByAll", "()I"⟩, prog_5_method_10_code, 3, 3, (some .int), false, 546, 545, 7, 62, []),
  (⟨"TavernRumours$Land", "walkersOn", "(I)I"⟩, prog_5_method_11_code, 3, 4, (some .int), false, 622, 620, 621, 62, []),
  (⟨"TavernRumours$Land", "walkersWith", "(I)I"⟩, prog_5_method_12_code, 3, 4, (some .int), false, 643, 641, 642, 62, []),
  (⟨"TavernRumours$Land", "tally", "(I)I"⟩, prog_5_method_13_code, 3, 2, (some .int), false, 498, 496, 497, 62, []),
  (⟨"TavernRumours$Land", "passHours", "(I)I"⟩, prog_5_method_14_code, 3, 4, (some .int), false, 709, 707, 708, 62, []),
  (⟨"TavernRumours$Land", "giveOrders", "()V"⟩, prog_5_method_15_code, 3, 4, none, false, 713, 712, 15, 62, []),
  (⟨"TavernRumours$Land", "carryOut", "(II)Z"⟩, prog_5_method_16_code, 3, 5, (some .boolean), false, 780, 779, 19, 62, []),
  (⟨"TavernRumours$Land", "loseWalkers", "()V"⟩, prog_5_method_17_code, 3, 3, none, false, 815, 814, 21, 62, []),
  (⟨"TavernRumours$Land", "keepWalker", "(II)V"⟩, prog_5_method_18_code, 3, 3, none, false, 820, 819, 22, 62, []),
  (⟨"TavernRumours$Land", "beginRumours", "()I"⟩, prog_5_method_19_code, 3, 3, (some .int), false, 824, 823, 23, 62, []),
  (⟨"TavernRumours$Land", "moveWalkers", "()I"⟩, prog_5_method_20_code, 3, 4, (some .int), false, 832, 831, 24, 62, []),
  (⟨"TavernRumours$Land", "sendWalkers", "()V"⟩, prog_5_method_21_code, 3, 4, none, false, 836, 835, 25, 62, []),
  (⟨"TavernRumours$Land", "sendFrom", "(II)V"⟩, prog_5_method_22_code, 3, 4, none, false, 840, 839, 26, 62, []),
  (⟨"TavernRumours$Names", "<init>", "(LTavernRumours$Plan;)V"⟩, prog_6_method_1_code, 4, 2, none, false, 232, 231, 0, 61, []),
  (⟨"TavernRumours$Names", "look", "(LTavernRumours$Plan;)I"⟩, prog_6_method_2_code, 4, 3, (some .int), false, 1369, 1367, 1368, 61, []),
  (⟨"TavernRumours$Names", "lookAt", "(I)V"⟩, prog_6_method_3_code, 4, 2, none, false, 1376, 1375, 45, 61, []),
  (⟨"TavernRumours$Names", "lookAtRoad", "(I)V"⟩, prog_6_method_4_code, 4, 5, none, false, 1402, 1401, 49, 61, []),
  (⟨"TavernRumours$Names", "lookAtRumour", "(I)V"⟩, prog_6_method_5_code, 4, 4, none, false, 1423, 1422, 52, 61, []),
  (⟨"TavernRumours$Names", "countOrder", "(I)V"⟩, prog_6_method_6_code, 4, 2, none, false, 1431, 1430, 53, 61, []),
  (⟨"TavernRumours$Names", "note", "(II)V"⟩, prog_6_method_7_code, 4, 3, none, false, 1396, 1395, 48, 61, []),
  (⟨"TavernRumours$Names", "tellNew", "(II)V"⟩, prog_6_method_8_code, 4, 5, none, false, 1383, 1382, 46, 61, []),
  (⟨"TavernRumours$Names", "find", "(II)I"⟩, prog_6_method_9_code, 4, 4, (some .int), false, 1406, 1405, 50, 61, []),
  (⟨"TavernRumours$Names", "indexOf", "(IJ)I"⟩, prog_6_method_10_code, 4, 5, (some .int), false, 1392, 1391, 47, 61, []),
  (⟨"TavernRumours$Names", "numberOf", "(III)I"⟩, prog_6_method_11_code, 4, 5, (some .int), false, 1414, 1413, 51, 61, []),
  (⟨"TavernRumours$Plan", "<init>", "()V"⟩, prog_7_method_1_code, 5, 1, none, false, 102, 101, 0, 56, []),
  (⟨"TavernRumours$Plan", "clear", "()V"⟩, prog_7_method_2_code, 5, 1, none, false, 1199, 1197, 1198, 56, []),
  (⟨"TavernRumours$Plan", "addCode", "(I)V"⟩, prog_7_method_3_code, 5, 2, none, false, 1332, 1330, 1331, 56, []),
  (⟨"TavernRumours$Plan", "codeAt", "(I)I"⟩, prog_7_method_4_code, 5, 2, (some .int), false, 721, 719, 720, 56, []),
  (⟨"TavernRumours$Plan", "addRoad", "(III)V"⟩, prog_7_method_5_code, 5, 4, none, false, 1419, 1417, 1418, 56, []),
  (⟨"TavernRumours$Plan", "addRumour", "(II)V"⟩, prog_7_method_6_code, 5, 3, none, false, 1427, 1425, 1426, 56, []),
  (⟨"TavernRumours$Plan", "addOrder", "(III)V"⟩, prog_7_method_7_code, 5, 4, none, false, 1359, 1357, 1358, 56, []),
  (⟨"TavernRumours$Plan", "kindOfOrder", "(I)LTavernRumours$Kind;"⟩, prog_7_method_8_code, 5, 2, (some (.object "TavernRumours$Kind")), false, 790, 788, 789, 56, []),
  (⟨"TavernRumours$Plan", "targetOfOrder", "(I)I"⟩, prog_7_method_9_code, 5, 2, (some .int), false, 784, 782, 783, 56, []),
  (⟨"TavernRumours$Reckoner", "<init>", "()V"⟩, prog_8_method_1_code, 6, 1, none, false, 335, 334, 0, 64, []),
  (⟨"TavernRumours$Reckoner", "reckon", "(LTavernRumours$Land;II)I"⟩, prog_8_method_2_code, 6, 9, (some .int), false, 717, 715, 716, 64, []),
  (⟨"TavernRumours$Reckoner", "push", "(I)V"⟩, prog_8_method_3_code, 6, 2, none, false, 755, 754, 18, 64, []),
  (⟨"TavernRumours$Reckoner", "pop", "()I"⟩, prog_8_method_4_code, 6, 1, (some .int), false, 733, 732, 17, 64, []),
  (⟨"TavernRumours$Reckoner", "joined", "(LTavernRumours$Kind;II)I"⟩, prog_8_method_5_code, 6, 3, (some .int), true, 736, 735, 0, 64, []),
  (⟨"TavernRumours$Reckoner", "holds", "(LTavernRumours$Kind;II)Z"⟩, prog_8_method_6_code, 6, 3, (some .boolean), true, 751, 750, 0, 64, []),
  (⟨"TavernRumours$Reckoner", "fact", "(LTavernRumours$Land;LTavernRumours$Kind;I)I"⟩, prog_8_method_7_code, 6, 5, (some .int), true, 760, 759, 0, 64, []),
  (⟨"TavernRumours$Roads", "<init>", "()V"⟩, prog_9_method_1_code, 7, 1, none, false, 266, 265, 0, 63, []),
  (⟨"TavernRumours$Roads", "begin", "(LTavernRumours$Plan;)V"⟩, prog_9_method_2_code, 7, 3, none, false, 1439, 1437, 1438, 63, []),
  (⟨"TavernRumours$Roads", "copy", "(LTavernRumours$Roads;)V"⟩, prog_9_method_3_code, 7, 2, none, false, 854, 852, 853, 63, []),
  (⟨"TavernRumours$Roads", "shape", "(III)V"⟩, prog_9_method_4_code, 7, 4, none, false, 803, 801, 802, 63, []),
  (⟨"TavernRumours$Roads", "forgetWays", "()V"⟩, prog_9_method_5_code, 7, 2, none, false, 807, 806, 20, 63, []),
  (⟨"TavernRumours$Roads", "addWounds", "(II)Z"⟩, prog_9_method_6_code, 7, 4, (some .boolean), false, 798, 796, 797, 63, []),
  (⟨"TavernRumours$Roads", "takeWound", "(I)Z"⟩, prog_9_method_7_code, 7, 3, (some .boolean), false, 811, 809, 810, 63, []),
  (⟨"TavernRumours$Roads", "isOpen", "(I)Z"⟩, prog_9_method_11_code, 7, 2, (some .boolean), false, 506, 504, 505, 63, []),
  (⟨"TavernRumours$Roads", "openRoads", "()I"⟩, prog_9_method_12_code, 7, 3, (some .int), false, 502, 500, 501, 63, []),
  (⟨"TavernRumours$Roads", "lengthOfOpen", "()I"⟩, prog_9_method_13_code, 7, 3, (some .int), false, 1105, 1103, 1104, 63, []),
  (⟨"TavernRumours$Roads", "leadsTo", "(II)Z"⟩, prog_9_method_14_code, 7, 3, (some .boolean), false, 583, 581, 582, 63, []),
  (⟨"TavernRumours$Roads", "otherEnd", "(II)I"⟩, prog_9_method_15_code, 7, 3, (some .int), false, 670, 668, 669, 63, []),
  (⟨"TavernRumours$Roads", "openAt", "(I)I"⟩, prog_9_method_16_code, 7, 4, (some .int), false, 579, 577, 578, 63, []),
  (⟨"TavernRumours$Roads", "between", "(II)I"⟩, prog_9_method_17_code, 7, 4, (some .int), false, 592, 590, 591, 63, []),
  (⟨"TavernRumours$Roads", "fillRow", "([III)V"⟩, prog_9_method_18_code, 7, 9, none, false, 526, 525, 3, 63, []),
  (⟨"TavernRumours$Roads", "partOf", "(I)I"⟩, prog_9_method_19_code, 7, 3, (some .int), false, 588, 586, 587, 63, []),
  (⟨"TavernRumours$Roads", "farthestFrom", "(I)I"⟩, prog_9_method_20_code, 7, 4, (some .int), false, 596, 594, 595, 63, []),
  (⟨"TavernRumours$Roads", "nextTavern", "(II)I"⟩, prog_9_method_21_code, 7, 8, (some .int), false, 666, 664, 665, 63, []),
  (⟨"TavernRumours$Roads", "lengthAround", "(I)I"⟩, prog_9_method_22_code, 7, 3, (some .int), false, 522, 520, 521, 63, []),
  (⟨"TavernRumours$Roads", "isSpan", "(I)Z"⟩, prog_9_method_23_code, 7, 2, (some .boolean), false, 518, 516, 517, 63, []),
  (⟨"TavernRumours$Roads", "spansWith", "(I)I"⟩, prog_9_method_24_code, 7, 4, (some .int), false, 514, 512, 513, 63, []),
  (⟨"TavernRumours$Roads", "isInNet", "(I)Z"⟩, prog_9_method_25_code, 7, 2, (some .boolean), false, 618, 616, 617, 63, []),
  (⟨"TavernRumours$Roads", "lengthOfNet", "()I"⟩, prog_9_method_26_code, 7, 1, (some .int), false, 562, 560, 561, 63, []),
  (⟨"TavernRumours$Roads", "parts", "()I"⟩, prog_9_method_27_code, 7, 1, (some .int), false, 530, 528, 529, 63, []),
  (⟨"TavernRumours$Roads", "substituteFor", "(I)I"⟩, prog_9_method_28_code, 7, 3, (some .int), false, 684, 682, 683, 63, []),
  (⟨"TavernRumours$Roads", "layNet", "(I)V"⟩, prog_9_method_29_code, 7, 5, none, false, 534, 533, 4, 63, []),
  (⟨"TavernRumours$Roads", "joinGroups", "(II)V"⟩, prog_9_method_30_code, 7, 4, none, false, 542, 541, 6, 63, []),
  (⟨"TavernRumours$Roads", "sortOpen", "(I)I"⟩, prog_9_method_31_code, 7, 5, (some .int), false, 538, 537, 5, 63, []),
  (⟨"TavernRumours$Tokens", "<init>", "()V"⟩, prog_10_method_1_code, 8, 2, none, false, 108, 107, 0, 57, []),
  (⟨"TavernRumours$Tokens", "has", "(I)Z"⟩, prog_10_method_2_code, 8, 2, (some .boolean), false, 729, 728, 16, 57, []),
  (⟨"TavernRumours$Tokens", "kindOf", "(I)LTavernRumours$Kind;"⟩, prog_10_method_3_code, 8, 2, (some (.object "TavernRumours$Kind")), false, 725, 723, 724, 57, []),
  (⟨"TavernRumours$Tokens", "placeOf", "(I)I"⟩, prog_10_method_4_code, 8, 2, (some .int), false, 1365, 1363, 1364, 57, []),
  (⟨"TavernRumours$Tokens", "valueOf", "(I)I"⟩, prog_10_method_5_code, 8, 2, (some .int), false, 764, 762, 763, 57, []),
  (⟨"TavernRumours$Tokens", "spellingOf", "(I)J"⟩, prog_10_method_6_code, 8, 2, (some .long), false, 1387, 1385, 1386, 57, []),
  (⟨"TavernRumours$Tokens", "setValue", "(II)V"⟩, prog_10_method_7_code, 8, 3, none, false, 1410, 1408, 1409, 57, []),
  (⟨"TavernRumours$Tokens", "setKind", "(ILTavernRumours$Kind;)V"⟩, prog_10_method_8_code, 8, 3, none, false, 1345, 1343, 1344, 57, []),
  (⟨"TavernRumours$Tokens", "read", "([BI)V"⟩, prog_10_method_9_code, 8, 8, none, false, 1203, 1201, 1202, 57, []),
  (⟨"TavernRumours$Tokens", "behindBlanks", "([BII)I"⟩, prog_10_method_10_code, 8, 4, (some .int), true, 1206, 1205, 0, 57, []),
  (⟨"TavernRumours$Tokens", "endOfToken", "([BII)I"⟩, prog_10_method_11_code, 8, 4, (some .int), true, 1209, 1208, 0, 57, []),
  (⟨"TavernRumours$Tokens", "kindBetween", "([BII)LTavernRumours$Kind;"⟩, prog_10_method_12_code, 8, 3, (some (.object "TavernRumours$Kind")), true, 1218, 1217, 0, 57, []),
  (⟨"TavernRumours$Tokens", "kindSpelt", "([BIILTavernRumours$Kind;)LTavernRumours$Kind;"⟩, prog_10_method_13_code, 8, 8, (some (.object "TavernRumours$Kind")), true, 1225, 1224, 0, 57, []),
  (⟨"TavernRumours$Tokens", "isSpelt", "(Ljava/lang/String;[BI)Z"⟩, prog_10_method_14_code, 8, 4, (some .boolean), true, 1231, 1230, 0, 57, []),
  (⟨"TavernRumours$Tokens", "numberBetween", "([BII)I"⟩, prog_10_method_15_code, 8, 5, (some .int), true, 1237, 1236, 0, 57, []),
  (⟨"TavernRumours$Tokens", "spellingBetween", "([BII)J"⟩, prog_10_method_16_code, 8, 7, (some .long), true, 1240, 1239, 0, 57, []),
  (⟨"TavernRumours$Tokens", "isLetter", "(B)Z"⟩, prog_10_method_17_code, 8, 1, (some .boolean), true, 1212, 1211, 0, 57, []),
  (⟨"TavernRumours$Tokens", "isDigit", "(B)Z"⟩, prog_10_method_18_code, 8, 1, (some .boolean), true, 1215, 1214, 0, 57, []),
  (⟨"TavernRumours", "<init>", "()V"⟩, prog_1_method_1_code, 9, 1, none, false, 94, 93, 0, 55, []),
  (⟨"TavernRumours", "feed", "(IIIII)I"⟩, prog_1_method_2_code, 9, 6, (some .int), false, 1171, 1169, 1170, 55, []),
  (⟨"TavernRumours", "append", "(I)V"⟩, prog_1_method_3_code, 9, 3, none, false, 1191, 1190, 36, 55, []),
  (⟨"TavernRumours", "trim", "(I)I"⟩, prog_1_method_4_code, 9, 2, (some .int), false, 1120, 1118, 1119, 55, []),
  (⟨"TavernRumours", "teach", "()I"⟩, prog_1_method_5_code, 9, 3, (some .int), false, 1195, 1193, 1194, 55, []),
  (⟨"TavernRumoursLaw$Sim", "<init>", "()V"⟩, prog_12_method_1_code, 10, 1, none, false, 1447, 1446, 0, 69, []),
  (⟨"TavernRumours", "count", "(I)I"⟩, prog_1_method_7_code, 9, 2, (some .int), false, 423, 421, 422, 55, []),
  (⟨"TavernRumours", "countOf", "(I)I"⟩, prog_1_method_8_code, 9, 2, (some .int), false, 494, 493, 1, 55, []),
  (⟨"TavernRumours", "tavern", "(II)I"⟩, prog_1_method_9_code, 9, 3, (some .int), false, 566, 564, 565, 55, []),
  (⟨"TavernRumours", "tavernFact", "(II)I"⟩, prog_1_method_10_code, 9, 3, (some .int), false, 575, 574, 10, 55, []),
  (⟨"TavernRumours", "road", "(II)I"⟩, prog_1_method_11_code, 9, 3, (some .int), false, 603, 601, 602, 55, []),
  (⟨"TavernRumours", "roadFact", "(II)I"⟩, prog_1_method_12_code, 9, 4, (some .int), false, 612, 611, 12, 55, []),
  (⟨"TavernRumours", "rumour", "(II)I"⟩, prog_1_method_13_code, 9, 3, (some .int), false, 626, 624, 625, 55, []),
  (⟨"TavernRumours", "rumourFact", "(II)I"⟩, prog_1_method_14_code, 9, 3, (some .int), false, 635, 634, 14, 55, []),
  (⟨"TavernRumours", "since", "(II)I"⟩, prog_1_method_15_code, 9, 3, (some .int), false, 647, 645, 646, 55, []),
  (⟨"TavernRumours", "isTavern", "(I)Z"⟩, prog_1_method_16_code, 9, 2, (some .boolean), false, 570, 569, 9, 55, []),
  (⟨"TavernRumours", "isRoad", "(I)Z"⟩, prog_1_method_17_code, 9, 2, (some .boolean), false, 607, 606, 11, 55, []),
  (⟨"TavernRumours", "isRumour", "(I)Z"⟩, prog_1_method_18_code, 9, 2, (some .boolean), false, 630, 629, 13, 55, []),
  (⟨"TavernRumours", "far", "(II)I"⟩, prog_1_method_19_code, 9, 3, (some .int), false, 656, 654, 655, 55, []),
  (⟨"TavernRumours", "step", "(II)I"⟩, prog_1_method_20_code, 9, 3, (some .int), false, 662, 660, 661, 55, []),
  (⟨"TavernRumours", "detour", "(I)I"⟩, prog_1_method_21_code, 9, 2, (some .int), false, 674, 672, 673, 55, []),
  (⟨"TavernRumours", "replace", "(I)I"⟩, prog_1_method_22_code, 9, 2, (some .int), false, 680, 678, 679, 55, []),
  (⟨"TavernRumours", "hurt", "(II)I"⟩, prog_1_method_23_code, 9, 3, (some .int), false, 1782, 1780, 1781, 55, []),
  (⟨"TavernRumours", "mend", "(I)I"⟩, prog_1_method_24_code, 9, 2, (some .int), false, 1788, 1786, 1787, 55, []),
  (⟨"TavernRumours", "tell", "(II)I"⟩, prog_1_method_25_code, 9, 3, (some .int), false, 1794, 1792, 1793, 55, []),
  (⟨"TavernRumours", "setMiles", "(II)I"⟩, prog_1_method_26_code, 9, 4, (some .int), false, 1801, 1799, 1800, 55, []),
  (⟨"TavernRumours", "pass", "(I)I"⟩, prog_1_method_27_code, 9, 2, (some .int), false, 689, 687, 688, 55, []),
  (⟨"TavernRumoursLaw$Sim", "isOpen", "(I)Z"⟩, prog_12_method_3_code, 10, 2, (some .boolean), false, 905, 903, 904, 69, []),
  (⟨"TavernRumours", "foresee", "(II)I"⟩, prog_1_method_29_code, 9, 3, (some .int), false, 846, 844, 845, 55, []),
  (⟨"TavernRumoursLaw$Sim", "length", "(I)I"⟩, prog_12_method_4_code, 10, 2, (some .int), false, 918, 916, 917, 69, []),
  (⟨"TavernRumoursLaw$Sim", "ways", "(I)[[I"⟩, prog_12_method_5_code, 10, 6, (some (.array (.array .int))), false, 913, 911, 912, 69, []),
  (⟨"TavernRumours", "best", "()I"⟩, prog_1_method_32_code, 9, 9, (some .int), false, 862, 860, 861, 55, []),
  (⟨"TavernRumours", "mean", "()D"⟩, prog_1_method_33_code, 9, 3, (some .double), false, 1100, 1098, 1099, 55, []),
  (⟨"TavernRumours", "digest", "()J"⟩, prog_1_method_34_code, 9, 5, (some .long), false, 870, 868, 869, 55, []),
  (⟨"TavernRumours", "digestTaverns", "(J)J"⟩, prog_1_method_35_code, 9, 7, (some .long), false, 876, 875, 27, 55, []),
  (⟨"TavernRumours", "digestRoads", "(J)J"⟩, prog_1_method_36_code, 9, 7, (some .long), false, 880, 879, 28, 55, []),
  (⟨"TavernRumoursLaw$Sim", "far", "(II)I"⟩, prog_12_method_6_code, 10, 4, (some .int), false, 909, 907, 908, 69, []),
  (⟨"TavernRumoursLaw$Sim", "parts", "()I"⟩, prog_12_method_7_code, 10, 5, (some .int), false, 1037, 1035, 1036, 69, []),
  (⟨"TavernRumoursLaw$Sim", "net", "(I)[Z"⟩, prog_12_method_8_code, 10, 9, (some (.array .boolean)), false, 1041, 1039, 1040, 69, []),
  (⟨"TavernRumoursLaw$Sim", "lengthOf", "([Z)I"⟩, prog_12_method_9_code, 10, 4, (some .int), false, 1045, 1043, 1044, 69, []),
  (⟨"TavernRumoursLaw$Sim", "detour", "(I)I"⟩, prog_12_method_11_code, 10, 3, (some .int), false, 1033, 1031, 1032, 69, []),
  (⟨"TavernRumoursLaw$Sim", "isSpan", "(I)Z"⟩, prog_12_method_12_code, 10, 2, (some .boolean), false, 1029, 1027, 1028, 69, []),
  (⟨"TavernRumoursLaw$Sim", "heard", "(I)I"⟩, prog_12_method_13_code, 10, 7, (some .int), false, 892, 890, 891, 69, []),
  (⟨"TavernRumoursLaw$Sim", "all", "()I"⟩, prog_12_method_14_code, 10, 3, (some .int), false, 888, 886, 887, 69, []),
  (⟨"TavernRumoursLaw$Sim", "sum", "([I)I"⟩, prog_12_method_15_code, 10, 3, (some .int), false, 924, 923, 31, 69, []),
  (⟨"TavernRumoursLaw$Sim", "holds", "([I)Z"⟩, prog_12_method_16_code, 10, 3, (some .boolean), false, 901, 900, 30, 69, []),
  (⟨"TavernRumoursLaw$Sim", "carries", "([I)Z"⟩, prog_12_method_17_code, 10, 4, (some .boolean), false, 897, 895, 29, 69, []),
  (⟨"TavernRumoursLaw$Sim", "hears", "(II)Z"⟩, prog_12_method_18_code, 10, 3, (some .boolean), false, 957, 955, 956, 69, []),
  (⟨"TavernRumoursLaw$Sim", "pass", "(I)I"⟩, prog_12_method_19_code, 10, 8, (some .int), false, 884, 882, 883, 69, []),
  (⟨"TavernRumoursLaw$Sim", "counts", "()[I"⟩, prog_12_method_20_code, 10, 5, (some (.array .int)), false, 1025, 1023, 1024, 69, []),
  (⟨"TavernRumoursLaw$Sim", "isSame", "(LTavernRumours;)Z"⟩, prog_12_method_21_code, 10, 10, (some .boolean), false, 1021, 1019, 1020, 69, []),
  (⟨"TavernRumoursLaw", "below", "(II)I"⟩, method_2_code, 13, 2, (some .int), true, 1108, 1107, 0, 54, []),
  (⟨"TavernRumoursLaw", "cell", "([II)I"⟩, method_3_code, 13, 2, (some .int), true, 1112, 1111, 0, 54, []),
  (⟨"TavernRumoursLaw", "taught", "(LTavernRumours;Ljava/lang/String;)I"⟩, method_4_code, 13, 5, (some .int), true, 1116, 1115, 0, 54, []),
  (⟨"TavernRumoursLaw", "sum", "([I)Ljava/lang/String;"⟩, method_5_code, 13, 2, (some (.object "java/lang/String")), true, 1677, 1676, 0, 54, []),
  (⟨"TavernRumoursLaw", "when", "([I)Ljava/lang/String;"⟩, method_6_code, 13, 3, (some (.object "java/lang/String")), true, 1753, 1752, 0, 54, []),
  (⟨"TavernRumoursLaw", "list", "([ILjava/lang/StringBuilder;)LTavernRumoursLaw$Sim;"⟩, method_7_code, 13, 8, (some (.object "TavernRumoursLaw$Sim")), true, 1443, 1442, 0, 54, []),
  (⟨"TavernRumoursLaw", "act", "(LTavernRumours;LTavernRumoursLaw$Sim;I)Z"⟩, method_8_code, 13, 9, (some .boolean), true, 1776, 1775, 0, 54, [(149, 156, 159, 208), (228, 238, 241, 208)]),
  (⟨"TavernRumoursLaw", "leads", "(LTavernRumours;III)Z"⟩, method_10_code, 13, 6, (some .boolean), true, 1805, 1804, 0, 54, []),
  (⟨"java/lang/String", "getBytes", "([BIB)V"⟩, prog_32_method_147_code, 14, 4, none, false, 1611, 1609, 1610, 67, []),
  (⟨"java/lang/String", "<init>", "(Ljava/lang/StringBuilder;)V"⟩, prog_32_method_53_code, 14, 2, none, false, 1687, 1686, 0, 67, []),
  (⟨"java/lang/String", "<init>", "(Ljava/lang/AbstractStringBuilder;Ljava/lang/Void;)V"⟩, prog_32_method_150_code, 14, 5, none, false, 1690, 1689, 0, 67, []),
  (⟨"java/util/Objects", "checkIndex", "(II)I"⟩, prog_48_method_17_code, 23, 2, (some .int), true, 935, 934, 0, 88, []),
  (⟨"java/lang/StringBuilder", "append", "(Ljava/lang/String;)Ljava/lang/StringBuilder;"⟩, prog_33_method_7_code, 11, 2, (some (.object "java/lang/StringBuilder")), false, 1522, 1520, 1521, 66, []),
  (⟨"java/lang/StringBuilder", "append", "(I)Ljava/lang/StringBuilder;"⟩, prog_33_method_15_code, 11, 2, (some (.object "java/lang/StringBuilder")), false, 1617, 1615, 1616, 66, []),
  (⟨"java/lang/StringBuilder", "<init>", "()V"⟩, prog_33_method_1_code, 11, 1, none, false, 1656, 1655, 0, 66, []),
  (⟨"java/lang/StringBuilder", "toString", "()Ljava/lang/String;"⟩, prog_33_method_42_code, 11, 1, (some (.object "java/lang/String")), false, 1682, 1680, 1681, 66, []),
  (⟨"java/lang/AbstractStringBuilder", "append", "(I)Ljava/lang/AbstractStringBuilder;"⟩, prog_17_method_32_code, 20, 4, (some (.object "java/lang/AbstractStringBuilder")), false, 1620, 1619, 0, 65, []),
  (⟨"java/lang/AbstractStringBuilder", "append", "(Ljava/lang/String;)Ljava/lang/AbstractStringBuilder;"⟩, prog_17_method_22_code, 20, 3, (some (.object "java/lang/AbstractStringBuilder")), false, 1526, 1525, 0, 65, []),
  (⟨"java/lang/AbstractStringBuilder", "ensureCapacityInternal", "(I)V"⟩, prog_17_method_9_code, 20, 3, none, false, 1534, 1533, 0, 65, []),
  (⟨"java/lang/AbstractStringBuilder", "getValue", "()[B"⟩, prog_17_method_64_code, 20, 1, (some (.array .byte)), false, 1696, 1693, 1695, 65, []),
  (⟨"java/lang/AbstractStringBuilder", "inflateIfNeededFor", "(Ljava/lang/String;)V"⟩, prog_17_method_71_code, 20, 2, none, false, 1580, 1579, 0, 65, []),
  (⟨"java/lang/AbstractStringBuilder", "<init>", "(I)V"⟩, prog_17_method_2_code, 20, 2, none, false, 1659, 1658, 0, 65, []),
  (⟨"java/lang/AbstractStringBuilder", "isLatin1", "()Z"⟩, prog_17_method_68_code, 20, 1, (some .boolean), false, 1555, 1552, 1554, 65, []),
  (⟨"java/lang/AbstractStringBuilder", "length", "()I"⟩, prog_17_method_6_code, 20, 1, (some .int), false, 1704, 1698, 0, 65, []),
  (⟨"java/lang/AbstractStringBuilder", "newCapacity", "(I)I"⟩, prog_17_method_10_code, 20, 6, (some .int), false, 1538, 1537, 0, 65, []),
  (⟨"java/lang/AbstractStringBuilder", "putStringAt", "(ILjava/lang/String;)V"⟩, prog_17_method_73_code, 20, 3, none, false, 1576, 1575, 0, 65, []),
  (⟨"java/lang/Integer", "getChars", "(II[B)I"⟩, prog_27_method_12_code, 21, 7, (some .int), true, 1626, 1625, 0, 80, []),
  (⟨"java/lang/Integer", "stringSize", "(I)I"⟩, prog_27_method_13_code, 21, 4, (some .int), true, 1623, 1622, 0, 80, []),
  (⟨"java/util/Arrays", "checkLength", "(II)V"⟩, prog_44_method_131_code, 17, 2, none, true, 1714, 1713, 0, 75, []),
  (⟨"java/util/Arrays", "copyOfRangeByte", "([BII)[B"⟩, prog_44_method_133_code, 17, 5, (some (.array .byte)), true, 1711, 1710, 0, 75, []),
  (⟨"java/util/Arrays", "copyOfRange", "([BII)[B"⟩, prog_44_method_132_code, 17, 3, (some (.array .byte)), true, 1708, 1707, 0, 75, []),
  (⟨"java/util/Arrays", "copyOf", "([Ljava/lang/Object;I)[Ljava/lang/Object;"⟩, prog_44_method_119_code, 17, 2, (some (.array (.object "java/lang/Object"))), true, 986, 985, 0, 75, []),
  (⟨"java/util/Arrays", "copyOf", "([Ljava/lang/Object;ILjava/lang/Class;)[Ljava/lang/Object;"⟩, prog_44_method_120_code, 17, 4, (some (.array (.object "java/lang/Object"))), true, 1010, 1009, 0, 75, []),
  (⟨"java/util/Arrays", "copyOf", "([BI)[B"⟩, prog_44_method_121_code, 17, 3, (some (.array .byte)), true, 1543, 1542, 0, 75, []),
  (⟨"jdk/internal/util/ArraysSupport", "newLength", "(III)I"⟩, prog_51_method_27_code, 22, 4, (some .int), true, 978, 977, 0, 73, []),
  (⟨"java/util/ArrayList$Itr", "checkForComodification", "()V"⟩, prog_43_method_6_code, 0, 1, none, false, 1094, 1092, 1093, 89, []),
  (⟨"java/util/ArrayList$Itr", "hasNext", "()Z"⟩, prog_43_method_2_code, 0, 1, (some .boolean), false, 1081, 1079, 1077, 89, []),
  (⟨"java/util/ArrayList$Itr", "<init>", "(Ljava/util/ArrayList;)V"⟩, prog_43_method_1_code, 0, 2, none, false, 1057, 1056, 0, 89, []),
  (⟨"java/util/ArrayList$Itr", "next", "()Ljava/lang/Object;"⟩, prog_43_method_3_code, 0, 3, (some (.object "java/lang/Object")), false, 1090, 1088, 1086, 89, []),
  (⟨"java/util/ArrayList", "add", "(Ljava/lang/Object;[Ljava/lang/Object;I)V"⟩, prog_42_method_24_code, 12, 4, none, false, 965, 964, 33, 72, []),
  (⟨"java/util/ArrayList", "add", "(Ljava/lang/Object;)Z"⟩, prog_42_method_25_code, 12, 2, (some .boolean), false, 961, 959, 960, 72, []),
  (⟨"java/util/ArrayList", "elementData", "(I)Ljava/lang/Object;"⟩, prog_42_method_18_code, 12, 2, (some (.object "java/lang/Object")), false, 942, 940, 941, 72, []),
  (⟨"java/util/ArrayList", "fastRemove", "([Ljava/lang/Object;I)V"⟩, prog_42_method_39_code, 12, 4, none, false, 952, 950, 32, 72, []),
  (⟨"java/util/ArrayList", "get", "(I)Ljava/lang/Object;"⟩, prog_42_method_20_code, 12, 2, (some (.object "java/lang/Object")), false, 932, 930, 931, 72, []),
  (⟨"java/util/ArrayList", "grow", "(I)[Ljava/lang/Object;"⟩, prog_42_method_6_code, 12, 4, (some (.array (.object "java/lang/Object"))), false, 973, 972, 35, 72, []),
  (⟨"java/util/ArrayList", "grow", "()[Ljava/lang/Object;"⟩, prog_42_method_7_code, 12, 1, (some (.array (.object "java/lang/Object"))), false, 969, 968, 34, 72, []),
  (⟨"java/util/ArrayList", "<init>", "()V"⟩, prog_42_method_2_code, 12, 1, none, false, 1454, 1453, 0, 72, []),
  (⟨"java/util/ArrayList", "iterator", "()Ljava/util/Iterator;"⟩, prog_42_method_55_code, 12, 1, (some (.object "java/util/Iterator")), false, 1052, 1050, 1051, 72, []),
  (⟨"java/util/ArrayList", "remove", "(I)Ljava/lang/Object;"⟩, prog_42_method_29_code, 12, 4, (some (.object "java/lang/Object")), false, 947, 945, 946, 72, []),
  (⟨"java/util/ArrayList", "size", "()I"⟩, prog_42_method_8_code, 12, 1, (some .int), false, 928, 926, 927, 72, []),
  (⟨"java/util/AbstractCollection", "<init>", "()V"⟩, prog_40_method_1_code, 25, 1, none, false, 1460, 1459, 0, 70, []),
  (⟨"java/util/AbstractList", "<init>", "()V"⟩, prog_41_method_1_code, 24, 1, none, false, 1457, 1456, 0, 71, []),
  (⟨"java/lang/StringBuilder", "length", "()I"⟩, prog_33_method_93_code, 11, 1, (some .int), false, 1702, 1701, 1700, 66, []),
  (⟨"java/lang/String", "coder", "()B"⟩, prog_32_method_152_code, 14, 1, (some .byte), false, 1129, 1127, 1128, 67, []),
  (⟨"java/lang/String", "coder", "()B"⟩, prog_32_method_152_code, 14, 1, (some .byte), false, 1129, 1127, 1128, 67, []),
  (⟨"java/lang/String", "coder", "()B"⟩, prog_32_method_152_code, 14, 1, (some .byte), false, 1129, 1127, 1128, 67, []),
  (⟨"java/lang/String", "coder", "()B"⟩, prog_32_method_152_code, 14, 1, (some .byte), false, 1129, 1127, 1128, 67, []),
  (⟨"java/lang/String", "coder", "()B"⟩, prog_32_method_152_code, 14, 1, (some .byte), false, 1129, 1127, 1128, 67, []),
  (⟨"java/lang/String", "coder", "()B"⟩, prog_32_method_152_code, 14, 1, (some .byte), false, 1129, 1127, 1128, 67, []),
  (⟨"java/lang/String", "coder", "()B"⟩, prog_32_method_152_code, 14, 1, (some .byte), false, 1129, 1127, 1128, 67, []),
  (⟨"java/lang/String", "coder", "()B"⟩, prog_32_method_152_code, 14, 1, (some .byte), false, 1129, 1127, 1128, 67, []),
  (⟨"java/lang/String", "coder", "()B"⟩, prog_32_method_152_code, 14, 1, (some .byte), false, 1129, 1127, 1128, 67, []),
  (⟨"java/lang/String", "coder", "()B"⟩, prog_32_method_152_code, 14, 1, (some .byte), false, 1129, 1127, 1128, 67, []),
  (⟨"java/lang/String", "coder", "()B"⟩, prog_32_method_152_code, 14, 1, (some .byte), false, 1129, 1127, 1128, 67, []),
  (⟨"java/lang/String", "coder", "()B"⟩, prog_32_method_152_code, 14, 1, (some .byte), false, 1129, 1127, 1128, 67, []),
  (⟨"java/lang/String", "coder", "()B"⟩, prog_32_method_152_code, 14, 1, (some .byte), false, 1129, 1127, 1128, 67, []),
  (⟨"java/lang/String", "coder", "()B"⟩, prog_32_method_152_code, 14, 1, (some .byte), false, 1129, 1127, 1128, 67, []),
  (⟨"java/lang/String", "coder", "()B"⟩, prog_32_method_152_code, 14, 1, (some .byte), false, 1129, 1127, 1128, 67, []),
  (⟨"java/lang/String", "coder", "()B"⟩, prog_32_method_152_code, 14, 1, (some .byte), false, 1129, 1127, 1128, 67, []),
  (⟨"java/lang/String", "coder", "()B"⟩, prog_32_method_152_code, 14, 1, (some .byte), false, 1129, 1127, 1128, 67, []),
  (⟨"java/lang/String", "coder", "()B"⟩, prog_32_method_152_code, 14, 1, (some .byte), false, 1129, 1127, 1128, 67, []),
  (⟨"java/lang/String", "coder", "()B"⟩, prog_32_method_152_code, 14, 1, (some .byte), false, 1129, 1127, 1128, 67, []),
  (⟨"java/lang/String", "coder", "()B"⟩, prog_32_method_152_code, 14, 1, (some .byte), false, 1129, 1127, 1128, 67, []),
  (⟨"java/lang/String", "coder", "()B"⟩, prog_32_method_152_code, 14, 1, (some .byte), false, 1129, 1127, 1128, 67, []),
  (⟨"java/lang/String", "coder", "()B"⟩, prog_32_method_152_code, 14, 1, (some .byte), false, 1129, 1127, 1128, 67, []),
  (⟨"java/lang/String", "coder", "()B"⟩, prog_32_method_152_code, 14, 1, (some .byte), false, 1129, 1127, 1128, 67, []),
  (⟨"java/lang/String", "coder", "()B"⟩, prog_32_method_152_code, 14, 1, (some .byte), false, 1129, 1127, 1128, 67, []),
  (⟨"java/lang/String", "coder", "()B"⟩, prog_32_method_152_code, 14, 1, (some .byte), false, 1129, 1127, 1128, 67, []),
  (⟨"java/lang/String", "coder", "()B"⟩, prog_32_method_152_code, 14, 1, (some .byte), false, 1129, 1127, 1128, 67, []),
  (⟨"java/lang/String", "coder", "()B"⟩, prog_32_method_152_code, 14, 1, (some .byte), false, 1129, 1127, 1128, 67, []),
  (⟨"java/lang/String", "coder", "()B"⟩, prog_32_method_152_code, 14, 1, (some .byte), false, 1129, 1127, 1128, 67, []),
  (⟨"java/lang/String", "coder", "()B"⟩, prog_32_method_152_code, 14, 1, (some .byte), false, 1129, 1127, 1128, 67, []),
  (⟨"java/lang/String", "coder", "()B"⟩, prog_32_method_152_code, 14, 1, (some .byte), false, 1129, 1127, 1128, 67, []),
  (⟨"java/lang/String", "coder", "()B"⟩, prog_32_method_152_code, 14, 1, (some .byte), false, 1129, 1127, 1128, 67, []),
  (⟨"java/lang/String", "coder", "()B"⟩, prog_32_method_152_code, 14, 1, (some .byte), false, 1129, 1127, 1128, 67, []),
  (⟨"java/lang/String", "coder", "()B"⟩, prog_32_method_152_code, 14, 1, (some .byte), false, 1129, 1127, 1128, 67, []),
  (⟨"java/lang/String", "coder", "()B"⟩, prog_32_method_152_code, 14, 1, (some .byte), false, 1129, 1127, 1128, 67, []),
  (⟨"java/lang/String", "coder", "()B"⟩, prog_32_method_152_code, 14, 1, (some .byte), false, 1129, 1127, 1128, 67, []),
  (⟨"java/lang/String", "coder", "()B"⟩, prog_32_method_152_code, 14, 1, (some .byte), false, 1129, 1127, 1128, 67, []),
  (⟨"java/lang/String", "coder", "()B"⟩, prog_32_method_152_code, 14, 1, (some .byte), false, 1129, 1127, 1128, 67, []),
  (⟨"java/lang/String", "coder", "()B"⟩, prog_32_method_152_code, 14, 1, (some .byte), false, 1129, 1127, 1128, 67, []),
  (⟨"java/lang/String", "coder", "()B"⟩, prog_32_method_152_code, 14, 1, (some .byte), false, 1129, 1127, 1128, 67, []),
  (⟨"java/lang/String", "coder", "()B"⟩, prog_32_method_152_code, 14, 1, (some .byte), false, 1129, 1127, 1128, 67, []),
  (⟨"java/lang/String", "coder", "()B"⟩, prog_32_method_152_code, 14, 1, (some .byte), false, 1129, 1127, 1128, 67, []),
  (⟨"java/lang/String", "coder", "()B"⟩, prog_32_method_152_code, 14, 1, (some .byte), false, 1129, 1127, 1128, 67, []),
  (⟨"java/lang/String", "coder", "()B"⟩, prog_32_method_152_code, 14, 1, (some .byte), false, 1129, 1127, 1128, 67, []),
  (⟨"java/lang/String", "coder", "()B"⟩, prog_32_method_152_code, 14, 1, (some .byte), false, 1129, 1127, 1128, 67, []),
  (⟨"java/lang/String", "coder", "()B"⟩, prog_32_method_152_code, 14, 1, (some .byte), false, 1129, 1127, 1128, 67, []),
  (⟨"java/lang/String", "coder", "()B"⟩, prog_32_method_152_code, 14, 1, (some .byte), false, 1129, 1127, 1128, 67, []),
  (⟨"java/lang/String", "coder", "()B"⟩, prog_32_method_152_code, 14, 1, (some .byte), false, 1129, 1127, 1128, 67, []),
  (⟨"java/lang/String", "coder", "()B"⟩, prog_32_method_152_code, 14, 1, (some .byte), false, 1129, 1127, 1128, 67, []),
  (⟨"java/lang/String", "coder", "()B"⟩, prog_32_method_152_code, 14, 1, (some .byte), false, 1129, 1127, 1128, 67, []),
  (⟨"java/lang/String", "coder", "()B"⟩, prog_32_method_152_code, 14, 1, (some .byte), false, 1129, 1127, 1128, 67, []),
  (⟨"java/lang/String", "coder", "()B"⟩, prog_32_method_152_code, 14, 1, (some .byte), false, 1129, 1127, 1128, 67, []),
  (⟨"java/lang/String", "coder", "()B"⟩, prog_32_method_152_code, 14, 1, (some .byte), false, 1129, 1127, 1128, 67, []),
  (⟨"java/lang/String", "coder", "()B"⟩, prog_32_method_152_code, 14, 1, (some .byte), false, 1129, 1127, 1128, 67, []),
  (⟨"java/lang/String", "coder", "()B"⟩, prog_32_method_152_code, 14, 1, (some .byte), false, 1129, 1127, 1128, 67, []),
  (⟨"java/lang/String", "coder", "()B"⟩, prog_32_method_152_code, 14, 1, (some .byte), false, 1129, 1127, 1128, 67, []),
  (⟨"java/lang/String", "coder", "()B"⟩, prog_32_method_152_code, 14, 1, (some .byte), false, 1129, 1127, 1128, 67, []),
  (⟨"java/lang/String", "coder", "()B"⟩, prog_32_method_152_code, 14, 1, (some .byte), false, 1129, 1127, 1128, 67, []),
  (⟨"java/lang/String", "coder", "()B"⟩, prog_32_method_152_code, 14, 1, (some .byte), false, 1129, 1127, 1128, 67, []),
  (⟨"java/lang/String", "coder", "()B"⟩, prog_32_method_152_code, 14, 1, (some .byte), false, 1129, 1127, 1128, 67, []),
  (⟨"java/lang/String", "coder", "()B"⟩, prog_32_method_152_code, 14, 1, (some .byte), false, 1129, 1127, 1128, 67, []),
  (⟨"java/lang/String", "coder", "()B"⟩, prog_32_method_152_code, 14, 1, (some .byte), false, 1129, 1127, 1128, 67, []),
  (⟨"TavernRumoursLaw", "law", "([I)Z"⟩, code, 13, 26, (some .boolean), false, 0, 0, 0, 54, []),
  (⟨"java/lang/String", "length", "()I"⟩, prog_32_method_54_code, 14, 1, (some .int), false, 1125, 1123, 1124, 67, []),
  (⟨"java/lang/String", "charAt", "(I)C"⟩, prog_32_method_56_code, 14, 2, (some .char), false, 1135, 1133, 1134, 67, []),
  (⟨"java/lang/String", "coder", "()B"⟩, prog_32_method_152_code, 14, 1, (some .byte), false, 1129, 1127, 1128, 67, []),
  (⟨"java/lang/String", "coder", "()B"⟩, prog_32_method_152_code, 14, 1, (some .byte), false, 1129, 1127, 1128, 67, []),
  (⟨"java/lang/String", "coder", "()B"⟩, prog_32_method_152_code, 14, 1, (some .byte), false, 1129, 1127, 1128, 67, []),
  (⟨"java/lang/String", "isLatin1", "()Z"⟩, prog_32_method_154_code, 14, 1, (some .boolean), false, 1139, 1137, 1138, 67, []),
  (⟨"java/lang/String", "checkIndex", "(II)V"⟩, prog_32_method_155_code, 14, 2, none, true, 1145, 1144, 0, 67, []),
  (⟨"java/lang/StringLatin1", "charAt", "([BI)C"⟩, prog_34_method_2_code, 15, 2, (some .char), true, 1142, 1141, 0, 78, []),
  (⟨"java/lang/String", "coder", "()B"⟩, prog_32_method_152_code, 14, 1, (some .byte), false, 1129, 1127, 1128, 67, []),
  (⟨"java/lang/String", "coder", "()B"⟩, prog_32_method_152_code, 14, 1, (some .byte), false, 1129, 1127, 1128, 67, []),
  (⟨"java/lang/String", "coder", "()B"⟩, prog_32_method_152_code, 14, 1, (some .byte), false, 1129, 1127, 1128, 67, []),
  (⟨"jdk/internal/util/Preconditions", "checkIndex", "(IILjava/util/function/BiFunction;)I"⟩, prog_52_method_11_code, 16, 3, (some .int), true, 938, 937, 0, 77, []),
  (⟨"java/util/Arrays", "fill", "([II)V"⟩, prog_44_method_103_code, 17, 4, none, true, 1372, 1371, 0, 75, []),
  (⟨"java/lang/Enum", "ordinal", "()I"⟩, prog_22_method_2_code, 18, 1, (some .int), false, 744, 743, 742, 58, []),
  (⟨"TavernRumours$Land", "has", "(II)Z"⟩, prog_5_method_5_code, 3, 3, (some .boolean), false, 558, 557, 8, 62, []),
  (⟨"TavernRumours$Roads", "has", "(I)Z"⟩, prog_9_method_8_code, 7, 2, (some .boolean), false, 510, 509, 2, 63, []),
  (⟨"TavernRumours$Roads", "lengthOf", "(I)I"⟩, prog_9_method_9_code, 7, 2, (some .int), false, 768, 766, 767, 63, []),
  (⟨"TavernRumours$Roads", "woundsOf", "(I)I"⟩, prog_9_method_10_code, 7, 2, (some .int), false, 772, 770, 771, 63, [])]
def MTd : MQ1 := (⟨"", "", ""⟩, ⟨#[]⟩, 0, 0, none, false, 0, 0, 0, 0, [])
def mInf (m : Nat) : MQ1 := MT.getD m MTd
