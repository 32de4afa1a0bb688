/-! ===== TABLES, by program out of the claim's own listing: classes, fields, links, methods ===== -/
def nC : List String := ["TavernRumours$1", "TavernRumours$Grammar", "TavernRumours$Kind", "TavernRumours$Land", "TavernRumours$Names", "TavernRumours$Plan", "TavernRumours$Reckoner", "TavernRumours$Roads", "TavernRumours$Tokens", "TavernRumours", "TavernRumoursModel$Sheet", "TavernRumoursModel$State", "TavernRumoursModel", "TavernRumoursLaw", "java/lang/String", "java/lang/StringLatin1", "jdk/internal/util/Preconditions", "java/util/Arrays", "java/lang/Enum"]
def CN (o : Nat) : String := nC.getD o ""
def uT0 : u_T := fun k => match k with
  | _ => ("", "", "", false)
def uT1 : u_T := fun k => match k with
  | 0 => ("TavernRumours$Grammar", "plan", "LTavernRumours$Plan;", false)
  | 1 => ("TavernRumours$Grammar", "next", "I", false)
  | _ => ("TavernRumours$Grammar", "ahead", "LTavernRumours$Kind;", false)
def uT2 : u_T := fun k => match k with
  | _ => ("", "", "", false)
def uT3 : u_T := fun k => match k with
  | 0 => ("TavernRumours$Land", "roads", "LTavernRumours$Roads;", true)
  | 1 => ("TavernRumours$Land", "reckoner", "LTavernRumours$Reckoner;", true)
  | 2 => ("TavernRumours$Land", "plan", "LTavernRumours$Plan;", false)
  | 3 => ("TavernRumours$Land", "hour", "I", false)
  | 4 => ("TavernRumours$Land", "carriedOut", "I", false)
  | 5 => ("TavernRumours$Land", "lost", "I", false)
  | 6 => ("TavernRumours$Land", "heardOn", "[I", true)
  | 7 => ("TavernRumours$Land", "sentOut", "[Z", true)
  | 8 => ("TavernRumours$Land", "hushed", "[Z", true)
  | 9 => ("TavernRumours$Land", "walkers", "I", false)
  | 10 => ("TavernRumours$Land", "walkerRoad", "[I", true)
  | 11 => ("TavernRumours$Land", "walkerGoal", "[I", true)
  | 12 => ("TavernRumours$Land", "walkerRumour", "[I", true)
  | _ => ("TavernRumours$Land", "walkerMiles", "[I", true)
def uT4 : u_T := fun k => match k with
  | 0 => ("TavernRumours$Names", "spellings", "[[J", true)
  | 1 => ("TavernRumours$Names", "counts", "[I", true)
  | 2 => ("TavernRumours$Names", "orders", "I", false)
  | 3 => ("TavernRumours$Names", "plan", "LTavernRumours$Plan;", false)
  | 4 => ("TavernRumours$Names", "error", "I", false)
  | _ => ("TavernRumours$Names", "errorToken", "I", false)
def uT5 : u_T := fun k => match k with
  | 0 => ("TavernRumours$Plan", "tokens", "LTavernRumours$Tokens;", true)
  | 1 => ("TavernRumours$Plan", "code", "[I", true)
  | 2 => ("TavernRumours$Plan", "codeLength", "I", false)
  | 3 => ("TavernRumours$Plan", "taverns", "I", false)
  | 4 => ("TavernRumours$Plan", "roads", "I", false)
  | 5 => ("TavernRumours$Plan", "rumours", "I", false)
  | 6 => ("TavernRumours$Plan", "orders", "I", false)
  | 7 => ("TavernRumours$Plan", "from", "[I", true)
  | 8 => ("TavernRumours$Plan", "to", "[I", true)
  | 9 => ("TavernRumours$Plan", "miles", "[I", true)
  | 10 => ("TavernRumours$Plan", "beginsAt", "[I", true)
  | 11 => ("TavernRumours$Plan", "beginsOn", "[I", true)
  | 12 => ("TavernRumours$Plan", "orderToken", "[I", true)
  | 13 => ("TavernRumours$Plan", "sumFrom", "[I", true)
  | 14 => ("TavernRumours$Plan", "testFrom", "[I", true)
  | _ => ("TavernRumours$Plan", "testEnd", "[I", true)
def uT6 : u_T := fun k => match k with
  | 0 => ("TavernRumours$Reckoner", "stack", "[I", true)
  | _ => ("TavernRumours$Reckoner", "height", "I", false)
def uT7 : u_T := fun k => match k with
  | 0 => ("TavernRumours$Roads", "taverns", "I", false)
  | 1 => ("TavernRumours$Roads", "count", "I", false)
  | 2 => ("TavernRumours$Roads", "from", "[I", true)
  | 3 => ("TavernRumours$Roads", "to", "[I", true)
  | 4 => ("TavernRumours$Roads", "miles", "[I", true)
  | 5 => ("TavernRumours$Roads", "wounds", "[I", true)
  | 6 => ("TavernRumours$Roads", "length", "[I", true)
  | 7 => ("TavernRumours$Roads", "rows", "[[I", true)
  | 8 => ("TavernRumours$Roads", "rowIsFresh", "[Z", true)
  | 9 => ("TavernRumours$Roads", "rowAround", "[I", true)
  | 10 => ("TavernRumours$Roads", "netWithout", "I", false)
  | 11 => ("TavernRumours$Roads", "netRoads", "I", false)
  | 12 => ("TavernRumours$Roads", "netLength", "I", false)
  | 13 => ("TavernRumours$Roads", "inNet", "[Z", true)
  | 14 => ("TavernRumours$Roads", "inNetBefore", "[Z", true)
  | 15 => ("TavernRumours$Roads", "shortestFirst", "[I", true)
  | _ => ("TavernRumours$Roads", "group", "[I", true)
def uT8 : u_T := fun k => match k with
  | 0 => ("TavernRumours$Tokens", "kinds", "[LTavernRumours$Kind;", true)
  | 1 => ("TavernRumours$Tokens", "places", "[I", true)
  | 2 => ("TavernRumours$Tokens", "values", "[I", true)
  | 3 => ("TavernRumours$Tokens", "spellings", "[J", true)
  | _ => ("TavernRumours$Tokens", "count", "I", false)
def uT9 : u_T := fun k => match k with
  | 0 => ("TavernRumours", "tape", "[B", true)
  | 1 => ("TavernRumours", "tapeLength", "I", false)
  | 2 => ("TavernRumours", "errorPlace", "I", false)
  | 3 => ("TavernRumours", "told", "LTavernRumours$Plan;", false)
  | 4 => ("TavernRumours", "draft", "LTavernRumours$Plan;", false)
  | 5 => ("TavernRumours", "grammar", "LTavernRumours$Grammar;", true)
  | 6 => ("TavernRumours", "names", "LTavernRumours$Names;", true)
  | 7 => ("TavernRumours", "land", "LTavernRumours$Land;", true)
  | _ => ("TavernRumours", "trial", "LTavernRumours$Land;", true)
def uT10 : u_T := fun k => match k with
  | 0 => ("TavernRumoursModel$Sheet", "kind", "[I", true)
  | 1 => ("TavernRumoursModel$Sheet", "from", "[I", true)
  | 2 => ("TavernRumoursModel$Sheet", "many", "[I", true)
  | 3 => ("TavernRumoursModel$Sheet", "means", "[I", true)
  | 4 => ("TavernRumoursModel$Sheet", "has", "[I", true)
  | 5 => ("TavernRumoursModel$Sheet", "names", "[I", true)
  | 6 => ("TavernRumoursModel$Sheet", "comes", "[I", true)
  | 7 => ("TavernRumoursModel$Sheet", "leads", "[I", true)
  | 8 => ("TavernRumoursModel$Sheet", "miles", "[I", true)
  | 9 => ("TavernRumoursModel$Sheet", "at", "[I", true)
  | 10 => ("TavernRumoursModel$Sheet", "on", "[I", true)
  | 11 => ("TavernRumoursModel$Sheet", "orders", "I", false)
  | 12 => ("TavernRumoursModel$Sheet", "does", "[I", true)
  | 13 => ("TavernRumoursModel$Sheet", "whom", "[I", true)
  | 14 => ("TavernRumoursModel$Sheet", "sum", "[I", true)
  | _ => ("TavernRumoursModel$Sheet", "when", "[I", true)
def uT11 : u_T := fun k => match k with
  | 0 => ("TavernRumoursModel$State", "hour", "I", false)
  | 1 => ("TavernRumoursModel$State", "carried", "I", false)
  | 2 => ("TavernRumoursModel$State", "lost", "I", false)
  | 3 => ("TavernRumoursModel$State", "heardAll", "I", false)
  | 4 => ("TavernRumoursModel$State", "miles", "[I", true)
  | 5 => ("TavernRumoursModel$State", "wounds", "[I", true)
  | 6 => ("TavernRumoursModel$State", "since", "[I", true)
  | 7 => ("TavernRumoursModel$State", "sent", "[I", true)
  | 8 => ("TavernRumoursModel$State", "hushed", "[I", true)
  | 9 => ("TavernRumoursModel$State", "travellers", "I", false)
  | 10 => ("TavernRumoursModel$State", "rumour", "[I", true)
  | 11 => ("TavernRumoursModel$State", "road", "[I", true)
  | 12 => ("TavernRumoursModel$State", "goal", "[I", true)
  | _ => ("TavernRumoursModel$State", "gone", "[I", true)
def uT12 : u_T := fun k => match k with
  | 0 => ("TavernRumoursModel", "thrown", "I", false)
  | 1 => ("TavernRumoursModel", "tape", "[I", true)
  | 2 => ("TavernRumoursModel", "size", "I", false)
  | 3 => ("TavernRumoursModel", "errorAt", "I", false)
  | 4 => ("TavernRumoursModel", "token", "I", false)
  | 5 => ("TavernRumoursModel", "depth", "I", false)
  | 6 => ("TavernRumoursModel", "sheet", "LTavernRumoursModel$Sheet;", false)
  | 7 => ("TavernRumoursModel", "s", "LTavernRumoursModel$State;", true)
  | 8 => ("TavernRumoursModel", "ahead", "LTavernRumoursModel$State;", true)
  | 9 => ("TavernRumoursModel", "walk", "I", false)
  | 10 => ("TavernRumoursModel", "on", "LTavernRumoursModel$State;", false)
  | 11 => ("TavernRumoursModel", "ways", "[I", true)
  | 12 => ("TavernRumoursModel", "parts", "[I", true)
  | 13 => ("TavernRumoursModel", "joined", "[I", true)
  | 14 => ("TavernRumoursModel", "isNet", "[Z", true)
  | 15 => ("TavernRumoursModel", "wasNet", "[Z", true)
  | 16 => ("TavernRumoursModel", "isLooked", "[Z", true)
  | _ => ("TavernRumoursModel", "but", "I", false)
def clsT : List vw_C := [("TavernRumours$Grammar", uT0, 0), ("TavernRumours$Grammar", uT1, 3), ("TavernRumours$Grammar", uT2, 0), ("TavernRumours$Land", uT3, 14), ("TavernRumours$Names", uT4, 6), ("TavernRumours$Plan", uT5, 16), ("TavernRumours$Reckoner", uT6, 2), ("TavernRumours$Roads", uT7, 17), ("TavernRumours$Tokens", uT8, 5), ("TavernRumours", uT9, 9), ("TavernRumoursModel$Sheet", uT10, 16), ("TavernRumoursModel$State", uT11, 14), ("TavernRumoursModel", uT12, 18)]
/-- kinds of fields: 0 int, 1 long, 2 a reference -/
def CF : Nat → List Nat
  | 0 => []
  | 1 => [2, 0, 2]
  | 2 => []
  | 3 => [2, 2, 2, 0, 0, 0, 2, 2, 2, 0, 2, 2, 2, 2]
  | 4 => [2, 2, 0, 2, 0, 0]
  | 5 => [2, 2, 0, 0, 0, 0, 0, 2, 2, 2, 2, 2, 2, 2, 2, 2]
  | 6 => [2, 0]
  | 7 => [0, 0, 2, 2, 2, 2, 2, 2, 2, 2, 0, 0, 0, 2, 2, 2, 2]
  | 8 => [2, 2, 2, 2, 0]
  | 9 => [2, 0, 0, 2, 2, 2, 2, 2, 2]
  | 10 => [2, 2, 2, 2, 2, 2, 2, 2, 2, 2, 2, 0, 2, 2, 2, 2]
  | 11 => [0, 0, 0, 0, 2, 2, 2, 2, 2, 0, 2, 2, 2, 2]
  | 12 => [0, 2, 0, 0, 0, 0, 2, 2, 2, 0, 2, 2, 2, 2, 2, 2, 2, 0]
  | _ => []
def FS : Nat → String × String × String
  | 50 => ("TavernRumours$Kind", "text", "Ljava/lang/String;")
  | 51 => ("TavernRumours$Kind", "operands", "I")
  | 52 => ("java/lang/Enum", "ordinal", "I")
  | 53 => ("java/lang/String", "value", "[B")
  | 54 => ("java/lang/String", "coder", "B")
  | _ => ("", "", "")
def ZS : List (String × String × String × MV) := [("TavernRumours$Kind", "TAVERN", "LTavernRumours$Kind;", qS 0), ("TavernRumours$Kind", "ROAD", "LTavernRumours$Kind;", qS 1), ("TavernRumours$Kind", "FROM", "LTavernRumours$Kind;", qS 2), ("TavernRumours$Kind", "TO", "LTavernRumours$Kind;", qS 3), ("TavernRumours$Kind", "MILES", "LTavernRumours$Kind;", qS 4), ("TavernRumours$Kind", "RUMOUR", "LTavernRumours$Kind;", qS 5), ("TavernRumours$Kind", "AT", "LTavernRumours$Kind;", qS 6), ("TavernRumours$Kind", "ON", "LTavernRumours$Kind;", qS 7), ("TavernRumours$Kind", "HURT", "LTavernRumours$Kind;", qS 8), ("TavernRumours$Kind", "BY", "LTavernRumours$Kind;", qS 9), ("TavernRumours$Kind", "MEND", "LTavernRumours$Kind;", qS 10), ("TavernRumours$Kind", "HUSH", "LTavernRumours$Kind;", qS 11), ("TavernRumours$Kind", "WHEN", "LTavernRumours$Kind;", qS 12), ("TavernRumours$Kind", "HOUR", "LTavernRumours$Kind;", qS 13), ("TavernRumours$Kind", "LENGTH", "LTavernRumours$Kind;", qS 14), ("TavernRumours$Kind", "WOUNDS", "LTavernRumours$Kind;", qS 15), ("TavernRumours$Kind", "FAR", "LTavernRumours$Kind;", qS 16), ("TavernRumours$Kind", "HEARD", "LTavernRumours$Kind;", qS 17), ("TavernRumours$Kind", "OPEN", "LTavernRumours$Kind;", qS 18), ("TavernRumours$Kind", "KNOWS", "LTavernRumours$Kind;", qS 19), ("TavernRumours$Kind", "PARTED", "LTavernRumours$Kind;", qS 20), ("TavernRumours$Kind", "NOT", "LTavernRumours$Kind;", qS 21), ("TavernRumours$Kind", "AND", "LTavernRumours$Kind;", qS 22), ("TavernRumours$Kind", "OR", "LTavernRumours$Kind;", qS 23), ("TavernRumours$Kind", "MIN", "LTavernRumours$Kind;", qS 24), ("TavernRumours$Kind", "MAX", "LTavernRumours$Kind;", qS 25), ("TavernRumours$Kind", "ROUND_OPENING", "LTavernRumours$Kind;", qS 26), ("TavernRumours$Kind", "ROUND_CLOSING", "LTavernRumours$Kind;", qS 27), ("TavernRumours$Kind", "SQUARE_OPENING", "LTavernRumours$Kind;", qS 28), ("TavernRumours$Kind", "SQUARE_CLOSING", "LTavernRumours$Kind;", qS 29), ("TavernRumours$Kind", "SEMICOLON", "LTavernRumours$Kind;", qS 30), ("TavernRumours$Kind", "COMMA", "LTavernRumours$Kind;", qS 31), ("TavernRumours$Kind", "PLUS", "LTavernRumours$Kind;", qS 32), ("TavernRumours$Kind", "MINUS", "LTavernRumours$Kind;", qS 33), ("TavernRumours$Kind", "TIMES", "LTavernRumours$Kind;", qS 34), ("TavernRumours$Kind", "OVER", "LTavernRumours$Kind;", qS 35), ("TavernRumours$Kind", "LESS", "LTavernRumours$Kind;", qS 36), ("TavernRumours$Kind", "GREATER", "LTavernRumours$Kind;", qS 37), ("TavernRumours$Kind", "EQUAL", "LTavernRumours$Kind;", qS 38), ("TavernRumours$Kind", "AT_MOST", "LTavernRumours$Kind;", qS 39), ("TavernRumours$Kind", "AT_LEAST", "LTavernRumours$Kind;", qS 40), ("TavernRumours$Kind", "NEGATE", "LTavernRumours$Kind;", qS 41), ("TavernRumours$Kind", "NAME", "LTavernRumours$Kind;", qS 42), ("TavernRumours$Kind", "NUMBER", "LTavernRumours$Kind;", qS 43), ("TavernRumours$Kind", "WRONG", "LTavernRumours$Kind;", qS 44), ("TavernRumours$Kind", "END", "LTavernRumours$Kind;", qS 45), ("TavernRumours$Kind", "ALL", "[LTavernRumours$Kind;", qS 300), ("TavernRumoursModel", "WORDS", "[Ljava/lang/String;", qS 301), ("TavernRumours$Names", "LIMITS", "[I", qS 302), ("TavernRumours$1", "$SwitchMap$TavernRumours$Kind", "[I", qS 303), ("java/lang/String", "COMPACT_STRINGS", "Z", qI 1)]
def strT : List String := ["tavern", "road", "from", "to", "miles", "rumour", "at", "on", "hurt", "by", "mend", "hush", "when", "hour", "length", "wounds", "far", "heard", "open", "knows", "parted", "not", "and", "or", "min", "max", "(", ")", "[", "]", ";", ",", "+", "-", "*", "/", "<", ">", "=", "<=", ">=", "", "()[];,+-*/<>="]
def excT : List String := ["java/lang/IllegalStateException", "java/lang/IllegalArgumentException", "java/lang/IndexOutOfBoundsException"]
def LFd : Nat → List (Nat × Nat × Nat × Nat)
  | 1 => [(9, 1, 1, 271), (21, 1, 2, 273), (24, 1, 0, 270), (28, 5, 0, 190), (51, 8, 4, 174), (54, 8, 0, 168), (101, 5, 2, 196)]
  | 3 => [(12, 3, 0, 399), (21, 3, 1, 402), (25, 3, 3, 405), (29, 3, 4, 408), (32, 3, 5, 409), (35, 3, 6, 410), (39, 3, 7, 411), (43, 3, 8, 412), (46, 3, 9, 413), (49, 3, 10, 414), (52, 3, 11, 415), (55, 3, 12, 416), (58, 3, 13, 417), (61, 3, 2, 403), (89, 5, 3, 200), (94, 5, 5, 206), (132, 5, 6, 210), (135, 5, 14, 227), (138, 5, 15, 229), (145, 5, 13, 225), (191, 5, 11, 222), (194, 5, 10, 219), (200, 7, 6, 339), (206, 7, 1, 325)]
  | 4 => [(13, 4, 0, 289), (16, 4, 1, 290), (20, 4, 2, 291), (24, 4, 4, 293), (27, 4, 5, 294), (30, 4, 3, 292), (40, 5, 0, 192), (46, 8, 4, 173), (55, 5, 3, 199)]
  | 5 => [(12, 5, 0, 189), (18, 5, 1, 194), (22, 5, 2, 195), (26, 5, 3, 197), (29, 5, 4, 202), (32, 5, 5, 205), (35, 5, 6, 208), (38, 5, 7, 211), (41, 5, 8, 213), (44, 5, 9, 215), (47, 5, 10, 217), (50, 5, 11, 220), (53, 5, 12, 223), (56, 5, 13, 224), (59, 5, 14, 226), (62, 5, 15, 228)]
  | 6 => [(9, 6, 0, 392), (15, 6, 1, 393), (31, 5, 0, 191), (90, 3, 3, 406), (93, 3, 0, 400), (97, 7, 6, 337), (102, 7, 5, 334)]
  | 7 => [(9, 7, 0, 323), (15, 7, 1, 324), (18, 7, 2, 327), (22, 7, 3, 329), (25, 7, 4, 331), (28, 7, 5, 333), (31, 7, 6, 336), (36, 7, 7, 340), (39, 7, 8, 341), (43, 7, 9, 342), (46, 7, 10, 343), (49, 7, 11, 344), (52, 7, 12, 345), (55, 7, 13, 346), (58, 7, 14, 347), (61, 7, 15, 348), (64, 7, 16, 349), (67, 5, 3, 198), (70, 5, 4, 203), (73, 5, 7, 212), (80, 5, 8, 214), (81, 5, 9, 216)]
  | 8 => [(11, 8, 0, 167), (17, 8, 1, 169), (21, 8, 2, 170), (24, 8, 3, 171), (28, 8, 4, 172)]
  | 9 => [(9, 9, 0, 447), (13, 9, 1, 448), (17, 9, 2, 449), (23, 9, 3, 450), (27, 9, 4, 451), (35, 9, 5, 452), (42, 9, 6, 453), (49, 9, 7, 454), (53, 9, 8, 455), (75, 5, 0, 193), (89, 1, 1, 272), (100, 4, 5, 295), (114, 3, 3, 407), (117, 5, 3, 201), (120, 5, 4, 204), (123, 5, 5, 207), (126, 5, 6, 209), (142, 3, 0, 401), (167, 7, 2, 328), (171, 7, 3, 330), (174, 7, 4, 332), (177, 7, 5, 335), (180, 7, 6, 338), (203, 5, 10, 218), (206, 5, 11, 221), (276, 7, 1, 326)]
  | 10 => [(9, 10, 0, 1365), (15, 10, 1, 1367), (18, 10, 2, 1369), (21, 10, 3, 1371), (24, 10, 4, 1373), (27, 10, 5, 1375), (30, 10, 6, 1377), (33, 10, 7, 1379), (36, 10, 8, 1381), (39, 10, 9, 1383), (42, 10, 10, 1385), (45, 10, 12, 1388), (48, 10, 13, 1390), (51, 10, 14, 1392), (54, 10, 15, 1394)]
  | 11 => [(9, 11, 4, 1443), (15, 11, 5, 1445), (18, 11, 6, 1447), (21, 11, 7, 1449), (24, 11, 8, 1451), (27, 11, 10, 1455), (30, 11, 11, 1457), (33, 11, 12, 1459), (36, 11, 13, 1461), (45, 11, 0, 1435), (49, 11, 1, 1437), (52, 11, 2, 1439), (55, 11, 3, 1441), (58, 11, 9, 1453)]
  | 12 => [(9, 12, 1, 1496), (13, 12, 3, 1498), (20, 12, 6, 1501), (27, 12, 7, 1502), (31, 12, 8, 1503), (34, 12, 10, 1505), (37, 12, 11, 1506), (40, 12, 12, 1507), (43, 12, 13, 1508), (46, 12, 14, 1509), (50, 12, 15, 1510), (53, 12, 16, 1511), (56, 12, 17, 1512), (66, 12, 0, 1495), (76, 12, 2, 1497), (128, 12, 4, 1499), (131, 12, 5, 1500), (253, 12, 9, 1504)]
  | _ => []
def LNe : Nat → List (Nat × Nat × Nat × Nat)
  | 6 => [(19, 3, 2, 404)]
  | 12 => [(59, 11, 6, 1448), (69, 10, 4, 1374), (113, 10, 1, 1368), (116, 10, 2, 1370), (122, 10, 0, 1366), (176, 10, 5, 1376), (199, 10, 3, 1372), (202, 10, 6, 1378), (205, 10, 7, 1380), (208, 10, 9, 1384), (211, 10, 13, 1391), (214, 10, 11, 1387), (220, 10, 8, 1382), (223, 10, 10, 1386), (225, 10, 12, 1389), (237, 10, 14, 1393), (240, 10, 15, 1395), (291, 11, 0, 1436), (296, 11, 5, 1446), (338, 11, 8, 1452), (350, 11, 9, 1454), (353, 11, 11, 1458), (360, 11, 2, 1440), (363, 11, 13, 1462), (366, 11, 12, 1460), (369, 11, 10, 1456), (375, 11, 7, 1450), (378, 11, 1, 1438), (410, 11, 3, 1442), (413, 11, 4, 1444)]
  | _ => []
def LSt : Nat → List (Nat × Nat × Nat)
  | 6 => [(41, 51, 2040)]
  | 8 => [(83, 50, 2036)]
  | 14 => [(9, 53, 2037), (15, 54, 2038)]
  | 18 => [(7, 52, 2039)]
  | _ => []
def LZt : Nat → List (Nat × Nat × Nat)
  | 1 => [(15, 45, 269), (44, 30, 703), (58, 49, 587), (68, 0, 595), (71, 42, 601), (74, 1, 602), (77, 2, 604), (80, 3, 606), (83, 4, 608), (86, 43, 610), (89, 5, 611), (92, 6, 613), (95, 7, 615), (104, 8, 621), (107, 9, 623), (114, 10, 693), (117, 11, 695), (120, 12, 697), (138, 23, 649), (141, 22, 651), (144, 36, 653), (147, 37, 655), (150, 38, 657), (153, 39, 659), (156, 40, 661), (159, 32, 663), (162, 33, 665), (165, 34, 667), (168, 35, 669), (177, 28, 637), (180, 29, 639), (183, 21, 641), (186, 18, 643), (189, 26, 679), (192, 27, 681), (195, 41, 683), (202, 16, 689), (205, 31, 691)]
  | 3 => [(154, 49, 1287)]
  | 4 => [(58, 49, 720), (112, 48, 740)]
  | 6 => [(58, 41, 1269), (66, 49, 1258)]
  | 8 => [(32, 45, 165), (53, 44, 502), (56, 43, 562), (62, 42, 504)]
  | 12 => [(101, 47, 1603)]
  | 14 => [(38, 50, 519), (1053, 99, 538)]
  | _ => []
def LZn : Nat → List (Nat × Nat × Nat)
  | 8 => [(80, 46, 509)]
  | _ => []
def LMt : Nat → List (Nat × Nat × Nat × Nat × Nat)
  | 1 => [(34, 88, 0, 2, 575), (40, 3, 0, 1, 583), (47, 2, 0, 2, 597), (64, 283, 5, 1, 589), (98, 4, 0, 1, 617), (110, 5, 0, 3, 625), (123, 48, 0, 4, 699), (127, 7, 0, 3, 629), (130, 6, 0, 2, 645), (134, 44, 0, 2, 671), (171, 8, 0, 2, 633), (174, 9, 0, 2, 675), (198, 93, 0, 3, 685)]
  | 3 => [(11, 58, 3, 1, 317), (20, 51, 3, 1, 388), (65, 59, 0, 2, 782), (69, 282, 1, 2, 797), (75, 60, 0, 2, 810), (85, 14, 0, 3, 896), (97, 17, 0, 2, 892), (101, 66, 0, 1, 870), (105, 78, 0, 2, 871), (108, 81, 0, 1, 887), (111, 18, 0, 1, 888), (114, 80, 0, 1, 900), (117, 23, 0, 1, 1238), (120, 25, 0, 1, 1298), (123, 27, 0, 1, 1307), (126, 28, 0, 1, 1312), (129, 29, 0, 1, 1316), (141, 52, 0, 4, 1242), (148, 24, 0, 3, 1278), (151, 50, 0, 2, 1282), (159, 49, 0, 2, 1288), (163, 283, 5, 1, 1293), (177, 63, 0, 3, 1296), (180, 64, 0, 2, 1297), (184, 65, 0, 2, 1302), (187, 26, 0, 3, 1303), (197, 15, 0, 3, 1311), (203, 30, 0, 3, 1320), (209, 68, 0, 3, 1324), (212, 69, 0, 3, 1325)]
  | 4 => [(34, 282, 1, 2, 713), (51, 33, 0, 2, 716), (63, 88, 0, 2, 721), (67, 283, 5, 1, 722), (73, 38, 0, 3, 723), (77, 34, 0, 2, 742), (80, 35, 0, 2, 766), (83, 36, 0, 2, 774), (86, 39, 0, 3, 746), (90, 37, 0, 3, 736), (93, 41, 0, 4, 754), (97, 46, 0, 4, 762), (101, 47, 0, 3, 770), (104, 91, 0, 2, 727), (108, 40, 0, 3, 732), (115, 92, 0, 3, 750), (118, 90, 0, 2, 758)]
  | 5 => [(11, 86, 2, 1, 159), (65, 88, 0, 2, 1292), (69, 90, 0, 2, 1286)]
  | 6 => [(25, 45, 0, 2, 1246), (35, 88, 0, 2, 1250), (46, 54, 0, 1, 1251), (50, 55, 1, 3, 1255), (54, 53, 0, 2, 1265), (62, 57, 1, 3, 1270), (71, 283, 5, 1, 1259), (83, 56, 1, 3, 1262), (87, 90, 0, 2, 1273), (105, 16, 0, 2, 1274), (108, 71, 0, 3, 1275), (111, 65, 0, 2, 1276), (115, 14, 0, 3, 1277)]
  | 7 => [(82, 61, 0, 4, 789), (86, 62, 0, 1, 793), (95, 65, 0, 2, 831), (99, 68, 0, 3, 913), (103, 72, 0, 4, 883), (107, 71, 0, 3, 922), (113, 69, 0, 3, 1164), (116, 76, 0, 2, 879), (120, 77, 0, 2, 875), (123, 83, 0, 2, 823), (127, 79, 0, 2, 960), (130, 85, 0, 2, 827), (133, 84, 0, 3, 835)]
  | 8 => [(36, 87, 0, 2, 579), (42, 95, 1, 3, 487), (46, 96, 1, 3, 490), (49, 97, 1, 3, 499), (59, 100, 1, 3, 564), (65, 101, 1, 3, 567), (69, 102, 1, 1, 493), (73, 103, 1, 1, 496), (76, 98, 1, 4, 506), (87, 270, 0, 1, 511), (93, 99, 1, 3, 521), (97, 271, 0, 2, 524)]
  | 9 => [(22, 42, 3, 1, 153), (32, 0, 2, 2, 265), (41, 31, 2, 2, 283), (48, 10, 2, 2, 311), (63, 106, 0, 2, 1048), (72, 43, 0, 1, 479), (79, 94, 0, 3, 483), (85, 1, 0, 2, 571), (92, 89, 0, 2, 705), (96, 32, 0, 2, 709), (103, 11, 0, 2, 778), (111, 111, 0, 2, 862), (129, 21, 0, 2, 866), (132, 119, 0, 2, 1107), (138, 113, 0, 3, 905), (145, 70, 0, 2, 909), (150, 17, 0, 2, 917), (153, 73, 0, 2, 918), (156, 74, 0, 2, 926), (159, 120, 0, 2, 1119), (164, 115, 0, 3, 941), (183, 65, 0, 2, 945), (186, 77, 0, 2, 946), (189, 79, 0, 2, 947), (192, 19, 0, 2, 951), (195, 121, 0, 2, 1131), (200, 117, 0, 3, 961), (209, 16, 0, 2, 965), (212, 20, 0, 2, 969), (217, 13, 0, 3, 933), (222, 71, 0, 3, 1152), (225, 75, 0, 3, 1160), (230, 76, 0, 2, 955), (233, 82, 0, 2, 956), (238, 63, 0, 3, 1191), (242, 64, 0, 2, 815), (247, 15, 0, 3, 1213), (254, 61, 0, 4, 843), (260, 22, 0, 2, 1234), (265, 12, 0, 2, 806), (269, 134, 0, 4, 1348), (273, 14, 0, 3, 1352), (279, 81, 0, 1, 819), (283, 80, 0, 1, 839), (286, 66, 0, 1, 848), (289, 67, 0, 1, 852), (296, 138, 0, 2, 901), (300, 139, 0, 2, 937)]
  | 11 => [(61, 142, 1, 2, 2008), (65, 146, 0, 3, 1923)]
  | 12 => [(19, 140, 3, 1, 1361), (26, 141, 3, 1, 1431), (62, 219, 1, 2, 1492), (72, 152, 1, 3, 1566), (79, 156, 0, 2, 1581), (83, 154, 1, 1, 1589), (87, 155, 1, 1, 1592), (90, 159, 0, 3, 1599), (96, 272, 0, 2, 1608), (105, 270, 0, 1, 1605), (109, 271, 0, 2, 1606), (119, 157, 0, 2, 1585), (125, 158, 0, 3, 1595), (134, 168, 0, 2, 1667), (138, 161, 0, 3, 1675), (142, 169, 0, 2, 1707), (145, 166, 0, 3, 1671), (148, 165, 0, 3, 1679), (151, 172, 0, 2, 1683), (154, 167, 0, 2, 1703), (157, 162, 0, 4, 1699), (161, 170, 0, 2, 1711), (164, 171, 0, 2, 1715), (167, 163, 0, 3, 1695), (170, 173, 0, 2, 1687), (173, 174, 0, 2, 1691), (179, 176, 0, 4, 1738), (182, 177, 0, 4, 1734), (186, 178, 1, 1, 1742), (189, 179, 1, 1, 1727), (192, 180, 0, 4, 1730), (195, 181, 1, 2, 1745), (217, 175, 0, 3, 1752), (228, 182, 0, 3, 1723), (231, 183, 0, 3, 1748), (234, 184, 0, 3, 1756), (243, 160, 0, 2, 1577), (247, 164, 0, 2, 1663), (250, 185, 0, 3, 1719), (256, 189, 0, 1, 1948), (260, 187, 0, 2, 1956), (263, 191, 0, 1, 1952), (266, 188, 0, 1, 1944), (269, 190, 0, 1, 1960), (272, 144, 0, 2, 1780), (275, 146, 0, 3, 1825), (279, 198, 0, 4, 1796), (283, 192, 0, 1, 1964), (285, 193, 0, 1, 1968), (288, 194, 0, 1, 1972), (294, 145, 0, 2, 1808), (299, 205, 0, 3, 1821), (311, 195, 0, 3, 1804), (315, 197, 0, 4, 1812), (318, 196, 0, 3, 1800), (322, 200, 0, 2, 1833), (326, 202, 0, 3, 1792), (329, 201, 0, 2, 1829), (341, 207, 0, 3, 1911), (344, 208, 0, 3, 1976), (346, 206, 0, 4, 1903), (356, 148, 0, 3, 1984), (372, 147, 0, 3, 1919), (381, 209, 0, 3, 1940), (384, 210, 0, 2, 1980), (388, 211, 0, 2, 1988), (391, 212, 0, 4, 1992), (395, 213, 0, 2, 1936), (398, 203, 0, 3, 1788), (401, 215, 0, 3, 1784), (404, 199, 0, 2, 1816), (407, 151, 0, 2, 1558), (414, 142, 4, 2, 1764), (418, 186, 0, 2, 1573), (422, 220, 0, 1, 1760), (425, 216, 0, 3, 1776), (428, 153, 0, 3, 1841), (431, 224, 0, 3, 1845), (434, 226, 0, 2, 1858), (437, 227, 0, 3, 1854), (440, 229, 0, 3, 1866), (443, 233, 0, 3, 1882), (446, 204, 0, 3, 1894), (449, 214, 0, 3, 1932), (452, 143, 0, 2, 2004), (455, 242, 0, 2, 2000), (458, 245, 0, 3, 2017)]
  | 13 => [(7, 105, 0, 6, 977), (15, 107, 0, 2, 1056), (21, 110, 0, 2, 1080), (26, 112, 0, 3, 1103), (30, 114, 0, 3, 1115), (33, 116, 0, 3, 1127), (36, 118, 0, 3, 1139), (39, 122, 0, 3, 1147), (42, 123, 0, 3, 1156), (45, 124, 0, 2, 1171), (48, 125, 0, 2, 1179), (51, 126, 0, 3, 1186), (54, 127, 0, 2, 1201), (57, 128, 0, 3, 1209), (60, 129, 0, 3, 1221), (63, 130, 0, 2, 1229), (66, 131, 0, 2, 1329), (69, 132, 0, 3, 1337), (72, 133, 0, 3, 1344), (75, 104, 2, 1, 145), (78, 149, 2, 1, 1355), (79, 250, 6, 7, 973), (84, 217, 0, 6, 1554), (85, 150, 0, 1, 1550), (89, 251, 6, 3, 1052), (92, 218, 0, 2, 1562), (93, 108, 0, 1, 475), (96, 221, 0, 1, 1569), (97, 109, 0, 1, 798), (100, 222, 0, 1, 1768), (101, 252, 6, 3, 1076), (103, 223, 0, 2, 1772), (104, 253, 6, 4, 1100), (107, 225, 0, 3, 1837), (108, 254, 6, 4, 1112), (110, 228, 0, 3, 1850), (111, 255, 6, 4, 1124), (113, 230, 0, 3, 1862), (114, 256, 6, 4, 1136), (116, 231, 0, 3, 1870), (117, 257, 6, 4, 1144), (119, 232, 0, 3, 1874), (120, 258, 6, 4, 1153), (122, 234, 0, 3, 1878), (123, 259, 6, 3, 1168), (125, 235, 0, 2, 1886), (126, 260, 6, 3, 1176), (128, 236, 0, 2, 1890), (129, 261, 6, 4, 1183), (131, 237, 0, 3, 1899), (132, 262, 6, 3, 1198), (134, 238, 0, 2, 1907), (135, 263, 6, 4, 1206), (137, 239, 0, 3, 1915), (138, 264, 6, 4, 1218), (140, 240, 0, 3, 1924), (141, 265, 6, 3, 1226), (143, 241, 0, 2, 1928), (144, 266, 6, 3, 1326), (146, 243, 0, 2, 1996), (147, 267, 6, 4, 1334), (149, 244, 0, 3, 2009), (150, 268, 6, 4, 1341), (152, 246, 0, 3, 2013), (153, 135, 0, 1, 802), (156, 247, 0, 1, 2021), (157, 136, 0, 1, 844), (161, 248, 0, 1, 2025), (162, 137, 0, 1, 856), (166, 249, 0, 1, 2029)]
  | 14 => [(335, 274, 0, 1, 515), (492, 275, 0, 1, 528), (495, 277, 1, 2, 532), (633, 273, 0, 3, 1612), (505, 270, 0, 1, 1616), (637, 279, 1, 4, 1617), (1059, 281, 1, 3, 540)]
  | 15 => [(9, 276, 1, 2, 535), (88, 278, 1, 1, 1620), (95, 280, 1, 4, 1625)]
  | _ => []
def LCl : Nat → List (Nat × Nat × Nat)
  | 3 => [(9, 7, 315), (18, 6, 386)]
  | 4 => [(11, 101, 287)]
  | 5 => [(9, 8, 157)]
  | 7 => [(34, 100, 321)]
  | 8 => [(9, 99, 163)]
  | 9 => [(20, 5, 151), (30, 1, 263), (39, 4, 281), (46, 3, 309)]
  | 12 => [(17, 10, 1359), (24, 11, 1429)]
  | 13 => [(8, 9, 143), (76, 12, 1353)]
  | _ => []
def LJg : Nat → List (Nat × Int × Nat)
  | 8 => [(40, -1, 731), (101, 37, 570)]
  | 9 => [(292, 1697, 860), (294, 31, 861)]
  | 12 => [(461, 1697, 2033), (463, 31, 2034)]
  | _ => []
def LPr : Nat → List (Nat × Nat × Nat)
  | 1 => [(3, 5, 268)]
  | 3 => [(3, 5, 314), (79, 0, 814), (168, 2, 1294), (174, 1, 1295)]
  | 4 => [(3, 5, 286)]
  | 5 => [(3, 5, 156)]
  | 6 => [(3, 5, 391), (74, 2, 1260), (80, 1, 1261)]
  | 7 => [(3, 5, 320), (74, 0, 786), (89, 2, 1195), (110, 1, 930)]
  | 8 => [(3, 5, 162)]
  | 9 => [(3, 5, 148)]
  | 10 => [(3, 5, 1364)]
  | 11 => [(3, 5, 1434), (39, 0, 1767)]
  | 12 => [(3, 5, 1358), (303, 2, 1820), (308, 1, 1849), (332, 0, 1898)]
  | 15 => [(92, 1, 1623), (38, 2, 1624)]
  | _ => []
def LXc : Nat → List (Nat × Nat × Nat × Nat × Nat × String)
  | 9 => [(56, 58, 60, 0, 0, "the tape would be too long"), (67, 69, 71, 1, 0, "the tape has not so many bytes"), (106, 108, 110, 2, 0, "no such count"), (106, 136, 110, 2, 0, "no such tavern, or nothing to tell of it"), (106, 162, 110, 2, 0, "no such road, or nothing to tell of it"), (106, 198, 110, 2, 0, "no such rumour, or nothing to tell of it"), (106, 215, 110, 2, 0, "no such tavern or rumour"), (106, 220, 110, 2, 0, "no such tavern"), (106, 228, 110, 2, 0, "no such road"), (67, 236, 71, 1, 0, "not so many wounds at once"), (56, 245, 60, 0, 0, "the road has no wound"), (56, 250, 60, 0, 0, "the tavern knows the rumour"), (67, 252, 71, 1, 0, "no road has so many miles"), (67, 258, 71, 1, 1, "not so many hours at once"), (106, 263, 110, 2, 1, "no such rumour")]
  | _ => []
def LTx : Nat → List (Nat × Nat × String)
  | 12 => [(94, 42, "()[];,+-*/<>=")]
  | _ => []
def HN (o : Nat) : String := if o < 10 then "TavernRumours" else "TavernRumoursModel"
/-- name, bytes, class, locals, what it returns, static or not, places of its words: code, instance or static, selects, initialized; its handlers -/
abbrev MQ1 : Type := MethodName × ByteArray × Nat × Nat × Option FieldType × Bool × Nat × Nat × Nat × Nat × List (Nat × Nat × Nat × Nat)
def MT : List MQ1 := [
  (⟨"TavernRumours$Grammar", "<init>", "(LTavernRumours$Plan;)V"⟩, prog_3_method_1_code, 1, 2, none, false, 267, 266, 0, 120, []),
  (⟨"TavernRumours$Grammar", "reads", "(LTavernRumours$Plan;)Z"⟩, prog_3_method_2_code, 1, 4, (some .boolean), false, 574, 572, 573, 120, []),
  (⟨"TavernRumours$Grammar", "take", "(LTavernRumours$Kind;)Z"⟩, prog_3_method_3_code, 1, 3, (some .boolean), false, 600, 599, 2, 120, []),
  (⟨"TavernRumours$Grammar", "line", "()Z"⟩, prog_3_method_4_code, 1, 1, (some .boolean), false, 586, 585, 1, 120, []),
  (⟨"TavernRumours$Grammar", "order", "()Z"⟩, prog_3_method_5_code, 1, 5, (some .boolean), false, 620, 619, 3, 120, []),
  (⟨"TavernRumours$Grammar", "chain", "(II)Z"⟩, prog_3_method_6_code, 1, 6, (some .boolean), false, 628, 627, 4, 120, []),
  (⟨"TavernRumours$Grammar", "joinsAt", "(I)Z"⟩, prog_3_method_7_code, 1, 2, (some .boolean), false, 648, 647, 7, 120, []),
  (⟨"TavernRumours$Grammar", "part", "(II)Z"⟩, prog_3_method_8_code, 1, 3, (some .boolean), false, 632, 631, 5, 120, []),
  (⟨"TavernRumours$Grammar", "single", "(I)Z"⟩, prog_3_method_9_code, 1, 4, (some .boolean), false, 636, 635, 6, 120, []),
  (⟨"TavernRumours$Grammar", "value", "(I)Z"⟩, prog_3_method_10_code, 1, 4, (some .boolean), false, 678, 677, 8, 120, []),
  (⟨"TavernRumours$Land", "<init>", "(LTavernRumours$Plan;)V"⟩, prog_5_method_1_code, 3, 2, none, false, 313, 312, 0, 122, []),
  (⟨"TavernRumours$Land", "begin", "(LTavernRumours$Plan;)V"⟩, prog_5_method_2_code, 3, 3, none, false, 781, 779, 780, 122, []),
  (⟨"TavernRumours$Land", "copy", "(LTavernRumours$Land;)V"⟩, prog_5_method_3_code, 3, 3, none, false, 809, 807, 808, 122, []),
  (⟨"TavernRumours$Land", "hourOfHearing", "(II)I"⟩, prog_5_method_4_code, 3, 3, (some .int), false, 936, 934, 935, 122, []),
  (⟨"TavernRumours$Land", "knows", "(II)Z"⟩, prog_5_method_5_code, 3, 3, (some .boolean), false, 899, 897, 898, 122, []),
  (⟨"TavernRumours$Land", "hears", "(II)Z"⟩, prog_5_method_6_code, 3, 4, (some .boolean), false, 1216, 1214, 1215, 122, []),
  (⟨"TavernRumours$Land", "knowersOf", "(I)I"⟩, prog_5_method_7_code, 3, 4, (some .int), false, 968, 966, 967, 122, []),
  (⟨"TavernRumours$Land", "knownBy", "(I)I"⟩, prog_5_method_8_code, 3, 4, (some .int), false, 895, 893, 894, 122, []),
  (⟨"TavernRumours$Land", "knownByAll", "()I"⟩, prog_5_method_9_code, 3, 3, (some .int), false, 891, 890, 24, 122, []),
  (⟨"TavernRumours$Land", "walkersOn", "(I)I"⟩, prog_5_method_10_code, 3, 4, (some .int), false, 954, 952, 953, 122, []),
  (⟨"TavernRumours$Land", "walkersWith", "(I)I"⟩, prog_5_method_11_code, 3, 4, (some .int), false, 972, 970, 971, 122, []),
  (⟨"TavernRumours$Land", "tally", "(I)I"⟩, prog_5_method_12_code, 3, 2, (some .int), false, 869, 867, 868, 122, []),
  (⟨"TavernRumours$Land", "passHours", "(I)I"⟩, prog_5_method_13_code, 3, 4, (some .int), false, 1237, 1235, 1236, 122, []),
  (⟨"TavernRumours$Land", "giveOrders", "()V"⟩, prog_5_method_14_code, 3, 4, none, false, 1241, 1240, 35, 122, []),
  (⟨"TavernRumours$Land", "carryOut", "(II)Z"⟩, prog_5_method_15_code, 3, 5, (some .boolean), false, 1281, 1280, 38, 122, []),
  (⟨"TavernRumours$Land", "loseWalkers", "()V"⟩, prog_5_method_16_code, 3, 3, none, false, 1301, 1300, 39, 122, []),
  (⟨"TavernRumours$Land", "keepWalker", "(II)V"⟩, prog_5_method_17_code, 3, 3, none, false, 1306, 1305, 40, 122, []),
  (⟨"TavernRumours$Land", "beginRumours", "()I"⟩, prog_5_method_18_code, 3, 3, (some .int), false, 1310, 1309, 41, 122, []),
  (⟨"TavernRumours$Land", "moveWalkers", "()I"⟩, prog_5_method_19_code, 3, 4, (some .int), false, 1315, 1314, 42, 122, []),
  (⟨"TavernRumours$Land", "sendWalkers", "()V"⟩, prog_5_method_20_code, 3, 4, none, false, 1319, 1318, 43, 122, []),
  (⟨"TavernRumours$Land", "sendFrom", "(II)V"⟩, prog_5_method_21_code, 3, 4, none, false, 1323, 1322, 44, 122, []),
  (⟨"TavernRumours$Names", "<init>", "(LTavernRumours$Plan;)V"⟩, prog_6_method_1_code, 4, 2, none, false, 285, 284, 0, 121, []),
  (⟨"TavernRumours$Names", "look", "(LTavernRumours$Plan;)I"⟩, prog_6_method_2_code, 4, 3, (some .int), false, 712, 710, 711, 121, []),
  (⟨"TavernRumours$Names", "lookAt", "(I)V"⟩, prog_6_method_3_code, 4, 2, none, false, 719, 718, 9, 121, []),
  (⟨"TavernRumours$Names", "lookAtRoad", "(I)V"⟩, prog_6_method_4_code, 4, 5, none, false, 745, 744, 13, 121, []),
  (⟨"TavernRumours$Names", "lookAtRumour", "(I)V"⟩, prog_6_method_5_code, 4, 4, none, false, 769, 768, 16, 121, []),
  (⟨"TavernRumours$Names", "countOrder", "(I)V"⟩, prog_6_method_6_code, 4, 2, none, false, 777, 776, 17, 121, []),
  (⟨"TavernRumours$Names", "note", "(II)V"⟩, prog_6_method_7_code, 4, 3, none, false, 739, 738, 12, 121, []),
  (⟨"TavernRumours$Names", "tellNew", "(II)V"⟩, prog_6_method_8_code, 4, 5, none, false, 726, 725, 10, 121, []),
  (⟨"TavernRumours$Names", "find", "(II)I"⟩, prog_6_method_9_code, 4, 4, (some .int), false, 749, 748, 14, 121, []),
  (⟨"TavernRumours$Names", "indexOf", "(IJ)I"⟩, prog_6_method_10_code, 4, 5, (some .int), false, 735, 734, 11, 121, []),
  (⟨"TavernRumours$Names", "numberOf", "(III)I"⟩, prog_6_method_11_code, 4, 5, (some .int), false, 757, 756, 15, 121, []),
  (⟨"TavernRumours$Plan", "<init>", "()V"⟩, prog_7_method_1_code, 5, 1, none, false, 155, 154, 0, 116, []),
  (⟨"TavernRumours$Plan", "clear", "()V"⟩, prog_7_method_2_code, 5, 1, none, false, 482, 480, 481, 116, []),
  (⟨"TavernRumours$Plan", "addCode", "(I)V"⟩, prog_7_method_3_code, 5, 2, none, false, 674, 672, 673, 116, []),
  (⟨"TavernRumours$Plan", "codeAt", "(I)I"⟩, prog_7_method_4_code, 5, 2, (some .int), false, 1249, 1247, 1248, 116, []),
  (⟨"TavernRumours$Plan", "addRoad", "(III)V"⟩, prog_7_method_5_code, 5, 4, none, false, 765, 763, 764, 116, []),
  (⟨"TavernRumours$Plan", "addRumour", "(II)V"⟩, prog_7_method_6_code, 5, 3, none, false, 773, 771, 772, 116, []),
  (⟨"TavernRumours$Plan", "addOrder", "(III)V"⟩, prog_7_method_7_code, 5, 4, none, false, 702, 700, 701, 116, []),
  (⟨"TavernRumours$Plan", "kindOfOrder", "(I)LTavernRumours$Kind;"⟩, prog_7_method_8_code, 5, 2, (some (.object "TavernRumours$Kind")), false, 1291, 1289, 1290, 116, []),
  (⟨"TavernRumours$Plan", "targetOfOrder", "(I)I"⟩, prog_7_method_9_code, 5, 2, (some .int), false, 1285, 1283, 1284, 116, []),
  (⟨"TavernRumours$Reckoner", "<init>", "()V"⟩, prog_8_method_1_code, 6, 1, none, false, 390, 389, 0, 124, []),
  (⟨"TavernRumours$Reckoner", "reckon", "(LTavernRumours$Land;II)I"⟩, prog_8_method_2_code, 6, 9, (some .int), false, 1245, 1243, 1244, 124, []),
  (⟨"TavernRumours$Reckoner", "push", "(I)V"⟩, prog_8_method_3_code, 6, 2, none, false, 1268, 1267, 37, 124, []),
  (⟨"TavernRumours$Reckoner", "pop", "()I"⟩, prog_8_method_4_code, 6, 1, (some .int), false, 1254, 1253, 36, 124, []),
  (⟨"TavernRumours$Reckoner", "joined", "(LTavernRumours$Kind;II)I"⟩, prog_8_method_5_code, 6, 3, (some .int), true, 1257, 1256, 0, 124, []),
  (⟨"TavernRumours$Reckoner", "holds", "(LTavernRumours$Kind;II)Z"⟩, prog_8_method_6_code, 6, 3, (some .boolean), true, 1264, 1263, 0, 124, []),
  (⟨"TavernRumours$Reckoner", "fact", "(LTavernRumours$Land;LTavernRumours$Kind;I)I"⟩, prog_8_method_7_code, 6, 5, (some .int), true, 1272, 1271, 0, 124, []),
  (⟨"TavernRumours$Roads", "<init>", "()V"⟩, prog_9_method_1_code, 7, 1, none, false, 319, 318, 0, 123, []),
  (⟨"TavernRumours$Roads", "begin", "(LTavernRumours$Plan;)V"⟩, prog_9_method_2_code, 7, 3, none, false, 785, 783, 784, 123, []),
  (⟨"TavernRumours$Roads", "copy", "(LTavernRumours$Roads;)V"⟩, prog_9_method_3_code, 7, 2, none, false, 813, 811, 812, 123, []),
  (⟨"TavernRumours$Roads", "shape", "(III)V"⟩, prog_9_method_4_code, 7, 4, none, false, 792, 790, 791, 123, []),
  (⟨"TavernRumours$Roads", "forgetWays", "()V"⟩, prog_9_method_5_code, 7, 2, none, false, 796, 795, 18, 123, []),
  (⟨"TavernRumours$Roads", "addWounds", "(II)Z"⟩, prog_9_method_6_code, 7, 5, (some .boolean), false, 1194, 1192, 1193, 123, []),
  (⟨"TavernRumours$Roads", "takeWound", "(I)Z"⟩, prog_9_method_7_code, 7, 3, (some .boolean), false, 818, 816, 817, 123, []),
  (⟨"TavernRumours$Roads", "isOpen", "(I)Z"⟩, prog_9_method_8_code, 7, 2, (some .boolean), false, 834, 832, 833, 123, []),
  (⟨"TavernRumours$Roads", "openRoads", "()I"⟩, prog_9_method_9_code, 7, 3, (some .int), false, 851, 849, 850, 123, []),
  (⟨"TavernRumours$Roads", "lengthOfOpen", "()I"⟩, prog_9_method_10_code, 7, 3, (some .int), false, 855, 853, 854, 123, []),
  (⟨"TavernRumours$Roads", "leadsTo", "(II)Z"⟩, prog_9_method_11_code, 7, 3, (some .boolean), false, 916, 914, 915, 123, []),
  (⟨"TavernRumours$Roads", "otherEnd", "(II)I"⟩, prog_9_method_12_code, 7, 3, (some .int), false, 1167, 1165, 1166, 123, []),
  (⟨"TavernRumours$Roads", "openAt", "(I)I"⟩, prog_9_method_13_code, 7, 4, (some .int), false, 912, 910, 911, 123, []),
  (⟨"TavernRumours$Roads", "between", "(II)I"⟩, prog_9_method_14_code, 7, 4, (some .int), false, 925, 923, 924, 123, []),
  (⟨"TavernRumours$Roads", "fillRow", "([III)V"⟩, prog_9_method_15_code, 7, 9, none, false, 886, 885, 23, 123, []),
  (⟨"TavernRumours$Roads", "partOf", "(I)I"⟩, prog_9_method_16_code, 7, 3, (some .int), false, 921, 919, 920, 123, []),
  (⟨"TavernRumours$Roads", "farthestFrom", "(I)I"⟩, prog_9_method_17_code, 7, 4, (some .int), false, 929, 927, 928, 123, []),
  (⟨"TavernRumours$Roads", "nextTavern", "(II)I"⟩, prog_9_method_18_code, 7, 8, (some .int), false, 1163, 1161, 1162, 123, []),
  (⟨"TavernRumours$Roads", "lengthAround", "(I)I"⟩, prog_9_method_19_code, 7, 3, (some .int), false, 882, 880, 881, 123, []),
  (⟨"TavernRumours$Roads", "isSpan", "(I)Z"⟩, prog_9_method_20_code, 7, 2, (some .boolean), false, 878, 876, 877, 123, []),
  (⟨"TavernRumours$Roads", "spansWith", "(I)I"⟩, prog_9_method_21_code, 7, 4, (some .int), false, 874, 872, 873, 123, []),
  (⟨"TavernRumours$Roads", "isInNet", "(I)Z"⟩, prog_9_method_22_code, 7, 2, (some .boolean), false, 950, 948, 949, 123, []),
  (⟨"TavernRumours$Roads", "lengthOfNet", "()I"⟩, prog_9_method_23_code, 7, 1, (some .int), false, 842, 840, 841, 123, []),
  (⟨"TavernRumours$Roads", "parts", "()I"⟩, prog_9_method_24_code, 7, 1, (some .int), false, 822, 820, 821, 123, []),
  (⟨"TavernRumours$Roads", "substituteFor", "(I)I"⟩, prog_9_method_25_code, 7, 3, (some .int), false, 959, 957, 958, 123, []),
  (⟨"TavernRumours$Roads", "layNet", "(I)V"⟩, prog_9_method_26_code, 7, 5, none, false, 826, 825, 19, 123, []),
  (⟨"TavernRumours$Roads", "joinGroups", "(II)V"⟩, prog_9_method_27_code, 7, 4, none, false, 838, 837, 21, 123, []),
  (⟨"TavernRumours$Roads", "sortOpen", "(I)I"⟩, prog_9_method_28_code, 7, 5, (some .int), false, 830, 829, 20, 123, []),
  (⟨"TavernRumours$Tokens", "<init>", "()V"⟩, prog_10_method_1_code, 8, 2, none, false, 161, 160, 0, 117, []),
  (⟨"TavernRumours$Tokens", "has", "(I)Z"⟩, prog_10_method_2_code, 8, 2, (some .boolean), false, 582, 581, 0, 117, []),
  (⟨"TavernRumours$Tokens", "kindOf", "(I)LTavernRumours$Kind;"⟩, prog_10_method_3_code, 8, 2, (some (.object "TavernRumours$Kind")), false, 578, 576, 577, 117, []),
  (⟨"TavernRumours$Tokens", "placeOf", "(I)I"⟩, prog_10_method_4_code, 8, 2, (some .int), false, 708, 706, 707, 117, []),
  (⟨"TavernRumours$Tokens", "valueOf", "(I)I"⟩, prog_10_method_5_code, 8, 2, (some .int), false, 761, 759, 760, 117, []),
  (⟨"TavernRumours$Tokens", "spellingOf", "(I)J"⟩, prog_10_method_6_code, 8, 2, (some .long), false, 730, 728, 729, 117, []),
  (⟨"TavernRumours$Tokens", "setValue", "(II)V"⟩, prog_10_method_7_code, 8, 3, none, false, 753, 751, 752, 117, []),
  (⟨"TavernRumours$Tokens", "setKind", "(ILTavernRumours$Kind;)V"⟩, prog_10_method_8_code, 8, 3, none, false, 688, 686, 687, 117, []),
  (⟨"TavernRumours$Tokens", "read", "([BI)V"⟩, prog_10_method_9_code, 8, 8, none, false, 486, 484, 485, 117, []),
  (⟨"TavernRumours$Tokens", "behindBlanks", "([BII)I"⟩, prog_10_method_10_code, 8, 4, (some .int), true, 489, 488, 0, 117, []),
  (⟨"TavernRumours$Tokens", "endOfToken", "([BII)I"⟩, prog_10_method_11_code, 8, 4, (some .int), true, 492, 491, 0, 117, []),
  (⟨"TavernRumours$Tokens", "kindBetween", "([BII)LTavernRumours$Kind;"⟩, prog_10_method_12_code, 8, 3, (some (.object "TavernRumours$Kind")), true, 501, 500, 0, 117, []),
  (⟨"TavernRumours$Tokens", "kindSpelt", "([BIILTavernRumours$Kind;)LTavernRumours$Kind;"⟩, prog_10_method_13_code, 8, 8, (some (.object "TavernRumours$Kind")), true, 508, 507, 0, 117, []),
  (⟨"TavernRumours$Tokens", "isSpelt", "(Ljava/lang/String;[BI)Z"⟩, prog_10_method_14_code, 8, 4, (some .boolean), true, 523, 522, 0, 117, []),
  (⟨"TavernRumours$Tokens", "numberBetween", "([BII)I"⟩, prog_10_method_15_code, 8, 5, (some .int), true, 566, 565, 0, 117, []),
  (⟨"TavernRumours$Tokens", "spellingBetween", "([BII)J"⟩, prog_10_method_16_code, 8, 7, (some .long), true, 569, 568, 0, 117, []),
  (⟨"TavernRumours$Tokens", "isLetter", "(B)Z"⟩, prog_10_method_17_code, 8, 1, (some .boolean), true, 495, 494, 0, 117, []),
  (⟨"TavernRumours$Tokens", "isDigit", "(B)Z"⟩, prog_10_method_18_code, 8, 1, (some .boolean), true, 498, 497, 0, 117, []),
  (⟨"TavernRumours", "<init>", "()V"⟩, prog_1_method_1_code, 9, 1, none, false, 147, 146, 0, 115, []),
  (⟨"TavernRumours", "feed", "(IIIII)I"⟩, prog_1_method_2_code, 9, 6, (some .int), false, 980, 978, 979, 115, []),
  (⟨"TavernRumours", "append", "(I)V"⟩, prog_1_method_3_code, 9, 3, none, false, 1051, 1050, 31, 115, []),
  (⟨"TavernRumours", "trim", "(I)I"⟩, prog_1_method_4_code, 9, 2, (some .int), false, 1059, 1057, 1058, 115, []),
  (⟨"TavernRumours", "teach", "()I"⟩, prog_1_method_5_code, 9, 3, (some .int), false, 478, 476, 477, 115, []),
  (⟨"TavernRumours", "errorAt", "()I"⟩, prog_1_method_6_code, 9, 1, (some .int), false, 801, 799, 800, 115, []),
  (⟨"TavernRumours", "count", "(I)I"⟩, prog_1_method_7_code, 9, 2, (some .int), false, 1083, 1081, 1082, 115, []),
  (⟨"TavernRumours", "countOf", "(I)I"⟩, prog_1_method_8_code, 9, 2, (some .int), false, 865, 864, 22, 115, []),
  (⟨"TavernRumours", "tavern", "(II)I"⟩, prog_1_method_9_code, 9, 3, (some .int), false, 1106, 1104, 1105, 115, []),
  (⟨"TavernRumours", "tavernFact", "(II)I"⟩, prog_1_method_10_code, 9, 3, (some .int), false, 908, 907, 26, 115, []),
  (⟨"TavernRumours", "road", "(II)I"⟩, prog_1_method_11_code, 9, 3, (some .int), false, 1118, 1116, 1117, 115, []),
  (⟨"TavernRumours", "roadFact", "(II)I"⟩, prog_1_method_12_code, 9, 4, (some .int), false, 944, 943, 28, 115, []),
  (⟨"TavernRumours", "rumour", "(II)I"⟩, prog_1_method_13_code, 9, 3, (some .int), false, 1130, 1128, 1129, 115, []),
  (⟨"TavernRumours", "rumourFact", "(II)I"⟩, prog_1_method_14_code, 9, 3, (some .int), false, 964, 963, 29, 115, []),
  (⟨"TavernRumours", "since", "(II)I"⟩, prog_1_method_15_code, 9, 3, (some .int), false, 1142, 1140, 1141, 115, []),
  (⟨"TavernRumours", "isTavern", "(I)Z"⟩, prog_1_method_16_code, 9, 2, (some .boolean), false, 1110, 1109, 32, 115, []),
  (⟨"TavernRumours", "isRoad", "(I)Z"⟩, prog_1_method_17_code, 9, 2, (some .boolean), false, 1122, 1121, 33, 115, []),
  (⟨"TavernRumours", "isRumour", "(I)Z"⟩, prog_1_method_18_code, 9, 2, (some .boolean), false, 1134, 1133, 34, 115, []),
  (⟨"TavernRumours", "far", "(II)I"⟩, prog_1_method_19_code, 9, 3, (some .int), false, 1150, 1148, 1149, 115, []),
  (⟨"TavernRumours", "step", "(II)I"⟩, prog_1_method_20_code, 9, 3, (some .int), false, 1159, 1157, 1158, 115, []),
  (⟨"TavernRumours", "detour", "(I)I"⟩, prog_1_method_21_code, 9, 2, (some .int), false, 1174, 1172, 1173, 115, []),
  (⟨"TavernRumours", "replace", "(I)I"⟩, prog_1_method_22_code, 9, 2, (some .int), false, 1182, 1180, 1181, 115, []),
  (⟨"TavernRumours", "hurt", "(II)I"⟩, prog_1_method_23_code, 9, 3, (some .int), false, 1189, 1187, 1188, 115, []),
  (⟨"TavernRumours", "mend", "(I)I"⟩, prog_1_method_24_code, 9, 2, (some .int), false, 1204, 1202, 1203, 115, []),
  (⟨"TavernRumours", "tell", "(II)I"⟩, prog_1_method_25_code, 9, 3, (some .int), false, 1212, 1210, 1211, 115, []),
  (⟨"TavernRumours", "setMiles", "(II)I"⟩, prog_1_method_26_code, 9, 4, (some .int), false, 1224, 1222, 1223, 115, []),
  (⟨"TavernRumours", "pass", "(I)I"⟩, prog_1_method_27_code, 9, 2, (some .int), false, 1232, 1230, 1231, 115, []),
  (⟨"TavernRumours", "until", "(I)I"⟩, prog_1_method_28_code, 9, 3, (some .int), false, 1332, 1330, 1331, 115, []),
  (⟨"TavernRumours", "foresee", "(II)I"⟩, prog_1_method_29_code, 9, 3, (some .int), false, 1340, 1338, 1339, 115, []),
  (⟨"TavernRumours", "advise", "(II)I"⟩, prog_1_method_30_code, 9, 7, (some .int), false, 1347, 1345, 1346, 115, []),
  (⟨"TavernRumours", "knowersBehind", "(III)I"⟩, prog_1_method_31_code, 9, 4, (some .int), false, 1351, 1350, 45, 115, []),
  (⟨"TavernRumours", "best", "()I"⟩, prog_1_method_32_code, 9, 9, (some .int), false, 805, 803, 804, 115, []),
  (⟨"TavernRumours", "mean", "()D"⟩, prog_1_method_33_code, 9, 3, (some .double), false, 847, 845, 846, 115, []),
  (⟨"TavernRumours", "digest", "()J"⟩, prog_1_method_34_code, 9, 5, (some .long), false, 859, 857, 858, 115, []),
  (⟨"TavernRumours", "digestTaverns", "(J)J"⟩, prog_1_method_35_code, 9, 7, (some .long), false, 904, 903, 25, 115, []),
  (⟨"TavernRumours", "digestRoads", "(J)J"⟩, prog_1_method_36_code, 9, 7, (some .long), false, 940, 939, 27, 115, []),
  (⟨"TavernRumoursModel$Sheet", "<init>", "()V"⟩, prog_13_method_1_code, 10, 1, none, false, 1363, 1362, 0, 126, []),
  (⟨"TavernRumoursModel$State", "<init>", "()V"⟩, prog_14_method_1_code, 11, 1, none, false, 1433, 1432, 0, 127, []),
  (⟨"TavernRumoursModel$State", "copy", "([I[I)V"⟩, prog_14_method_2_code, 11, 2, none, true, 1766, 1765, 0, 127, []),
  (⟨"TavernRumoursModel$State", "become", "(LTavernRumoursModel$State;)V"⟩, prog_14_method_3_code, 11, 2, none, false, 2007, 2005, 2006, 127, []),
  (⟨"TavernRumoursModel$State", "isOpen", "(I)Z"⟩, prog_14_method_4_code, 11, 2, (some .boolean), false, 1783, 1781, 1782, 127, []),
  (⟨"TavernRumoursModel$State", "length", "(I)I"⟩, prog_14_method_5_code, 11, 2, (some .int), false, 1811, 1809, 1810, 127, []),
  (⟨"TavernRumoursModel$State", "knows", "(II)Z"⟩, prog_14_method_6_code, 11, 3, (some .boolean), false, 1828, 1826, 1827, 127, []),
  (⟨"TavernRumoursModel$State", "hear", "(II)Z"⟩, prog_14_method_7_code, 11, 3, (some .boolean), false, 1922, 1920, 1921, 127, []),
  (⟨"TavernRumoursModel$State", "keep", "(II)V"⟩, prog_14_method_8_code, 11, 3, none, false, 1987, 1985, 1986, 127, []),
  (⟨"TavernRumoursModel", "<init>", "()V"⟩, prog_12_method_1_code, 12, 1, none, false, 1357, 1356, 0, 125, []),
  (⟨"TavernRumoursModel", "thrown", "()I"⟩, prog_12_method_2_code, 12, 1, (some .int), false, 1553, 1551, 1552, 125, []),
  (⟨"TavernRumoursModel", "no", "(I)I"⟩, prog_12_method_3_code, 12, 2, (some .int), false, 1561, 1560, 46, 125, []),
  (⟨"TavernRumoursModel", "isIn", "(III)Z"⟩, prog_12_method_4_code, 12, 3, (some .boolean), true, 1568, 1567, 0, 125, []),
  (⟨"TavernRumoursModel", "is", "(II)Z"⟩, prog_12_method_5_code, 12, 3, (some .boolean), false, 1844, 1843, 88, 125, []),
  (⟨"TavernRumoursModel", "isLetter", "(I)Z"⟩, prog_12_method_6_code, 12, 1, (some .boolean), true, 1591, 1590, 0, 125, []),
  (⟨"TavernRumoursModel", "isDigit", "(I)Z"⟩, prog_12_method_7_code, 12, 1, (some .boolean), true, 1594, 1593, 0, 125, []),
  (⟨"TavernRumoursModel", "byteAt", "(I)I"⟩, prog_12_method_8_code, 12, 2, (some .int), false, 1584, 1583, 49, 125, []),
  (⟨"TavernRumoursModel", "lengthAt", "(I)I"⟩, prog_12_method_9_code, 12, 4, (some .int), false, 1588, 1587, 50, 125, []),
  (⟨"TavernRumoursModel", "kindAt", "(II)I"⟩, prog_12_method_10_code, 12, 5, (some .int), false, 1598, 1597, 51, 125, []),
  (⟨"TavernRumoursModel", "wordAt", "(II)I"⟩, prog_12_method_11_code, 12, 5, (some .int), false, 1602, 1601, 52, 125, []),
  (⟨"TavernRumoursModel", "cut", "(LTavernRumoursModel$Sheet;)V"⟩, prog_12_method_12_code, 12, 4, none, false, 1580, 1579, 48, 125, []),
  (⟨"TavernRumoursModel", "eat", "(LTavernRumoursModel$Sheet;I)Z"⟩, prog_12_method_13_code, 12, 3, (some .boolean), false, 1678, 1677, 56, 125, []),
  (⟨"TavernRumoursModel", "eatIn", "(LTavernRumoursModel$Sheet;II)Z"⟩, prog_12_method_14_code, 12, 4, (some .boolean), false, 1702, 1701, 62, 125, []),
  (⟨"TavernRumoursModel", "goDown", "(LTavernRumoursModel$Sheet;I)Z"⟩, prog_12_method_15_code, 12, 3, (some .boolean), false, 1698, 1697, 61, 125, []),
  (⟨"TavernRumoursModel", "isList", "(LTavernRumoursModel$Sheet;)Z"⟩, prog_12_method_16_code, 12, 2, (some .boolean), false, 1666, 1665, 53, 125, []),
  (⟨"TavernRumoursModel", "isNumber", "(LTavernRumoursModel$Sheet;I)Z"⟩, prog_12_method_17_code, 12, 3, (some .boolean), false, 1682, 1681, 57, 125, []),
  (⟨"TavernRumoursModel", "isName", "(LTavernRumoursModel$Sheet;I)Z"⟩, prog_12_method_18_code, 12, 3, (some .boolean), false, 1674, 1673, 55, 125, []),
  (⟨"TavernRumoursModel", "isWhen", "(LTavernRumoursModel$Sheet;)Z"⟩, prog_12_method_19_code, 12, 2, (some .boolean), false, 1706, 1705, 63, 125, []),
  (⟨"TavernRumoursModel", "isLine", "(LTavernRumoursModel$Sheet;)Z"⟩, prog_12_method_20_code, 12, 2, (some .boolean), false, 1670, 1669, 54, 125, []),
  (⟨"TavernRumoursModel", "isTest", "(LTavernRumoursModel$Sheet;)Z"⟩, prog_12_method_21_code, 12, 2, (some .boolean), false, 1710, 1709, 64, 125, []),
  (⟨"TavernRumoursModel", "isBoth", "(LTavernRumoursModel$Sheet;)Z"⟩, prog_12_method_22_code, 12, 2, (some .boolean), false, 1714, 1713, 65, 125, []),
  (⟨"TavernRumoursModel", "isSingle", "(LTavernRumoursModel$Sheet;)Z"⟩, prog_12_method_23_code, 12, 2, (some .boolean), false, 1718, 1717, 66, 125, []),
  (⟨"TavernRumoursModel", "isSum", "(LTavernRumoursModel$Sheet;)Z"⟩, prog_12_method_24_code, 12, 2, (some .boolean), false, 1686, 1685, 58, 125, []),
  (⟨"TavernRumoursModel", "isProduct", "(LTavernRumoursModel$Sheet;)Z"⟩, prog_12_method_25_code, 12, 2, (some .boolean), false, 1690, 1689, 59, 125, []),
  (⟨"TavernRumoursModel", "isValue", "(LTavernRumoursModel$Sheet;)Z"⟩, prog_12_method_26_code, 12, 3, (some .boolean), false, 1694, 1693, 60, 125, []),
  (⟨"TavernRumoursModel", "number", "(LTavernRumoursModel$Sheet;I)I"⟩, prog_12_method_27_code, 12, 5, (some .int), false, 1755, 1754, 73, 125, []),
  (⟨"TavernRumoursModel", "areSame", "(LTavernRumoursModel$Sheet;II)Z"⟩, prog_12_method_28_code, 12, 6, (some .boolean), false, 1741, 1740, 71, 125, []),
  (⟨"TavernRumoursModel", "find", "(LTavernRumoursModel$Sheet;II)I"⟩, prog_12_method_29_code, 12, 5, (some .int), false, 1737, 1736, 70, 125, []),
  (⟨"TavernRumoursModel", "most", "(I)I"⟩, prog_12_method_30_code, 12, 1, (some .int), true, 1744, 1743, 0, 125, []),
  (⟨"TavernRumoursModel", "isSort", "(I)Z"⟩, prog_12_method_31_code, 12, 1, (some .boolean), true, 1729, 1728, 0, 125, []),
  (⟨"TavernRumoursModel", "errorOfNew", "(LTavernRumoursModel$Sheet;II)I"⟩, prog_12_method_32_code, 12, 4, (some .int), false, 1733, 1732, 69, 125, []),
  (⟨"TavernRumoursModel", "sortOf", "(LTavernRumoursModel$Sheet;I)I"⟩, prog_12_method_33_code, 12, 2, (some .int), true, 1747, 1746, 0, 125, []),
  (⟨"TavernRumoursModel", "errorOfName", "(LTavernRumoursModel$Sheet;I)I"⟩, prog_12_method_34_code, 12, 6, (some .int), false, 1726, 1725, 68, 125, []),
  (⟨"TavernRumoursModel", "errorOfNumber", "(LTavernRumoursModel$Sheet;I)I"⟩, prog_12_method_35_code, 12, 4, (some .int), false, 1751, 1750, 72, 125, []),
  (⟨"TavernRumoursModel", "errorOfOrder", "(LTavernRumoursModel$Sheet;I)I"⟩, prog_12_method_36_code, 12, 3, (some .int), false, 1759, 1758, 74, 125, []),
  (⟨"TavernRumoursModel", "errorOf", "(LTavernRumoursModel$Sheet;I)I"⟩, prog_12_method_37_code, 12, 3, (some .int), false, 1722, 1721, 67, 125, []),
  (⟨"TavernRumoursModel", "read", "(LTavernRumoursModel$Sheet;)I"⟩, prog_12_method_38_code, 12, 4, (some .int), false, 1576, 1575, 47, 125, []),
  (⟨"TavernRumoursModel", "goesBy", "(I)Z"⟩, prog_12_method_39_code, 12, 2, (some .boolean), false, 1959, 1958, 103, 125, []),
  (⟨"TavernRumoursModel", "test", "()Z"⟩, prog_12_method_40_code, 12, 2, (some .boolean), false, 1947, 1946, 100, 125, []),
  (⟨"TavernRumoursModel", "both", "()Z"⟩, prog_12_method_41_code, 12, 2, (some .boolean), false, 1951, 1950, 101, 125, []),
  (⟨"TavernRumoursModel", "named", "()I"⟩, prog_12_method_42_code, 12, 2, (some .int), false, 1963, 1962, 104, 125, []),
  (⟨"TavernRumoursModel", "single", "()Z"⟩, prog_12_method_43_code, 12, 4, (some .boolean), false, 1955, 1954, 102, 125, []),
  (⟨"TavernRumoursModel", "sum", "()I"⟩, prog_12_method_44_code, 12, 4, (some .int), false, 1967, 1966, 105, 125, []),
  (⟨"TavernRumoursModel", "product", "()I"⟩, prog_12_method_45_code, 12, 4, (some .int), false, 1971, 1970, 106, 125, []),
  (⟨"TavernRumoursModel", "value", "()I"⟩, prog_12_method_46_code, 12, 4, (some .int), false, 1975, 1974, 107, 125, []),
  (⟨"TavernRumoursModel", "isUsed", "(LTavernRumoursModel$State;I)Z"⟩, prog_12_method_47_code, 12, 3, (some .boolean), false, 1807, 1806, 82, 125, []),
  (⟨"TavernRumoursModel", "look", "(LTavernRumoursModel$State;I)V"⟩, prog_12_method_48_code, 12, 7, none, false, 1803, 1802, 81, 125, []),
  (⟨"TavernRumoursModel", "reaches", "(III)Z"⟩, prog_12_method_49_code, 12, 4, (some .boolean), false, 1815, 1814, 83, 125, []),
  (⟨"TavernRumoursModel", "far", "(LTavernRumoursModel$State;II)I"⟩, prog_12_method_50_code, 12, 4, (some .int), false, 1799, 1798, 80, 125, []),
  (⟨"TavernRumoursModel", "part", "(LTavernRumoursModel$State;)I"⟩, prog_12_method_51_code, 12, 6, (some .int), false, 1819, 1818, 84, 125, []),
  (⟨"TavernRumoursModel", "nextOfNet", "(LTavernRumoursModel$State;)I"⟩, prog_12_method_52_code, 12, 4, (some .int), false, 1836, 1835, 87, 125, []),
  (⟨"TavernRumoursModel", "net", "(LTavernRumoursModel$State;)I"⟩, prog_12_method_53_code, 12, 7, (some .int), false, 1832, 1831, 86, 125, []),
  (⟨"TavernRumoursModel", "detourOf", "(LTavernRumoursModel$State;I)I"⟩, prog_12_method_54_code, 12, 4, (some .int), false, 1795, 1794, 79, 125, []),
  (⟨"TavernRumoursModel", "isSpan", "(LTavernRumoursModel$State;I)Z"⟩, prog_12_method_55_code, 12, 3, (some .boolean), false, 1791, 1790, 78, 125, []),
  (⟨"TavernRumoursModel", "replaceOf", "(LTavernRumoursModel$State;I)I"⟩, prog_12_method_56_code, 12, 4, (some .int), false, 1897, 1896, 94, 125, []),
  (⟨"TavernRumoursModel", "heard", "(LTavernRumoursModel$State;I)I"⟩, prog_12_method_57_code, 12, 5, (some .int), false, 1824, 1823, 85, 125, []),
  (⟨"TavernRumoursModel", "hurtBy", "(LTavernRumoursModel$State;II)Z"⟩, prog_12_method_58_code, 12, 5, (some .boolean), false, 1906, 1905, 95, 125, []),
  (⟨"TavernRumoursModel", "mended", "(LTavernRumoursModel$State;I)Z"⟩, prog_12_method_59_code, 12, 4, (some .boolean), false, 1914, 1913, 96, 125, []),
  (⟨"TavernRumoursModel", "hushed", "(LTavernRumoursModel$State;I)Z"⟩, prog_12_method_60_code, 12, 4, (some .boolean), false, 1979, 1978, 108, 125, []),
  (⟨"TavernRumoursModel", "isCarriedOut", "(LTavernRumoursModel$State;I)Z"⟩, prog_12_method_61_code, 12, 4, (some .boolean), false, 1943, 1942, 99, 125, []),
  (⟨"TavernRumoursModel", "lose", "(LTavernRumoursModel$State;)V"⟩, prog_12_method_62_code, 12, 4, none, false, 1983, 1982, 109, 125, []),
  (⟨"TavernRumoursModel", "travel", "(LTavernRumoursModel$State;)V"⟩, prog_12_method_63_code, 12, 4, none, false, 1991, 1990, 110, 125, []),
  (⟨"TavernRumoursModel", "setOut", "(LTavernRumoursModel$State;II)V"⟩, prog_12_method_64_code, 12, 6, none, false, 1995, 1994, 111, 125, []),
  (⟨"TavernRumoursModel", "hourOn", "(LTavernRumoursModel$State;)V"⟩, prog_12_method_65_code, 12, 4, none, false, 1939, 1938, 98, 125, []),
  (⟨"TavernRumoursModel", "hoursOn", "(LTavernRumoursModel$State;I)V"⟩, prog_12_method_66_code, 12, 4, none, false, 1935, 1934, 97, 125, []),
  (⟨"TavernRumoursModel", "spans", "(LTavernRumoursModel$State;I)I"⟩, prog_12_method_67_code, 12, 5, (some .int), false, 1787, 1786, 77, 125, []),
  (⟨"TavernRumoursModel", "counted", "(LTavernRumoursModel$State;I)I"⟩, prog_12_method_68_code, 12, 5, (some .int), false, 1779, 1778, 76, 125, []),
  (⟨"TavernRumoursModel", "feed", "(IIIII)I"⟩, prog_12_method_69_code, 12, 8, (some .int), false, 1557, 1555, 1556, 125, []),
  (⟨"TavernRumoursModel", "trim", "(I)I"⟩, prog_12_method_70_code, 12, 2, (some .int), false, 1565, 1563, 1564, 125, []),
  (⟨"TavernRumoursModel", "fill", "([II)V"⟩, prog_12_method_71_code, 12, 3, none, true, 1494, 1493, 0, 125, []),
  (⟨"TavernRumoursModel", "begin", "()V"⟩, prog_12_method_72_code, 12, 1, none, false, 1763, 1762, 75, 125, []),
  (⟨"TavernRumoursModel", "teach", "()I"⟩, prog_12_method_73_code, 12, 3, (some .int), false, 1572, 1570, 1571, 125, []),
  (⟨"TavernRumoursModel", "errorAt", "()I"⟩, prog_12_method_74_code, 12, 1, (some .int), false, 1771, 1769, 1770, 125, []),
  (⟨"TavernRumoursModel", "count", "(I)I"⟩, prog_12_method_75_code, 12, 2, (some .int), false, 1775, 1773, 1774, 125, []),
  (⟨"TavernRumoursModel", "tavernTold", "(II)I"⟩, prog_12_method_76_code, 12, 5, (some .int), false, 1848, 1847, 89, 125, []),
  (⟨"TavernRumoursModel", "tavern", "(II)I"⟩, prog_12_method_77_code, 12, 3, (some .int), false, 1840, 1838, 1839, 125, []),
  (⟨"TavernRumoursModel", "travellersOn", "(I)I"⟩, prog_12_method_78_code, 12, 4, (some .int), false, 1861, 1860, 91, 125, []),
  (⟨"TavernRumoursModel", "roadTold", "(II)I"⟩, prog_12_method_79_code, 12, 3, (some .int), false, 1857, 1856, 90, 125, []),
  (⟨"TavernRumoursModel", "road", "(II)I"⟩, prog_12_method_80_code, 12, 3, (some .int), false, 1853, 1851, 1852, 125, []),
  (⟨"TavernRumoursModel", "rumourTold", "(II)I"⟩, prog_12_method_81_code, 12, 5, (some .int), false, 1869, 1868, 92, 125, []),
  (⟨"TavernRumoursModel", "rumour", "(II)I"⟩, prog_12_method_82_code, 12, 3, (some .int), false, 1865, 1863, 1864, 125, []),
  (⟨"TavernRumoursModel", "since", "(II)I"⟩, prog_12_method_83_code, 12, 3, (some .int), false, 1873, 1871, 1872, 125, []),
  (⟨"TavernRumoursModel", "far", "(II)I"⟩, prog_12_method_84_code, 12, 3, (some .int), false, 1877, 1875, 1876, 125, []),
  (⟨"TavernRumoursModel", "stepTold", "(II)I"⟩, prog_12_method_85_code, 12, 6, (some .int), false, 1885, 1884, 93, 125, []),
  (⟨"TavernRumoursModel", "step", "(II)I"⟩, prog_12_method_86_code, 12, 3, (some .int), false, 1881, 1879, 1880, 125, []),
  (⟨"TavernRumoursModel", "detour", "(I)I"⟩, prog_12_method_87_code, 12, 2, (some .int), false, 1889, 1887, 1888, 125, []),
  (⟨"TavernRumoursModel", "replace", "(I)I"⟩, prog_12_method_88_code, 12, 2, (some .int), false, 1893, 1891, 1892, 125, []),
  (⟨"TavernRumoursModel", "hurt", "(II)I"⟩, prog_12_method_89_code, 12, 3, (some .int), false, 1902, 1900, 1901, 125, []),
  (⟨"TavernRumoursModel", "mend", "(I)I"⟩, prog_12_method_90_code, 12, 2, (some .int), false, 1910, 1908, 1909, 125, []),
  (⟨"TavernRumoursModel", "tell", "(II)I"⟩, prog_12_method_91_code, 12, 3, (some .int), false, 1918, 1916, 1917, 125, []),
  (⟨"TavernRumoursModel", "setMiles", "(II)I"⟩, prog_12_method_92_code, 12, 4, (some .int), false, 1927, 1925, 1926, 125, []),
  (⟨"TavernRumoursModel", "pass", "(I)I"⟩, prog_12_method_93_code, 12, 3, (some .int), false, 1931, 1929, 1930, 125, []),
  (⟨"TavernRumoursModel", "untilAll", "(I)I"⟩, prog_12_method_94_code, 12, 3, (some .int), false, 2003, 2002, 112, 125, []),
  (⟨"TavernRumoursModel", "until", "(I)I"⟩, prog_12_method_95_code, 12, 2, (some .int), false, 1999, 1997, 1998, 125, []),
  (⟨"TavernRumoursModel", "foresee", "(II)I"⟩, prog_12_method_96_code, 12, 3, (some .int), false, 2012, 2010, 2011, 125, []),
  (⟨"TavernRumoursModel", "adviseTold", "(II)I"⟩, prog_12_method_97_code, 12, 7, (some .int), false, 2020, 2019, 113, 125, []),
  (⟨"TavernRumoursModel", "advise", "(II)I"⟩, prog_12_method_98_code, 12, 3, (some .int), false, 2016, 2014, 2015, 125, []),
  (⟨"TavernRumoursModel", "best", "()I"⟩, prog_12_method_99_code, 12, 7, (some .int), false, 2024, 2022, 2023, 125, []),
  (⟨"TavernRumoursModel", "mean", "()D"⟩, prog_12_method_100_code, 12, 4, (some .double), false, 2028, 2026, 2027, 125, []),
  (⟨"TavernRumoursModel", "digest", "()J"⟩, prog_12_method_101_code, 12, 5, (some .long), false, 2032, 2030, 2031, 125, []),
  (⟨"TavernRumoursLaw", "feed", "(LTavernRumours;IIIII[J)I"⟩, method_3_code, 13, 8, (some .int), true, 975, 974, 0, 114, [(0, 16, 19, 13)]),
  (⟨"TavernRumoursLaw", "trim", "(LTavernRumours;I[J)I"⟩, method_4_code, 13, 4, (some .int), true, 1054, 1053, 0, 114, [(0, 9, 12, 19)]),
  (⟨"TavernRumoursLaw", "count", "(LTavernRumours;I[J)I"⟩, method_5_code, 13, 4, (some .int), true, 1078, 1077, 0, 114, [(0, 9, 12, 24)]),
  (⟨"TavernRumoursLaw", "tavern", "(LTavernRumours;II[J)I"⟩, method_6_code, 13, 5, (some .int), true, 1102, 1101, 0, 114, [(0, 10, 13, 24)]),
  (⟨"TavernRumoursLaw", "road", "(LTavernRumours;II[J)I"⟩, method_7_code, 13, 5, (some .int), true, 1114, 1113, 0, 114, [(0, 10, 13, 24)]),
  (⟨"TavernRumoursLaw", "rumour", "(LTavernRumours;II[J)I"⟩, method_8_code, 13, 5, (some .int), true, 1126, 1125, 0, 114, [(0, 10, 13, 24)]),
  (⟨"TavernRumoursLaw", "since", "(LTavernRumours;II[J)I"⟩, method_9_code, 13, 5, (some .int), true, 1138, 1137, 0, 114, [(0, 10, 13, 24)]),
  (⟨"TavernRumoursLaw", "far", "(LTavernRumours;II[J)I"⟩, method_10_code, 13, 5, (some .int), true, 1146, 1145, 0, 114, [(0, 10, 13, 24)]),
  (⟨"TavernRumoursLaw", "step", "(LTavernRumours;II[J)I"⟩, method_11_code, 13, 5, (some .int), true, 1155, 1154, 0, 114, [(0, 10, 13, 24)]),
  (⟨"TavernRumoursLaw", "detour", "(LTavernRumours;I[J)I"⟩, method_12_code, 13, 4, (some .int), true, 1170, 1169, 0, 114, [(0, 9, 12, 24)]),
  (⟨"TavernRumoursLaw", "replace", "(LTavernRumours;I[J)I"⟩, method_13_code, 13, 4, (some .int), true, 1178, 1177, 0, 114, [(0, 9, 12, 24)]),
  (⟨"TavernRumoursLaw", "hurt", "(LTavernRumours;II[J)I"⟩, method_14_code, 13, 5, (some .int), true, 1185, 1184, 0, 114, [(0, 10, 13, 24), (0, 10, 17, 19)]),
  (⟨"TavernRumoursLaw", "mend", "(LTavernRumours;I[J)I"⟩, method_15_code, 13, 4, (some .int), true, 1200, 1199, 0, 114, [(0, 9, 12, 24), (0, 9, 15, 13)]),
  (⟨"TavernRumoursLaw", "tell", "(LTavernRumours;II[J)I"⟩, method_16_code, 13, 5, (some .int), true, 1208, 1207, 0, 114, [(0, 10, 13, 24), (0, 10, 17, 13)]),
  (⟨"TavernRumoursLaw", "setMiles", "(LTavernRumours;II[J)I"⟩, method_17_code, 13, 5, (some .int), true, 1220, 1219, 0, 114, [(0, 10, 13, 24), (0, 10, 17, 19)]),
  (⟨"TavernRumoursLaw", "pass", "(LTavernRumours;I[J)I"⟩, method_18_code, 13, 4, (some .int), true, 1228, 1227, 0, 114, [(0, 9, 12, 19)]),
  (⟨"TavernRumoursLaw", "until", "(LTavernRumours;I[J)I"⟩, method_19_code, 13, 4, (some .int), true, 1328, 1327, 0, 114, [(0, 9, 12, 24)]),
  (⟨"TavernRumoursLaw", "foresee", "(LTavernRumours;II[J)I"⟩, method_20_code, 13, 5, (some .int), true, 1336, 1335, 0, 114, [(0, 10, 13, 19), (0, 10, 17, 24)]),
  (⟨"TavernRumoursLaw", "advise", "(LTavernRumours;II[J)I"⟩, method_21_code, 13, 5, (some .int), true, 1343, 1342, 0, 114, [(0, 10, 13, 24), (0, 10, 17, 19)]),
  (⟨"TavernRumoursLaw", "law", "([I)Z"⟩, code, 13, 9, (some .boolean), false, 0, 0, 0, 114, []),
  (⟨"java/lang/String", "length", "()I"⟩, prog_23_method_54_code, 14, 1, (some .int), false, 514, 512, 513, 133, []),
  (⟨"java/lang/String", "charAt", "(I)C"⟩, prog_23_method_56_code, 14, 2, (some .char), false, 527, 525, 526, 133, []),
  (⟨"java/lang/String", "indexOf", "(I)I"⟩, prog_23_method_79_code, 14, 2, (some .int), false, 1611, 1609, 1610, 133, []),
  (⟨"java/lang/String", "indexOf", "(II)I"⟩, prog_23_method_80_code, 14, 3, (some .int), false, 1615, 1613, 1614, 133, []),
  (⟨"java/lang/String", "coder", "()B"⟩, prog_23_method_152_code, 14, 1, (some .byte), false, 518, 516, 517, 133, []),
  (⟨"java/lang/String", "isLatin1", "()Z"⟩, prog_23_method_154_code, 14, 1, (some .boolean), false, 531, 529, 530, 133, []),
  (⟨"java/lang/String", "checkIndex", "(II)V"⟩, prog_23_method_155_code, 14, 2, none, true, 537, 536, 0, 133, []),
  (⟨"java/lang/StringLatin1", "charAt", "([BI)C"⟩, prog_24_method_2_code, 15, 2, (some .char), true, 534, 533, 0, 134, []),
  (⟨"java/lang/StringLatin1", "canEncode", "(I)Z"⟩, prog_24_method_4_code, 15, 1, (some .boolean), true, 1622, 1621, 0, 134, []),
  (⟨"java/lang/StringLatin1", "indexOf", "([BIII)I"⟩, prog_24_method_22_code, 15, 4, (some .int), true, 1619, 1618, 0, 134, []),
  (⟨"java/lang/StringLatin1", "indexOfChar", "([BIII)I"⟩, prog_24_method_23_code, 15, 6, (some .int), true, 1627, 1626, 0, 134, []),
  (⟨"jdk/internal/util/Preconditions", "checkIndex", "(IILjava/util/function/BiFunction;)I"⟩, prog_29_method_11_code, 16, 3, (some .int), true, 542, 541, 0, 135, []),
  (⟨"java/util/Arrays", "fill", "([II)V"⟩, prog_28_method_103_code, 17, 4, none, true, 715, 714, 0, 138, []),
  (⟨"java/lang/Enum", "ordinal", "()I"⟩, prog_16_method_2_code, 18, 1, (some .int), false, 594, 593, 592, 118, [])]
def MTd : MQ1 := (⟨"", "", ""⟩, ⟨#[]⟩, 0, 0, none, false, 0, 0, 0, 0, [])
def mInf (m : Nat) : MQ1 := MT.getD m MTd
