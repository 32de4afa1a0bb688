/-! ===== TABLES, by program out of the claim's own listing: classes, fields, links, methods ===== -/
def nC : List String := ["TavernRumours$1", "TavernRumours$Grammar", "TavernRumours$Kind", "TavernRumours$Land", "TavernRumours$Names", "TavernRumours$Plan", "TavernRumours$Reckoner", "TavernRumours$Roads", "TavernRumours$Tokens", "TavernRumours", "TavernRumoursModel$Sheet", "TavernRumoursModel$State", "TavernRumoursModel", "TavernRumoursLaw", "java/lang/String", "java/lang/StringLatin1", "jdk/internal/util/Preconditions", "java/util/Arrays", "java/lang/Enum"]
def CN (o : Nat) : String := nC.getD o ""
def uT0 : u_T := fun k => match k with
  | _ => ("", "", "", false)
def uT1 : u_T := fun k => match k with
  | 0 => ("TavernRumours$Grammar", "plan", "LTavernRumours$Plan;", false)
  | 1 => ("TavernRumours$Grammar", "next", "I", false)
  | _ => ("TavernRumours$Grammar", "ahead", "LTavernRumours$Kind;", false)
def uT2 : u_T := fun k => match k with
  | _ => ("", "", "", false)
def uT3 : u_T := fun k => match k with
  | 0 => ("TavernRumours$Land", "roads", "LTavernRumours$Roads;", true)
  | 1 => ("TavernRumours$Land", "reckoner", "LTavernRumours$Reckoner;", true)
  | 2 => ("TavernRumours$Land", "plan", "LTavernRumours$Plan;", false)
  | 3 => ("TavernRumours$Land", "hour", "I", false)
  | 4 => ("TavernRumours$Land", "carriedOut", "I", false)
  | 5 => ("TavernRumours$Land", "lost", "I", false)
  | 6 => ("TavernRumours$Land", "heardOn", "[I", true)
  | 7 => ("TavernRumours$Land", "sentOut", "[Z", true)
  | 8 => ("TavernRumours$Land", "hushed", "[Z", true)
  | 9 => ("TavernRumours$Land", "walkers", "I", false)
  | 10 => ("TavernRumours$Land", "walkerRoad", "[I", true)
  | 11 => ("TavernRumours$Land", "walkerGoal", "[I", true)
  | 12 => ("TavernRumours$Land", "walkerRumour", "[I", true)
  | _ => ("TavernRumours$Land", "walkerMiles", "[I", true)
def uT4 : u_T := fun k => match k with
  | 0 => ("TavernRumours$Names", "spellings", "[[J", true)
  | 1 => ("TavernRumours$Names", "counts", "[I", true)
  | 2 => ("TavernRumours$Names", "orders", "I", false)
  | 3 => ("TavernRumours$Names", "plan", "LTavernRumours$Plan;", false)
  | 4 => ("TavernRumours$Names", "error", "I", false)
  | _ => ("TavernRumours$Names", "errorToken", "I", false)
def uT5 : u_T := fun k => match k with
  | 0 => ("TavernRumours$Plan", "tokens", "LTavernRumours$Tokens;", true)
  | 1 => ("TavernRumours$Plan", "code", "[I", true)
  | 2 => ("TavernRumours$Plan", "codeLength", "I", false)
  | 3 => ("TavernRumours$Plan", "taverns", "I", false)
  | 4 => ("TavernRumours$Plan", "roads", "I", false)
  | 5 => ("TavernRumours$Plan", "rumours", "I", false)
  | 6 => ("TavernRumours$Plan", "orders", "I", false)
  | 7 => ("TavernRumours$Plan", "from", "[I", true)
  | 8 => ("TavernRumours$Plan", "to", "[I", true)
  | 9 => ("TavernRumours$Plan", "miles", "[I", true)
  | 10 => ("TavernRumours$Plan", "beginsAt", "[I", true)
  | 11 => ("TavernRumours$Plan", "beginsOn", "[I", true)
  | 12 => ("TavernRumours$Plan", "orderToken", "[I", true)
  | 13 => ("TavernRumours$Plan", "sumFrom", "[I", true)
  | 14 => ("TavernRumours$Plan", "testFrom", "[I", true)
  | _ => ("TavernRumours$Plan", "testEnd", "[I", true)
def uT6 : u_T := fun k => match k with
  | 0 => ("TavernRumours$Reckoner", "stack", "[I", true)
  | _ => ("TavernRumours$Reckoner", "height", "I", false)
def uT7 : u_T := fun k => match k with
  | 0 => ("TavernRumours$Roads", "taverns", "I", false)
  | 1 => ("TavernRumours$Roads", "count", "I", false)
  | 2 => ("TavernRumours$Roads", "from", "[I", true)
  | 3 => ("TavernRumours$Roads", "to", "[I", true)
  | 4 => ("TavernRumours$Roads", "miles", "[I", true)
  | 5 => ("TavernRumours$Roads", "wounds", "[I", true)
  | 6 => ("TavernRumours$Roads", "length", "[I", true)
  | 7 => ("TavernRumours$Roads", "rows", "[[I", true)
  | 8 => ("TavernRumours$Roads", "rowIsFresh", "[Z", true)
  | 9 => ("TavernRumours$Roads", "rowAround", "[I", true)
  | 10 => ("TavernRumours$Roads", "netWithout", "I", false)
  | 11 => ("TavernRumours$Roads", "netRoads", "I", false)
  | 12 => ("TavernRumours$Roads", "netLength", "I", false)
  | 13 => ("TavernRumours$Roads", "inNet", "[Z", true)
  | 14 => ("TavernRumours$Roads", "inNetBefore", "[Z", true)
  | 15 => ("TavernRumours$Roads", "shortestFirst", "[I", true)
  | _ => ("TavernRumours$Roads", "group", "[I", true)
def uT8 : u_T := fun k => match k with
  | 0 => ("TavernRumours$Tokens", "kinds", "[LTavernRumours$Kind;", true)
  | 1 => ("TavernRumours$Tokens", "places", "[I", true)
  | 2 => ("TavernRumours$Tokens", "values", "[I", true)
  | 3 => ("TavernRumours$Tokens", "spellings", "[J", true)
  | _ => ("TavernRumours$Tokens", "count", "I", false)
def uT9 : u_T := fun k => match k with
  | 0 => ("TavernRumours", "tape", "[B", true)
  | 1 => ("TavernRumours", "tapeLength", "I", false)
  | 2 => ("TavernRumours", "errorPlace", "I", false)
  | 3 => ("TavernRumours", "told", "LTavernRumours$Plan;", false)
  | 4 => ("TavernRumours", "draft", "LTavernRumours$Plan;", false)
  | 5 => ("TavernRumours", "grammar", "LTavernRumours$Grammar;", true)
  | 6 => ("TavernRumours", "names", "LTavernRumours$Names;", true)
  | 7 => ("TavernRumours", "land", "LTavernRumours$Land;", true)
  | _ => ("TavernRumours", "trial", "LTavernRumours$Land;", true)
def uT10 : u_T := fun k => match k with
  | 0 => ("TavernRumoursModel$Sheet", "kind", "[I", true)
  | 1 => ("TavernRumoursModel$Sheet", "from", "[I", true)
  | 2 => ("TavernRumoursModel$Sheet", "many", "[I", true)
  | 3 => ("TavernRumoursModel$Sheet", "means", "[I", true)
  | 4 => ("TavernRumoursModel$Sheet", "has", "[I", true)
  | 5 => ("TavernRumoursModel$Sheet", "names", "[I", true)
  | 6 => ("TavernRumoursModel$Sheet", "comes", "[I", true)
  | 7 => ("TavernRumoursModel$Sheet", "leads", "[I", true)
  | 8 => ("TavernRumoursModel$Sheet", "miles", "[I", true)
  | 9 => ("TavernRumoursModel$Sheet", "at", "[I", true)
  | 10 => ("TavernRumoursModel$Sheet", "on", "[I", true)
  | 11 => ("TavernRumoursModel$Sheet", "orders", "I", false)
  | 12 => ("TavernRumoursModel$Sheet", "does", "[I", true)
  | 13 => ("TavernRumoursModel$Sheet", "whom", "[I", true)
  | 14 => ("TavernRumoursModel$Sheet", "sum", "[I", true)
  | _ => ("TavernRumoursModel$Sheet", "when", "[I", true)
def uT11 : u_T := fun k => match k with
  | 0 => ("TavernRumoursModel$State", "hour", "I", false)
  | 1 => ("TavernRumoursModel$State", "carried", "I", false)
  | 2 => ("TavernRumoursModel$State", "lost", "I", false)
  | 3 => ("TavernRumoursModel$State", "heardAll", "I", false)
  | 4 => ("TavernRumoursModel$State", "miles", "[I", true)
  | 5 => ("TavernRumoursModel$State", "wounds", "[I", true)
  | 6 => ("TavernRumoursModel$State", "since", "[I", true)
  | 7 => ("TavernRumoursModel$State", "sent", "[I", true)
  | 8 => ("TavernRumoursModel$State", "hushed", "[I", true)
  | 9 => ("TavernRumoursModel$State", "travellers", "I", false)
  | 10 => ("TavernRumoursModel$State", "rumour", "[I", true)
  | 11 => ("TavernRumoursModel$State", "road", "[I", true)
  | 12 => ("TavernRumoursModel$State", "goal", "[I", true)
  | _ => ("TavernRumoursModel$State", "gone", "[I", true)
def uT12 : u_T := fun k => match k with
  | 0 => ("TavernRumoursModel", "thrown", "I", false)
  | 1 => ("TavernRumoursModel", "tape", "[I", true)
  | 2 => ("TavernRumoursModel", "size", "I", false)
  | 3 => ("TavernRumoursModel", "errorAt", "I", false)
  | 4 => ("TavernRumoursModel", "token", "I", false)
  | 5 => ("TavernRumoursModel", "depth", "I", false)
  | 6 => ("TavernRumoursModel", "sheet", "LTavernRumoursModel$Sheet;", false)
  | 7 => ("TavernRumoursModel", "s", "LTavernRumoursModel$State;", true)
  | 8 => ("TavernRumoursModel", "ahead", "LTavernRumoursModel$State;", true)
  | 9 => ("TavernRumoursModel", "walk", "I", false)
  | 10 => ("TavernRumoursModel", "on", "LTavernRumoursModel$State;", false)
  | 11 => ("TavernRumoursModel", "ways", "[I", true)
  | 12 => ("TavernRumoursModel", "parts", "[I", true)
  | 13 => ("TavernRumoursModel", "joined", "[I", true)
  | 14 => ("TavernRumoursModel", "isNet", "[Z", true)
  | 15 => ("TavernRumoursModel", "wasNet", "[Z", true)
  | 16 => ("TavernRumoursModel", "isLooked", "[Z", true)
  | _ => ("TavernRumoursModel", "but", "I", false)
def clsT : List vw_C := [("TavernRumours$Grammar", uT0, 0), ("TavernRumours$Grammar", uT1, 3), ("TavernRumours$Grammar", uT2, 0), ("TavernRumours$Land", uT3, 14), ("TavernRumours$Names", uT4, 6), ("TavernRumours$Plan", uT5, 16), ("TavernRumours$Reckoner", uT6, 2), ("TavernRumours$Roads", uT7, 17), ("TavernRumours$Tokens", uT8, 5), ("TavernRumours", uT9, 9), ("TavernRumoursModel$Sheet", uT10, 16), ("TavernRumoursModel$State", uT11, 14), ("TavernRumoursModel", uT12, 18)]
/-- kinds of fields: 0 int, 1 long, 2 a reference -/
def CF : Nat → List Nat
  | 0 => []
  | 1 => [2, 0, 2]
  | 2 => []
  | 3 => [2, 2, 2, 0, 0, 0, 2, 2, 2, 0, 2, 2, 2, 2]
  | 4 => [2, 2, 0, 2, 0, 0]
  | 5 => [2, 2, 0, 0, 0, 0, 0, 2, 2, 2, 2, 2, 2, 2, 2, 2]
  | 6 => [2, 0]
  | 7 => [0, 0, 2, 2, 2, 2, 2, 2, 2, 2, 0, 0, 0, 2, 2, 2, 2]
  | 8 => [2, 2, 2, 2, 0]
  | 9 => [2, 0, 0, 2, 2, 2, 2, 2, 2]
  | 10 => [2, 2, 2, 2, 2, 2, 2, 2, 2, 2, 2, 0, 2, 2, 2, 2]
  | 11 => [0, 0, 0, 0, 2, 2, 2, 2, 2, 0, 2, 2, 2, 2]
  | 12 => [0, 2, 0, 0, 0, 0, 2, 2, 2, 0, 2, 2, 2, 2, 2, 2, 2, 0]
  | _ => []
def FS : Nat → String × String × String
  | 50 => ("TavernRumours$Kind", "text", "Ljava/lang/String;")
  | 51 => ("TavernRumours$Kind", "operands", "I")
  | 52 => ("java/lang/Enum", "ordinal", "I")
  | 53 => ("java/lang/String", "value", "[B")
  | 54 => ("java/lang/String", "coder", "B")
  | _ => ("", "", "")
def ZS : List (String × String × String × MV) := [("TavernRumours$Kind", "TAVERN", "LTavernRumours$Kind;", qS 0), ("TavernRumours$Kind", "ROAD", "LTavernRumours$Kind;", qS 1), ("TavernRumours$Kind", "FROM", "LTavernRumours$Kind;", qS 2), ("TavernRumours$Kind", "TO", "LTavernRumours$Kind;", qS 3), ("TavernRumours$Kind", "MILES", "LTavernRumours$Kind;", qS 4), ("TavernRumours$Kind", "RUMOUR", "LTavernRumours$Kind;", qS 5), ("TavernRumours$Kind", "AT", "LTavernRumours$Kind;", qS 6), ("TavernRumours$Kind", "ON", "LTavernRumours$Kind;", qS 7), ("TavernRumours$Kind", "HURT", "LTavernRumours$Kind;", qS 8), ("TavernRumours$Kind", "BY", "LTavernRumours$Kind;", qS 9), ("TavernRumours$Kind", "MEND", "LTavernRumours$Kind;", qS 10), ("TavernRumours$Kind", "HUSH", "LTavernRumours$Kind;", qS 11), ("TavernRumours$Kind", "WHEN", "LTavernRumours$Kind;", qS 12), ("TavernRumours$Kind", "HOUR", "LTavernRumours$Kind;", qS 13), ("TavernRumours$Kind", "LENGTH", "LTavernRumours$Kind;", qS 14), ("TavernRumours$Kind", "WOUNDS", "LTavernRumours$Kind;", qS 15), ("TavernRumours$Kind", "FAR", "LTavernRumours$Kind;", qS 16), ("TavernRumours$Kind", "HEARD", "LTavernRumours$Kind;", qS 17), ("TavernRumours$Kind", "OPEN", "LTavernRumours$Kind;", qS 18), ("TavernRumours$Kind", "KNOWS", "LTavernRumours$Kind;", qS 19), ("TavernRumours$Kind", "PARTED", "LTavernRumours$Kind;", qS 20), ("TavernRumours$Kind", "NOT", "LTavernRumours$Kind;", qS 21), ("TavernRumours$Kind", "AND", "LTavernRumours$Kind;", qS 22), ("TavernRumours$Kind", "OR", "LTavernRumours$Kind;", qS 23), ("TavernRumours$Kind", "MIN", "LTavernRumours$Kind;", qS 24), ("TavernRumours$Kind", "MAX", "LTavernRumours$Kind;", qS 25), ("TavernRumours$Kind", "ROUND_OPENING", "LTavernRumours$Kind;", qS 26), ("TavernRumours$Kind", "ROUND_CLOSING", "LTavernRumours$Kind;", qS 27), ("TavernRumours$Kind", "SQUARE_OPENING", "LTavernRumours$Kind;", qS 28), ("TavernRumours$Kind", "SQUARE_CLOSING", "LTavernRumours$Kind;", qS 29), ("TavernRumours$Kind", "SEMICOLON", "LTavernRumours$Kind;", qS 30), ("TavernRumours$Kind", "COMMA", "LTavernRumours$Kind;", qS 31), ("TavernRumours$Kind", "PLUS", "LTavernRumours$Kind;", qS 32), ("TavernRumours$Kind", "MINUS", "LTavernRumours$Kind;", qS 33), ("TavernRumours$Kind", "TIMES", "LTavernRumours$Kind;", qS 34), ("TavernRumours$Kind", "OVER", "LTavernRumours$Kind;", qS 35), ("TavernRumours$Kind", "LESS", "LTavernRumours$Kind;", qS 36), ("TavernRumours$Kind", "GREATER", "LTavernRumours$Kind;", qS 37), ("TavernRumours$Kind", "EQUAL", "LTavernRumours$Kind;", qS 38), ("TavernRumours$Kind", "AT_MOST", "LTavernRumours$Kind;", qS 39), ("TavernRumours$Kind", "AT_LEAST", "LTavernRumours$Kind;", qS 40), ("TavernRumours$Kind", "NEGATE", "LTavernRumours$Kind;", qS 41), ("TavernRumours$Kind", "NAME", "LTavernRumours$Kind;", qS 42), ("TavernRumours$Kind", "NUMBER", "LTavernRumours$Kind;", qS 43), ("TavernRumours$Kind", "WRONG", "LTavernRumours$Kind;", qS 44), ("TavernRumours$Kind", "END", "LTavernRumours$Kind;", qS 45), ("TavernRumours$Kind", "ALL", "[LTavernRumours$Kind;", qS 300), ("TavernRumoursModel", "WORDS", "[Ljava/lang/String;", qS 301), ("TavernRumours$Names", "LIMITS", "[I", qS 302), ("TavernRumours$1", "$SwitchMap$TavernRumours$Kind", "[I", qS 303), ("java/lang/String", "COMPACT_STRINGS", "Z", qI 1)]
def strT : List String := ["tavern", "road", "from", "to", "miles", "rumour", "at", "on", "hurt", "by", "mend", "hush", "when", "hour", "length", "wounds", "far", "heard", "open", "knows", "parted", "not", "and", "or", "min", "max", "(", ")", "[", "]", ";", ",", "+", "-", "*", "/", "<", ">", "=", "<=", ">=", "", "()[];,+-*/<>="]
def excT : List String := ["java/lang/IllegalStateException", "java/lang/IllegalArgumentException", "java/lang/IndexOutOfBoundsException"]
def LFd : Nat → List (Nat × Nat × Nat × Nat)
  | 1 => [(9, 1, 1, 273), (21, 1, 2, 275), (24, 1, 0, 272), (28, 5, 0, 192), (51, 8, 4, 176), (54, 8, 0, 170), (101, 5, 2, 198)]
  | 3 => [(12, 3, 0, 399), (21, 3, 1, 402), (25, 3, 3, 405), (29, 3, 4, 408), (32, 3, 5, 409), (35, 3, 6, 410), (39, 3, 7, 411), (43, 3, 8, 412), (46, 3, 9, 413), (49, 3, 10, 414), (52, 3, 11, 415), (55, 3, 12, 416), (58, 3, 13, 417), (61, 3, 2, 403), (90, 5, 5, 208), (85, 5, 3, 202), (135, 5, 6, 212), (138, 5, 14, 229), (141, 5, 15, 231), (148, 5, 13, 227), (194, 5, 11, 224), (197, 5, 10, 221), (203, 7, 6, 339), (209, 7, 1, 327)]
  | 4 => [(13, 4, 0, 291), (16, 4, 1, 292), (20, 4, 2, 293), (24, 4, 4, 295), (27, 4, 5, 296), (30, 4, 3, 294), (40, 5, 0, 194), (46, 8, 4, 175), (55, 5, 3, 201)]
  | 5 => [(12, 5, 0, 191), (18, 5, 1, 196), (22, 5, 2, 197), (26, 5, 3, 199), (29, 5, 4, 204), (32, 5, 5, 207), (35, 5, 6, 210), (38, 5, 7, 213), (41, 5, 8, 215), (44, 5, 9, 217), (47, 5, 10, 219), (50, 5, 11, 222), (53, 5, 12, 225), (56, 5, 13, 226), (59, 5, 14, 228), (62, 5, 15, 230)]
  | 6 => [(9, 6, 0, 392), (15, 6, 1, 393), (31, 5, 0, 193), (90, 3, 3, 406), (93, 3, 0, 400)]
  | 7 => [(9, 7, 0, 325), (15, 7, 1, 326), (18, 7, 2, 329), (22, 7, 3, 331), (25, 7, 4, 333), (28, 7, 5, 335), (31, 7, 6, 337), (36, 7, 7, 340), (39, 7, 8, 341), (43, 7, 9, 342), (46, 7, 10, 343), (49, 7, 11, 344), (52, 7, 12, 345), (55, 7, 13, 346), (58, 7, 14, 347), (61, 7, 15, 348), (64, 7, 16, 349), (67, 5, 3, 200), (70, 5, 4, 205), (73, 5, 7, 214), (80, 5, 8, 216), (81, 5, 9, 218)]
  | 8 => [(11, 8, 0, 169), (17, 8, 1, 171), (21, 8, 2, 172), (24, 8, 3, 173), (28, 8, 4, 174)]
  | 9 => [(9, 9, 0, 447), (13, 9, 1, 448), (17, 9, 2, 449), (23, 9, 3, 450), (27, 9, 4, 451), (35, 9, 5, 452), (42, 9, 6, 453), (49, 9, 7, 454), (53, 9, 8, 455), (75, 5, 0, 195), (89, 1, 1, 274), (100, 4, 5, 297), (114, 3, 3, 407), (117, 5, 3, 203), (120, 5, 4, 206), (123, 5, 5, 209), (126, 5, 6, 211), (142, 3, 0, 401), (167, 7, 2, 330), (171, 7, 3, 332), (174, 7, 4, 334), (177, 7, 5, 336), (180, 7, 6, 338), (203, 5, 10, 220), (206, 5, 11, 223), (276, 7, 1, 328)]
  | 10 => [(9, 10, 0, 1381), (15, 10, 1, 1383), (18, 10, 2, 1385), (21, 10, 3, 1387), (24, 10, 4, 1389), (27, 10, 5, 1391), (30, 10, 6, 1393), (33, 10, 7, 1395), (36, 10, 8, 1397), (39, 10, 9, 1399), (42, 10, 10, 1401), (45, 10, 12, 1404), (48, 10, 13, 1406), (51, 10, 14, 1408), (54, 10, 15, 1410)]
  | 11 => [(9, 11, 4, 1459), (15, 11, 5, 1461), (18, 11, 6, 1463), (21, 11, 7, 1465), (24, 11, 8, 1467), (27, 11, 10, 1471), (30, 11, 11, 1473), (33, 11, 12, 1475), (36, 11, 13, 1477), (45, 11, 0, 1451), (49, 11, 1, 1453), (52, 11, 2, 1455), (55, 11, 3, 1457), (58, 11, 9, 1469)]
  | 12 => [(9, 12, 1, 1512), (13, 12, 3, 1514), (20, 12, 6, 1517), (27, 12, 7, 1518), (31, 12, 8, 1519), (34, 12, 10, 1521), (37, 12, 11, 1522), (40, 12, 12, 1523), (43, 12, 13, 1524), (46, 12, 14, 1525), (50, 12, 15, 1526), (53, 12, 16, 1527), (56, 12, 17, 1528), (66, 12, 0, 1511), (76, 12, 2, 1513), (128, 12, 4, 1515), (131, 12, 5, 1516), (253, 12, 9, 1520)]
  | _ => []
def LNe : Nat → List (Nat × Nat × Nat × Nat)
  | 6 => [(19, 3, 2, 404)]
  | 12 => [(59, 11, 6, 1464), (69, 10, 4, 1390), (113, 10, 1, 1384), (116, 10, 2, 1386), (122, 10, 0, 1382), (176, 10, 5, 1392), (199, 10, 3, 1388), (202, 10, 6, 1394), (205, 10, 7, 1396), (208, 10, 9, 1400), (211, 10, 13, 1407), (214, 10, 11, 1403), (220, 10, 8, 1398), (223, 10, 10, 1402), (225, 10, 12, 1405), (237, 10, 14, 1409), (240, 10, 15, 1411), (291, 11, 0, 1452), (296, 11, 5, 1462), (338, 11, 8, 1468), (350, 11, 9, 1470), (353, 11, 11, 1474), (360, 11, 2, 1456), (363, 11, 13, 1478), (366, 11, 12, 1476), (369, 11, 10, 1472), (375, 11, 7, 1466), (378, 11, 1, 1454), (410, 11, 3, 1458), (413, 11, 4, 1460)]
  | _ => []
def LSt : Nat → List (Nat × Nat × Nat)
  | 6 => [(41, 51, 2056)]
  | 8 => [(83, 50, 2052)]
  | 14 => [(9, 53, 2053), (15, 54, 2054)]
  | 18 => [(7, 52, 2055)]
  | _ => []
def LZt : Nat → List (Nat × Nat × Nat)
  | 1 => [(15, 45, 271), (44, 30, 703), (58, 49, 587), (68, 0, 595), (71, 42, 601), (74, 1, 602), (77, 2, 604), (80, 3, 606), (83, 4, 608), (86, 43, 610), (89, 5, 611), (92, 6, 613), (95, 7, 615), (104, 8, 621), (107, 9, 623), (114, 10, 693), (117, 11, 695), (120, 12, 697), (138, 23, 649), (141, 22, 651), (144, 36, 653), (147, 37, 655), (150, 38, 657), (153, 39, 659), (156, 40, 661), (159, 32, 663), (162, 33, 665), (165, 34, 667), (168, 35, 669), (177, 28, 637), (180, 29, 639), (183, 21, 641), (186, 18, 643), (189, 26, 679), (192, 27, 681), (195, 41, 683), (202, 16, 689), (205, 31, 691)]
  | 3 => [(157, 49, 1303)]
  | 4 => [(58, 49, 720), (112, 48, 740)]
  | 6 => [(58, 41, 1277), (66, 49, 1266)]
  | 8 => [(32, 45, 167), (53, 44, 502), (56, 43, 562), (62, 42, 504)]
  | 12 => [(101, 47, 1619)]
  | 14 => [(38, 50, 519), (1053, 99, 538)]
  | _ => []
def LZn : Nat → List (Nat × Nat × Nat)
  | 8 => [(80, 46, 509)]
  | _ => []
def LMt : Nat → List (Nat × Nat × Nat × Nat × Nat)
  | 1 => [(34, 88, 0, 2, 575), (40, 3, 0, 1, 583), (47, 2, 0, 2, 597), (64, 283, 5, 1, 589), (98, 4, 0, 1, 617), (110, 5, 0, 3, 625), (123, 48, 0, 4, 699), (127, 7, 0, 3, 629), (130, 6, 0, 2, 645), (134, 44, 0, 2, 671), (171, 8, 0, 2, 633), (174, 9, 0, 2, 675), (198, 93, 0, 3, 685)]
  | 3 => [(11, 58, 3, 1, 319), (20, 51, 3, 1, 388), (65, 59, 0, 2, 782), (69, 282, 1, 2, 797), (75, 60, 0, 2, 810), (93, 284, 0, 3, 904), (97, 14, 0, 3, 900), (100, 17, 0, 2, 896), (104, 66, 0, 1, 874), (108, 78, 0, 2, 875), (111, 81, 0, 1, 891), (114, 18, 0, 1, 892), (117, 80, 0, 1, 908), (120, 23, 0, 1, 1246), (123, 25, 0, 1, 1314), (126, 27, 0, 1, 1323), (129, 28, 0, 1, 1328), (132, 29, 0, 1, 1332), (144, 52, 0, 4, 1250), (151, 24, 0, 3, 1294), (154, 50, 0, 2, 1298), (162, 49, 0, 2, 1304), (166, 283, 5, 1, 1309), (180, 63, 0, 3, 1312), (183, 64, 0, 2, 1313), (187, 65, 0, 2, 1318), (190, 26, 0, 3, 1319), (200, 15, 0, 3, 1327), (206, 30, 0, 3, 1336), (212, 68, 0, 3, 1340), (215, 69, 0, 3, 1341)]
  | 4 => [(34, 282, 1, 2, 713), (51, 33, 0, 2, 716), (63, 88, 0, 2, 721), (67, 283, 5, 1, 722), (73, 38, 0, 3, 723), (77, 34, 0, 2, 742), (80, 35, 0, 2, 766), (83, 36, 0, 2, 774), (86, 39, 0, 3, 746), (90, 37, 0, 3, 736), (93, 41, 0, 4, 754), (97, 46, 0, 4, 762), (101, 47, 0, 3, 770), (104, 91, 0, 2, 727), (108, 40, 0, 3, 732), (115, 92, 0, 3, 750), (118, 90, 0, 2, 758)]
  | 5 => [(11, 86, 2, 1, 161), (65, 88, 0, 2, 1308), (69, 90, 0, 2, 1302)]
  | 6 => [(25, 45, 0, 2, 1254), (35, 88, 0, 2, 1258), (46, 54, 0, 1, 1259), (50, 55, 1, 3, 1263), (54, 53, 0, 2, 1273), (62, 57, 1, 3, 1278), (71, 283, 5, 1, 1267), (83, 56, 1, 3, 1270), (87, 90, 0, 2, 1281), (97, 286, 0, 2, 1282), (102, 287, 0, 2, 1286), (105, 16, 0, 2, 1290), (108, 71, 0, 3, 1291), (111, 65, 0, 2, 1292), (115, 14, 0, 3, 1293)]
  | 7 => [(82, 61, 0, 4, 789), (86, 62, 0, 1, 793), (89, 285, 0, 2, 819), (99, 65, 0, 2, 835), (102, 68, 0, 3, 921), (106, 72, 0, 4, 887), (110, 71, 0, 3, 930), (116, 69, 0, 3, 1172), (119, 76, 0, 2, 883), (123, 77, 0, 2, 879), (126, 83, 0, 2, 827), (130, 79, 0, 2, 968), (133, 85, 0, 2, 831), (136, 84, 0, 3, 839)]
  | 8 => [(36, 87, 0, 2, 579), (42, 95, 1, 3, 487), (46, 96, 1, 3, 490), (49, 97, 1, 3, 499), (59, 100, 1, 3, 564), (65, 101, 1, 3, 567), (69, 102, 1, 1, 493), (73, 103, 1, 1, 496), (76, 98, 1, 4, 506), (87, 270, 0, 1, 511), (93, 99, 1, 3, 521), (97, 271, 0, 2, 524)]
  | 9 => [(22, 42, 3, 1, 155), (32, 0, 2, 2, 267), (41, 31, 2, 2, 285), (48, 10, 2, 2, 313), (63, 106, 0, 2, 1056), (72, 43, 0, 1, 479), (79, 94, 0, 3, 483), (85, 1, 0, 2, 571), (92, 89, 0, 2, 705), (96, 32, 0, 2, 709), (103, 11, 0, 2, 778), (111, 111, 0, 2, 866), (129, 21, 0, 2, 870), (132, 119, 0, 2, 1115), (138, 113, 0, 3, 913), (145, 70, 0, 2, 917), (150, 17, 0, 2, 925), (153, 73, 0, 2, 926), (156, 74, 0, 2, 934), (159, 120, 0, 2, 1127), (164, 115, 0, 3, 949), (183, 65, 0, 2, 953), (186, 77, 0, 2, 954), (189, 79, 0, 2, 955), (192, 19, 0, 2, 959), (195, 121, 0, 2, 1139), (200, 117, 0, 3, 969), (209, 16, 0, 2, 973), (212, 20, 0, 2, 977), (217, 13, 0, 3, 941), (222, 71, 0, 3, 1160), (225, 75, 0, 3, 1168), (230, 76, 0, 2, 963), (233, 82, 0, 2, 964), (238, 63, 0, 3, 1199), (242, 64, 0, 2, 815), (247, 15, 0, 3, 1221), (254, 61, 0, 4, 847), (260, 22, 0, 2, 1242), (265, 12, 0, 2, 806), (269, 134, 0, 4, 1364), (273, 14, 0, 3, 1368), (279, 81, 0, 1, 823), (283, 80, 0, 1, 843), (286, 66, 0, 1, 852), (289, 67, 0, 1, 856), (296, 138, 0, 2, 909), (300, 139, 0, 2, 945)]
  | 11 => [(61, 142, 1, 2, 2024), (65, 146, 0, 3, 1939)]
  | 12 => [(19, 140, 3, 1, 1377), (26, 141, 3, 1, 1447), (62, 219, 1, 2, 1508), (72, 152, 1, 3, 1582), (79, 156, 0, 2, 1597), (83, 154, 1, 1, 1605), (87, 155, 1, 1, 1608), (90, 159, 0, 3, 1615), (96, 272, 0, 2, 1624), (105, 270, 0, 1, 1621), (109, 271, 0, 2, 1622), (119, 157, 0, 2, 1601), (125, 158, 0, 3, 1611), (134, 168, 0, 2, 1683), (138, 161, 0, 3, 1691), (142, 169, 0, 2, 1723), (145, 166, 0, 3, 1687), (148, 165, 0, 3, 1695), (151, 172, 0, 2, 1699), (154, 167, 0, 2, 1719), (157, 162, 0, 4, 1715), (161, 170, 0, 2, 1727), (164, 171, 0, 2, 1731), (167, 163, 0, 3, 1711), (170, 173, 0, 2, 1703), (173, 174, 0, 2, 1707), (179, 176, 0, 4, 1754), (182, 177, 0, 4, 1750), (186, 178, 1, 1, 1758), (189, 179, 1, 1, 1743), (192, 180, 0, 4, 1746), (195, 181, 1, 2, 1761), (217, 175, 0, 3, 1768), (228, 182, 0, 3, 1739), (231, 183, 0, 3, 1764), (234, 184, 0, 3, 1772), (243, 160, 0, 2, 1593), (247, 164, 0, 2, 1679), (250, 185, 0, 3, 1735), (256, 189, 0, 1, 1964), (260, 187, 0, 2, 1972), (263, 191, 0, 1, 1968), (266, 188, 0, 1, 1960), (269, 190, 0, 1, 1976), (272, 144, 0, 2, 1796), (275, 146, 0, 3, 1841), (279, 198, 0, 4, 1812), (283, 192, 0, 1, 1980), (285, 193, 0, 1, 1984), (288, 194, 0, 1, 1988), (294, 145, 0, 2, 1824), (299, 205, 0, 3, 1837), (311, 195, 0, 3, 1820), (315, 197, 0, 4, 1828), (318, 196, 0, 3, 1816), (322, 200, 0, 2, 1849), (326, 202, 0, 3, 1808), (329, 201, 0, 2, 1845), (341, 207, 0, 3, 1927), (344, 208, 0, 3, 1992), (346, 206, 0, 4, 1919), (356, 148, 0, 3, 2000), (372, 147, 0, 3, 1935), (381, 209, 0, 3, 1956), (384, 210, 0, 2, 1996), (388, 211, 0, 2, 2004), (391, 212, 0, 4, 2008), (395, 213, 0, 2, 1952), (398, 203, 0, 3, 1804), (401, 215, 0, 3, 1800), (404, 199, 0, 2, 1832), (407, 151, 0, 2, 1574), (414, 142, 4, 2, 1780), (418, 186, 0, 2, 1589), (422, 220, 0, 1, 1776), (425, 216, 0, 3, 1792), (428, 153, 0, 3, 1857), (431, 224, 0, 3, 1861), (434, 226, 0, 2, 1874), (437, 227, 0, 3, 1870), (440, 229, 0, 3, 1882), (443, 233, 0, 3, 1898), (446, 204, 0, 3, 1910), (449, 214, 0, 3, 1948), (452, 143, 0, 2, 2020), (455, 242, 0, 2, 2016), (458, 245, 0, 3, 2033)]
  | 13 => [(7, 105, 0, 6, 985), (15, 107, 0, 2, 1064), (21, 110, 0, 2, 1088), (26, 112, 0, 3, 1111), (30, 114, 0, 3, 1123), (33, 116, 0, 3, 1135), (36, 118, 0, 3, 1147), (39, 122, 0, 3, 1155), (42, 123, 0, 3, 1164), (45, 124, 0, 2, 1179), (48, 125, 0, 2, 1187), (51, 126, 0, 3, 1194), (54, 127, 0, 2, 1209), (57, 128, 0, 3, 1217), (60, 129, 0, 3, 1229), (63, 130, 0, 2, 1237), (66, 131, 0, 2, 1345), (69, 132, 0, 3, 1353), (72, 133, 0, 3, 1360), (75, 104, 2, 1, 147), (78, 149, 2, 1, 1371), (79, 250, 6, 7, 981), (84, 217, 0, 6, 1570), (85, 150, 0, 1, 1566), (89, 251, 6, 3, 1060), (92, 218, 0, 2, 1578), (93, 108, 0, 1, 475), (96, 221, 0, 1, 1585), (97, 109, 0, 1, 798), (100, 222, 0, 1, 1784), (101, 252, 6, 3, 1084), (103, 223, 0, 2, 1788), (104, 253, 6, 4, 1108), (107, 225, 0, 3, 1853), (108, 254, 6, 4, 1120), (110, 228, 0, 3, 1866), (111, 255, 6, 4, 1132), (113, 230, 0, 3, 1878), (114, 256, 6, 4, 1144), (116, 231, 0, 3, 1886), (117, 257, 6, 4, 1152), (119, 232, 0, 3, 1890), (120, 258, 6, 4, 1161), (122, 234, 0, 3, 1894), (123, 259, 6, 3, 1176), (125, 235, 0, 2, 1902), (126, 260, 6, 3, 1184), (128, 236, 0, 2, 1906), (129, 261, 6, 4, 1191), (131, 237, 0, 3, 1915), (132, 262, 6, 3, 1206), (134, 238, 0, 2, 1923), (135, 263, 6, 4, 1214), (137, 239, 0, 3, 1931), (138, 264, 6, 4, 1226), (140, 240, 0, 3, 1940), (141, 265, 6, 3, 1234), (143, 241, 0, 2, 1944), (144, 266, 6, 3, 1342), (146, 243, 0, 2, 2012), (147, 267, 6, 4, 1350), (149, 244, 0, 3, 2025), (150, 268, 6, 4, 1357), (152, 246, 0, 3, 2029), (153, 135, 0, 1, 802), (156, 247, 0, 1, 2037), (157, 136, 0, 1, 848), (161, 248, 0, 1, 2041), (162, 137, 0, 1, 860), (166, 249, 0, 1, 2045)]
  | 14 => [(335, 274, 0, 1, 515), (492, 275, 0, 1, 528), (495, 277, 1, 2, 532), (633, 273, 0, 3, 1628), (505, 270, 0, 1, 1632), (637, 279, 1, 4, 1633), (1059, 281, 1, 3, 540)]
  | 15 => [(9, 276, 1, 2, 535), (88, 278, 1, 1, 1636), (95, 280, 1, 4, 1641)]
  | _ => []
def LCl : Nat → List (Nat × Nat × Nat)
  | 3 => [(9, 7, 317), (18, 6, 386)]
  | 4 => [(11, 101, 289)]
  | 5 => [(9, 8, 159)]
  | 7 => [(34, 100, 323)]
  | 8 => [(9, 99, 165)]
  | 9 => [(20, 5, 153), (30, 1, 265), (39, 4, 283), (46, 3, 311)]
  | 12 => [(17, 10, 1375), (24, 11, 1445)]
  | 13 => [(8, 9, 145), (76, 12, 1369)]
  | _ => []
def LJg : Nat → List (Nat × Int × Nat)
  | 8 => [(40, -1, 731), (101, 37, 570)]
  | 9 => [(292, 1697, 864), (294, 31, 865)]
  | 12 => [(461, 1697, 2049), (463, 31, 2050)]
  | _ => []
def LPr : Nat → List (Nat × Nat × Nat)
  | 1 => [(3, 5, 270)]
  | 3 => [(3, 5, 316), (79, 0, 814), (171, 2, 1310), (177, 1, 1311)]
  | 4 => [(3, 5, 288)]
  | 5 => [(3, 5, 158)]
  | 6 => [(3, 5, 391), (74, 2, 1268), (80, 1, 1269)]
  | 7 => [(3, 5, 322), (74, 0, 786), (93, 2, 1203), (113, 1, 938)]
  | 8 => [(3, 5, 164)]
  | 9 => [(3, 5, 150)]
  | 10 => [(3, 5, 1380)]
  | 11 => [(3, 5, 1450), (39, 0, 1783)]
  | 12 => [(3, 5, 1374), (303, 2, 1836), (308, 1, 1865), (332, 0, 1914)]
  | 15 => [(92, 1, 1639), (38, 2, 1640)]
  | _ => []
def LXc : Nat → List (Nat × Nat × Nat × Nat × Nat × String)
  | 9 => [(56, 58, 60, 0, 0, "the tape would be too long"), (67, 69, 71, 1, 0, "the tape has not so many bytes"), (106, 108, 110, 2, 0, "no such count"), (106, 136, 110, 2, 0, "no such tavern, or nothing to tell of it"), (106, 162, 110, 2, 0, "no such road, or nothing to tell of it"), (106, 198, 110, 2, 0, "no such rumour, or nothing to tell of it"), (106, 215, 110, 2, 0, "no such tavern or rumour"), (106, 220, 110, 2, 0, "no such tavern"), (106, 228, 110, 2, 0, "no such road"), (67, 236, 71, 1, 0, "not so many wounds at once"), (56, 245, 60, 0, 0, "the road has no wound"), (56, 250, 60, 0, 0, "the tavern knows the rumour"), (67, 252, 71, 1, 0, "no road has so many miles"), (67, 258, 71, 1, 1, "not so many hours at once"), (106, 263, 110, 2, 1, "no such rumour")]
  | _ => []
def LTx : Nat → List (Nat × Nat × String)
  | 12 => [(94, 42, "()[];,+-*/<>=")]
  | _ => []
def HN (o : Nat) : String := if o < 10 then "TavernRumours" else "TavernRumoursModel"
/-- name, bytes, class, locals, what it returns, static or not, places of its words: code, instance or static, selects, initialized; its handlers -/
abbrev MQ1 : Type := MethodName × ByteArray × Nat × Nat × Option FieldType × Bool × Nat × Nat × Nat × Nat × List (Nat × Nat × Nat × Nat)
def MT : List MQ1 := [
  (⟨"TavernRumours$Grammar", "<init>", "(LTavernRumours$Plan;)V"⟩, prog_3_method_1_code, 1, 2, none, false, 269, 268, 0, 122, []),
  (⟨"TavernRumours$Grammar", "reads", "(LTavernRumours$Plan;)Z"⟩, prog_3_method_2_code, 1, 4, (some .boolean), false, 574, 572, 573, 122, []),
  (⟨"TavernRumours$Grammar", "take", "(LTavernRumours$Kind;)Z"⟩, prog_3_method_3_code, 1, 3, (some .boolean), false, 600, 599, 2, 122, []),
  (⟨"TavernRumours$Grammar", "line", "()Z"⟩, prog_3_method_4_code, 1, 1, (some .boolean), false, 586, 585, 1, 122, []),
  (⟨"TavernRumours$Grammar", "order", "()Z"⟩, prog_3_method_5_code, 1, 5, (some .boolean), false, 620, 619, 3, 122, []),
  (⟨"TavernRumours$Grammar", "chain", "(II)Z"⟩, prog_3_method_6_code, 1, 6, (some .boolean), false, 628, 627, 4, 122, []),
  (⟨"TavernRumours$Grammar", "joinsAt", "(I)Z"⟩, prog_3_method_7_code, 1, 2, (some .boolean), false, 648, 647, 7, 122, []),
  (⟨"TavernRumours$Grammar", "part", "(II)Z"⟩, prog_3_method_8_code, 1, 3, (some .boolean), false, 632, 631, 5, 122, []),
  (⟨"TavernRumours$Grammar", "single", "(I)Z"⟩, prog_3_method_9_code, 1, 4, (some .boolean), false, 636, 635, 6, 122, []),
  (⟨"TavernRumours$Grammar", "value", "(I)Z"⟩, prog_3_method_10_code, 1, 4, (some .boolean), false, 678, 677, 8, 122, []),
  (⟨"TavernRumours$Land", "<init>", "(LTavernRumours$Plan;)V"⟩, prog_5_method_1_code, 3, 2, none, false, 315, 314, 0, 124, []),
  (⟨"TavernRumours$Land", "begin", "(LTavernRumours$Plan;)V"⟩, prog_5_method_2_code, 3, 3, none, false, 781, 779, 780, 124, []),
  (⟨"TavernRumours$Land", "copy", "(LTavernRumours$Land;)V"⟩, prog_5_method_3_code, 3, 3, none, false, 809, 807, 808, 124, []),
  (⟨"TavernRumours$Land", "hourOfHearing", "(II)I"⟩, prog_5_method_4_code, 3, 3, (some .int), false, 944, 942, 943, 124, []),
  (⟨"TavernRumours$Land", "knows", "(II)Z"⟩, prog_5_method_6_code, 3, 3, (some .boolean), false, 903, 901, 902, 124, []),
  (⟨"TavernRumours$Land", "hears", "(II)Z"⟩, prog_5_method_7_code, 3, 4, (some .boolean), false, 1224, 1222, 1223, 124, []),
  (⟨"TavernRumours$Land", "knowersOf", "(I)I"⟩, prog_5_method_8_code, 3, 5, (some .int), false, 976, 974, 975, 124, []),
  (⟨"TavernRumours$Land", "knownBy", "(I)I"⟩, prog_5_method_9_code, 3, 4, (some .int), false, 899, 897, 898, 124, []),
  (⟨"TavernRumours$Land", "knownByAll", "()I"⟩, prog_5_method_10_code, 3, 3, (some .int), false, 895, 894, 25, 124, []),
  (⟨"TavernRumours$Land", "walkersOn", "(I)I"⟩, prog_5_method_11_code, 3, 4, (some .int), false, 962, 960, 961, 124, []),
  (⟨"TavernRumours$Land", "walkersWith", "(I)I"⟩, prog_5_method_12_code, 3, 4, (some .int), false, 980, 978, 979, 124, []),
  (⟨"TavernRumours$Land", "tally", "(I)I"⟩, prog_5_method_13_code, 3, 2, (some .int), false, 873, 871, 872, 124, []),
  (⟨"TavernRumours$Land", "passHours", "(I)I"⟩, prog_5_method_14_code, 3, 4, (some .int), false, 1245, 1243, 1244, 124, []),
  (⟨"TavernRumours$Land", "giveOrders", "()V"⟩, prog_5_method_15_code, 3, 4, none, false, 1249, 1248, 37, 124, []),
  (⟨"TavernRumours$Land", "carryOut", "(II)Z"⟩, prog_5_method_16_code, 3, 5, (some .boolean), false, 1297, 1296, 40, 124, []),
  (⟨"TavernRumours$Land", "loseWalkers", "()V"⟩, prog_5_method_17_code, 3, 3, none, false, 1317, 1316, 41, 124, []),
  (⟨"TavernRumours$Land", "keepWalker", "(II)V"⟩, prog_5_method_18_code, 3, 3, none, false, 1322, 1321, 42, 124, []),
  (⟨"TavernRumours$Land", "beginRumours", "()I"⟩, prog_5_method_19_code, 3, 3, (some .int), false, 1326, 1325, 43, 124, []),
  (⟨"TavernRumours$Land", "moveWalkers", "()I"⟩, prog_5_method_20_code, 3, 4, (some .int), false, 1331, 1330, 44, 124, []),
  (⟨"TavernRumours$Land", "sendWalkers", "()V"⟩, prog_5_method_21_code, 3, 4, none, false, 1335, 1334, 45, 124, []),
  (⟨"TavernRumours$Land", "sendFrom", "(II)V"⟩, prog_5_method_22_code, 3, 4, none, false, 1339, 1338, 46, 124, []),
  (⟨"TavernRumours$Names", "<init>", "(LTavernRumours$Plan;)V"⟩, prog_6_method_1_code, 4, 2, none, false, 287, 286, 0, 123, []),
  (⟨"TavernRumours$Names", "look", "(LTavernRumours$Plan;)I"⟩, prog_6_method_2_code, 4, 3, (some .int), false, 712, 710, 711, 123, []),
  (⟨"TavernRumours$Names", "lookAt", "(I)V"⟩, prog_6_method_3_code, 4, 2, none, false, 719, 718, 9, 123, []),
  (⟨"TavernRumours$Names", "lookAtRoad", "(I)V"⟩, prog_6_method_4_code, 4, 5, none, false, 745, 744, 13, 123, []),
  (⟨"TavernRumours$Names", "lookAtRumour", "(I)V"⟩, prog_6_method_5_code, 4, 4, none, false, 769, 768, 16, 123, []),
  (⟨"TavernRumours$Names", "countOrder", "(I)V"⟩, prog_6_method_6_code, 4, 2, none, false, 777, 776, 17, 123, []),
  (⟨"TavernRumours$Names", "note", "(II)V"⟩, prog_6_method_7_code, 4, 3, none, false, 739, 738, 12, 123, []),
  (⟨"TavernRumours$Names", "tellNew", "(II)V"⟩, prog_6_method_8_code, 4, 5, none, false, 726, 725, 10, 123, []),
  (⟨"TavernRumours$Names", "find", "(II)I"⟩, prog_6_method_9_code, 4, 4, (some .int), false, 749, 748, 14, 123, []),
  (⟨"TavernRumours$Names", "indexOf", "(IJ)I"⟩, prog_6_method_10_code, 4, 5, (some .int), false, 735, 734, 11, 123, []),
  (⟨"TavernRumours$Names", "numberOf", "(III)I"⟩, prog_6_method_11_code, 4, 5, (some .int), false, 757, 756, 15, 123, []),
  (⟨"TavernRumours$Plan", "<init>", "()V"⟩, prog_7_method_1_code, 5, 1, none, false, 157, 156, 0, 118, []),
  (⟨"TavernRumours$Plan", "clear", "()V"⟩, prog_7_method_2_code, 5, 1, none, false, 482, 480, 481, 118, []),
  (⟨"TavernRumours$Plan", "addCode", "(I)V"⟩, prog_7_method_3_code, 5, 2, none, false, 674, 672, 673, 118, []),
  (⟨"TavernRumours$Plan", "codeAt", "(I)I"⟩, prog_7_method_4_code, 5, 2, (some .int), false, 1257, 1255, 1256, 118, []),
  (⟨"TavernRumours$Plan", "addRoad", "(III)V"⟩, prog_7_method_5_code, 5, 4, none, false, 765, 763, 764, 118, []),
  (⟨"TavernRumours$Plan", "addRumour", "(II)V"⟩, prog_7_method_6_code, 5, 3, none, false, 773, 771, 772, 118, []),
  (⟨"TavernRumours$Plan", "addOrder", "(III)V"⟩, prog_7_method_7_code, 5, 4, none, false, 702, 700, 701, 118, []),
  (⟨"TavernRumours$Plan", "kindOfOrder", "(I)LTavernRumours$Kind;"⟩, prog_7_method_8_code, 5, 2, (some (.object "TavernRumours$Kind")), false, 1307, 1305, 1306, 118, []),
  (⟨"TavernRumours$Plan", "targetOfOrder", "(I)I"⟩, prog_7_method_9_code, 5, 2, (some .int), false, 1301, 1299, 1300, 118, []),
  (⟨"TavernRumours$Reckoner", "<init>", "()V"⟩, prog_8_method_1_code, 6, 1, none, false, 390, 389, 0, 126, []),
  (⟨"TavernRumours$Reckoner", "reckon", "(LTavernRumours$Land;II)I"⟩, prog_8_method_2_code, 6, 9, (some .int), false, 1253, 1251, 1252, 126, []),
  (⟨"TavernRumours$Reckoner", "push", "(I)V"⟩, prog_8_method_3_code, 6, 2, none, false, 1276, 1275, 39, 126, []),
  (⟨"TavernRumours$Reckoner", "pop", "()I"⟩, prog_8_method_4_code, 6, 1, (some .int), false, 1262, 1261, 38, 126, []),
  (⟨"TavernRumours$Reckoner", "joined", "(LTavernRumours$Kind;II)I"⟩, prog_8_method_5_code, 6, 3, (some .int), true, 1265, 1264, 0, 126, []),
  (⟨"TavernRumours$Reckoner", "holds", "(LTavernRumours$Kind;II)Z"⟩, prog_8_method_6_code, 6, 3, (some .boolean), true, 1272, 1271, 0, 126, []),
  (⟨"TavernRumours$Reckoner", "fact", "(LTavernRumours$Land;LTavernRumours$Kind;I)I"⟩, prog_8_method_7_code, 6, 5, (some .int), true, 1280, 1279, 0, 126, []),
  (⟨"TavernRumours$Roads", "<init>", "()V"⟩, prog_9_method_1_code, 7, 1, none, false, 321, 320, 0, 125, []),
  (⟨"TavernRumours$Roads", "begin", "(LTavernRumours$Plan;)V"⟩, prog_9_method_2_code, 7, 3, none, false, 785, 783, 784, 125, []),
  (⟨"TavernRumours$Roads", "copy", "(LTavernRumours$Roads;)V"⟩, prog_9_method_3_code, 7, 2, none, false, 813, 811, 812, 125, []),
  (⟨"TavernRumours$Roads", "shape", "(III)V"⟩, prog_9_method_4_code, 7, 4, none, false, 792, 790, 791, 125, []),
  (⟨"TavernRumours$Roads", "forgetWays", "()V"⟩, prog_9_method_5_code, 7, 2, none, false, 796, 795, 18, 125, []),
  (⟨"TavernRumours$Roads", "addWounds", "(II)Z"⟩, prog_9_method_6_code, 7, 4, (some .boolean), false, 1202, 1200, 1201, 125, []),
  (⟨"TavernRumours$Roads", "takeWound", "(I)Z"⟩, prog_9_method_7_code, 7, 3, (some .boolean), false, 818, 816, 817, 125, []),
  (⟨"TavernRumours$Roads", "isOpen", "(I)Z"⟩, prog_9_method_11_code, 7, 2, (some .boolean), false, 838, 836, 837, 125, []),
  (⟨"TavernRumours$Roads", "openRoads", "()I"⟩, prog_9_method_12_code, 7, 3, (some .int), false, 855, 853, 854, 125, []),
  (⟨"TavernRumours$Roads", "lengthOfOpen", "()I"⟩, prog_9_method_13_code, 7, 3, (some .int), false, 859, 857, 858, 125, []),
  (⟨"TavernRumours$Roads", "leadsTo", "(II)Z"⟩, prog_9_method_14_code, 7, 3, (some .boolean), false, 924, 922, 923, 125, []),
  (⟨"TavernRumours$Roads", "otherEnd", "(II)I"⟩, prog_9_method_15_code, 7, 3, (some .int), false, 1175, 1173, 1174, 125, []),
  (⟨"TavernRumours$Roads", "openAt", "(I)I"⟩, prog_9_method_16_code, 7, 4, (some .int), false, 920, 918, 919, 125, []),
  (⟨"TavernRumours$Roads", "between", "(II)I"⟩, prog_9_method_17_code, 7, 4, (some .int), false, 933, 931, 932, 125, []),
  (⟨"TavernRumours$Roads", "fillRow", "([III)V"⟩, prog_9_method_18_code, 7, 9, none, false, 890, 889, 24, 125, []),
  (⟨"TavernRumours$Roads", "partOf", "(I)I"⟩, prog_9_method_19_code, 7, 3, (some .int), false, 929, 927, 928, 125, []),
  (⟨"TavernRumours$Roads", "farthestFrom", "(I)I"⟩, prog_9_method_20_code, 7, 4, (some .int), false, 937, 935, 936, 125, []),
  (⟨"TavernRumours$Roads", "nextTavern", "(II)I"⟩, prog_9_method_21_code, 7, 8, (some .int), false, 1171, 1169, 1170, 125, []),
  (⟨"TavernRumours$Roads", "lengthAround", "(I)I"⟩, prog_9_method_22_code, 7, 3, (some .int), false, 886, 884, 885, 125, []),
  (⟨"TavernRumours$Roads", "isSpan", "(I)Z"⟩, prog_9_method_23_code, 7, 2, (some .boolean), false, 882, 880, 881, 125, []),
  (⟨"TavernRumours$Roads", "spansWith", "(I)I"⟩, prog_9_method_24_code, 7, 4, (some .int), false, 878, 876, 877, 125, []),
  (⟨"TavernRumours$Roads", "isInNet", "(I)Z"⟩, prog_9_method_25_code, 7, 2, (some .boolean), false, 958, 956, 957, 125, []),
  (⟨"TavernRumours$Roads", "lengthOfNet", "()I"⟩, prog_9_method_26_code, 7, 1, (some .int), false, 846, 844, 845, 125, []),
  (⟨"TavernRumours$Roads", "parts", "()I"⟩, prog_9_method_27_code, 7, 1, (some .int), false, 826, 824, 825, 125, []),
  (⟨"TavernRumours$Roads", "substituteFor", "(I)I"⟩, prog_9_method_28_code, 7, 3, (some .int), false, 967, 965, 966, 125, []),
  (⟨"TavernRumours$Roads", "layNet", "(I)V"⟩, prog_9_method_29_code, 7, 5, none, false, 830, 829, 20, 125, []),
  (⟨"TavernRumours$Roads", "joinGroups", "(II)V"⟩, prog_9_method_30_code, 7, 4, none, false, 842, 841, 22, 125, []),
  (⟨"TavernRumours$Roads", "sortOpen", "(I)I"⟩, prog_9_method_31_code, 7, 5, (some .int), false, 834, 833, 21, 125, []),
  (⟨"TavernRumours$Tokens", "<init>", "()V"⟩, prog_10_method_1_code, 8, 2, none, false, 163, 162, 0, 119, []),
  (⟨"TavernRumours$Tokens", "has", "(I)Z"⟩, prog_10_method_2_code, 8, 2, (some .boolean), false, 582, 581, 0, 119, []),
  (⟨"TavernRumours$Tokens", "kindOf", "(I)LTavernRumours$Kind;"⟩, prog_10_method_3_code, 8, 2, (some (.object "TavernRumours$Kind")), false, 578, 576, 577, 119, []),
  (⟨"TavernRumours$Tokens", "placeOf", "(I)I"⟩, prog_10_method_4_code, 8, 2, (some .int), false, 708, 706, 707, 119, []),
  (⟨"TavernRumours$Tokens", "valueOf", "(I)I"⟩, prog_10_method_5_code, 8, 2, (some .int), false, 761, 759, 760, 119, []),
  (⟨"TavernRumours$Tokens", "spellingOf", "(I)J"⟩, prog_10_method_6_code, 8, 2, (some .long), false, 730, 728, 729, 119, []),
  (⟨"TavernRumours$Tokens", "setValue", "(II)V"⟩, prog_10_method_7_code, 8, 3, none, false, 753, 751, 752, 119, []),
  (⟨"TavernRumours$Tokens", "setKind", "(ILTavernRumours$Kind;)V"⟩, prog_10_method_8_code, 8, 3, none, false, 688, 686, 687, 119, []),
  (⟨"TavernRumours$Tokens", "read", "([BI)V"⟩, prog_10_method_9_code, 8, 8, none, false, 486, 484, 485, 119, []),
  (⟨"TavernRumours$Tokens", "behindBlanks", "([BII)I"⟩, prog_10_method_10_code, 8, 4, (some .int), true, 489, 488, 0, 119, []),
  (⟨"TavernRumours$Tokens", "endOfToken", "([BII)I"⟩, prog_10_method_11_code, 8, 4, (some .int), true, 492, 491, 0, 119, []),
  (⟨"TavernRumours$Tokens", "kindBetween", "([BII)LTavernRumours$Kind;"⟩, prog_10_method_12_code, 8, 3, (some (.object "TavernRumours$Kind")), true, 501, 500, 0, 119, []),
  (⟨"TavernRumours$Tokens", "kindSpelt", "([BIILTavernRumours$Kind;)LTavernRumours$Kind;"⟩, prog_10_method_13_code, 8, 8, (some (.object "TavernRumours$Kind")), true, 508, 507, 0, 119, []),
  (⟨"TavernRumours$Tokens", "isSpelt", "(Ljava/lang/String;[BI)Z"⟩, prog_10_method_14_code, 8, 4, (some .boolean), true, 523, 522, 0, 119, []),
  (⟨"TavernRumours$Tokens", "numberBetween", "([BII)I"⟩, prog_10_method_15_code, 8, 5, (some .int), true, 566, 565, 0, 119, []),
  (⟨"TavernRumours$Tokens", "spellingBetween", "([BII)J"⟩, prog_10_method_16_code, 8, 7, (some .long), true, 569, 568, 0, 119, []),
  (⟨"TavernRumours$Tokens", "isLetter", "(B)Z"⟩, prog_10_method_17_code, 8, 1, (some .boolean), true, 495, 494, 0, 119, []),
  (⟨"TavernRumours$Tokens", "isDigit", "(B)Z"⟩, prog_10_method_18_code, 8, 1, (some .boolean), true, 498, 497, 0, 119, []),
  (⟨"TavernRumours", "<init>", "()V"⟩, prog_1_method_1_code, 9, 1, none, false, 149, 148, 0, 117, []),
  (⟨"TavernRumours", "feed", "(IIIII)I"⟩, prog_1_method_2_code, 9, 6, (some .int), false, 988, 986, 987, 117, []),
  (⟨"TavernRumours", "append", "(I)V"⟩, prog_1_method_3_code, 9, 3, none, false, 1059, 1058, 33, 117, []),
  (⟨"TavernRumours", "trim", "(I)I"⟩, prog_1_method_4_code, 9, 2, (some .int), false, 1067, 1065, 1066, 117, []),
  (⟨"TavernRumours", "teach", "()I"⟩, prog_1_method_5_code, 9, 3, (some .int), false, 478, 476, 477, 117, []),
  (⟨"TavernRumours", "errorAt", "()I"⟩, prog_1_method_6_code, 9, 1, (some .int), false, 801, 799, 800, 117, []),
  (⟨"TavernRumours", "count", "(I)I"⟩, prog_1_method_7_code, 9, 2, (some .int), false, 1091, 1089, 1090, 117, []),
  (⟨"TavernRumours", "countOf", "(I)I"⟩, prog_1_method_8_code, 9, 2, (some .int), false, 869, 868, 23, 117, []),
  (⟨"TavernRumours", "tavern", "(II)I"⟩, prog_1_method_9_code, 9, 3, (some .int), false, 1114, 1112, 1113, 117, []),
  (⟨"TavernRumours", "tavernFact", "(II)I"⟩, prog_1_method_10_code, 9, 3, (some .int), false, 916, 915, 28, 117, []),
  (⟨"TavernRumours", "road", "(II)I"⟩, prog_1_method_11_code, 9, 3, (some .int), false, 1126, 1124, 1125, 117, []),
  (⟨"TavernRumours", "roadFact", "(II)I"⟩, prog_1_method_12_code, 9, 4, (some .int), false, 952, 951, 30, 117, []),
  (⟨"TavernRumours", "rumour", "(II)I"⟩, prog_1_method_13_code, 9, 3, (some .int), false, 1138, 1136, 1137, 117, []),
  (⟨"TavernRumours", "rumourFact", "(II)I"⟩, prog_1_method_14_code, 9, 3, (some .int), false, 972, 971, 31, 117, []),
  (⟨"TavernRumours", "since", "(II)I"⟩, prog_1_method_15_code, 9, 3, (some .int), false, 1150, 1148, 1149, 117, []),
  (⟨"TavernRumours", "isTavern", "(I)Z"⟩, prog_1_method_16_code, 9, 2, (some .boolean), false, 1118, 1117, 34, 117, []),
  (⟨"TavernRumours", "isRoad", "(I)Z"⟩, prog_1_method_17_code, 9, 2, (some .boolean), false, 1130, 1129, 35, 117, []),
  (⟨"TavernRumours", "isRumour", "(I)Z"⟩, prog_1_method_18_code, 9, 2, (some .boolean), false, 1142, 1141, 36, 117, []),
  (⟨"TavernRumours", "far", "(II)I"⟩, prog_1_method_19_code, 9, 3, (some .int), false, 1158, 1156, 1157, 117, []),
  (⟨"TavernRumours", "step", "(II)I"⟩, prog_1_method_20_code, 9, 3, (some .int), false, 1167, 1165, 1166, 117, []),
  (⟨"TavernRumours", "detour", "(I)I"⟩, prog_1_method_21_code, 9, 2, (some .int), false, 1182, 1180, 1181, 117, []),
  (⟨"TavernRumours", "replace", "(I)I"⟩, prog_1_method_22_code, 9, 2, (some .int), false, 1190, 1188, 1189, 117, []),
  (⟨"TavernRumours", "hurt", "(II)I"⟩, prog_1_method_23_code, 9, 3, (some .int), false, 1197, 1195, 1196, 117, []),
  (⟨"TavernRumours", "mend", "(I)I"⟩, prog_1_method_24_code, 9, 2, (some .int), false, 1212, 1210, 1211, 117, []),
  (⟨"TavernRumours", "tell", "(II)I"⟩, prog_1_method_25_code, 9, 3, (some .int), false, 1220, 1218, 1219, 117, []),
  (⟨"TavernRumours", "setMiles", "(II)I"⟩, prog_1_method_26_code, 9, 4, (some .int), false, 1232, 1230, 1231, 117, []),
  (⟨"TavernRumours", "pass", "(I)I"⟩, prog_1_method_27_code, 9, 2, (some .int), false, 1240, 1238, 1239, 117, []),
  (⟨"TavernRumours", "until", "(I)I"⟩, prog_1_method_28_code, 9, 3, (some .int), false, 1348, 1346, 1347, 117, []),
  (⟨"TavernRumours", "foresee", "(II)I"⟩, prog_1_method_29_code, 9, 3, (some .int), false, 1356, 1354, 1355, 117, []),
  (⟨"TavernRumours", "advise", "(II)I"⟩, prog_1_method_30_code, 9, 7, (some .int), false, 1363, 1361, 1362, 117, []),
  (⟨"TavernRumours", "knowersBehind", "(III)I"⟩, prog_1_method_31_code, 9, 4, (some .int), false, 1367, 1366, 47, 117, []),
  (⟨"TavernRumours", "best", "()I"⟩, prog_1_method_32_code, 9, 9, (some .int), false, 805, 803, 804, 117, []),
  (⟨"TavernRumours", "mean", "()D"⟩, prog_1_method_33_code, 9, 3, (some .double), false, 851, 849, 850, 117, []),
  (⟨"TavernRumours", "digest", "()J"⟩, prog_1_method_34_code, 9, 5, (some .long), false, 863, 861, 862, 117, []),
  (⟨"TavernRumours", "digestTaverns", "(J)J"⟩, prog_1_method_35_code, 9, 7, (some .long), false, 912, 911, 27, 117, []),
  (⟨"TavernRumours", "digestRoads", "(J)J"⟩, prog_1_method_36_code, 9, 7, (some .long), false, 948, 947, 29, 117, []),
  (⟨"TavernRumoursModel$Sheet", "<init>", "()V"⟩, prog_13_method_1_code, 10, 1, none, false, 1379, 1378, 0, 128, []),
  (⟨"TavernRumoursModel$State", "<init>", "()V"⟩, prog_14_method_1_code, 11, 1, none, false, 1449, 1448, 0, 129, []),
  (⟨"TavernRumoursModel$State", "copy", "([I[I)V"⟩, prog_14_method_2_code, 11, 2, none, true, 1782, 1781, 0, 129, []),
  (⟨"TavernRumoursModel$State", "become", "(LTavernRumoursModel$State;)V"⟩, prog_14_method_3_code, 11, 2, none, false, 2023, 2021, 2022, 129, []),
  (⟨"TavernRumoursModel$State", "isOpen", "(I)Z"⟩, prog_14_method_4_code, 11, 2, (some .boolean), false, 1799, 1797, 1798, 129, []),
  (⟨"TavernRumoursModel$State", "length", "(I)I"⟩, prog_14_method_5_code, 11, 2, (some .int), false, 1827, 1825, 1826, 129, []),
  (⟨"TavernRumoursModel$State", "knows", "(II)Z"⟩, prog_14_method_6_code, 11, 3, (some .boolean), false, 1844, 1842, 1843, 129, []),
  (⟨"TavernRumoursModel$State", "hear", "(II)Z"⟩, prog_14_method_7_code, 11, 3, (some .boolean), false, 1938, 1936, 1937, 129, []),
  (⟨"TavernRumoursModel$State", "keep", "(II)V"⟩, prog_14_method_8_code, 11, 3, none, false, 2003, 2001, 2002, 129, []),
  (⟨"TavernRumoursModel", "<init>", "()V"⟩, prog_12_method_1_code, 12, 1, none, false, 1373, 1372, 0, 127, []),
  (⟨"TavernRumoursModel", "thrown", "()I"⟩, prog_12_method_2_code, 12, 1, (some .int), false, 1569, 1567, 1568, 127, []),
  (⟨"TavernRumoursModel", "no", "(I)I"⟩, prog_12_method_3_code, 12, 2, (some .int), false, 1577, 1576, 48, 127, []),
  (⟨"TavernRumoursModel", "isIn", "(III)Z"⟩, prog_12_method_4_code, 12, 3, (some .boolean), true, 1584, 1583, 0, 127, []),
  (⟨"TavernRumoursModel", "is", "(II)Z"⟩, prog_12_method_5_code, 12, 3, (some .boolean), false, 1860, 1859, 90, 127, []),
  (⟨"TavernRumoursModel", "isLetter", "(I)Z"⟩, prog_12_method_6_code, 12, 1, (some .boolean), true, 1607, 1606, 0, 127, []),
  (⟨"TavernRumoursModel", "isDigit", "(I)Z"⟩, prog_12_method_7_code, 12, 1, (some .boolean), true, 1610, 1609, 0, 127, []),
  (⟨"TavernRumoursModel", "byteAt", "(I)I"⟩, prog_12_method_8_code, 12, 2, (some .int), false, 1600, 1599, 51, 127, []),
  (⟨"TavernRumoursModel", "lengthAt", "(I)I"⟩, prog_12_method_9_code, 12, 4, (some .int), false, 1604, 1603, 52, 127, []),
  (⟨"TavernRumoursModel", "kindAt", "(II)I"⟩, prog_12_method_10_code, 12, 5, (some .int), false, 1614, 1613, 53, 127, []),
  (⟨"TavernRumoursModel", "wordAt", "(II)I"⟩, prog_12_method_11_code, 12, 5, (some .int), false, 1618, 1617, 54, 127, []),
  (⟨"TavernRumoursModel", "cut", "(LTavernRumoursModel$Sheet;)V"⟩, prog_12_method_12_code, 12, 4, none, false, 1596, 1595, 50, 127, []),
  (⟨"TavernRumoursModel", "eat", "(LTavernRumoursModel$Sheet;I)Z"⟩, prog_12_method_13_code, 12, 3, (some .boolean), false, 1694, 1693, 58, 127, []),
  (⟨"TavernRumoursModel", "eatIn", "(LTavernRumoursModel$Sheet;II)Z"⟩, prog_12_method_14_code, 12, 4, (some .boolean), false, 1718, 1717, 64, 127, []),
  (⟨"TavernRumoursModel", "goDown", "(LTavernRumoursModel$Sheet;I)Z"⟩, prog_12_method_15_code, 12, 3, (some .boolean), false, 1714, 1713, 63, 127, []),
  (⟨"TavernRumoursModel", "isList", "(LTavernRumoursModel$Sheet;)Z"⟩, prog_12_method_16_code, 12, 2, (some .boolean), false, 1682, 1681, 55, 127, []),
  (⟨"TavernRumoursModel", "isNumber", "(LTavernRumoursModel$Sheet;I)Z"⟩, prog_12_method_17_code, 12, 3, (some .boolean), false, 1698, 1697, 59, 127, []),
  (⟨"TavernRumoursModel", "isName", "(LTavernRumoursModel$Sheet;I)Z"⟩, prog_12_method_18_code, 12, 3, (some .boolean), false, 1690, 1689, 57, 127, []),
  (⟨"TavernRumoursModel", "isWhen", "(LTavernRumoursModel$Sheet;)Z"⟩, prog_12_method_19_code, 12, 2, (some .boolean), false, 1722, 1721, 65, 127, []),
  (⟨"TavernRumoursModel", "isLine", "(LTavernRumoursModel$Sheet;)Z"⟩, prog_12_method_20_code, 12, 2, (some .boolean), false, 1686, 1685, 56, 127, []),
  (⟨"TavernRumoursModel", "isTest", "(LTavernRumoursModel$Sheet;)Z"⟩, prog_12_method_21_code, 12, 2, (some .boolean), false, 1726, 1725, 66, 127, []),
  (⟨"TavernRumoursModel", "isBoth", "(LTavernRumoursModel$Sheet;)Z"⟩, prog_12_method_22_code, 12, 2, (some .boolean), false, 1730, 1729, 67, 127, []),
  (⟨"TavernRumoursModel", "isSingle", "(LTavernRumoursModel$Sheet;)Z"⟩, prog_12_method_23_code, 12, 2, (some .boolean), false, 1734, 1733, 68, 127, []),
  (⟨"TavernRumoursModel", "isSum", "(LTavernRumoursModel$Sheet;)Z"⟩, prog_12_method_24_code, 12, 2, (some .boolean), false, 1702, 1701, 60, 127, []),
  (⟨"TavernRumoursModel", "isProduct", "(LTavernRumoursModel$Sheet;)Z"⟩, prog_12_method_25_code, 12, 2, (some .boolean), false, 1706, 1705, 61, 127, []),
  (⟨"TavernRumoursModel", "isValue", "(LTavernRumoursModel$Sheet;)Z"⟩, prog_12_method_26_code, 12, 3, (some .boolean), false, 1710, 1709, 62, 127, []),
  (⟨"TavernRumoursModel", "number", "(LTavernRumoursModel$Sheet;I)I"⟩, prog_12_method_27_code, 12, 5, (some .int), false, 1771, 1770, 75, 127, []),
  (⟨"TavernRumoursModel", "areSame", "(LTavernRumoursModel$Sheet;II)Z"⟩, prog_12_method_28_code, 12, 6, (some .boolean), false, 1757, 1756, 73, 127, []),
  (⟨"TavernRumoursModel", "find", "(LTavernRumoursModel$Sheet;II)I"⟩, prog_12_method_29_code, 12, 5, (some .int), false, 1753, 1752, 72, 127, []),
  (⟨"TavernRumoursModel", "most", "(I)I"⟩, prog_12_method_30_code, 12, 1, (some .int), true, 1760, 1759, 0, 127, []),
  (⟨"TavernRumoursModel", "isSort", "(I)Z"⟩, prog_12_method_31_code, 12, 1, (some .boolean), true, 1745, 1744, 0, 127, []),
  (⟨"TavernRumoursModel", "errorOfNew", "(LTavernRumoursModel$Sheet;II)I"⟩, prog_12_method_32_code, 12, 4, (some .int), false, 1749, 1748, 71, 127, []),
  (⟨"TavernRumoursModel", "sortOf", "(LTavernRumoursModel$Sheet;I)I"⟩, prog_12_method_33_code, 12, 2, (some .int), true, 1763, 1762, 0, 127, []),
  (⟨"TavernRumoursModel", "errorOfName", "(LTavernRumoursModel$Sheet;I)I"⟩, prog_12_method_34_code, 12, 6, (some .int), false, 1742, 1741, 70, 127, []),
  (⟨"TavernRumoursModel", "errorOfNumber", "(LTavernRumoursModel$Sheet;I)I"⟩, prog_12_method_35_code, 12, 4, (some .int), false, 1767, 1766, 74, 127, []),
  (⟨"TavernRumoursModel", "errorOfOrder", "(LTavernRumoursModel$Sheet;I)I"⟩, prog_12_method_36_code, 12, 3, (some .int), false, 1775, 1774, 76, 127, []),
  (⟨"TavernRumoursModel", "errorOf", "(LTavernRumoursModel$Sheet;I)I"⟩, prog_12_method_37_code, 12, 3, (some .int), false, 1738, 1737, 69, 127, []),
  (⟨"TavernRumoursModel", "read", "(LTavernRumoursModel$Sheet;)I"⟩, prog_12_method_38_code, 12, 4, (some .int), false, 1592, 1591, 49, 127, []),
  (⟨"TavernRumoursModel", "goesBy", "(I)Z"⟩, prog_12_method_39_code, 12, 2, (some .boolean), false, 1975, 1974, 105, 127, []),
  (⟨"TavernRumoursModel", "test", "()Z"⟩, prog_12_method_40_code, 12, 2, (some .boolean), false, 1963, 1962, 102, 127, []),
  (⟨"TavernRumoursModel", "both", "()Z"⟩, prog_12_method_41_code, 12, 2, (some .boolean), false, 1967, 1966, 103, 127, []),
  (⟨"TavernRumoursModel", "named", "()I"⟩, prog_12_method_42_code, 12, 2, (some .int), false, 1979, 1978, 106, 127, []),
  (⟨"TavernRumoursModel", "single", "()Z"⟩, prog_12_method_43_code, 12, 4, (some .boolean), false, 1971, 1970, 104, 127, []),
  (⟨"TavernRumoursModel", "sum", "()I"⟩, prog_12_method_44_code, 12, 4, (some .int), false, 1983, 1982, 107, 127, []),
  (⟨"TavernRumoursModel", "product", "()I"⟩, prog_12_method_45_code, 12, 4, (some .int), false, 1987, 1986, 108, 127, []),
  (⟨"TavernRumoursModel", "value", "()I"⟩, prog_12_method_46_code, 12, 4, (some .int), false, 1991, 1990, 109, 127, []),
  (⟨"TavernRumoursModel", "isUsed", "(LTavernRumoursModel$State;I)Z"⟩, prog_12_method_47_code, 12, 3, (some .boolean), false, 1823, 1822, 84, 127, []),
  (⟨"TavernRumoursModel", "look", "(LTavernRumoursModel$State;I)V"⟩, prog_12_method_48_code, 12, 7, none, false, 1819, 1818, 83, 127, []),
  (⟨"TavernRumoursModel", "reaches", "(III)Z"⟩, prog_12_method_49_code, 12, 4, (some .boolean), false, 1831, 1830, 85, 127, []),
  (⟨"TavernRumoursModel", "far", "(LTavernRumoursModel$State;II)I"⟩, prog_12_method_50_code, 12, 4, (some .int), false, 1815, 1814, 82, 127, []),
  (⟨"TavernRumoursModel", "part", "(LTavernRumoursModel$State;)I"⟩, prog_12_method_51_code, 12, 6, (some .int), false, 1835, 1834, 86, 127, []),
  (⟨"TavernRumoursModel", "nextOfNet", "(LTavernRumoursModel$State;)I"⟩, prog_12_method_52_code, 12, 4, (some .int), false, 1852, 1851, 89, 127, []),
  (⟨"TavernRumoursModel", "net", "(LTavernRumoursModel$State;)I"⟩, prog_12_method_53_code, 12, 7, (some .int), false, 1848, 1847, 88, 127, []),
  (⟨"TavernRumoursModel", "detourOf", "(LTavernRumoursModel$State;I)I"⟩, prog_12_method_54_code, 12, 4, (some .int), false, 1811, 1810, 81, 127, []),
  (⟨"TavernRumoursModel", "isSpan", "(LTavernRumoursModel$State;I)Z"⟩, prog_12_method_55_code, 12, 3, (some .boolean), false, 1807, 1806, 80, 127, []),
  (⟨"TavernRumoursModel", "replaceOf", "(LTavernRumoursModel$State;I)I"⟩, prog_12_method_56_code, 12, 4, (some .int), false, 1913, 1912, 96, 127, []),
  (⟨"TavernRumoursModel", "heard", "(LTavernRumoursModel$State;I)I"⟩, prog_12_method_57_code, 12, 5, (some .int), false, 1840, 1839, 87, 127, []),
  (⟨"TavernRumoursModel", "hurtBy", "(LTavernRumoursModel$State;II)Z"⟩, prog_12_method_58_code, 12, 5, (some .boolean), false, 1922, 1921, 97, 127, []),
  (⟨"TavernRumoursModel", "mended", "(LTavernRumoursModel$State;I)Z"⟩, prog_12_method_59_code, 12, 4, (some .boolean), false, 1930, 1929, 98, 127, []),
  (⟨"TavernRumoursModel", "hushed", "(LTavernRumoursModel$State;I)Z"⟩, prog_12_method_60_code, 12, 4, (some .boolean), false, 1995, 1994, 110, 127, []),
  (⟨"TavernRumoursModel", "isCarriedOut", "(LTavernRumoursModel$State;I)Z"⟩, prog_12_method_61_code, 12, 4, (some .boolean), false, 1959, 1958, 101, 127, []),
  (⟨"TavernRumoursModel", "lose", "(LTavernRumoursModel$State;)V"⟩, prog_12_method_62_code, 12, 4, none, false, 1999, 1998, 111, 127, []),
  (⟨"TavernRumoursModel", "travel", "(LTavernRumoursModel$State;)V"⟩, prog_12_method_63_code, 12, 4, none, false, 2007, 2006, 112, 127, []),
  (⟨"TavernRumoursModel", "setOut", "(LTavernRumoursModel$State;II)V"⟩, prog_12_method_64_code, 12, 6, none, false, 2011, 2010, 113, 127, []),
  (⟨"TavernRumoursModel", "hourOn", "(LTavernRumoursModel$State;)V"⟩, prog_12_method_65_code, 12, 4, none, false, 1955, 1954, 100, 127, []),
  (⟨"TavernRumoursModel", "hoursOn", "(LTavernRumoursModel$State;I)V"⟩, prog_12_method_66_code, 12, 4, none, false, 1951, 1950, 99, 127, []),
  (⟨"TavernRumoursModel", "spans", "(LTavernRumoursModel$State;I)I"⟩, prog_12_method_67_code, 12, 5, (some .int), false, 1803, 1802, 79, 127, []),
  (⟨"TavernRumoursModel", "counted", "(LTavernRumoursModel$State;I)I"⟩, prog_12_method_68_code, 12, 5, (some .int), false, 1795, 1794, 78, 127, []),
  (⟨"TavernRumoursModel", "feed", "(IIIII)I"⟩, prog_12_method_69_code, 12, 8, (some .int), false, 1573, 1571, 1572, 127, []),
  (⟨"TavernRumoursModel", "trim", "(I)I"⟩, prog_12_method_70_code, 12, 2, (some .int), false, 1581, 1579, 1580, 127, []),
  (⟨"TavernRumoursModel", "fill", "([II)V"⟩, prog_12_method_71_code, 12, 3, none, true, 1510, 1509, 0, 127, []),
  (⟨"TavernRumoursModel", "begin", "()V"⟩, prog_12_method_72_code, 12, 1, none, false, 1779, 1778, 77, 127, []),
  (⟨"TavernRumoursModel", "teach", "()I"⟩, prog_12_method_73_code, 12, 3, (some .int), false, 1588, 1586, 1587, 127, []),
  (⟨"TavernRumoursModel", "errorAt", "()I"⟩, prog_12_method_74_code, 12, 1, (some .int), false, 1787, 1785, 1786, 127, []),
  (⟨"TavernRumoursModel", "count", "(I)I"⟩, prog_12_method_75_code, 12, 2, (some .int), false, 1791, 1789, 1790, 127, []),
  (⟨"TavernRumoursModel", "tavernTold", "(II)I"⟩, prog_12_method_76_code, 12, 5, (some .int), false, 1864, 1863, 91, 127, []),
  (⟨"TavernRumoursModel", "tavern", "(II)I"⟩, prog_12_method_77_code, 12, 3, (some .int), false, 1856, 1854, 1855, 127, []),
  (⟨"TavernRumoursModel", "travellersOn", "(I)I"⟩, prog_12_method_78_code, 12, 4, (some .int), false, 1877, 1876, 93, 127, []),
  (⟨"TavernRumoursModel", "roadTold", "(II)I"⟩, prog_12_method_79_code, 12, 3, (some .int), false, 1873, 1872, 92, 127, []),
  (⟨"TavernRumoursModel", "road", "(II)I"⟩, prog_12_method_80_code, 12, 3, (some .int), false, 1869, 1867, 1868, 127, []),
  (⟨"TavernRumoursModel", "rumourTold", "(II)I"⟩, prog_12_method_81_code, 12, 5, (some .int), false, 1885, 1884, 94, 127, []),
  (⟨"TavernRumoursModel", "rumour", "(II)I"⟩, prog_12_method_82_code, 12, 3, (some .int), false, 1881, 1879, 1880, 127, []),
  (⟨"TavernRumoursModel", "since", "(II)I"⟩, prog_12_method_83_code, 12, 3, (some .int), false, 1889, 1887, 1888, 127, []),
  (⟨"TavernRumoursModel", "far", "(II)I"⟩, prog_12_method_84_code, 12, 3, (some .int), false, 1893, 1891, 1892, 127, []),
  (⟨"TavernRumoursModel", "stepTold", "(II)I"⟩, prog_12_method_85_code, 12, 6, (some .int), false, 1901, 1900, 95, 127, []),
  (⟨"TavernRumoursModel", "step", "(II)I"⟩, prog_12_method_86_code, 12, 3, (some .int), false, 1897, 1895, 1896, 127, []),
  (⟨"TavernRumoursModel", "detour", "(I)I"⟩, prog_12_method_87_code, 12, 2, (some .int), false, 1905, 1903, 1904, 127, []),
  (⟨"TavernRumoursModel", "replace", "(I)I"⟩, prog_12_method_88_code, 12, 2, (some .int), false, 1909, 1907, 1908, 127, []),
  (⟨"TavernRumoursModel", "hurt", "(II)I"⟩, prog_12_method_89_code, 12, 3, (some .int), false, 1918, 1916, 1917, 127, []),
  (⟨"TavernRumoursModel", "mend", "(I)I"⟩, prog_12_method_90_code, 12, 2, (some .int), false, 1926, 1924, 1925, 127, []),
  (⟨"TavernRumoursModel", "tell", "(II)I"⟩, prog_12_method_91_code, 12, 3, (some .int), false, 1934, 1932, 1933, 127, []),
  (⟨"TavernRumoursModel", "setMiles", "(II)I"⟩, prog_12_method_92_code, 12, 4, (some .int), false, 1943, 1941, 1942, 127, []),
  (⟨"TavernRumoursModel", "pass", "(I)I"⟩, prog_12_method_93_code, 12, 3, (some .int), false, 1947, 1945, 1946, 127, []),
  (⟨"TavernRumoursModel", "untilAll", "(I)I"⟩, prog_12_method_94_code, 12, 3, (some .int), false, 2019, 2018, 114, 127, []),
  (⟨"TavernRumoursModel", "until", "(I)I"⟩, prog_12_method_95_code, 12, 2, (some .int), false, 2015, 2013, 2014, 127, []),
  (⟨"TavernRumoursModel", "foresee", "(II)I"⟩, prog_12_method_96_code, 12, 3, (some .int), false, 2028, 2026, 2027, 127, []),
  (⟨"TavernRumoursModel", "adviseTold", "(II)I"⟩, prog_12_method_97_code, 12, 7, (some .int), false, 2036, 2035, 115, 127, []),
  (⟨"TavernRumoursModel", "advise", "(II)I"⟩, prog_12_method_98_code, 12, 3, (some .int), false, 2032, 2030, 2031, 127, []),
  (⟨"TavernRumoursModel", "best", "()I"⟩, prog_12_method_99_code, 12, 7, (some .int), false, 2040, 2038, 2039, 127, []),
  (⟨"TavernRumoursModel", "mean", "()D"⟩, prog_12_method_100_code, 12, 4, (some .double), false, 2044, 2042, 2043, 127, []),
  (⟨"TavernRumoursModel", "digest", "()J"⟩, prog_12_method_101_code, 12, 5, (some .long), false, 2048, 2046, 2047, 127, []),
  (⟨"TavernRumoursLaw", "feed", "(LTavernRumours;IIIII[J)I"⟩, method_3_code, 13, 8, (some .int), true, 983, 982, 0, 116, [(0, 16, 19, 13)]),
  (⟨"TavernRumoursLaw", "trim", "(LTavernRumours;I[J)I"⟩, method_4_code, 13, 4, (some .int), true, 1062, 1061, 0, 116, [(0, 9, 12, 19)]),
  (⟨"TavernRumoursLaw", "count", "(LTavernRumours;I[J)I"⟩, method_5_code, 13, 4, (some .int), true, 1086, 1085, 0, 116, [(0, 9, 12, 24)]),
  (⟨"TavernRumoursLaw", "tavern", "(LTavernRumours;II[J)I"⟩, method_6_code, 13, 5, (some .int), true, 1110, 1109, 0, 116, [(0, 10, 13, 24)]),
  (⟨"TavernRumoursLaw", "road", "(LTavernRumours;II[J)I"⟩, method_7_code, 13, 5, (some .int), true, 1122, 1121, 0, 116, [(0, 10, 13, 24)]),
  (⟨"TavernRumoursLaw", "rumour", "(LTavernRumours;II[J)I"⟩, method_8_code, 13, 5, (some .int), true, 1134, 1133, 0, 116, [(0, 10, 13, 24)]),
  (⟨"TavernRumoursLaw", "since", "(LTavernRumours;II[J)I"⟩, method_9_code, 13, 5, (some .int), true, 1146, 1145, 0, 116, [(0, 10, 13, 24)]),
  (⟨"TavernRumoursLaw", "far", "(LTavernRumours;II[J)I"⟩, method_10_code, 13, 5, (some .int), true, 1154, 1153, 0, 116, [(0, 10, 13, 24)]),
  (⟨"TavernRumoursLaw", "step", "(LTavernRumours;II[J)I"⟩, method_11_code, 13, 5, (some .int), true, 1163, 1162, 0, 116, [(0, 10, 13, 24)]),
  (⟨"TavernRumoursLaw", "detour", "(LTavernRumours;I[J)I"⟩, method_12_code, 13, 4, (some .int), true, 1178, 1177, 0, 116, [(0, 9, 12, 24)]),
  (⟨"TavernRumoursLaw", "replace", "(LTavernRumours;I[J)I"⟩, method_13_code, 13, 4, (some .int), true, 1186, 1185, 0, 116, [(0, 9, 12, 24)]),
  (⟨"TavernRumoursLaw", "hurt", "(LTavernRumours;II[J)I"⟩, method_14_code, 13, 5, (some .int), true, 1193, 1192, 0, 116, [(0, 10, 13, 24), (0, 10, 17, 19)]),
  (⟨"TavernRumoursLaw", "mend", "(LTavernRumours;I[J)I"⟩, method_15_code, 13, 4, (some .int), true, 1208, 1207, 0, 116, [(0, 9, 12, 24), (0, 9, 15, 13)]),
  (⟨"TavernRumoursLaw", "tell", "(LTavernRumours;II[J)I"⟩, method_16_code, 13, 5, (some .int), true, 1216, 1215, 0, 116, [(0, 10, 13, 24), (0, 10, 17, 13)]),
  (⟨"TavernRumoursLaw", "setMiles", "(LTavernRumours;II[J)I"⟩, method_17_code, 13, 5, (some .int), true, 1228, 1227, 0, 116, [(0, 10, 13, 24), (0, 10, 17, 19)]),
  (⟨"TavernRumoursLaw", "pass", "(LTavernRumours;I[J)I"⟩, method_18_code, 13, 4, (some .int), true, 1236, 1235, 0, 116, [(0, 9, 12, 19)]),
  (⟨"TavernRumoursLaw", "until", "(LTavernRumours;I[J)I"⟩, method_19_code, 13, 4, (some .int), true, 1344, 1343, 0, 116, [(0, 9, 12, 24)]),
  (⟨"TavernRumoursLaw", "foresee", "(LTavernRumours;II[J)I"⟩, method_20_code, 13, 5, (some .int), true, 1352, 1351, 0, 116, [(0, 10, 13, 19), (0, 10, 17, 24)]),
  (⟨"TavernRumoursLaw", "advise", "(LTavernRumours;II[J)I"⟩, method_21_code, 13, 5, (some .int), true, 1359, 1358, 0, 116, [(0, 10, 13, 24), (0, 10, 17, 19)]),
  (⟨"TavernRumoursLaw", "law", "([I)Z"⟩, code, 13, 9, (some .boolean), false, 0, 0, 0, 116, []),
  (⟨"java/lang/String", "length", "()I"⟩, prog_23_method_54_code, 14, 1, (some .int), false, 514, 512, 513, 135, []),
  (⟨"java/lang/String", "charAt", "(I)C"⟩, prog_23_method_56_code, 14, 2, (some .char), false, 527, 525, 526, 135, []),
  (⟨"java/lang/String", "indexOf", "(I)I"⟩, prog_23_method_79_code, 14, 2, (some .int), false, 1627, 1625, 1626, 135, []),
  (⟨"java/lang/String", "indexOf", "(II)I"⟩, prog_23_method_80_code, 14, 3, (some .int), false, 1631, 1629, 1630, 135, []),
  (⟨"java/lang/String", "coder", "()B"⟩, prog_23_method_152_code, 14, 1, (some .byte), false, 518, 516, 517, 135, []),
  (⟨"java/lang/String", "isLatin1", "()Z"⟩, prog_23_method_154_code, 14, 1, (some .boolean), false, 531, 529, 530, 135, []),
  (⟨"java/lang/String", "checkIndex", "(II)V"⟩, prog_23_method_155_code, 14, 2, none, true, 537, 536, 0, 135, []),
  (⟨"java/lang/StringLatin1", "charAt", "([BI)C"⟩, prog_24_method_2_code, 15, 2, (some .char), true, 534, 533, 0, 136, []),
  (⟨"java/lang/StringLatin1", "canEncode", "(I)Z"⟩, prog_24_method_4_code, 15, 1, (some .boolean), true, 1638, 1637, 0, 136, []),
  (⟨"java/lang/StringLatin1", "indexOf", "([BIII)I"⟩, prog_24_method_22_code, 15, 4, (some .int), true, 1635, 1634, 0, 136, []),
  (⟨"java/lang/StringLatin1", "indexOfChar", "([BIII)I"⟩, prog_24_method_23_code, 15, 6, (some .int), true, 1643, 1642, 0, 136, []),
  (⟨"jdk/internal/util/Preconditions", "checkIndex", "(IILjava/util/function/BiFunction;)I"⟩, prog_29_method_11_code, 16, 3, (some .int), true, 542, 541, 0, 137, []),
  (⟨"java/util/Arrays", "fill", "([II)V"⟩, prog_28_method_103_code, 17, 4, none, true, 715, 714, 0, 140, []),
  (⟨"java/lang/Enum", "ordinal", "()I"⟩, prog_16_method_2_code, 18, 1, (some .int), false, 594, 593, 592, 120, []),
  (⟨"TavernRumours$Land", "has", "(II)Z"⟩, prog_5_method_5_code, 3, 3, (some .boolean), false, 907, 906, 26, 124, []),
  (⟨"TavernRumours$Roads", "has", "(I)Z"⟩, prog_9_method_8_code, 7, 2, (some .boolean), false, 822, 821, 19, 125, []),
  (⟨"TavernRumours$Roads", "lengthOf", "(I)I"⟩, prog_9_method_9_code, 7, 2, (some .int), false, 1285, 1283, 1284, 125, []),
  (⟨"TavernRumours$Roads", "woundsOf", "(I)I"⟩, prog_9_method_10_code, 7, 2, (some .int), false, 1289, 1287, 1288, 125, [])]
def MTd : MQ1 := (⟨"", "", ""⟩, ⟨#[]⟩, 0, 0, none, false, 0, 0, 0, 0, [])
def mInf (m : Nat) : MQ1 := MT.getD m MTd
