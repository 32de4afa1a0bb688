/-! ===== the places of more words, and the checks of the tables, by the kernel ===== -/
def UW : Nat → List Nat
  | 0 => [1063, 1065, 1067, 1069]
  | 1 => [221, 223, 225]
  | 3 => [363, 365, 367, 369, 371, 373, 375, 377, 379, 381, 383, 385, 387, 389]
  | 4 => [243, 245, 247, 249, 251, 253]
  | 5 => [177, 179, 181, 183, 185, 187, 189, 191, 193, 195, 197, 199, 201, 203, 205, 207]
  | 6 => [339, 341]
  | 7 => [295, 297, 299, 301, 303, 305, 307, 309, 311, 313, 315, 317, 319, 321, 323, 325, 327]
  | 8 => [122, 124, 126, 128, 130]
  | 9 => [401, 403, 405, 407, 409, 411, 413, 415, 417]
  | 10 => [1495, 1497, 1499, 1501, 1503, 1505, 1507, 1509, 1511, 1513, 1515]
  | 11 => [1665, 1667, 1669, 1671]
  | 12 => [1474, 1470, 1472]
  | 14 => [1727, 1729, 1731, 1733]
  | _ => []
/-- places: instantiable, initialized -/
def UI : Nat → Nat × Nat
  | 0 => (1054, 89)
  | 1 => (211, 60)
  | 3 => (257, 62)
  | 4 => (229, 61)
  | 5 => (99, 56)
  | 6 => (332, 64)
  | 7 => (263, 63)
  | 8 => (105, 57)
  | 9 => (91, 55)
  | 10 => (896, 69)
  | 11 => (1653, 66)
  | 12 => (951, 72)
  | 14 => (1684, 67)
  | _ => (0, 0)
abbrev wACn : Nat := 857
abbrev wACs : Nat := 856
abbrev wSys : Nat := 76
abbrev wMath : Nat := 74
abbrev wMaxS : Nat := 598
abbrev wMaxC : Nat := 599
abbrev wMinS : Nat := 746
abbrev wMinC : Nat := 747
abbrev wOI : Nat := 96
abbrev wOC : Nat := 97
abbrev wAint : Nat := 134
abbrev wAbyte : Nat := 133
abbrev wAboolean : Nat := 330
abbrev wAlong : Nat := 135
/-- where the word of the same method stands, and of the class above -/
def wSm : Nat → Nat
  | 171 => 1814
  | 172 => 1807
  | 173 => 1809
  | 174 => 1694
  | 175 => 1812
  | 177 => 1553
  | 178 => 1699
  | 179 => 1810
  | 180 => 1811
  | _ => 0
abbrev wSup : Nat := 1524
abbrev mLen : Nat := 178
abbrev wClM : Nat := 1545
abbrev wClN : Nat := 1546
abbrev wClI : Nat := 1547
abbrev wClS : Nat := 1548
abbrev wGcN : Nat := 1007
abbrev wGcI : Nat := 988
abbrev wGcS : Nat := 1834
abbrev wOrdS : Nat := 740
def clX (k : Nat) : String := if k = 99 then "TavernRumours$Kind" else if k = 100 then "[[I" else if k = 101 then "[[J" else if k = 102 then "[Ljava/lang/Object;" else if k = 103 then "[[Z" else if k = 104 then "[I" else if k = 105 then "java/lang/Object" else if k = 106 then "[Z" else if k = 107 then "[B" else (uQ k).1
abbrev cloneX : MethodName := ⟨"[B", "clone", "()Ljava/lang/Object;"⟩
def prX (k : Nat) : MethodName := if k = 0 then arraycopyName else if k = 1 then Lib.Math.max.name else if k = 2 then Lib.Math.min.name else if k = 6 then cloneX else if k = 7 then gcX else Lib.objectInit
def itN : String := "java/util/ArrayList$Itr"
def itI : String := "java/util/Iterator"
def hnY : MethodName := ⟨"java/util/ArrayList$Itr", "hasNext", "()Z"⟩
def nxY : MethodName := ⟨"java/util/ArrayList$Itr", "next", "()Ljava/lang/Object;"⟩
def hnX : MethodName := ⟨"java/util/Iterator", "hasNext", "()Z"⟩
def nxX : MethodName := ⟨"java/util/Iterator", "next", "()Ljava/lang/Object;"⟩
def sbN : String := "java/lang/StringBuilder"
def ordX : MethodName := ⟨"TavernRumours$Kind", "ordinal", "()I"⟩
def kArr (pos : Nat) : Nat := pos
def tF (ci k : Nat) : String × String × String × Bool := (uQ ci).2.1 k
def tabOK (o : Nat) : Bool :=
  (LFd o).all (fun e => inT e.2.2.2 (.fieldLink (CN o) e.1 (tF e.2.1 e.2.2.1).1 (tF e.2.1 e.2.2.1).2.1 (tF e.2.1 e.2.2.1).2.2.1) && decide (e.2.1 < 15) && decide (e.2.2.1 < (uQ e.2.1).2.2)) &&
  (LNe o).all (fun e => inU e.2.2.2 (.fieldLinkNest (CN o) e.1 (tF e.2.1 e.2.2.1).1 (tF e.2.1 e.2.2.1).2.1 (tF e.2.1 e.2.2.1).2.2.1 (HN o)) && decide (e.2.1 < 15) && decide (e.2.2.1 < (uQ e.2.1).2.2)) &&
  (LSf o).all (fun e => inT e.2.2.2.1 (.fieldLink (CN o) e.1 "java/util/ArrayList" (tF e.2.1 e.2.2.1).2.1 (tF e.2.1 e.2.2.1).2.2.1) && inT e.2.2.2.2 (.sameField "java/util/ArrayList" (tF e.2.1 e.2.2.1).1 (tF e.2.1 e.2.2.1).2.1 (tF e.2.1 e.2.2.1).2.2.1) && decide (e.2.1 < 15) && decide (e.2.2.1 < (uQ e.2.1).2.2)) &&
  (LSt o).all (fun e => inT e.2.2 (.fieldLink (CN o) e.1 (FS e.2.1).1 (FS e.2.1).2.1 (FS e.2.1).2.2)) &&
  (LZt o).all (fun e => if e.2.1 = 99 then inT e.2.2 (.fieldLink (CN o) e.1 "jdk/internal/util/Preconditions" "SIOOBE_FORMATTER" "Ljava/util/function/BiFunction;") else match ZS[e.2.1]? with | some z => inT e.2.2 (.fieldLink (CN o) e.1 z.1 z.2.1 z.2.2.1) | none => false) &&
  (LZn o).all (fun e => match ZS[e.2.1]? with | some z => inU e.2.2 (.fieldLinkNest (CN o) e.1 z.1 z.2.1 z.2.2.1 (HN o)) | none => false) &&
  (LCl o).all (fun e => inT e.2.2 (.classLink (CN o) e.1 (clX e.2.1))) &&
  (LJg o).all (fun e => inT e.2.2 (.constantLong (CN o) e.1 (Int64.ofInt e.2.1))) &&
  (LIn o).all (fun e => inT e.2.2 (.constant (CN o) e.1 (Int32.ofInt e.2.1))) &&
  (LPr o).all (fun e => inT e.2.2 (.methodLink (CN o) e.1 (prX e.2.1)))
def mtOK (m : Nat) : Bool := match mInf m with
  | (y, cc, o, nL, ret, sta, p1, p2, p3, p4, hh) => inT p2 (if sta then .static y else .instanceMethod y) && inT p4 (.initialized y.cls) && decide (CN o = y.cls) && plainName y.cls && decide (y.cls ≠ "java/lang/invoke/MethodHandle") && decide (y.cls ≠ "java/lang/invoke/VarHandle") && decide (nL ≤ 30) && decide (o < 26)
def nPar (m : Nat) : Option Nat := (parseMethodDescriptor (mInf m).1.desc).map (fun d => d.parameters.length)
def lmOK (o : Nat) : Bool := (LMt o).all (fun e => match e with
  | (idx, m, kd, n, pos) => decide (m < 288) && decide (m ≠ 269) && (match kd with
    | 0 => inT pos (.methodLink (CN o) idx (mInf m).1) && !(mInf m).2.2.2.2.2.1 && inT (mInf m).2.2.2.2.2.2.2.2.1 (.selects (mInf m).1.cls (mInf m).1 (mInf m).1) && decide (nPar m = some (n - 1)) && decide (0 < n) && (mInf m).2.2.2.2.2.2.2.2.2.2.isEmpty
    | 1 => inT pos (.methodLink (CN o) idx (mInf m).1) && (mInf m).2.2.2.2.2.1 && decide (nPar m = some n) && (mInf m).2.2.2.2.2.2.2.2.2.2.isEmpty
    | 2 => inT pos (.methodLink (CN o) idx (mInf m).1) && !(mInf m).2.2.2.2.2.1 && decide ((mInf m).1.name = "<init>") && decide ((mInf m).2.2.2.2.1 = none) && decide (nPar m = some (n - 1)) && decide (0 < n) && (mInf m).2.2.2.2.2.2.2.2.2.2.isEmpty
    | 3 => inU pos (.methodLinkNest (CN o) idx (mInf m).1 (HN o)) && !(mInf m).2.2.2.2.2.1 && decide ((mInf m).1.name = "<init>") && decide ((mInf m).2.2.2.2.1 = none) && decide (nPar m = some (n - 1)) && decide (0 < n) && (mInf m).2.2.2.2.2.2.2.2.2.2.isEmpty
    | 4 => inU pos (.methodLinkNest (CN o) idx (mInf m).1 (HN o)) && (mInf m).2.2.2.2.2.1 && decide (nPar m = some n) && (mInf m).2.2.2.2.2.2.2.2.2.2.isEmpty
    | 5 => inT pos (.methodLink (CN o) idx ordX) && inT wOrdS (.sameMethod ordX.cls "java/lang/Enum" ordX.name ordX.desc) && inT (mInf m).2.2.2.2.2.2.2.2.1 (.selects "TavernRumours$Kind" ordX (mInf m).1) && decide (nPar m = some 0) && decide (n = 1) && !(mInf m).2.2.2.2.2.1 && (mInf m).2.2.2.2.2.2.2.2.2.2.isEmpty
    | 6 => inT pos (.methodLink (CN o) idx (mInf m).1) && (mInf m).2.2.2.2.2.1 && decide (nPar m = some n) && !(mInf m).2.2.2.2.2.2.2.2.2.2.isEmpty
    | 8 => inT pos (.methodLink (CN o) idx (mInf m).1) && !(mInf m).2.2.2.2.2.1 && (inT (mInf m).2.2.2.2.2.2.2.2.1 (.selects sbN (mInf m).1 (mInf m).1) || xTn.any (fun y => decide (y = (mInf m).1))) && inT (wSm m) (.sameMethod (mInf m).1.cls (mInf m).1.cls (mInf m).1.name (mInf m).1.desc) && decide (nPar m = some (n - 1)) && decide (0 < n) && (mInf m).2.2.2.2.2.2.2.2.2.2.isEmpty
    | 9 => inT pos (.methodLink (CN o) idx ⟨"java/util/Iterator", (mInf m).1.name, (mInf m).1.desc⟩) && !(mInf m).2.2.2.2.2.1 && inT (mInf m).2.2.2.2.2.2.2.2.1 (.selects "java/util/ArrayList$Itr" ⟨"java/util/Iterator", (mInf m).1.name, (mInf m).1.desc⟩ (mInf m).1) && decide (nPar m = some (n - 1)) && decide (0 < n) && (mInf m).2.2.2.2.2.2.2.2.2.2.isEmpty && (decide ((mInf m).1 = hnY) || decide ((mInf m).1 = nxY))
    | 10 => inT pos (.methodLink (CN o) idx (mInf m).1) && !(mInf m).2.2.2.2.2.1 && inT (wSm m) (.sameMethod (mInf m).1.cls (mInf m).1.cls (mInf m).1.name (mInf m).1.desc) && inT wSup (.superclass (CN o) (mInf m).1.cls) && decide ((mInf m).1.name ≠ "<init>") && decide (nPar m = some (n - 1)) && decide (0 < n) && (mInf m).2.2.2.2.2.2.2.2.2.2.isEmpty
    | 11 => inT pos (.methodLink (CN o) idx (mInf mLen).1) && !(mInf m).2.2.2.2.2.1 && inT (mInf m).2.2.2.2.2.2.2.2.1 (.selects sbN (mInf mLen).1 (mInf m).1) && inT (wSm mLen) (.sameMethod (mInf mLen).1.cls (mInf mLen).1.cls (mInf mLen).1.name (mInf mLen).1.desc) && decide (nPar mLen = some (n - 1)) && decide (0 < n) && (mInf m).2.2.2.2.2.2.2.2.2.2.isEmpty
    | _ => false))
def clOK (ci : Nat) : Bool := (List.range (uQ ci).2.2).all (fun k => inT ((UW ci).getD k 0) (u_lay (uQ ci).1 (uQ ci).2.1 k) && (parseFieldDescriptor (tF ci k).2.2.1).isSome && decide ((parseFieldDescriptor (tF ci k).2.2.1).map defaultValue = some (vp_V (mval (CF ci)) k)) && (List.range (uQ ci).2.2).all (fun j => decide (k = j) || decide ((tF ci k).2.1 ≠ (tF ci j).2.1))) && decide ((CF ci).length = (uQ ci).2.2)
def ciOK (ci : Nat) : Bool := inT (UI ci).1 (.instantiable (uQ ci).1 (uQ ci).2.2) && inT (UI ci).2 (.initialized (uQ ci).1)
def prOK : Bool := inT wACn (.native arraycopyName) && inT wACs (.static arraycopyName) && inT wSys (.initialized "java/lang/System") && inT wMath (.initialized "java/lang/Math") && inT wMaxS (.static Lib.Math.max.name) && inT wMaxC (.code Lib.Math.max.name Lib.Math.max.code 2 (some .int)) && inT wMinS (.static Lib.Math.min.name) && inT wMinC (.code Lib.Math.min.name Lib.Math.min.code 2 (some .int)) && inT wOI (.instanceMethod Lib.objectInit) && inT wOC (.code Lib.objectInit ⟨#[0xb1]⟩ 1 none) && inT wAint (.arrayClass .int) && inT wAbyte (.arrayClass .byte) && inT wAboolean (.arrayClass .boolean) && inT wAlong (.arrayClass .long)
def prOK2 : Bool := inT wClM (.sameMethod "[B" "java/lang/Object" "clone" "()Ljava/lang/Object;") && inT wClN (.native ⟨"java/lang/Object", "clone", "()Ljava/lang/Object;"⟩) && inT wClI (.instanceMethod ⟨"java/lang/Object", "clone", "()Ljava/lang/Object;"⟩) && inT wClS (.selects "[B" cloneX ⟨"java/lang/Object", "clone", "()Ljava/lang/Object;"⟩) && inT wGcN (.native gcX) && inT wGcI (.instanceMethod gcX) && inT wGcS (.selects "[Ljava/lang/Object;" gcX gcX)
theorem pr2 : prOK2 = true := by decide +kernel
theorem tab0 : tabOK 0 = true := by decide +kernel
theorem tab1 : tabOK 1 = true := by decide +kernel
theorem tab2 : tabOK 2 = true := by decide +kernel
theorem tab3 : tabOK 3 = true := by decide +kernel
theorem tab4 : tabOK 4 = true := by decide +kernel
theorem tab5 : tabOK 5 = true := by decide +kernel
theorem tab6 : tabOK 6 = true := by decide +kernel
theorem tab7 : tabOK 7 = true := by decide +kernel
theorem tab8 : tabOK 8 = true := by decide +kernel
theorem tab9 : tabOK 9 = true := by decide +kernel
theorem tab10 : tabOK 10 = true := by decide +kernel
theorem tab11 : tabOK 11 = true := by decide +kernel
theorem tab12 : tabOK 12 = true := by decide +kernel
theorem tab13 : tabOK 13 = true := by decide +kernel
theorem tab14 : tabOK 14 = true := by decide +kernel
theorem tab15 : tabOK 15 = true := by decide +kernel
theorem tab16 : tabOK 16 = true := by decide +kernel
theorem tab17 : tabOK 17 = true := by decide +kernel
theorem tab18 : tabOK 18 = true := by decide +kernel
theorem tab19 : tabOK 19 = true := by decide +kernel
theorem tab20 : tabOK 20 = true := by decide +kernel
theorem tab21 : tabOK 21 = true := by decide +kernel
theorem tab22 : tabOK 22 = true := by decide +kernel
theorem tab23 : tabOK 23 = true := by decide +kernel
theorem tab24 : tabOK 24 = true := by decide +kernel
theorem tab25 : tabOK 25 = true := by decide +kernel
def mtC (m : Nat) : Jvm.Cond := match mInf m with
  | (y, cc, o, nL, ret, sta, p1, p2, p3, p4, hh) => if hh.isEmpty then .code y cc nL ret else .codeWith y cc nL ret hh
theorem lm0 : lmOK 0 = true := by decide +kernel
theorem lm1 : lmOK 1 = true := by decide +kernel
theorem lm2 : lmOK 2 = true := by decide +kernel
theorem lm3 : lmOK 3 = true := by decide +kernel
theorem lm4 : lmOK 4 = true := by decide +kernel
theorem lm5 : lmOK 5 = true := by decide +kernel
theorem lm6 : lmOK 6 = true := by decide +kernel
theorem lm7 : lmOK 7 = true := by decide +kernel
theorem lm8 : lmOK 8 = true := by decide +kernel
theorem lm9 : lmOK 9 = true := by decide +kernel
theorem lm10 : lmOK 10 = true := by decide +kernel
theorem lm11 : lmOK 11 = true := by decide +kernel
theorem lm12 : lmOK 12 = true := by decide +kernel
theorem lm13 : lmOK 13 = true := by decide +kernel
theorem lm14 : lmOK 14 = true := by decide +kernel
theorem lm15 : lmOK 15 = true := by decide +kernel
theorem lm16 : lmOK 16 = true := by decide +kernel
theorem lm17 : lmOK 17 = true := by decide +kernel
theorem lm18 : lmOK 18 = true := by decide +kernel
theorem lm19 : lmOK 19 = true := by decide +kernel
theorem lm20 : lmOK 20 = true := by decide +kernel
theorem lm21 : lmOK 21 = true := by decide +kernel
theorem lm22 : lmOK 22 = true := by decide +kernel
theorem lm23 : lmOK 23 = true := by decide +kernel
theorem lm24 : lmOK 24 = true := by decide +kernel
theorem lm25 : lmOK 25 = true := by decide +kernel
theorem cl0 : clOK 0 = true := by decide +kernel
theorem cl1 : clOK 1 = true := by decide +kernel
theorem cl2 : clOK 2 = true := by decide +kernel
theorem cl3 : clOK 3 = true := by decide +kernel
theorem cl4 : clOK 4 = true := by decide +kernel
theorem cl5 : clOK 5 = true := by decide +kernel
theorem cl6 : clOK 6 = true := by decide +kernel
theorem cl7 : clOK 7 = true := by decide +kernel
theorem cl8 : clOK 8 = true := by decide +kernel
theorem cl9 : clOK 9 = true := by decide +kernel
theorem cl10 : clOK 10 = true := by decide +kernel
theorem cl11 : clOK 11 = true := by decide +kernel
theorem cl12 : clOK 12 = true := by decide +kernel
theorem cl13 : clOK 13 = true := by decide +kernel
theorem cl14 : clOK 14 = true := by decide +kernel
theorem ci0 : ciOK 0 = true := by decide +kernel
theorem ci1 : ciOK 1 = true := by decide +kernel
theorem ci3 : ciOK 3 = true := by decide +kernel
theorem ci4 : ciOK 4 = true := by decide +kernel
theorem ci5 : ciOK 5 = true := by decide +kernel
theorem ci6 : ciOK 6 = true := by decide +kernel
theorem ci7 : ciOK 7 = true := by decide +kernel
theorem ci8 : ciOK 8 = true := by decide +kernel
theorem ci9 : ciOK 9 = true := by decide +kernel
theorem ci10 : ciOK 10 = true := by decide +kernel
theorem ci11 : ciOK 11 = true := by decide +kernel
theorem ci12 : ciOK 12 = true := by decide +kernel
theorem ci14 : ciOK 14 = true := by decide +kernel
theorem pr0 : prOK = true := by decide +kernel
