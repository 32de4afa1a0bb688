/-! ===== the places of more words, and the checks of the tables, by the kernel ===== -/
def UW : Nat → List Nat
  | 1 => [276, 278, 280]
  | 3 => [418, 420, 422, 424, 426, 428, 430, 432, 434, 436, 438, 440, 442, 444]
  | 4 => [298, 300, 302, 304, 306, 308]
  | 5 => [232, 234, 236, 238, 240, 242, 244, 246, 248, 250, 252, 254, 256, 258, 260, 262]
  | 6 => [394, 396]
  | 7 => [350, 352, 354, 356, 358, 360, 362, 364, 366, 368, 370, 372, 374, 376, 378, 380, 382]
  | 8 => [177, 179, 181, 183, 185]
  | 9 => [456, 458, 460, 462, 464, 466, 468, 470, 472]
  | 10 => [1412, 1414, 1416, 1418, 1420, 1422, 1424, 1426, 1428, 1430, 1432, 1434, 1436, 1438, 1440, 1442]
  | 11 => [1479, 1481, 1483, 1485, 1487, 1489, 1491, 1493, 1495, 1497, 1499, 1501, 1503, 1505]
  | 12 => [1529, 1531, 1533, 1535, 1537, 1539, 1541, 1543, 1545, 1547, 1549, 1551, 1553, 1555, 1557, 1559, 1561, 1563]
  | _ => []
/-- places: instantiable, initialized -/
def UI : Nat → Nat × Nat
  | 1 => (266, 122)
  | 3 => (312, 124)
  | 4 => (284, 123)
  | 5 => (154, 118)
  | 6 => (387, 126)
  | 7 => (318, 125)
  | 8 => (160, 119)
  | 9 => (146, 117)
  | 10 => (1376, 128)
  | 11 => (1446, 129)
  | 12 => (1370, 127)
  | _ => (0, 0)
abbrev wACn : Nat := 788
abbrev wACs : Nat := 787
abbrev wSys : Nat := 141
abbrev wMath : Nat := 142
abbrev wMaxS : Nat := 939
abbrev wMaxC : Nat := 940
abbrev wMinS : Nat := 1204
abbrev wMinC : Nat := 1205
abbrev wOI : Nat := 151
abbrev wOC : Nat := 152
abbrev wAint : Nat := 189
abbrev wAbyte : Nat := 188
abbrev wAboolean : Nat := 385
abbrev wAlong : Nat := 190
abbrev wOrdS : Nat := 590
def ordX : MethodName := ⟨"TavernRumours$Kind", "ordinal", "()I"⟩
def kArr (pos : Nat) : Nat := pos
def tF (ci k : Nat) : String × String × String × Bool := (uQ ci).2.1 k
def tabOK (o : Nat) : Bool :=
  (LFd o).all (fun e => inT e.2.2.2 (.fieldLink (CN o) e.1 (tF e.2.1 e.2.2.1).1 (tF e.2.1 e.2.2.1).2.1 (tF e.2.1 e.2.2.1).2.2.1) && decide (e.2.1 < 13) && decide (e.2.2.1 < (uQ e.2.1).2.2)) &&
  (LNe o).all (fun e => inU e.2.2.2 (.fieldLinkNest (CN o) e.1 (tF e.2.1 e.2.2.1).1 (tF e.2.1 e.2.2.1).2.1 (tF e.2.1 e.2.2.1).2.2.1 (HN o)) && decide (e.2.1 < 13) && decide (e.2.2.1 < (uQ e.2.1).2.2)) &&
  (LSt o).all (fun e => inT e.2.2 (.fieldLink (CN o) e.1 (FS e.2.1).1 (FS e.2.1).2.1 (FS e.2.1).2.2)) &&
  (LZt o).all (fun e => if e.2.1 = 99 then inT e.2.2 (.fieldLink (CN o) e.1 "jdk/internal/util/Preconditions" "SIOOBE_FORMATTER" "Ljava/util/function/BiFunction;") else match ZS[e.2.1]? with | some z => inT e.2.2 (.fieldLink (CN o) e.1 z.1 z.2.1 z.2.2.1) | none => false) &&
  (LZn o).all (fun e => match ZS[e.2.1]? with | some z => inU e.2.2 (.fieldLinkNest (CN o) e.1 z.1 z.2.1 z.2.2.1 (HN o)) | none => false) &&
  (LCl o).all (fun e => inT e.2.2 (.classLink (CN o) e.1 (if e.2.1 = 99 then "TavernRumours$Kind" else if e.2.1 = 100 then "[[I" else if e.2.1 = 101 then "[[J" else (uQ e.2.1).1))) &&
  (LJg o).all (fun e => inT e.2.2 (.constantLong (CN o) e.1 (Int64.ofInt e.2.1))) &&
  (LPr o).all (fun e => inT e.2.2 (.methodLink (CN o) e.1 (if e.2.1 = 0 then arraycopyName else if e.2.1 = 1 then Lib.Math.max.name else if e.2.1 = 2 then Lib.Math.min.name else Lib.objectInit)))
def mtOK (m : Nat) : Bool := match mInf m with
  | (y, cc, o, nL, ret, sta, p1, p2, p3, p4, hh) => inT p2 (if sta then .static y else .instanceMethod y) && inT p4 (.initialized y.cls) && decide (CN o = y.cls) && plainName y.cls && decide (y.cls ≠ "java/lang/invoke/MethodHandle") && decide (y.cls ≠ "java/lang/invoke/VarHandle") && decide (nL ≤ 30) && decide (o < 19)
def nPar (m : Nat) : Option Nat := (parseMethodDescriptor (mInf m).1.desc).map (fun d => d.parameters.length)
def lmOK (o : Nat) : Bool := (LMt o).all (fun e => match e with
  | (idx, m, kd, n, pos) => decide (m < 288) && decide (m ≠ 269) && (match kd with
    | 0 => inT pos (.methodLink (CN o) idx (mInf m).1) && !(mInf m).2.2.2.2.2.1 && inT (mInf m).2.2.2.2.2.2.2.2.1 (.selects (mInf m).1.cls (mInf m).1 (mInf m).1) && decide (nPar m = some (n - 1)) && decide (0 < n) && (mInf m).2.2.2.2.2.2.2.2.2.2.isEmpty
    | 1 => inT pos (.methodLink (CN o) idx (mInf m).1) && (mInf m).2.2.2.2.2.1 && decide (nPar m = some n) && (mInf m).2.2.2.2.2.2.2.2.2.2.isEmpty
    | 2 => inT pos (.methodLink (CN o) idx (mInf m).1) && !(mInf m).2.2.2.2.2.1 && decide ((mInf m).1.name = "<init>") && decide ((mInf m).2.2.2.2.1 = none) && decide (nPar m = some (n - 1)) && decide (0 < n) && (mInf m).2.2.2.2.2.2.2.2.2.2.isEmpty
    | 3 => inU pos (.methodLinkNest (CN o) idx (mInf m).1 (HN o)) && !(mInf m).2.2.2.2.2.1 && decide ((mInf m).1.name = "<init>") && decide ((mInf m).2.2.2.2.1 = none) && decide (nPar m = some (n - 1)) && decide (0 < n) && (mInf m).2.2.2.2.2.2.2.2.2.2.isEmpty
    | 4 => inU pos (.methodLinkNest (CN o) idx (mInf m).1 (HN o)) && (mInf m).2.2.2.2.2.1 && decide (nPar m = some n) && (mInf m).2.2.2.2.2.2.2.2.2.2.isEmpty
    | 5 => inT pos (.methodLink (CN o) idx ordX) && inT wOrdS (.sameMethod ordX.cls "java/lang/Enum" ordX.name ordX.desc) && inT (mInf m).2.2.2.2.2.2.2.2.1 (.selects "TavernRumours$Kind" ordX (mInf m).1) && decide (nPar m = some 0) && decide (n = 1) && !(mInf m).2.2.2.2.2.1 && (mInf m).2.2.2.2.2.2.2.2.2.2.isEmpty
    | 6 => inT pos (.methodLink (CN o) idx (mInf m).1) && (mInf m).2.2.2.2.2.1 && decide (nPar m = some n) && !(mInf m).2.2.2.2.2.2.2.2.2.2.isEmpty
    | _ => false))
def clOK (ci : Nat) : Bool := (List.range (uQ ci).2.2).all (fun k => inT ((UW ci).getD k 0) (u_lay (uQ ci).1 (uQ ci).2.1 k) && (parseFieldDescriptor (tF ci k).2.2.1).isSome && decide ((parseFieldDescriptor (tF ci k).2.2.1).map defaultValue = some (vp_V (mval (CF ci)) k)) && (List.range (uQ ci).2.2).all (fun j => decide (k = j) || decide ((tF ci k).2.1 ≠ (tF ci j).2.1))) && decide ((CF ci).length = (uQ ci).2.2)
def ciOK (ci : Nat) : Bool := inT (UI ci).1 (.instantiable (uQ ci).1 (uQ ci).2.2) && inT (UI ci).2 (.initialized (uQ ci).1)
def prOK : Bool := inT wACn (.native arraycopyName) && inT wACs (.static arraycopyName) && inT wSys (.initialized "java/lang/System") && inT wMath (.initialized "java/lang/Math") && inT wMaxS (.static Lib.Math.max.name) && inT wMaxC (.code Lib.Math.max.name Lib.Math.max.code 2 (some .int)) && inT wMinS (.static Lib.Math.min.name) && inT wMinC (.code Lib.Math.min.name Lib.Math.min.code 2 (some .int)) && inT wOI (.instanceMethod Lib.objectInit) && inT wOC (.code Lib.objectInit ⟨#[0xb1]⟩ 1 none) && inT wAint (.arrayClass .int) && inT wAbyte (.arrayClass .byte) && inT wAboolean (.arrayClass .boolean) && inT wAlong (.arrayClass .long)
theorem tab0 : tabOK 0 = true := by decide +kernel
theorem tab1 : tabOK 1 = true := by decide +kernel
theorem tab2 : tabOK 2 = true := by decide +kernel
theorem tab3 : tabOK 3 = true := by decide +kernel
theorem tab4 : tabOK 4 = true := by decide +kernel
theorem tab5 : tabOK 5 = true := by decide +kernel
theorem tab6 : tabOK 6 = true := by decide +kernel
theorem tab7 : tabOK 7 = true := by decide +kernel
theorem tab8 : tabOK 8 = true := by decide +kernel
theorem tab9 : tabOK 9 = true := by decide +kernel
theorem tab10 : tabOK 10 = true := by decide +kernel
theorem tab11 : tabOK 11 = true := by decide +kernel
theorem tab12 : tabOK 12 = true := by decide +kernel
theorem tab13 : tabOK 13 = true := by decide +kernel
theorem tab14 : tabOK 14 = true := by decide +kernel
theorem tab15 : tabOK 15 = true := by decide +kernel
theorem tab16 : tabOK 16 = true := by decide +kernel
theorem tab17 : tabOK 17 = true := by decide +kernel
theorem tab18 : tabOK 18 = true := by decide +kernel
def mtC (m : Nat) : Jvm.Cond := match mInf m with
  | (y, cc, o, nL, ret, sta, p1, p2, p3, p4, hh) => if hh.isEmpty then .code y cc nL ret else .codeWith y cc nL ret hh
theorem lm0 : lmOK 0 = true := by decide +kernel
theorem lm1 : lmOK 1 = true := by decide +kernel
theorem lm2 : lmOK 2 = true := by decide +kernel
theorem lm3 : lmOK 3 = true := by decide +kernel
theorem lm4 : lmOK 4 = true := by decide +kernel
theorem lm5 : lmOK 5 = true := by decide +kernel
theorem lm6 : lmOK 6 = true := by decide +kernel
theorem lm7 : lmOK 7 = true := by decide +kernel
theorem lm8 : lmOK 8 = true := by decide +kernel
theorem lm9 : lmOK 9 = true := by decide +kernel
theorem lm10 : lmOK 10 = true := by decide +kernel
theorem lm11 : lmOK 11 = true := by decide +kernel
theorem lm12 : lmOK 12 = true := by decide +kernel
theorem lm13 : lmOK 13 = true := by decide +kernel
theorem lm14 : lmOK 14 = true := by decide +kernel
theorem lm15 : lmOK 15 = true := by decide +kernel
theorem lm16 : lmOK 16 = true := by decide +kernel
theorem lm17 : lmOK 17 = true := by decide +kernel
theorem lm18 : lmOK 18 = true := by decide +kernel
theorem cl0 : clOK 0 = true := by decide +kernel
theorem cl1 : clOK 1 = true := by decide +kernel
theorem cl2 : clOK 2 = true := by decide +kernel
theorem cl3 : clOK 3 = true := by decide +kernel
theorem cl4 : clOK 4 = true := by decide +kernel
theorem cl5 : clOK 5 = true := by decide +kernel
theorem cl6 : clOK 6 = true := by decide +kernel
theorem cl7 : clOK 7 = true := by decide +kernel
theorem cl8 : clOK 8 = true := by decide +kernel
theorem cl9 : clOK 9 = true := by decide +kernel
theorem cl10 : clOK 10 = true := by decide +kernel
theorem cl11 : clOK 11 = true := by decide +kernel
theorem cl12 : clOK 12 = true := by decide +kernel
theorem ci1 : ciOK 1 = true := by decide +kernel
theorem ci3 : ciOK 3 = true := by decide +kernel
theorem ci4 : ciOK 4 = true := by decide +kernel
theorem ci5 : ciOK 5 = true := by decide +kernel
theorem ci6 : ciOK 6 = true := by decide +kernel
theorem ci7 : ciOK 7 = true := by decide +kernel
theorem ci8 : ciOK 8 = true := by decide +kernel
theorem ci9 : ciOK 9 = true := by decide +kernel
theorem ci10 : ciOK 10 = true := by decide +kernel
theorem ci11 : ciOK 11 = true := by decide +kernel
theorem ci12 : ciOK 12 = true := by decide +kernel
theorem pr0 : prOK = true := by decide +kernel
