/-! ===== A SMALL MACHINE: the class, the law and the reference run on it; its cells are numbered in the order in which they are made; numbers are Int =====
   values: whole numbers of 32 and 64 bits, doubles, cells that the run made, cells that were there before it, null (false), nothing known (true) -/
abbrev MV : Type := Int ⊕ Int ⊕ UInt64 ⊕ Nat ⊕ Nat ⊕ Bool
abbrev qI (n : Int) : MV := .inl n
abbrev qL (n : Int) : MV := .inr (.inl n)
abbrev qD (u : UInt64) : MV := .inr (.inr (.inl u))
abbrev qR (a : Nat) : MV := .inr (.inr (.inr (.inl a)))
abbrev qS (a : Nat) : MV := .inr (.inr (.inr (.inr (.inl a))))
abbrev qN : MV := .inr (.inr (.inr (.inr (.inr false))))
abbrev qU : MV := .inr (.inr (.inr (.inr (.inr true))))
/-- cells: rows of small whole numbers, of long ones, of references; objects by their class -/
abbrev MC : Type := (FieldType × Nat × (Nat → Int)) ⊕ (Nat × (Nat → Int)) ⊕ (FieldType × Nat × (Nat → MV)) ⊕ (Nat × List MV)
abbrev cI (ty : FieldType) (n : Nat) (f : Nat → Int) : MC := .inl (ty, n, f)
abbrev cL (n : Nat) (f : Nat → Int) : MC := .inr (.inl (n, f))
abbrev cQ (ty : FieldType) (n : Nat) (f : Nat → MV) : MC := .inr (.inr (.inl (ty, n, f)))
abbrev cO (ci : Nat) (fs : List MV) : MC := .inr (.inr (.inr (ci, fs)))
/-- cells, how many there are, how many were made and of how many slots (with those of exceptions) -/
abbrev MH : Type := (Nat → MC) × Nat × Nat × Nat
/-- an instruction in a normal form, what its index stands for, a constant -/
abbrev MI : Type := Instr × List Nat × Int
/-- blocks, locals, the class -/
abbrev MM : Type := (Nat → List MI) × Nat × Nat
def mUp {α : Type} (f : Nat → α) (k : Nat) (v : α) : Nat → α := fun j => if j = k then v else f j
theorem mUp_self {α : Type} (f : Nat → α) (k : Nat) (v : α) : mUp f k v k = v := if_pos rfl
theorem mUp_ne {α : Type} {f : Nat → α} {k j : Nat} {v : α} (h : j ≠ k) : mUp f k v j = f j := if_neg h
abbrev w32 (x : Int) : Int := x.bmod 4294967296
abbrev w64 (x : Int) : Int := x.bmod 18446744073709551616
def mset (h : MH) (a : Nat) (c : MC) : MH := (mUp h.1 a c, h.2)
def mnew (h : MH) (c : MC) (n : Nat) : MH := (mUp h.1 h.2.1 c, h.2.1 + 1, h.2.2.1 + 1, h.2.2.2 + n)
/-- locals -/
def lg : List MV → Nat → MV
  | [], _ => qU
  | v :: _, 0 => v
  | _ :: t, n + 1 => lg t n
def lset : List MV → Nat → MV → List MV
  | [], _, _ => []
  | _ :: t, 0, v => v :: t
  | x :: t, n + 1, v => x :: lset t n v
def wide : MV → Bool
  | .inr (.inl _) => true
  | .inr (.inr (.inl _)) => true
  | _ => false
def lfree : List MV → Nat → Bool
  | _, 0 => true
  | ls, n + 1 => !(wide (lg ls n))
def margs : List MV → List MV
  | [] => []
  | v :: t => if wide v then v :: qU :: margs t else v :: margs t
def mpad (n : Nat) (l : List MV) : List MV := l ++ List.replicate (n - l.length) qU
/-- what a step comes to: the next place; a call (callee, its values, the stack behind it); an end -/
abbrev MS : Type := (List MI × List MV × List MV × MH) ⊕ (Nat × List MV × List MV) ⊕ (Option MV ⊕ Nat)
abbrev nx (is : List MI) (ls st : List MV) (h : MH) : Option MS := some (.inl (is, ls, st, h))
def swL (x lo : Int) (d : Nat) (l : List Nat) : Nat := if x < lo then d else l.getD (x - lo).toNat d
def lkL (x : Int) (d : Nat) : List (Int × Int) → List Nat → Nat
  | [], _ => d
  | _ :: _, [] => d
  | p :: ps, k :: ks => if x = p.1 then k else lkL x d ps ks
def mdef : List Nat → List MV
  | [] => []
  | 0 :: t => qI 0 :: mdef t
  | 1 :: t => qL 0 :: mdef t
  | 3 :: t => qI 0 :: mdef t
  | 4 :: t => qI 0 :: mdef t
  | _ :: t => qN :: mdef t
def i32 (f : Int32 → Int32 → Int32) (x y : Int) : Int := (f (Int32.ofInt x) (Int32.ofInt y)).toInt
/-- the machine's tables: methods; fields of cells that were there before; rows that were there before; the kinds of a class' fields -/
abbrev MG : Type := (Nat → MM) × (Nat → Nat → Option MV) × (Nat → Option (FieldType × Nat × (Nat → MV))) × (Nat → List Nat)
/-- how high the stack is, in words -/
def hgt : List MV → Nat
  | [] => 0
  | v :: t => (if wide v = true then 2 else 1) + hgt t
/-- a value at a place of a row -/
def rdI (G : MG) (h : MH) (r : MV) (i : Int) : Option (FieldType × Int) := match r with
  | .inr (.inr (.inr (.inl a))) => match h.1 a with
    | .inl (ty, n, f) => if 0 ≤ i ∧ i < (n : Int) then some (ty, f i.toNat) else none
    | _ => none
  | .inr (.inr (.inr (.inr (.inl a)))) => match G.2.2.1 a with
    | some (ty, n, f) => if 0 ≤ i ∧ i < (n : Int) then (match f i.toNat with | .inl x => some (ty, x) | _ => none) else none
    | none => none
  | _ => none
def isRT : FieldType → Bool
  | .object _ => true
  | .array _ => true
  | _ => false
def rdQ (G : MG) (h : MH) (r : MV) (i : Int) : Option MV := match r with
  | .inr (.inr (.inr (.inl a))) => match h.1 a with
    | .inr (.inr (.inl (ty, n, f))) => if 0 ≤ i ∧ i < (n : Int) ∧ isRT ty = true then some (f i.toNat) else none
    | _ => none
  | .inr (.inr (.inr (.inr (.inl a)))) => match G.2.2.1 a with
    | some (.object _, n, f) => if 0 ≤ i ∧ i < (n : Int) then some (f i.toNat) else none
    | _ => none
  | _ => none
def rdN (G : MG) (h : MH) (r : MV) : Option Int := match r with
  | .inr (.inr (.inr (.inl a))) => match h.1 a with
    | .inl (_, n, _) => some (n : Int)
    | .inr (.inl (n, _)) => some (n : Int)
    | .inr (.inr (.inl (_, n, _))) => some (n : Int)
    | _ => none
  | .inr (.inr (.inr (.inr (.inl a)))) => match G.2.2.1 a with
    | some (_, n, _) => some (n : Int)
    | none => none
  | _ => none
def rdF (G : MG) (h : MH) (r : MV) (ci k : Nat) : Option MV := match r with
  | .inr (.inr (.inr (.inl a))) => match h.1 a with
    | .inr (.inr (.inr (c, fs))) => if c = ci ∧ k < 50 then fs[k]? else if c = 14 ∧ 53 ≤ k ∧ k ≤ 54 then fs[k - 53]? else none
    | _ => none
  | .inr (.inr (.inr (.inr (.inl a)))) => if 50 ≤ k then G.2.1 a k else none
  | _ => none
def isRf (v : MV) : Bool := match v with
  | .inr (.inr (.inr (.inl _))) => true
  | .inr (.inr (.inr (.inr (.inl _)))) => true
  | .inr (.inr (.inr (.inr (.inr false)))) => true
  | _ => false
def fitK (t : Nat) (v : MV) : Bool := match t, v with
  | 0, .inl _ => true
  | 1, .inr (.inl _) => true
  | 2, .inr (.inr (.inr (.inl _))) => true
  | 2, .inr (.inr (.inr (.inr (.inl _)))) => true
  | 2, .inr (.inr (.inr (.inr (.inr false)))) => true
  | 3, .inl x => decide (-128 ≤ x) && decide (x ≤ 127)
  | 4, .inl x => decide (0 ≤ x) && decide (x ≤ 1)
  | _, _ => false
def mgrid (t : Nat) (n k : Int) (h : MH) : MH :=
  (fun a => if h.2.1 + 1 ≤ a ∧ a < h.2.1 + 1 + n.toNat then (if t = 0 then cI .int k.toNat (fun _ => 0) else if t = 3 then cI .boolean k.toNat (fun _ => 0) else cL k.toNat (fun _ => 0)) else (mnew h (cQ (.array (if t = 0 then .int else if t = 3 then .boolean else .long)) n.toNat (fun j => if j < n.toNat then qR (h.2.1 + 1 + j) else qN)) n.toNat).1 a, h.2.1 + 1 + n.toNat, h.2.2.1 + 1 + n.toNat, h.2.2.2 + n.toNat + n.toNat * k.toNat)
/-- a row of whole numbers, or nothing: what a list holds -/
def isIA : MC → Bool
  | .inl (ty, _, _) => decide (ty = .int)
  | _ => false
def okE (h : MH) : MV → Bool
  | .inr (.inr (.inr (.inl a))) => isIA (h.1 a)
  | .inr (.inr (.inr (.inr (.inr false)))) => true
  | _ => false
abbrev tOb : FieldType := .object "java/lang/Object"
def okQ (c : MC) (ty : FieldType) : Bool := match c with
  | .inl (t, _, _) => (decide (t = .int) && (decide (ty = .array .int) || decide (ty = tOb))) || (decide (t = .boolean) && decide (ty = .array .boolean))
  | _ => false
def nqT : List Nat → FieldType
  | [1] => .array .int
  | [2] => tOb
  | [3] => .array .boolean
  | _ => .object "TavernRumours$Kind"
def nqC : List Nat → Nat
  | [1] => 104
  | [2] => 105
  | [3] => 106
  | _ => 99
def ckC (t : Nat) : MC → Bool
  | .inl (ty, _, _) => (t == 0 && decide (ty = .int)) || (t == 2 && decide (ty = .byte))
  | .inr (.inr (.inl (ty, _, _))) => t == 1 && decide (ty = tOb)
  | _ => false
def isNl : MV → Bool
  | .inr (.inr (.inr (.inr (.inr false)))) => true
  | _ => false
def unI : MV → Int
  | .inl x => x
  | _ => 0
def isBy : MV → Bool
  | .inl x => decide (-128 ≤ x) && decide (x ≤ 127)
  | _ => false
/-- bytes of a row that was there before into one that the run made -/
def mCopyS (G : MG) (h : MH) (a : Nat) (sp : Int) (b : Nat) (dp n : Int) : Option MH := match G.2.2.1 a, h.1 b with
  | some (ty, k, f), .inl (ty2, k2, g) => if ty = .byte ∧ ty2 = .byte ∧ 0 ≤ sp ∧ 0 ≤ dp ∧ 0 ≤ n ∧ sp + n ≤ (k : Int) ∧ dp + n ≤ (k2 : Int) ∧ (List.range k).all (fun i => isBy (f i)) = true then
      some (mset h b (cI .byte k2 (fun j => if dp.toNat ≤ j ∧ j < dp.toNat + n.toNat then unI (f (sp.toNat + (j - dp.toNat))) else g j))) else none
  | _, _ => none
def mCopy (G : MG) (h : MH) (a : Nat) (sp : Int) (b : Nat) (dp n : Int) : Option MH := match h.1 a, h.1 b with
  | .inl (ty, k, f), .inl (ty2, k2, g) => if ty = .int ∧ ty2 = .int ∧ a ≠ b ∧ 0 ≤ sp ∧ 0 ≤ dp ∧ 0 ≤ n ∧ sp + n ≤ (k : Int) ∧ dp + n ≤ (k2 : Int) then
      some (mset h b (cI .int k2 (fun j => if dp.toNat ≤ j ∧ j < dp.toNat + n.toNat then f (sp.toNat + (j - dp.toNat)) else g j))) else if ty = .boolean ∧ ty2 = .boolean ∧ a ≠ b ∧ 0 ≤ sp ∧ 0 ≤ dp ∧ 0 ≤ n ∧ sp + n ≤ (k : Int) ∧ dp + n ≤ (k2 : Int) ∧ (List.range n.toNat).all (fun i => decide (f (sp.toNat + i) = 0 ∨ f (sp.toNat + i) = 1)) = true then
      some (mset h b (cI .boolean k2 (fun j => if dp.toNat ≤ j ∧ j < dp.toNat + n.toNat then f (sp.toNat + (j - dp.toNat)) else g j))) else if ty = .byte ∧ ty2 = .byte ∧ a ≠ b ∧ 0 ≤ sp ∧ 0 ≤ dp ∧ 0 ≤ n ∧ sp + n ≤ (k : Int) ∧ dp + n ≤ (k2 : Int) ∧ (List.range n.toNat).all (fun i => decide (-128 ≤ f (sp.toNat + i) ∧ f (sp.toNat + i) ≤ 127)) = true then
      some (mset h b (cI .byte k2 (fun j => if dp.toNat ≤ j ∧ j < dp.toNat + n.toNat then f (sp.toNat + (j - dp.toNat)) else g j))) else none
  | .inr (.inr (.inl (ty, k, f))), .inr (.inr (.inl (ty2, k2, g))) => if ty = tOb ∧ ty2 = tOb ∧ 0 ≤ sp ∧ 0 ≤ dp ∧ 0 ≤ n ∧ sp + n ≤ (k : Int) ∧ dp + n ≤ (k2 : Int) ∧ (List.range n.toNat).all (fun i => okE h (f (sp.toNat + i))) = true then
      some (mset h b (cQ tOb k2 (fun j => if dp.toNat ≤ j ∧ j < dp.toNat + n.toNat then f (sp.toNat + (j - dp.toNat)) else g j))) else none
  | _, _ => none

/-- the cell that a method is called on is one of its class -/
def rcv (h : MH) (t : Nat) : List MV → Bool
  | .inr (.inr (.inr (.inl a))) :: _ => match h.1 a with
    | .inr (.inr (.inr (ci, _))) => decide (ci = t) || (ci == 11 && t == 20) || (ci == 12 && (t == 24 || t == 25))
    | _ => false
  | .inr (.inr (.inr (.inr (.inl a)))) :: _ => decide (a < 46) && (decide (t = 2) || decide (t = 18)) || decide (100 ≤ a) && decide (a < 143) && decide (t = 14) || decide (143 ≤ a) && decide (a < 190) && decide (t = 14)
  | _ => false
def mCnd (c : ClassFile.Cond) (x y : Int) (a b : Option MS) : Option MS := match c with
  | .eq => if x = y then a else b
  | .ne => if x = y then b else a
  | .lt => if x < y then a else b
  | .ge => if y ≤ x then a else b
  | .gt => if y < x then a else b
  | .le => if x ≤ y then a else b
def mStep (G : MG) (B : Nat → List MI) (i : MI) (is : List MI) (ls st : List MV) (h : MH) : Option MS := match i.1 with
  | .sipush n => nx is ls (qI n :: st) h
  | .lconst _ => nx is ls (qL i.2.2 :: st) h
  | .ldc2_w _ => nx is ls (qL i.2.2 :: st) h
  | .dconst n => if n = 0 then nx is ls (qD FP.dconst0 :: st) h else none
  | .ldc _ => (match i.2.1 with
    | [a] => nx is ls (qS a :: st) h
    | [] => nx is ls (qI i.2.2 :: st) h
    | _ => none)
  | .getstatic _ => (match i.2.1 with
    | [0, a] => nx is ls (qS a :: st) h
    | [1] => nx is ls (qI i.2.2 :: st) h
    | [2] => match G.2.1 997 0 with
        | some v => if isRf v = true then nx is ls (v :: st) h else none
        | none => none
    | _ => none)
  | .iload n => match lg ls n with
      | .inl x => nx is ls (.inl x :: st) h
      | _ => none
  | .lload n => match lg ls n with
      | .inr (.inl x) => nx is ls (.inr (.inl x) :: st) h
      | _ => none
  | .dload n => match lg ls n with
      | .inr (.inr (.inl x)) => nx is ls (.inr (.inr (.inl x)) :: st) h
      | _ => none
  | .aload n => match lg ls n with
      | .inr (.inr (.inr (.inl a))) => nx is ls (.inr (.inr (.inr (.inl a))) :: st) h
      | .inr (.inr (.inr (.inr (.inl a)))) => nx is ls (.inr (.inr (.inr (.inr (.inl a)))) :: st) h
      | .inr (.inr (.inr (.inr (.inr false)))) => nx is ls (.inr (.inr (.inr (.inr (.inr false)))) :: st) h
      | _ => none
  | .istore n => (match st with
    | .inl x :: r => if n < ls.length ∧ lfree ls n = true then nx is (lset ls n (.inl x)) r h else none
    | _ => none)
  | .lstore n => (match st with
    | .inr (.inl x) :: r => if n + 1 < ls.length ∧ lfree ls n = true then nx is (lset (lset ls n (.inr (.inl x))) (n + 1) qU) r h else none
    | _ => none)
  | .dstore n => (match st with
    | .inr (.inr (.inl x)) :: r => if n + 1 < ls.length ∧ lfree ls n = true then nx is (lset (lset ls n (.inr (.inr (.inl x)))) (n + 1) qU) r h else none
    | _ => none)
  | .astore n => (match st with
    | v :: r => if isRf v = true ∧ n < ls.length ∧ lfree ls n = true then nx is (lset ls n v) r h else none
    | _ => none)
  | .iinc n k => match lg ls n with
      | .inl x => if n < ls.length ∧ lfree ls n = true then nx is (lset ls n (.inl (w32 (x + k)))) st h else none
      | _ => none
  | .iadd => (match st with
    | .inl y :: .inl x :: r => nx is ls (qI (w32 (x + y)) :: r) h
    | _ => none)
  | .isub => (match st with
    | .inl y :: .inl x :: r => nx is ls (qI (w32 (x - y)) :: r) h
    | _ => none)
  | .imul => (match st with
    | .inl y :: .inl x :: r => nx is ls (qI (w32 (x * y)) :: r) h
    | _ => none)
  | .idiv => (match st with
    | .inl y :: .inl x :: r => if y = 0 then none else nx is ls (qI (w32 (x.tdiv y)) :: r) h
    | _ => none)
  | .irem => (match st with
    | .inl y :: .inl x :: r => if y = 0 then none else nx is ls (qI (w32 (x - x.tdiv y * y)) :: r) h
    | _ => none)
  | .ineg => (match st with
    | .inl x :: r => nx is ls (qI (w32 (-x)) :: r) h
    | _ => none)
  | .iand => (match st with
    | .inl y :: .inl x :: r => nx is ls (qI (i32 (· &&& ·) x y) :: r) h
    | _ => none)
  | .ior => (match st with
    | .inl y :: .inl x :: r => nx is ls (qI (i32 (· ||| ·) x y) :: r) h
    | _ => none)
  | .ishr => (match st with
    | .inl y :: .inl x :: r => nx is ls (qI (i32 (fun a b => a >>> (b &&& 31)) x y) :: r) h
    | _ => none)
  | .ishl => (match st with
    | .inl y :: .inl x :: r => nx is ls (qI (i32 (fun a b => a <<< (b &&& 31)) x y) :: r) h
    | _ => none)
  | .iushr => (match st with
    | .inl y :: .inl x :: r => nx is ls (qI (i32 (fun a b => (a.toUInt32 >>> (b.toUInt32 &&& Int32.toUInt32 31)).toInt32) x y) :: r) h
    | _ => none)
  | .i2b => (match st with
    | .inl x :: r => nx is ls (qI (x.bmod 256) :: r) h
    | _ => none)
  | .i2c => (match st with
    | .inl x :: r => nx is ls (qI (x.emod 65536) :: r) h
    | _ => none)
  | .i2l => (match st with
    | .inl x :: r => nx is ls (qL x :: r) h
    | _ => none)
  | .ladd => (match st with
    | .inr (.inl y) :: .inr (.inl x) :: r => nx is ls (qL (w64 (x + y)) :: r) h
    | _ => none)
  | .lmul => (match st with
    | .inr (.inl y) :: .inr (.inl x) :: r => nx is ls (qL (w64 (x * y)) :: r) h
    | _ => none)
  | .lcmp => (match st with
    | .inr (.inl y) :: .inr (.inl x) :: r => nx is ls (qI (if x < y then -1 else if x = y then 0 else 1) :: r) h
    | _ => none)
  | .i2d => (match st with
    | .inl x :: r => nx is ls (qD (FP.i2d (Int32.ofInt x)) :: r) h
    | _ => none)
  | .ddiv => (match st with
    | .inr (.inr (.inl y)) :: .inr (.inr (.inl x)) :: r => if (FP.ddiv x y) &&& 0x7fffffffffffffff ≤ 0x7ff0000000000000 then nx is ls (qD (FP.ddiv x y) :: r) h else none
    | _ => none)
  | .dcmp o => (match st with
    | .inr (.inr (.inl y)) :: .inr (.inr (.inl x)) :: r => nx is ls (qI (Op.cmpValue (FP.dcmp x y) o).toInt :: r) h
    | _ => none)
  | .dup => (match st with
    | v :: r => if wide v = true then none else nx is ls (v :: v :: r) h
    | _ => none)
  | .pop => (match st with
    | v :: r => if wide v = true then none else nx is ls r h
    | _ => none)
  | .dup2 => (match st with
    | v :: w :: r => if wide v = true ∨ wide w = true then none else nx is ls (v :: w :: v :: w :: r) h
    | _ => none)
  | .dup_x1 => (match st with
    | v :: w :: r => if wide v = true ∨ wide w = true then none else nx is ls (v :: w :: v :: r) h
    | _ => none)
  | .aconst_null => nx is ls (qN :: st) h
  | .ifnull _ => (match i.2.1, st with
    | [k], v :: r => if isRf v = true then (if isNl v = true then nx (B k) ls r h else nx is ls r h) else none
    | _, _ => none)
  | .ifnonnull _ => (match i.2.1, st with
    | [k], v :: r => if isRf v = true then (if isNl v = true then nx is ls r h else nx (B k) ls r h) else none
    | _, _ => none)
  | .checkcast _ => (match i.2.1, st with
    | [t], .inr (.inr (.inr (.inl a))) :: r => if ckC t (h.1 a) = true then nx is ls (qR a :: r) h else none
    | _, _ => none)
  | .goto _ => (match i.2.1 with
    | [k] => nx (B k) ls st h
    | _ => none)
  | .ifCond c _ => (match i.2.1, st with
    | [k], .inl x :: r => mCnd c x 0 (nx (B k) ls r h) (nx is ls r h)
    | _, _ => none)
  | .if_icmp c _ => (match i.2.1, st with
    | [k], .inl y :: .inl x :: r => mCnd c x y (nx (B k) ls r h) (nx is ls r h)
    | _, _ => none)
  | .if_acmp .eq _ => (match i.2.1, st with
    | [k], .inr (.inr (.inr (.inr (.inl y)))) :: .inr (.inr (.inr (.inr (.inl x)))) :: r => if x < 46 ∧ y < 46 then (if x = y then nx (B k) ls r h else nx is ls r h) else if x = y ∧ x ≠ 999 then nx (B k) ls r h else none
    | _, _ => none)
  | .if_acmp .ne _ => (match i.2.1, st with
    | [k], .inr (.inr (.inr (.inr (.inl y)))) :: .inr (.inr (.inr (.inr (.inl x)))) :: r => if x < 46 ∧ y < 46 then (if x = y then nx is ls r h else nx (B k) ls r h) else if x = y ∧ x ≠ 999 then nx is ls r h else none
    | _, _ => none)
  | .tableswitch _ lo _ _ => (match i.2.1, st with
    | d :: l, .inl x :: r => nx (B (swL x lo d l)) ls r h
    | _, _ => none)
  | .lookupswitch _ ps => (match i.2.1, st with
    | d :: l, .inl x :: r => nx (B (lkL x d ps.toList l)) ls r h
    | _, _ => none)
  | .getfield _ => (match i.2.1, st with
    | [ci, k, _], v :: r => match rdF G h v ci k with
        | some w => nx is ls (w :: r) h
        | none => none
    | _, _ => none)
  | .putfield _ => (match i.2.1, st with
    | [ci, k, t], v :: .inr (.inr (.inr (.inl a))) :: r => match h.1 a with
        | .inr (.inr (.inr (c, fs))) => if c = ci ∧ k < fs.length ∧ fitK t v = true then nx is ls r (mset h a (cO c (fs.set k v))) else none
        | _ => none
    | _, _ => none)
  | .arraylength => (match st with
    | v :: r => match rdN G h v with
        | some n => if n < 2147483648 then nx is ls (qI n :: r) h else none
        | none => none
    | _ => none)
  | .iaload => (match st with
    | .inl x :: v :: r => match rdI G h v x with
        | some (.int, y) => nx is ls (qI y :: r) h
        | _ => none
    | _ => none)
  | .baload => (match st with
    | .inl x :: v :: r => match rdI G h v x with
        | some (.byte, y) => nx is ls (qI y :: r) h
        | some (.boolean, y) => nx is ls (qI y :: r) h
        | _ => none
    | _ => none)
  | .laload => (match st with
    | .inl x :: .inr (.inr (.inr (.inl a))) :: r => match h.1 a with
        | .inr (.inl (n, f)) => if 0 ≤ x ∧ x < (n : Int) then nx is ls (qL (f x.toNat) :: r) h else none
        | _ => none
    | _ => none)
  | .aaload => (match st with
    | .inl x :: v :: r => match rdQ G h v x with
        | some w => nx is ls (w :: r) h
        | none => none
    | _ => none)
  | .iastore => (match st with
    | .inl v :: .inl x :: .inr (.inr (.inr (.inl a))) :: r => match h.1 a with
        | .inl (.int, n, f) => if 0 ≤ x ∧ x < (n : Int) then nx is ls r (mset h a (cI .int n (mUp f x.toNat v))) else none
        | _ => none
    | _ => none)
  | .bastore => (match st with
    | .inl v :: .inl x :: .inr (.inr (.inr (.inl a))) :: r => match h.1 a with
        | .inl (.byte, n, f) => if 0 ≤ x ∧ x < (n : Int) ∧ -128 ≤ v ∧ v ≤ 127 then nx is ls r (mset h a (cI .byte n (mUp f x.toNat v))) else none
        | .inl (.boolean, n, f) => if 0 ≤ x ∧ x < (n : Int) ∧ 0 ≤ v ∧ v ≤ 1 then nx is ls r (mset h a (cI .boolean n (mUp f x.toNat v))) else none
        | _ => none
    | _ => none)
  | .lastore => (match st with
    | .inr (.inl v) :: .inl x :: .inr (.inr (.inr (.inl a))) :: r => match h.1 a with
        | .inr (.inl (n, f)) => if 0 ≤ x ∧ x < (n : Int) then nx is ls r (mset h a (cL n (mUp f x.toNat v))) else none
        | _ => none
    | _ => none)
  | .aastore => (match st with
    | .inr (.inr (.inr (.inr (.inl v)))) :: .inl x :: .inr (.inr (.inr (.inl a))) :: r => match h.1 a with
        | .inr (.inr (.inl (ty, n, f))) => if 0 ≤ x ∧ x < (n : Int) ∧ ty = .object "TavernRumours$Kind" ∧ v < 46 then nx is ls r (mset h a (cQ ty n (mUp f x.toNat (qS v)))) else none
        | _ => none
    | .inr (.inr (.inr (.inl v))) :: .inl x :: .inr (.inr (.inr (.inl a))) :: r => match h.1 a with
        | .inr (.inr (.inl (ty, n, f))) => if 0 ≤ x ∧ x < (n : Int) ∧ okQ (h.1 v) ty = true then nx is ls r (mset h a (cQ ty n (mUp f x.toNat (qR v)))) else none
        | _ => none
    | .inr (.inr (.inr (.inr (.inr false)))) :: .inl x :: .inr (.inr (.inr (.inl a))) :: r => match h.1 a with
        | .inr (.inr (.inl (ty, n, f))) => if 0 ≤ x ∧ x < (n : Int) ∧ ty = tOb then nx is ls r (mset h a (cQ ty n (mUp f x.toNat qN))) else none
        | _ => none
    | _ => none)
  | .newarray ty => (match st with
    | .inl n :: r => if 0 ≤ n ∧ n ≤ 4000 then (match ty with
          | .int => nx is ls (qR h.2.1 :: r) (mnew h (cI .int n.toNat (fun _ => 0)) n.toNat)
          | .byte => nx is ls (qR h.2.1 :: r) (mnew h (cI .byte n.toNat (fun _ => 0)) n.toNat)
          | .boolean => nx is ls (qR h.2.1 :: r) (mnew h (cI .boolean n.toNat (fun _ => 0)) n.toNat)
          | .long => nx is ls (qR h.2.1 :: r) (mnew h (cL n.toNat (fun _ => 0)) n.toNat)
          | _ => none) else none
    | _ => none)
  | .new _ => (match i.2.1 with
    | [ci] => nx is ls (qR h.2.1 :: st) (mnew h (cO ci (mdef (G.2.2.2 ci))) (G.2.2.2 ci).length)
    | _ => none)
  | .anewarray _ => (match st with
    | .inl n :: r => if 0 ≤ n ∧ n ≤ 4000 then nx is ls (qR h.2.1 :: r) (mnew h (cQ (nqT i.2.1) n.toNat (fun _ => qN)) n.toNat) else none
    | _ => none)
  | .multianewarray _ _ => (match i.2.1, st with
    | [t], .inl k :: .inl n :: r => if 0 ≤ n ∧ n ≤ 20 ∧ 0 ≤ k ∧ k ≤ 4000 then nx is ls (qR h.2.1 :: r) (mgrid t n k h) else none
    | _, _ => none)
  | .invokevirtual _ => (match i.2.1 with
    | m :: n :: _ => if n ≤ st.length ∧ hgt (st.drop n) ≤ 8 ∧ (margs (st.take n).reverse).length ≤ (G.1 m).2.1 ∧ rcv h (G.1 m).2.2 (st.take n).reverse = true then some (.inr (.inl (m, (st.take n).reverse, st.drop n))) else none
    | _ => none)
  | .invokestatic _ => (match i.2.1 with
    | m :: n :: _ => if n ≤ st.length ∧ hgt (st.drop n) ≤ 8 ∧ (margs (st.take n).reverse).length ≤ (G.1 m).2.1 then some (.inr (.inl (m, (st.take n).reverse, st.drop n))) else none
    | _ => none)
  | .invokespecial _ => (match i.2.1 with
    | m :: n :: _ => if n ≤ st.length ∧ hgt (st.drop n) ≤ 8 ∧ (margs (st.take n).reverse).length ≤ (G.1 m).2.1 ∧ rcv h (G.1 m).2.2 (st.take n).reverse = true then some (.inr (.inl (m, (st.take n).reverse, st.drop n))) else none
    | _ => none)
  | .invokeinterface _ _ => (match i.2.1 with
    | m :: n :: _ => if n ≤ st.length ∧ hgt (st.drop n) ≤ 8 ∧ (margs (st.take n).reverse).length ≤ (G.1 m).2.1 ∧ rcv h (G.1 m).2.2 (st.take n).reverse = true then some (.inr (.inl (m, (st.take n).reverse, st.drop n))) else none
    | _ => none)
  | .invokedynamic 0 => (match st with
    | .inl n :: .inl dp :: .inr (.inr (.inr (.inl b))) :: .inl sp :: .inr (.inr (.inr (.inl a))) :: r => match mCopy G h a sp b dp n with
        | some g => if hgt r ≤ 8 then nx is ls r g else none
        | none => none
    | .inl n :: .inl dp :: .inr (.inr (.inr (.inl b))) :: .inl sp :: .inr (.inr (.inr (.inr (.inl a)))) :: r => match mCopyS G h a sp b dp n with
        | some g => if hgt r ≤ 8 then nx is ls r g else none
        | none => none
    | _ => none)
  | .invokedynamic 1 => (match st with
    | .inl y :: .inl x :: r => if hgt r ≤ 8 then nx is ls (qI (max x y) :: r) h else none
    | _ => none)
  | .invokedynamic 2 => (match st with
    | .inl y :: .inl x :: r => if hgt r ≤ 8 then nx is ls (qI (min x y) :: r) h else none
    | _ => none)
  | .invokedynamic 3 => (match i.2.1 with
    | e :: _ => if hgt st ≤ 8 then some (.inr (.inr (.inr e))) else none
    | _ => none)
  | .invokedynamic 4 => (match i.2.1 with
    | [k] => nx (B k) ls st h
    | _ => none)
  | .invokedynamic 5 => (match st with
    | .inr (.inr (.inr (.inl _))) :: r => if hgt r ≤ 8 then nx is ls r h else none
    | _ => none)
  | .invokedynamic 6 => (match st with
    | .inr (.inr (.inr (.inl a))) :: r => (match h.1 a with
        | .inl (ty, n, f) => if ty = .byte ∧ hgt r ≤ 8 ∧ (List.range n).all (fun i => decide (-128 ≤ f i ∧ f i ≤ 127)) = true then nx is ls (qR h.2.1 :: r) (mnew h (cI .byte n f) n) else none
        | _ => none)
    | _ => none)
  | .invokedynamic 7 => (match st with
    | .inr (.inr (.inr (.inl a))) :: r => (match h.1 a with
        | .inr (.inr (.inl (ty, _, _))) => if ty = tOb ∧ hgt r ≤ 8 then nx is ls (qS 990 :: r) h else none
        | _ => none)
    | _ => none)
  | .invokedynamic 8 => nx is ls (qS 990 :: st) h
  | .ireturn => (match i.2.1, st with
    | [0], [.inl x] => some (.inr (.inr (.inl (some (qI x)))))
    | [1], [.inl x] => if 0 ≤ x ∧ x ≤ 1 then some (.inr (.inr (.inl (some (qI x))))) else none
    | [2], [.inl x] => if -128 ≤ x ∧ x ≤ 127 then some (.inr (.inr (.inl (some (qI x))))) else none
    | [3], [.inl x] => if 0 ≤ x ∧ x < 65536 then some (.inr (.inr (.inl (some (qI x))))) else none
    | _, _ => none)
  | .lreturn => (match st with
    | [.inr (.inl x)] => some (.inr (.inr (.inl (some (qL x)))))
    | _ => none)
  | .dreturn => (match st with
    | [.inr (.inr (.inl x))] => some (.inr (.inr (.inl (some (qD x)))))
    | _ => none)
  | .areturn => (match st with
    | [v] => if isRf v = true then some (.inr (.inr (.inl (some v)))) else none
    | _ => none)
  | .return_ => (match st with
    | [] => some (.inr (.inr (.inl none)))
    | _ => none)
  | _ => none
/-- the machine's run: steps 'n' (of which there may be as many as one likes), calls 'd' deep -/
def mRun (G : MG) : Nat → Nat → (Nat → List MI) → List MI → List MV → List MV → MH → Option ((Option MV ⊕ Nat) × MH)
  | 0, _, _, _, _, _, _ => none
  | _ + 1, _, _, [], _, _, _ => none
  | n + 1, d, B, i :: is, ls, st, h => match mStep G B i is ls st h with
    | none => none
    | some (.inl (is2, ls2, st2, h2)) => mRun G n d B is2 ls2 st2 h2
    | some (.inr (.inl (m, as, st2))) => match d with
      | 0 => none
      | d + 1 => match mRun G n d (G.1 m).1 ((G.1 m).1 0) (mpad (G.1 m).2.1 (margs as)) [] h with
        | none => none
        | some (.inl v, h2) => mRun G n (d + 1) B is ls (v.toList ++ st2) h2
        | some (.inr e, h2) => match i.2.1.drop 2 with
          | e1 :: k1 :: l => if e = e1 then mRun G n (d + 1) B (B k1) ls [qS 999] h2 else match l with
            | e2 :: k2 :: _ => if e = e2 then mRun G n (d + 1) B (B k2) ls [qS 999] h2 else none
            | _ => none
          | _ => none
    | some (.inr (.inr (.inl v))) => some (.inl v, h)
    | some (.inr (.inr (.inr e))) => some (.inr e, (h.1, h.2.1, h.2.2.1 + 1, h.2.2.2 + 6))
/-- from this place the method comes to that end -/
def St (G : MG) (d : Nat) (B : Nat → List MI) (is : List MI) (ls st : List MV) (h : MH) (o : (Option MV ⊕ Nat) × MH) : Prop := ∃ n, mRun G n d B is ls st h = some o
/-- a call of the method m with these values comes to that end -/
def Ev (G : MG) (d m : Nat) (as : List MV) (h : MH) (o : (Option MV ⊕ Nat) × MH) : Prop := St G d (G.1 m).1 ((G.1 m).1 0) (mpad (G.1 m).2.1 (margs as)) [] h o
