/-! ===== RUNNING THE SMALL MACHINE BY REWRITING: a rule an instruction ===== -/
theorem ms_sipush {G : MG} {B : Nat → List MI} {ar : List Nat} {v9 : Int} {is : List MI} {ls st : List MV} {h : MH} {n} : mStep G B (.sipush n, ar, v9) is ls st h = (nx is ls (qI n :: st) h) := rfl
theorem ms_lconst {G : MG} {B : Nat → List MI} {ar : List Nat} {v9 : Int} {is : List MI} {ls st : List MV} {h : MH} {x0} : mStep G B (.lconst x0, ar, v9) is ls st h = (nx is ls (qL v9 :: st) h) := rfl
theorem ms_ldc2_w {G : MG} {B : Nat → List MI} {ar : List Nat} {v9 : Int} {is : List MI} {ls st : List MV} {h : MH} {x0} : mStep G B (.ldc2_w x0, ar, v9) is ls st h = (nx is ls (qL v9 :: st) h) := rfl
theorem ms_dconst {G : MG} {B : Nat → List MI} {ar : List Nat} {v9 : Int} {is : List MI} {ls st : List MV} {h : MH} {n} : mStep G B (.dconst n, ar, v9) is ls st h = (if n = 0 then nx is ls (qD FP.dconst0 :: st) h else none) := rfl
theorem ms_ldc {G : MG} {B : Nat → List MI} {ar : List Nat} {v9 : Int} {is : List MI} {ls st : List MV} {h : MH} {x0} : mStep G B (.ldc x0, ar, v9) is ls st h = ((match ar with
    | [a] => nx is ls (qS a :: st) h
    | [] => nx is ls (qI v9 :: st) h
    | _ => none)) := rfl
theorem ms_getstatic {G : MG} {B : Nat → List MI} {ar : List Nat} {v9 : Int} {is : List MI} {ls st : List MV} {h : MH} {x0} : mStep G B (.getstatic x0, ar, v9) is ls st h = ((match ar with
    | [0, a] => nx is ls (qS a :: st) h
    | [1] => nx is ls (qI v9 :: st) h
    | [2] => match G.2.1 997 0 with
        | some v => if isRf v = true then nx is ls (v :: st) h else none
        | none => none
    | _ => none)) := rfl
theorem ms_iload {G : MG} {B : Nat → List MI} {ar : List Nat} {v9 : Int} {is : List MI} {ls st : List MV} {h : MH} {n} : mStep G B (.iload n, ar, v9) is ls st h = (match lg ls n with
      | .inl x => nx is ls (.inl x :: st) h
      | _ => none) := rfl
theorem ms_lload {G : MG} {B : Nat → List MI} {ar : List Nat} {v9 : Int} {is : List MI} {ls st : List MV} {h : MH} {n} : mStep G B (.lload n, ar, v9) is ls st h = (match lg ls n with
      | .inr (.inl x) => nx is ls (.inr (.inl x) :: st) h
      | _ => none) := rfl
theorem ms_dload {G : MG} {B : Nat → List MI} {ar : List Nat} {v9 : Int} {is : List MI} {ls st : List MV} {h : MH} {n} : mStep G B (.dload n, ar, v9) is ls st h = (match lg ls n with
      | .inr (.inr (.inl x)) => nx is ls (.inr (.inr (.inl x)) :: st) h
      | _ => none) := rfl
theorem ms_aload {G : MG} {B : Nat → List MI} {ar : List Nat} {v9 : Int} {is : List MI} {ls st : List MV} {h : MH} {n} : mStep G B (.aload n, ar, v9) is ls st h = (match lg ls n with
      | .inr (.inr (.inr (.inl a))) => nx is ls (.inr (.inr (.inr (.inl a))) :: st) h
      | .inr (.inr (.inr (.inr (.inl a)))) => nx is ls (.inr (.inr (.inr (.inr (.inl a)))) :: st) h
      | .inr (.inr (.inr (.inr (.inr false)))) => nx is ls (.inr (.inr (.inr (.inr (.inr false)))) :: st) h
      | _ => none) := rfl
theorem ms_istore {G : MG} {B : Nat → List MI} {ar : List Nat} {v9 : Int} {is : List MI} {ls st : List MV} {h : MH} {n} : mStep G B (.istore n, ar, v9) is ls st h = ((match st with
    | .inl x :: r => if n < ls.length ∧ lfree ls n = true then nx is (lset ls n (.inl x)) r h else none
    | _ => none)) := rfl
theorem ms_lstore {G : MG} {B : Nat → List MI} {ar : List Nat} {v9 : Int} {is : List MI} {ls st : List MV} {h : MH} {n} : mStep G B (.lstore n, ar, v9) is ls st h = ((match st with
    | .inr (.inl x) :: r => if n + 1 < ls.length ∧ lfree ls n = true then nx is (lset (lset ls n (.inr (.inl x))) (n + 1) qU) r h else none
    | _ => none)) := rfl
theorem ms_dstore {G : MG} {B : Nat → List MI} {ar : List Nat} {v9 : Int} {is : List MI} {ls st : List MV} {h : MH} {n} : mStep G B (.dstore n, ar, v9) is ls st h = ((match st with
    | .inr (.inr (.inl x)) :: r => if n + 1 < ls.length ∧ lfree ls n = true then nx is (lset (lset ls n (.inr (.inr (.inl x)))) (n + 1) qU) r h else none
    | _ => none)) := rfl
theorem ms_astore {G : MG} {B : Nat → List MI} {ar : List Nat} {v9 : Int} {is : List MI} {ls st : List MV} {h : MH} {n} : mStep G B (.astore n, ar, v9) is ls st h = ((match st with
    | v :: r => if isRf v = true ∧ n < ls.length ∧ lfree ls n = true then nx is (lset ls n v) r h else none
    | _ => none)) := rfl
theorem ms_iinc {G : MG} {B : Nat → List MI} {ar : List Nat} {v9 : Int} {is : List MI} {ls st : List MV} {h : MH} {n} {k} : mStep G B (.iinc n k, ar, v9) is ls st h = (match lg ls n with
      | .inl x => if n < ls.length ∧ lfree ls n = true then nx is (lset ls n (.inl (w32 (x + k)))) st h else none
      | _ => none) := rfl
theorem ms_iadd {G : MG} {B : Nat → List MI} {ar : List Nat} {v9 : Int} {is : List MI} {ls st : List MV} {h : MH} : mStep G B (.iadd, ar, v9) is ls st h = ((match st with
    | .inl y :: .inl x :: r => nx is ls (qI (w32 (x + y)) :: r) h
    | _ => none)) := rfl
theorem ms_isub {G : MG} {B : Nat → List MI} {ar : List Nat} {v9 : Int} {is : List MI} {ls st : List MV} {h : MH} : mStep G B (.isub, ar, v9) is ls st h = ((match st with
    | .inl y :: .inl x :: r => nx is ls (qI (w32 (x - y)) :: r) h
    | _ => none)) := rfl
theorem ms_imul {G : MG} {B : Nat → List MI} {ar : List Nat} {v9 : Int} {is : List MI} {ls st : List MV} {h : MH} : mStep G B (.imul, ar, v9) is ls st h = ((match st with
    | .inl y :: .inl x :: r => nx is ls (qI (w32 (x * y)) :: r) h
    | _ => none)) := rfl
theorem ms_idiv {G : MG} {B : Nat → List MI} {ar : List Nat} {v9 : Int} {is : List MI} {ls st : List MV} {h : MH} : mStep G B (.idiv, ar, v9) is ls st h = ((match st with
    | .inl y :: .inl x :: r => if y = 0 then none else nx is ls (qI (w32 (x.tdiv y)) :: r) h
    | _ => none)) := rfl
theorem ms_irem {G : MG} {B : Nat → List MI} {ar : List Nat} {v9 : Int} {is : List MI} {ls st : List MV} {h : MH} : mStep G B (.irem, ar, v9) is ls st h = ((match st with
    | .inl y :: .inl x :: r => if y = 0 then none else nx is ls (qI (w32 (x - x.tdiv y * y)) :: r) h
    | _ => none)) := rfl
theorem ms_ineg {G : MG} {B : Nat → List MI} {ar : List Nat} {v9 : Int} {is : List MI} {ls st : List MV} {h : MH} : mStep G B (.ineg, ar, v9) is ls st h = ((match st with
    | .inl x :: r => nx is ls (qI (w32 (-x)) :: r) h
    | _ => none)) := rfl
theorem ms_iand {G : MG} {B : Nat → List MI} {ar : List Nat} {v9 : Int} {is : List MI} {ls st : List MV} {h : MH} : mStep G B (.iand, ar, v9) is ls st h = ((match st with
    | .inl y :: .inl x :: r => nx is ls (qI (i32 (· &&& ·) x y) :: r) h
    | _ => none)) := rfl
theorem ms_ior {G : MG} {B : Nat → List MI} {ar : List Nat} {v9 : Int} {is : List MI} {ls st : List MV} {h : MH} : mStep G B (.ior, ar, v9) is ls st h = ((match st with
    | .inl y :: .inl x :: r => nx is ls (qI (i32 (· ||| ·) x y) :: r) h
    | _ => none)) := rfl
theorem ms_ishr {G : MG} {B : Nat → List MI} {ar : List Nat} {v9 : Int} {is : List MI} {ls st : List MV} {h : MH} : mStep G B (.ishr, ar, v9) is ls st h = ((match st with
    | .inl y :: .inl x :: r => nx is ls (qI (i32 (fun a b => a >>> (b &&& 31)) x y) :: r) h
    | _ => none)) := rfl
theorem ms_ishl {G : MG} {B : Nat → List MI} {ar : List Nat} {v9 : Int} {is : List MI} {ls st : List MV} {h : MH} : mStep G B (.ishl, ar, v9) is ls st h = ((match st with
    | .inl y :: .inl x :: r => nx is ls (qI (i32 (fun a b => a <<< (b &&& 31)) x y) :: r) h
    | _ => none)) := rfl
theorem ms_iushr {G : MG} {B : Nat → List MI} {ar : List Nat} {v9 : Int} {is : List MI} {ls st : List MV} {h : MH} : mStep G B (.iushr, ar, v9) is ls st h = ((match st with
    | .inl y :: .inl x :: r => nx is ls (qI (i32 (fun a b => (a.toUInt32 >>> (b.toUInt32 &&& Int32.toUInt32 31)).toInt32) x y) :: r) h
    | _ => none)) := rfl
theorem ms_i2b {G : MG} {B : Nat → List MI} {ar : List Nat} {v9 : Int} {is : List MI} {ls st : List MV} {h : MH} : mStep G B (.i2b, ar, v9) is ls st h = ((match st with
    | .inl x :: r => nx is ls (qI (x.bmod 256) :: r) h
    | _ => none)) := rfl
theorem ms_i2c {G : MG} {B : Nat → List MI} {ar : List Nat} {v9 : Int} {is : List MI} {ls st : List MV} {h : MH} : mStep G B (.i2c, ar, v9) is ls st h = ((match st with
    | .inl x :: r => nx is ls (qI (x.emod 65536) :: r) h
    | _ => none)) := rfl
theorem ms_i2l {G : MG} {B : Nat → List MI} {ar : List Nat} {v9 : Int} {is : List MI} {ls st : List MV} {h : MH} : mStep G B (.i2l, ar, v9) is ls st h = ((match st with
    | .inl x :: r => nx is ls (qL x :: r) h
    | _ => none)) := rfl
theorem ms_ladd {G : MG} {B : Nat → List MI} {ar : List Nat} {v9 : Int} {is : List MI} {ls st : List MV} {h : MH} : mStep G B (.ladd, ar, v9) is ls st h = ((match st with
    | .inr (.inl y) :: .inr (.inl x) :: r => nx is ls (qL (w64 (x + y)) :: r) h
    | _ => none)) := rfl
theorem ms_lmul {G : MG} {B : Nat → List MI} {ar : List Nat} {v9 : Int} {is : List MI} {ls st : List MV} {h : MH} : mStep G B (.lmul, ar, v9) is ls st h = ((match st with
    | .inr (.inl y) :: .inr (.inl x) :: r => nx is ls (qL (w64 (x * y)) :: r) h
    | _ => none)) := rfl
theorem ms_lcmp {G : MG} {B : Nat → List MI} {ar : List Nat} {v9 : Int} {is : List MI} {ls st : List MV} {h : MH} : mStep G B (.lcmp, ar, v9) is ls st h = ((match st with
    | .inr (.inl y) :: .inr (.inl x) :: r => nx is ls (qI (if x < y then -1 else if x = y then 0 else 1) :: r) h
    | _ => none)) := rfl
theorem ms_i2d {G : MG} {B : Nat → List MI} {ar : List Nat} {v9 : Int} {is : List MI} {ls st : List MV} {h : MH} : mStep G B (.i2d, ar, v9) is ls st h = ((match st with
    | .inl x :: r => nx is ls (qD (FP.i2d (Int32.ofInt x)) :: r) h
    | _ => none)) := rfl
theorem ms_ddiv {G : MG} {B : Nat → List MI} {ar : List Nat} {v9 : Int} {is : List MI} {ls st : List MV} {h : MH} : mStep G B (.ddiv, ar, v9) is ls st h = ((match st with
    | .inr (.inr (.inl y)) :: .inr (.inr (.inl x)) :: r => if (FP.ddiv x y) &&& 0x7fffffffffffffff ≤ 0x7ff0000000000000 then nx is ls (qD (FP.ddiv x y) :: r) h else none
    | _ => none)) := rfl
theorem ms_dcmp {G : MG} {B : Nat → List MI} {ar : List Nat} {v9 : Int} {is : List MI} {ls st : List MV} {h : MH} {o} : mStep G B (.dcmp o, ar, v9) is ls st h = ((match st with
    | .inr (.inr (.inl y)) :: .inr (.inr (.inl x)) :: r => nx is ls (qI (Op.cmpValue (FP.dcmp x y) o).toInt :: r) h
    | _ => none)) := rfl
theorem ms_dup {G : MG} {B : Nat → List MI} {ar : List Nat} {v9 : Int} {is : List MI} {ls st : List MV} {h : MH} : mStep G B (.dup, ar, v9) is ls st h = ((match st with
    | v :: r => if wide v = true then none else nx is ls (v :: v :: r) h
    | _ => none)) := rfl
theorem ms_pop {G : MG} {B : Nat → List MI} {ar : List Nat} {v9 : Int} {is : List MI} {ls st : List MV} {h : MH} : mStep G B (.pop, ar, v9) is ls st h = ((match st with
    | v :: r => if wide v = true then none else nx is ls r h
    | _ => none)) := rfl
theorem ms_dup2 {G : MG} {B : Nat → List MI} {ar : List Nat} {v9 : Int} {is : List MI} {ls st : List MV} {h : MH} : mStep G B (.dup2, ar, v9) is ls st h = ((match st with
    | v :: w :: r => if wide v = true ∨ wide w = true then none else nx is ls (v :: w :: v :: w :: r) h
    | _ => none)) := rfl
theorem ms_dup_x1 {G : MG} {B : Nat → List MI} {ar : List Nat} {v9 : Int} {is : List MI} {ls st : List MV} {h : MH} : mStep G B (.dup_x1, ar, v9) is ls st h = ((match st with
    | v :: w :: r => if wide v = true ∨ wide w = true then none else nx is ls (v :: w :: v :: r) h
    | _ => none)) := rfl
theorem ms_aconst_null {G : MG} {B : Nat → List MI} {ar : List Nat} {v9 : Int} {is : List MI} {ls st : List MV} {h : MH} : mStep G B (.aconst_null, ar, v9) is ls st h = (nx is ls (qN :: st) h) := rfl
theorem ms_ifnull {G : MG} {B : Nat → List MI} {ar : List Nat} {v9 : Int} {is : List MI} {ls st : List MV} {h : MH} {x0} : mStep G B (.ifnull x0, ar, v9) is ls st h = ((match ar, st with
    | [k], v :: r => if isRf v = true then (if isNl v = true then nx (B k) ls r h else nx is ls r h) else none
    | _, _ => none)) := rfl
theorem ms_ifnonnull {G : MG} {B : Nat → List MI} {ar : List Nat} {v9 : Int} {is : List MI} {ls st : List MV} {h : MH} {x0} : mStep G B (.ifnonnull x0, ar, v9) is ls st h = ((match ar, st with
    | [k], v :: r => if isRf v = true then (if isNl v = true then nx is ls r h else nx (B k) ls r h) else none
    | _, _ => none)) := rfl
theorem ms_checkcast {G : MG} {B : Nat → List MI} {ar : List Nat} {v9 : Int} {is : List MI} {ls st : List MV} {h : MH} {x0} : mStep G B (.checkcast x0, ar, v9) is ls st h = ((match ar, st with
    | [t], .inr (.inr (.inr (.inl a))) :: r => if ckC t (h.1 a) = true then nx is ls (qR a :: r) h else none
    | _, _ => none)) := rfl
theorem ms_goto {G : MG} {B : Nat → List MI} {ar : List Nat} {v9 : Int} {is : List MI} {ls st : List MV} {h : MH} {x0} : mStep G B (.goto x0, ar, v9) is ls st h = ((match ar with
    | [k] => nx (B k) ls st h
    | _ => none)) := rfl
theorem ms_ifCond {G : MG} {B : Nat → List MI} {ar : List Nat} {v9 : Int} {is : List MI} {ls st : List MV} {h : MH} {c} {x1} : mStep G B (.ifCond c x1, ar, v9) is ls st h = ((match ar, st with
    | [k], .inl x :: r => mCnd c x 0 (nx (B k) ls r h) (nx is ls r h)
    | _, _ => none)) := rfl
theorem ms_if_icmp {G : MG} {B : Nat → List MI} {ar : List Nat} {v9 : Int} {is : List MI} {ls st : List MV} {h : MH} {c} {x1} : mStep G B (.if_icmp c x1, ar, v9) is ls st h = ((match ar, st with
    | [k], .inl y :: .inl x :: r => mCnd c x y (nx (B k) ls r h) (nx is ls r h)
    | _, _ => none)) := rfl
theorem ms_if_acmp_eq {G : MG} {B : Nat → List MI} {ar : List Nat} {v9 : Int} {is : List MI} {ls st : List MV} {h : MH} {x1} : mStep G B (.if_acmp .eq x1, ar, v9) is ls st h = ((match ar, st with
    | [k], .inr (.inr (.inr (.inr (.inl y)))) :: .inr (.inr (.inr (.inr (.inl x)))) :: r => if x < 46 ∧ y < 46 then (if x = y then nx (B k) ls r h else nx is ls r h) else if x = y ∧ x ≠ 999 then nx (B k) ls r h else none
    | _, _ => none)) := rfl
theorem ms_if_acmp_ne {G : MG} {B : Nat → List MI} {ar : List Nat} {v9 : Int} {is : List MI} {ls st : List MV} {h : MH} {x1} : mStep G B (.if_acmp .ne x1, ar, v9) is ls st h = ((match ar, st with
    | [k], .inr (.inr (.inr (.inr (.inl y)))) :: .inr (.inr (.inr (.inr (.inl x)))) :: r => if x < 46 ∧ y < 46 then (if x = y then nx is ls r h else nx (B k) ls r h) else if x = y ∧ x ≠ 999 then nx is ls r h else none
    | _, _ => none)) := rfl
theorem ms_tableswitch {G : MG} {B : Nat → List MI} {ar : List Nat} {v9 : Int} {is : List MI} {ls st : List MV} {h : MH} {x0} {lo} {x2} {x3} : mStep G B (.tableswitch x0 lo x2 x3, ar, v9) is ls st h = ((match ar, st with
    | d :: l, .inl x :: r => nx (B (swL x lo d l)) ls r h
    | _, _ => none)) := rfl
theorem ms_lookupswitch {G : MG} {B : Nat → List MI} {ar : List Nat} {v9 : Int} {is : List MI} {ls st : List MV} {h : MH} {x0} {ps} : mStep G B (.lookupswitch x0 ps, ar, v9) is ls st h = ((match ar, st with
    | d :: l, .inl x :: r => nx (B (lkL x d ps.toList l)) ls r h
    | _, _ => none)) := rfl
theorem ms_getfield {G : MG} {B : Nat → List MI} {ar : List Nat} {v9 : Int} {is : List MI} {ls st : List MV} {h : MH} {x0} : mStep G B (.getfield x0, ar, v9) is ls st h = ((match ar, st with
    | [ci, k, _], v :: r => match rdF G h v ci k with
        | some w => nx is ls (w :: r) h
        | none => none
    | _, _ => none)) := rfl
theorem ms_putfield {G : MG} {B : Nat → List MI} {ar : List Nat} {v9 : Int} {is : List MI} {ls st : List MV} {h : MH} {x0} : mStep G B (.putfield x0, ar, v9) is ls st h = ((match ar, st with
    | [ci, k, t], v :: .inr (.inr (.inr (.inl a))) :: r => match h.1 a with
        | .inr (.inr (.inr (c, fs))) => if c = ci ∧ k < fs.length ∧ fitK t v = true then nx is ls r (mset h a (cO c (fs.set k v))) else none
        | _ => none
    | _, _ => none)) := rfl
theorem ms_arraylength {G : MG} {B : Nat → List MI} {ar : List Nat} {v9 : Int} {is : List MI} {ls st : List MV} {h : MH} : mStep G B (.arraylength, ar, v9) is ls st h = ((match st with
    | v :: r => match rdN G h v with
        | some n => if n < 2147483648 then nx is ls (qI n :: r) h else none
        | none => none
    | _ => none)) := rfl
theorem ms_iaload {G : MG} {B : Nat → List MI} {ar : List Nat} {v9 : Int} {is : List MI} {ls st : List MV} {h : MH} : mStep G B (.iaload, ar, v9) is ls st h = ((match st with
    | .inl x :: v :: r => match rdI G h v x with
        | some (.int, y) => nx is ls (qI y :: r) h
        | _ => none
    | _ => none)) := rfl
theorem ms_baload {G : MG} {B : Nat → List MI} {ar : List Nat} {v9 : Int} {is : List MI} {ls st : List MV} {h : MH} : mStep G B (.baload, ar, v9) is ls st h = ((match st with
    | .inl x :: v :: r => match rdI G h v x with
        | some (.byte, y) => nx is ls (qI y :: r) h
        | some (.boolean, y) => nx is ls (qI y :: r) h
        | _ => none
    | _ => none)) := rfl
theorem ms_laload {G : MG} {B : Nat → List MI} {ar : List Nat} {v9 : Int} {is : List MI} {ls st : List MV} {h : MH} : mStep G B (.laload, ar, v9) is ls st h = ((match st with
    | .inl x :: .inr (.inr (.inr (.inl a))) :: r => match h.1 a with
        | .inr (.inl (n, f)) => if 0 ≤ x ∧ x < (n : Int) then nx is ls (qL (f x.toNat) :: r) h else none
        | _ => none
    | _ => none)) := rfl
theorem ms_aaload {G : MG} {B : Nat → List MI} {ar : List Nat} {v9 : Int} {is : List MI} {ls st : List MV} {h : MH} : mStep G B (.aaload, ar, v9) is ls st h = ((match st with
    | .inl x :: v :: r => match rdQ G h v x with
        | some w => nx is ls (w :: r) h
        | none => none
    | _ => none)) := rfl
theorem ms_iastore {G : MG} {B : Nat → List MI} {ar : List Nat} {v9 : Int} {is : List MI} {ls st : List MV} {h : MH} : mStep G B (.iastore, ar, v9) is ls st h = ((match st with
    | .inl v :: .inl x :: .inr (.inr (.inr (.inl a))) :: r => match h.1 a with
        | .inl (.int, n, f) => if 0 ≤ x ∧ x < (n : Int) then nx is ls r (mset h a (cI .int n (mUp f x.toNat v))) else none
        | _ => none
    | _ => none)) := rfl
theorem ms_bastore {G : MG} {B : Nat → List MI} {ar : List Nat} {v9 : Int} {is : List MI} {ls st : List MV} {h : MH} : mStep G B (.bastore, ar, v9) is ls st h = ((match st with
    | .inl v :: .inl x :: .inr (.inr (.inr (.inl a))) :: r => match h.1 a with
        | .inl (.byte, n, f) => if 0 ≤ x ∧ x < (n : Int) ∧ -128 ≤ v ∧ v ≤ 127 then nx is ls r (mset h a (cI .byte n (mUp f x.toNat v))) else none
        | .inl (.boolean, n, f) => if 0 ≤ x ∧ x < (n : Int) ∧ 0 ≤ v ∧ v ≤ 1 then nx is ls r (mset h a (cI .boolean n (mUp f x.toNat v))) else none
        | _ => none
    | _ => none)) := rfl
theorem ms_lastore {G : MG} {B : Nat → List MI} {ar : List Nat} {v9 : Int} {is : List MI} {ls st : List MV} {h : MH} : mStep G B (.lastore, ar, v9) is ls st h = ((match st with
    | .inr (.inl v) :: .inl x :: .inr (.inr (.inr (.inl a))) :: r => match h.1 a with
        | .inr (.inl (n, f)) => if 0 ≤ x ∧ x < (n : Int) then nx is ls r (mset h a (cL n (mUp f x.toNat v))) else none
        | _ => none
    | _ => none)) := rfl
theorem ms_aastore {G : MG} {B : Nat → List MI} {ar : List Nat} {v9 : Int} {is : List MI} {ls st : List MV} {h : MH} : mStep G B (.aastore, ar, v9) is ls st h = ((match st with
    | .inr (.inr (.inr (.inr (.inl v)))) :: .inl x :: .inr (.inr (.inr (.inl a))) :: r => match h.1 a with
        | .inr (.inr (.inl (ty, n, f))) => if 0 ≤ x ∧ x < (n : Int) ∧ ty = .object "TavernRumours$Kind" ∧ v < 46 then nx is ls r (mset h a (cQ ty n (mUp f x.toNat (qS v)))) else none
        | _ => none
    | .inr (.inr (.inr (.inl v))) :: .inl x :: .inr (.inr (.inr (.inl a))) :: r => match h.1 a with
        | .inr (.inr (.inl (ty, n, f))) => if 0 ≤ x ∧ x < (n : Int) ∧ okQ (h.1 v) ty = true then nx is ls r (mset h a (cQ ty n (mUp f x.toNat (qR v)))) else none
        | _ => none
    | .inr (.inr (.inr (.inr (.inr false)))) :: .inl x :: .inr (.inr (.inr (.inl a))) :: r => match h.1 a with
        | .inr (.inr (.inl (ty, n, f))) => if 0 ≤ x ∧ x < (n : Int) ∧ ty = tOb then nx is ls r (mset h a (cQ ty n (mUp f x.toNat qN))) else none
        | _ => none
    | _ => none)) := rfl
theorem ms_newarray {G : MG} {B : Nat → List MI} {ar : List Nat} {v9 : Int} {is : List MI} {ls st : List MV} {h : MH} {ty} : mStep G B (.newarray ty, ar, v9) is ls st h = ((match st with
    | .inl n :: r => if 0 ≤ n ∧ n ≤ 4000 then (match ty with
          | .int => nx is ls (qR h.2.1 :: r) (mnew h (cI .int n.toNat (fun _ => 0)) n.toNat)
          | .byte => nx is ls (qR h.2.1 :: r) (mnew h (cI .byte n.toNat (fun _ => 0)) n.toNat)
          | .boolean => nx is ls (qR h.2.1 :: r) (mnew h (cI .boolean n.toNat (fun _ => 0)) n.toNat)
          | .long => nx is ls (qR h.2.1 :: r) (mnew h (cL n.toNat (fun _ => 0)) n.toNat)
          | _ => none) else none
    | _ => none)) := rfl
theorem ms_new {G : MG} {B : Nat → List MI} {ar : List Nat} {v9 : Int} {is : List MI} {ls st : List MV} {h : MH} {x0} : mStep G B (.new x0, ar, v9) is ls st h = ((match ar with
    | [ci] => nx is ls (qR h.2.1 :: st) (mnew h (cO ci (mdef (G.2.2.2 ci))) (G.2.2.2 ci).length)
    | _ => none)) := rfl
theorem ms_anewarray {G : MG} {B : Nat → List MI} {ar : List Nat} {v9 : Int} {is : List MI} {ls st : List MV} {h : MH} {x0} : mStep G B (.anewarray x0, ar, v9) is ls st h = ((match st with
    | .inl n :: r => if 0 ≤ n ∧ n ≤ 4000 then nx is ls (qR h.2.1 :: r) (mnew h (cQ (nqT ar) n.toNat (fun _ => qN)) n.toNat) else none
    | _ => none)) := rfl
theorem ms_multianewarray {G : MG} {B : Nat → List MI} {ar : List Nat} {v9 : Int} {is : List MI} {ls st : List MV} {h : MH} {x0} {x1} : mStep G B (.multianewarray x0 x1, ar, v9) is ls st h = ((match ar, st with
    | [t], .inl k :: .inl n :: r => if 0 ≤ n ∧ n ≤ 20 ∧ 0 ≤ k ∧ k ≤ 4000 then nx is ls (qR h.2.1 :: r) (mgrid t n k h) else none
    | _, _ => none)) := rfl
theorem ms_invokevirtual {G : MG} {B : Nat → List MI} {ar : List Nat} {v9 : Int} {is : List MI} {ls st : List MV} {h : MH} {x0} : mStep G B (.invokevirtual x0, ar, v9) is ls st h = ((match ar with
    | m :: n :: _ => if n ≤ st.length ∧ hgt (st.drop n) ≤ 8 ∧ (margs (st.take n).reverse).length ≤ (G.1 m).2.1 ∧ rcv h (G.1 m).2.2 (st.take n).reverse = true then some (.inr (.inl (m, (st.take n).reverse, st.drop n))) else none
    | _ => none)) := rfl
theorem ms_invokestatic {G : MG} {B : Nat → List MI} {ar : List Nat} {v9 : Int} {is : List MI} {ls st : List MV} {h : MH} {x0} : mStep G B (.invokestatic x0, ar, v9) is ls st h = ((match ar with
    | m :: n :: _ => if n ≤ st.length ∧ hgt (st.drop n) ≤ 8 ∧ (margs (st.take n).reverse).length ≤ (G.1 m).2.1 then some (.inr (.inl (m, (st.take n).reverse, st.drop n))) else none
    | _ => none)) := rfl
theorem ms_invokespecial {G : MG} {B : Nat → List MI} {ar : List Nat} {v9 : Int} {is : List MI} {ls st : List MV} {h : MH} {x0} : mStep G B (.invokespecial x0, ar, v9) is ls st h = ((match ar with
    | m :: n :: _ => if n ≤ st.length ∧ hgt (st.drop n) ≤ 8 ∧ (margs (st.take n).reverse).length ≤ (G.1 m).2.1 ∧ rcv h (G.1 m).2.2 (st.take n).reverse = true then some (.inr (.inl (m, (st.take n).reverse, st.drop n))) else none
    | _ => none)) := rfl
theorem ms_invokeinterface {G : MG} {B : Nat → List MI} {ar : List Nat} {v9 : Int} {is : List MI} {ls st : List MV} {h : MH} {x0} {x1} : mStep G B (.invokeinterface x0 x1, ar, v9) is ls st h = ((match ar with
    | m :: n :: _ => if n ≤ st.length ∧ hgt (st.drop n) ≤ 8 ∧ (margs (st.take n).reverse).length ≤ (G.1 m).2.1 ∧ rcv h (G.1 m).2.2 (st.take n).reverse = true then some (.inr (.inl (m, (st.take n).reverse, st.drop n))) else none
    | _ => none)) := rfl
theorem ms_invokedynamic_0 {G : MG} {B : Nat → List MI} {ar : List Nat} {v9 : Int} {is : List MI} {ls st : List MV} {h : MH} : mStep G B (.invokedynamic 0, ar, v9) is ls st h = ((match st with
    | .inl n :: .inl dp :: .inr (.inr (.inr (.inl b))) :: .inl sp :: .inr (.inr (.inr (.inl a))) :: r => match mCopy G h a sp b dp n with
        | some g => if hgt r ≤ 8 then nx is ls r g else none
        | none => none
    | .inl n :: .inl dp :: .inr (.inr (.inr (.inl b))) :: .inl sp :: .inr (.inr (.inr (.inr (.inl a)))) :: r => match mCopyS G h a sp b dp n with
        | some g => if hgt r ≤ 8 then nx is ls r g else none
        | none => none
    | _ => none)) := rfl
theorem ms_invokedynamic_1 {G : MG} {B : Nat → List MI} {ar : List Nat} {v9 : Int} {is : List MI} {ls st : List MV} {h : MH} : mStep G B (.invokedynamic 1, ar, v9) is ls st h = ((match st with
    | .inl y :: .inl x :: r => if hgt r ≤ 8 then nx is ls (qI (max x y) :: r) h else none
    | _ => none)) := rfl
theorem ms_invokedynamic_2 {G : MG} {B : Nat → List MI} {ar : List Nat} {v9 : Int} {is : List MI} {ls st : List MV} {h : MH} : mStep G B (.invokedynamic 2, ar, v9) is ls st h = ((match st with
    | .inl y :: .inl x :: r => if hgt r ≤ 8 then nx is ls (qI (min x y) :: r) h else none
    | _ => none)) := rfl
theorem ms_invokedynamic_3 {G : MG} {B : Nat → List MI} {ar : List Nat} {v9 : Int} {is : List MI} {ls st : List MV} {h : MH} : mStep G B (.invokedynamic 3, ar, v9) is ls st h = ((match ar with
    | e :: _ => if hgt st ≤ 8 then some (.inr (.inr (.inr e))) else none
    | _ => none)) := rfl
theorem ms_invokedynamic_4 {G : MG} {B : Nat → List MI} {ar : List Nat} {v9 : Int} {is : List MI} {ls st : List MV} {h : MH} : mStep G B (.invokedynamic 4, ar, v9) is ls st h = ((match ar with
    | [k] => nx (B k) ls st h
    | _ => none)) := rfl
theorem ms_invokedynamic_5 {G : MG} {B : Nat → List MI} {ar : List Nat} {v9 : Int} {is : List MI} {ls st : List MV} {h : MH} : mStep G B (.invokedynamic 5, ar, v9) is ls st h = ((match st with
    | .inr (.inr (.inr (.inl _))) :: r => if hgt r ≤ 8 then nx is ls r h else none
    | _ => none)) := rfl
theorem ms_invokedynamic_6 {G : MG} {B : Nat → List MI} {ar : List Nat} {v9 : Int} {is : List MI} {ls st : List MV} {h : MH} : mStep G B (.invokedynamic 6, ar, v9) is ls st h = ((match st with
    | .inr (.inr (.inr (.inl a))) :: r => (match h.1 a with
        | .inl (ty, n, f) => if ty = .byte ∧ hgt r ≤ 8 ∧ (List.range n).all (fun i => decide (-128 ≤ f i ∧ f i ≤ 127)) = true then nx is ls (qR h.2.1 :: r) (mnew h (cI .byte n f) n) else none
        | _ => none)
    | _ => none)) := rfl
theorem ms_invokedynamic_7 {G : MG} {B : Nat → List MI} {ar : List Nat} {v9 : Int} {is : List MI} {ls st : List MV} {h : MH} : mStep G B (.invokedynamic 7, ar, v9) is ls st h = ((match st with
    | .inr (.inr (.inr (.inl a))) :: r => (match h.1 a with
        | .inr (.inr (.inl (ty, _, _))) => if ty = tOb ∧ hgt r ≤ 8 then nx is ls (qS 990 :: r) h else none
        | _ => none)
    | _ => none)) := rfl
theorem ms_invokedynamic_8 {G : MG} {B : Nat → List MI} {ar : List Nat} {v9 : Int} {is : List MI} {ls st : List MV} {h : MH} : mStep G B (.invokedynamic 8, ar, v9) is ls st h = (nx is ls (qS 990 :: st) h) := rfl
theorem ms_ireturn {G : MG} {B : Nat → List MI} {ar : List Nat} {v9 : Int} {is : List MI} {ls st : List MV} {h : MH} : mStep G B (.ireturn, ar, v9) is ls st h = ((match ar, st with
    | [0], [.inl x] => some (.inr (.inr (.inl (some (qI x)))))
    | [1], [.inl x] => if 0 ≤ x ∧ x ≤ 1 then some (.inr (.inr (.inl (some (qI x))))) else none
    | [2], [.inl x] => if -128 ≤ x ∧ x ≤ 127 then some (.inr (.inr (.inl (some (qI x))))) else none
    | [3], [.inl x] => if 0 ≤ x ∧ x < 65536 then some (.inr (.inr (.inl (some (qI x))))) else none
    | _, _ => none)) := rfl
theorem ms_lreturn {G : MG} {B : Nat → List MI} {ar : List Nat} {v9 : Int} {is : List MI} {ls st : List MV} {h : MH} : mStep G B (.lreturn, ar, v9) is ls st h = ((match st with
    | [.inr (.inl x)] => some (.inr (.inr (.inl (some (qL x)))))
    | _ => none)) := rfl
theorem ms_dreturn {G : MG} {B : Nat → List MI} {ar : List Nat} {v9 : Int} {is : List MI} {ls st : List MV} {h : MH} : mStep G B (.dreturn, ar, v9) is ls st h = ((match st with
    | [.inr (.inr (.inl x))] => some (.inr (.inr (.inl (some (qD x)))))
    | _ => none)) := rfl
theorem ms_areturn {G : MG} {B : Nat → List MI} {ar : List Nat} {v9 : Int} {is : List MI} {ls st : List MV} {h : MH} : mStep G B (.areturn, ar, v9) is ls st h = ((match st with
    | [v] => if isRf v = true then some (.inr (.inr (.inl (some v)))) else none
    | _ => none)) := rfl
theorem ms_return_ {G : MG} {B : Nat → List MI} {ar : List Nat} {v9 : Int} {is : List MI} {ls st : List MV} {h : MH} : mStep G B (.return_, ar, v9) is ls st h = ((match st with
    | [] => some (.inr (.inr (.inl none)))
    | _ => none)) := rfl
/-- from this place the method comes to an end of which Q holds -/
def Wp (G : MG) (d : Nat) (B : Nat → List MI) (is : List MI) (ls st : List MV) (h : MH) (Q : (Option MV ⊕ Nat) → MH → Prop) : Prop := ∃ (r : Option MV ⊕ Nat) (h2 : MH), St G d B is ls st h (r, h2) ∧ Q r h2
/-- a call comes to an end of which Q holds -/
def Sp (G : MG) (d m : Nat) (as : List MV) (h : MH) (Q : (Option MV ⊕ Nat) → MH → Prop) : Prop := ∃ (r : Option MV ⊕ Nat) (h2 : MH), Ev G d m as h (r, h2) ∧ Q r h2
def WCo (G : MG) (d : Nat) (B : Nat → List MI) (ex : List Nat) (is : List MI) (ls st : List MV) (Q : (Option MV ⊕ Nat) → MH → Prop) (r : Option MV ⊕ Nat) (h : MH) : Prop := match r with
  | .inl v => Wp G d B is ls (v.toList ++ st) h Q
  | .inr e => match ex with
    | e1 :: k1 :: l => if e = e1 then Wp G d B (B k1) ls [qS 999] h Q else match l with
      | e2 :: k2 :: _ => if e = e2 then Wp G d B (B k2) ls [qS 999] h Q else False
      | _ => False
    | _ => False
/-- at a call -/
def WCl (G : MG) (d : Nat) (B : Nat → List MI) (ex : List Nat) (is : List MI) (ls : List MV) (m : Nat) (as st : List MV) (h : MH) (Q : (Option MV ⊕ Nat) → MH → Prop) : Prop := ∃ d' : Nat, d' < d ∧ Sp G d' m as h (WCo G d B ex is ls st Q)
def WSC (G : MG) (d : Nat) (B : Nat → List MI) (ex : List Nat) (is : List MI) (ls : List MV) (h : MH) (Q : (Option MV ⊕ Nat) → MH → Prop) (x : Option MS) : Prop := match x with
  | none => False
  | some (.inl (is2, ls2, st2, h2)) => Wp G d B is2 ls2 st2 h2 Q
  | some (.inr (.inl (m, as, st2))) => WCl G d B ex is ls m as st2 h Q
  | some (.inr (.inr (.inl v))) => Q (.inl v) h
  | some (.inr (.inr (.inr e))) => Q (.inr e) (h.1, h.2.1, h.2.2.1 + 1, h.2.2.2 + 6)
theorem WSC_nx {G : MG} {d : Nat} {B : Nat → List MI} {ex : List Nat} {is is2 : List MI} {ls ls2 st2 : List MV} {h h2 : MH} {Q : (Option MV ⊕ Nat) → MH → Prop} : WSC G d B ex is ls h Q (some (.inl (is2, ls2, st2, h2))) = Wp G d B is2 ls2 st2 h2 Q := rfl
theorem WSC_cl {G : MG} {d : Nat} {B : Nat → List MI} {ex : List Nat} {is : List MI} {ls as st2 : List MV} {h : MH} {m : Nat} {Q : (Option MV ⊕ Nat) → MH → Prop} : WSC G d B ex is ls h Q (some (.inr (.inl (m, as, st2)))) = WCl G d B ex is ls m as st2 h Q := rfl
theorem WSC_rt {G : MG} {d : Nat} {B : Nat → List MI} {ex : List Nat} {is : List MI} {ls : List MV} {h : MH} {v : Option MV} {Q : (Option MV ⊕ Nat) → MH → Prop} : WSC G d B ex is ls h Q (some (.inr (.inr (.inl v)))) = Q (.inl v) h := rfl
theorem WSC_th {G : MG} {d : Nat} {B : Nat → List MI} {ex : List Nat} {is : List MI} {ls : List MV} {h : MH} {e : Nat} {Q : (Option MV ⊕ Nat) → MH → Prop} : WSC G d B ex is ls h Q (some (.inr (.inr (.inr e)))) = Q (.inr e) (h.1, h.2.1, h.2.2.1 + 1, h.2.2.2 + 6) := rfl
theorem WSC_if {G : MG} {d : Nat} {B : Nat → List MI} {ex : List Nat} {is : List MI} {ls : List MV} {h : MH} {Q : (Option MV ⊕ Nat) → MH → Prop} {c : Prop} [Decidable c] {x y : Option MS} : WSC G d B ex is ls h Q (if c then x else y) = (if c then WSC G d B ex is ls h Q x else WSC G d B ex is ls h Q y) := by
  split <;> rfl
theorem Wp_cons {G : MG} {d : Nat} {B : Nat → List MI} {i : MI} {is : List MI} {ls st : List MV} {h : MH} {Q : (Option MV ⊕ Nat) → MH → Prop} : Wp G d B (i :: is) ls st h Q = WSC G d B (i.2.1.drop 2) is ls h Q (mStep G B i is ls st h) := by
  apply propext
  unfold Wp
  simp only [St_cons]
  unfold SC WSC
  cases hs : mStep G B i is ls st h with
  | none => simp
  | some x =>
    rcases x with ⟨is2, ls2, st2, h2⟩ | ⟨m, as, st2⟩ | v | e
    · exact Iff.rfl
    · unfold Cl WCl Sp
      constructor
      · rintro ⟨r, h2, ⟨d', r1, h1, hd, hE, hc⟩, hQ⟩
        refine ⟨d', hd, r1, h1, hE, ?_⟩
        unfold Co at hc
        unfold WCo
        rcases r1 with w | e
        · exact ⟨r, h2, hc, hQ⟩
        · dsimp only at hc ⊢
          split at hc
          · rename_i e1 k1 l heq
            rw [heq]
            dsimp only
            split at hc
            · rename_i he
              rw [if_pos he]
              exact ⟨r, h2, hc, hQ⟩
            · rename_i he
              rw [if_neg he]
              split at hc
              · split at hc
                · rename_i he2
                  dsimp only
                  rw [if_pos he2]
                  exact ⟨r, h2, hc, hQ⟩
                · exact hc.elim
              · exact hc.elim
          · exact hc.elim
      · rintro ⟨d', hd, r1, h1, hE, hc⟩
        unfold WCo at hc
        rcases r1 with w | e
        · obtain ⟨r, h2, hr, hQ⟩ := hc
          exact ⟨r, h2, ⟨d', .inl w, h1, hd, hE, hr⟩, hQ⟩
        · dsimp only at hc
          split at hc
          · rename_i e1 k1 l heq
            split at hc
            · rename_i he
              obtain ⟨r, h2, hr, hQ⟩ := hc
              refine ⟨r, h2, ⟨d', .inr e, h1, hd, hE, ?_⟩, hQ⟩
              unfold Co
              dsimp only
              rw [heq]
              dsimp only
              rw [if_pos he]
              exact hr
            · rename_i he
              split at hc
              · split at hc
                · rename_i he2
                  obtain ⟨r, h2, hr, hQ⟩ := hc
                  refine ⟨r, h2, ⟨d', .inr e, h1, hd, hE, ?_⟩, hQ⟩
                  unfold Co
                  dsimp only
                  rw [heq]
                  dsimp only
                  rw [if_neg he, if_pos he2]
                  exact hr
                · exact hc.elim
              · exact hc.elim
          · exact hc.elim
    · constructor
      · rintro ⟨r, h2, hr, hQ⟩
        cases hr
        exact hQ
      · intro hQ
        exact ⟨_, _, rfl, hQ⟩
    · constructor
      · rintro ⟨r, h2, hr, hQ⟩
        cases hr
        exact hQ
      · intro hQ
        exact ⟨_, _, rfl, hQ⟩
theorem Wp.mono {G : MG} {d : Nat} {B : Nat → List MI} {is : List MI} {ls st : List MV} {h : MH} {Q Q' : (Option MV ⊕ Nat) → MH → Prop} (hw : Wp G d B is ls st h Q) (hq : ∀ r h, Q r h → Q' r h) : Wp G d B is ls st h Q' := by
  obtain ⟨r, h2, h3, h4⟩ := hw
  exact ⟨r, h2, h3, hq r h2 h4⟩
theorem Sp.mono {G : MG} {d m : Nat} {as : List MV} {h : MH} {Q Q' : (Option MV ⊕ Nat) → MH → Prop} (hw : Sp G d m as h Q) (hq : ∀ r h, Q r h → Q' r h) : Sp G d m as h Q' := by
  obtain ⟨r, h2, h3, h4⟩ := hw
  exact ⟨r, h2, h3, hq r h2 h4⟩
theorem Sp.up {G : MG} {d d' m : Nat} {as : List MV} {h : MH} {Q : (Option MV ⊕ Nat) → MH → Prop} (hd : d ≤ d') (hw : Sp G d m as h Q) : Sp G d' m as h Q := by
  obtain ⟨r, h2, h3, h4⟩ := hw
  exact ⟨r, h2, h3.up hd, h4⟩
/-- a method's body -/
theorem Sp_of {G : MG} {d m nL own : Nat} {Bm : Nat → List MI} {as : List MV} {h : MH} {Q : (Option MV ⊕ Nat) → MH → Prop} (hm : G.1 m = (Bm, nL, own)) (hw : Wp G d Bm (Bm 0) (mpad nL (margs as)) [] h Q) : Sp G d m as h Q := by
  obtain ⟨r, h2, h3, h4⟩ := hw
  refine ⟨r, h2, ?_, h4⟩
  unfold Ev
  rw [hm]
  exact h3
/-- a call by its contract -/
theorem WCl_of {G : MG} {d d' : Nat} {B : Nat → List MI} {ex : List Nat} {is : List MI} {ls : List MV} {m : Nat} {as st : List MV} {h : MH} {Q Q' : (Option MV ⊕ Nat) → MH → Prop} (hs : Sp G d' m as h Q') (hd : d' < d) (hk : ∀ r h2, Q' r h2 → WCo G d B ex is ls st Q r h2) : WCl G d B ex is ls m as st h Q := ⟨d', hd, hs.mono hk⟩
