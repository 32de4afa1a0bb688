/-! ===== WHAT IS CHECKED of the tables and the blocks, by the kernel ===== -/
/-- the private methods of the text's own upper class, called of the lower one: 'selects' out of their words -/
def xTn : List MethodName := [⟨"java/lang/AbstractStringBuilder", "ensureCapacityInternal", "(I)V"⟩, ⟨"java/lang/AbstractStringBuilder", "newCapacity", "(I)I"⟩, ⟨"java/lang/AbstractStringBuilder", "putStringAt", "(ILjava/lang/String;)V"⟩, ⟨"java/lang/AbstractStringBuilder", "inflateIfNeededFor", "(Ljava/lang/String;)V"⟩]
def xT : List Jvm.Cond := xTn.map (fun y => .selects "java/lang/StringBuilder" y y)
def GT : List Jvm.Cond := lw_tbl.filter goodWord ++ xT
def inT (pos : Nat) (w : Jvm.Cond) : Bool := match lw_tbl[pos]? with
  | some v => decide (v = w) && goodWord w
  | none => false
def inU (pos : Nat) (w : Jvm.Cond) : Bool := match lw_tbl[pos]? with
  | some v => decide (v = w)
  | none => false
theorem inU_ok {pos : Nat} {w : Jvm.Cond} (h : inU pos w = true) : w ∈ lw_tbl := by
  unfold inU at h
  split at h
  · rename_i v hv
    have e := of_decide_eq_true h
    subst e
    exact List.mem_of_getElem? hv
  · cases h
theorem inT_ok {pos : Nat} {w : Jvm.Cond} (h : inT pos w = true) : w ∈ GT := by
  unfold inT at h
  split at h
  · rename_i v hv
    simp only [Bool.and_eq_true, decide_eq_true_eq] at h
    obtain ⟨rfl, h2⟩ := h
    exact List.mem_append_left _ (List.mem_filter.mpr ⟨List.mem_of_getElem? hv, h2⟩)
  · cases h
def uQ (ci : Nat) : vw_C := clsT.getD ci ("", (fun _ => ("", "", "", false)), 0)
def dc (cc : ByteArray) (pc : Nat) (r : Instr) (n : Nat) : Bool := match decode cc pc with
  | .ok q => decide (q = (r, n))
  | .error _ => false
theorem dc_ok {cc : ByteArray} {pc : Nat} {r : Instr} {n : Nat} (h : dc cc pc r n = true) : decode cc pc = .ok (r, n) := by
  unfold dc at h
  split at h
  · rename_i q hq
    rw [hq, of_decide_eq_true h]
  · cases h
def s1 (cc : ByteArray) (pc : Nat) (r : Instr) (n : Nat) : Option Nat := if dc cc pc r n = true then some (pc + n) else none
theorem s1_ok {cc : ByteArray} {pc : Nat} {r : Instr} {n q : Nat} (h : s1 cc pc r n = some q) : decode cc pc = .ok (r, n) ∧ q = pc + n := by
  unfold s1 at h
  split at h
  · rename_i g; cases h; exact ⟨dc_ok g, rfl⟩
  · cases h
def ld2 (cc : ByteArray) (pc : Nat) (r : Instr) (f : Fin 4 → Instr) (n : Nat) : Option Nat := if dc cc pc r 2 = true then some (pc + 2) else if h : n < 4 then (if dc cc pc (f ⟨n, h⟩) 1 = true then some (pc + 1) else none) else none
theorem ld2_ok {cc : ByteArray} {pc : Nat} {r : Instr} {f : Fin 4 → Instr} {n q : Nat} (h : ld2 cc pc r f n = some q) : (decode cc pc = .ok (r, 2) ∧ q = pc + 2) ∨ ∃ k : Fin 4, (k : Nat) = n ∧ decode cc pc = .ok (f k, 1) ∧ q = pc + 1 := by
  unfold ld2 at h
  split at h
  · rename_i g; cases h; exact Or.inl ⟨dc_ok g, rfl⟩
  · split at h
    · rename_i hn
      split at h
      · rename_i g; cases h; exact Or.inr ⟨⟨n, hn⟩, rfl, dc_ok g, rfl⟩
      · cases h
    · cases h
def tg (P : Nat → Nat) (pc : Nat) (off : Int) (k : Nat) : Bool := decide ((pc : Int) + off = (P k : Int))
def tgs (P : Nat → Nat) (pc : Nat) : List Int → List Nat → Bool
  | [], [] => true
  | o :: os, k :: ks => tg P pc o k && tgs P pc os ks
  | _, _ => false
/-- a check, then the next place -/
def gd (b : Bool) (x : Option Nat) : Option Nat := if b = true then x else none
theorem gd_ok {b : Bool} {x : Option Nat} {q : Nat} (h : gd b x = some q) : b = true ∧ x = some q := by
  unfold gd at h
  split at h
  · rename_i g; exact ⟨g, h⟩
  · cases h
def tyT (ci k t : Nat) : Bool := match parseFieldDescriptor ((uQ ci).2.1 k).2.2.1 with
  | some .int => t == 0
  | some .long => t == 1
  | some (.object _) => t == 2
  | some (.array _) => t == 2
  | some .byte => t == 3
  | some .boolean => t == 4
  | _ => false
def isF (o idx ci k : Nat) : Bool := (LFd o).any (fun e => e.1 == idx && e.2.1 == ci && e.2.2.1 == k)
def isNF (o idx ci k : Nat) : Bool := (LNe o).any (fun e => e.1 == idx && e.2.1 == ci && e.2.2.1 == k)
def isSF (o idx ci k : Nat) : Bool := (LSf o).any (fun e => e.1 == idx && e.2.1 == ci && e.2.2.1 == k)
def isS (o idx k : Nat) : Bool := (LSt o).any (fun e => e.1 == idx && e.2.1 == k)
def isC (o idx ci : Nat) : Bool := (LCl o).any (fun e => e.1 == idx && e.2.1 == ci)
def isP (o idx k : Nat) : Bool := (LPr o).any (fun e => e.1 == idx && e.2.1 == k)
def isM (o idx m kd n : Nat) : Bool := (LMt o).any (fun e => e.1 == idx && e.2.1 == m && e.2.2.1 == kd && e.2.2.2.1 == n)
def okI (o : Nat) (ini : Bool) (ret : Option FieldType) (cc : ByteArray) (P : Nat → Nat) (pc : Nat) (i : MI) : Option Nat := match i.1 with
  | .sipush n => if dc cc pc (.iconst n) 1 && decide ((Int32.ofInt n).toInt = n) then some (pc + 1) else if dc cc pc (.bipush n) 2 && decide ((Int8.ofInt n).toInt32.toInt = n) then some (pc + 2) else if dc cc pc (.sipush n) 3 && decide ((Int16.ofInt n).toInt32.toInt = n) then some (pc + 3) else none
  | .lconst k => gd (decide ((Int64.ofNat (k : Nat)).toInt = i.2.2)) (s1 cc pc (.lconst k) 1)
  | .ldc2_w idx => gd ((LJg o).any (fun e => e.1 == idx && decide ((Int64.ofInt e.2.1).toInt = i.2.2))) (s1 cc pc (.ldc2_w idx) 3)
  | .dconst k => s1 cc pc (.dconst k) 1
  | .ldc idx => match i.2.1 with
    | [a] => gd ((LTx o).any (fun e => e.1 == idx && 100 + e.2.1 == a)) (s1 cc pc (.ldc idx) 2)
    | [] => gd ((LIn o).any (fun e => e.1 == idx && decide ((Int32.ofInt e.2.1).toInt = i.2.2))) (s1 cc pc (.ldc idx) 2)
    | _ => none
  | .getstatic idx => match i.2.1 with
    | [0, a] => gd ((LZt o).any (fun e => e.1 == idx && decide ((ZS[e.2.1]?).map (fun z => z.2.2.2) = some (qS a))) || (LZn o).any (fun e => e.1 == idx && decide ((ZS[e.2.1]?).map (fun z => z.2.2.2) = some (qS a)))) (s1 cc pc (.getstatic idx) 3)
    | [1] => gd ((LZt o).any (fun e => e.1 == idx && decide ((ZS[e.2.1]?).map (fun z => z.2.2.2) = some (qI i.2.2)))) (s1 cc pc (.getstatic idx) 3)
    | [2] => gd ((LZt o).any (fun e => e.1 == idx && e.2.1 == 99)) (s1 cc pc (.getstatic idx) 3)
    | _ => none
  | .iload n => ld2 cc pc (.iload n) .iload_n n
  | .lload n => ld2 cc pc (.lload n) .lload_n n
  | .dload n => ld2 cc pc (.dload n) .dload_n n
  | .aload n => ld2 cc pc (.aload n) .aload_n n
  | .istore n => ld2 cc pc (.istore n) .istore_n n
  | .lstore n => ld2 cc pc (.lstore n) .lstore_n n
  | .dstore n => ld2 cc pc (.dstore n) .dstore_n n
  | .astore n => ld2 cc pc (.astore n) .astore_n n
  | .iinc n k => s1 cc pc (.iinc n k) 3
  | .iadd => s1 cc pc .iadd 1
  | .isub => s1 cc pc .isub 1
  | .imul => s1 cc pc .imul 1
  | .idiv => s1 cc pc .idiv 1
  | .irem => s1 cc pc .irem 1
  | .ineg => s1 cc pc .ineg 1
  | .iand => s1 cc pc .iand 1
  | .ior => s1 cc pc .ior 1
  | .ishr => s1 cc pc .ishr 1
  | .iushr => s1 cc pc .iushr 1
  | .ishl => s1 cc pc .ishl 1
  | .dup_x1 => s1 cc pc .dup_x1 1
  | .aconst_null => s1 cc pc .aconst_null 1
  | .ifnull off => match i.2.1 with
    | [k] => gd (tg P pc off k) (s1 cc pc (.ifnull off) 3)
    | _ => none
  | .ifnonnull off => match i.2.1 with
    | [k] => gd (tg P pc off k) (s1 cc pc (.ifnonnull off) 3)
    | _ => none
  | .checkcast idx => match i.2.1 with
    | [t] => gd (isC o idx (if t = 0 then 104 else if t = 1 then 102 else 107) && decide (t < 3)) (s1 cc pc (.checkcast idx) 3)
    | _ => none
  | .i2b => s1 cc pc .i2b 1
  | .i2c => s1 cc pc .i2c 1
  | .i2l => s1 cc pc .i2l 1
  | .ladd => s1 cc pc .ladd 1
  | .lmul => s1 cc pc .lmul 1
  | .lcmp => s1 cc pc .lcmp 1
  | .i2d => s1 cc pc .i2d 1
  | .ddiv => s1 cc pc .ddiv 1
  | .dcmp c => s1 cc pc (.dcmp c) 1
  | .dup => s1 cc pc .dup 1
  | .pop => s1 cc pc .pop 1
  | .dup2 => s1 cc pc .dup2 1
  | .goto off => match i.2.1 with
    | [k] => gd (tg P pc off k) (s1 cc pc (.goto off) 3)
    | _ => none
  | .ifCond c off => match i.2.1 with
    | [k] => gd (tg P pc off k) (s1 cc pc (.ifCond c off) 3)
    | _ => none
  | .if_icmp c off => match i.2.1 with
    | [k] => gd (tg P pc off k) (s1 cc pc (.if_icmp c off) 3)
    | _ => none
  | .if_acmp c off => match i.2.1 with
    | [k] => gd (tg P pc off k) (s1 cc pc (.if_acmp c off) 3)
    | _ => none
  | .tableswitch d lo hi offs => match i.2.1, decode cc pc with
    | k :: ks, .ok (r, n) => gd (decide (r = .tableswitch d lo hi offs) && tg P pc d k && tgs P pc offs.toList ks && decide (hi - lo + 1 = (offs.size : Int))) (some (pc + n))
    | _, _ => none
  | .lookupswitch d ps => match i.2.1, decode cc pc with
    | k :: ks, .ok (r, n) => gd (decide (r = .lookupswitch d ps) && tg P pc d k && tgs P pc (ps.toList.map (fun q => q.2)) ks && (ps.toList.zip (ps.toList.drop 1)).all (fun (a, next) => a.1 < next.1)) (some (pc + n))
    | _, _ => none
  | .getfield idx => match i.2.1 with
    | [ci, k, _] => gd (if k < 50 then (isF o idx ci k || isNF o idx ci k || isSF o idx ci k) else isS o idx k) (s1 cc pc (.getfield idx) 3)
    | _ => none
  | .putfield idx => match i.2.1 with
    | [ci, k, t] => gd (decide (k < 50) && tyT ci k t && (if ((uQ ci).2.1 k).2.2.2 = true then (ini && isF o idx ci k && decide (((uQ ci).2.1 k).1 = CN o)) else (isF o idx ci k || isNF o idx ci k || isSF o idx ci k))) (s1 cc pc (.putfield idx) 3)
    | _ => none
  | .arraylength => s1 cc pc .arraylength 1
  | .iaload => s1 cc pc .iaload 1
  | .baload => s1 cc pc .baload 1
  | .laload => s1 cc pc .laload 1
  | .aaload => s1 cc pc .aaload 1
  | .iastore => s1 cc pc .iastore 1
  | .bastore => s1 cc pc .bastore 1
  | .lastore => s1 cc pc .lastore 1
  | .aastore => s1 cc pc .aastore 1
  | .newarray t => s1 cc pc (.newarray t) 2
  | .new idx => match i.2.1 with
    | [ci] => gd (isC o idx ci && decide (ci < 15)) (s1 cc pc (.new idx) 3)
    | _ => none
  | .anewarray idx => gd (isC o idx (nqC i.2.1)) (s1 cc pc (.anewarray idx) 3)
  | .multianewarray idx 2 => match i.2.1 with
    | [t] => gd (isC o idx (100 + t) && (t == 0 || t == 1 || t == 3)) (s1 cc pc (.multianewarray idx 2) 4)
    | _ => none
  | .invokevirtual idx => match i.2.1 with
    | m :: n :: _ => gd (isM o idx m 0 n || isM o idx m 5 n || isM o idx m 8 n || isM o idx m 11 n) (s1 cc pc (.invokevirtual idx) 3)
    | _ => none
  | .invokestatic idx => match i.2.1 with
    | m :: n :: _ => gd (isM o idx m 1 n || isM o idx m 4 n || isM o idx m 6 n) (s1 cc pc (.invokestatic idx) 3)
    | _ => none
  | .invokespecial idx => match i.2.1 with
    | m :: n :: _ => gd (isM o idx m 2 n || isM o idx m 3 n || isM o idx m 10 n) (s1 cc pc (.invokespecial idx) 3)
    | _ => none
  | .invokeinterface idx n9 => match i.2.1 with
    | m :: n :: _ => gd (isM o idx m 9 n) (s1 cc pc (.invokeinterface idx n9) 5)
    | _ => none
  | .invokedynamic 0 => match i.2.1 with
    | [idx] => gd (isP o idx 0) (s1 cc pc (.invokestatic idx) 3)
    | _ => none
  | .invokedynamic 1 => match i.2.1 with
    | [idx] => gd (isP o idx 1) (s1 cc pc (.invokestatic idx) 3)
    | _ => none
  | .invokedynamic 2 => match i.2.1 with
    | [idx] => gd (isP o idx 2) (s1 cc pc (.invokestatic idx) 3)
    | _ => none
  | .invokedynamic 3 => match i.2.1 with
    | [e, ik, is, ic, w] => gd ((LXc o).any (fun x => x.1 == ik && x.2.1 == is && x.2.2.1 == ic && x.2.2.2.1 == e && x.2.2.2.2.1 == w) && dc cc pc (.new ik) 3 && dc cc (pc + 3) .dup 1 && (if w = 0 then (dc cc (pc + 4) (.ldc is) 2 && dc cc (pc + 6) (.invokespecial ic) 3 && dc cc (pc + 9) .athrow 1) else (dc cc (pc + 4) (.ldc_w is) 3 && dc cc (pc + 7) (.invokespecial ic) 3 && dc cc (pc + 10) .athrow 1))) (some pc)
    | _ => none
  | .invokedynamic 4 => match i.2.1 with
    | [k] => gd (decide (pc = P k)) (some pc)
    | _ => none
  | .invokedynamic 5 => match i.2.1 with
    | [idx] => gd (isP o idx 5) (s1 cc pc (.invokespecial idx) 3)
    | _ => none
  | .invokedynamic 6 => match i.2.1 with
    | [idx] => gd (isP o idx 6) (s1 cc pc (.invokevirtual idx) 3)
    | _ => none
  | .invokedynamic 7 => match i.2.1 with
    | [idx] => gd (isP o idx 7) (s1 cc pc (.invokevirtual idx) 3)
    | _ => none
  | .invokedynamic 8 => match i.2.1 with
    | [idx] => gd (isC o idx 102) (s1 cc pc (.ldc idx) 2)
    | _ => none
  | .invokedynamic 9 => some pc
  | .ireturn => gd (match i.2.1 with | [0] => decide (ret = some .int) | [1] => decide (ret = some .boolean) | [2] => decide (ret = some .byte) | [3] => decide (ret = some .char) | _ => false) (s1 cc pc .ireturn 1)
  | .lreturn => gd (decide (ret = some .long)) (s1 cc pc .lreturn 1)
  | .dreturn => gd (decide (ret = some .double)) (s1 cc pc .dreturn 1)
  | .areturn => gd (match ret with | some (.object _) => true | some (.array _) => true | _ => false) (s1 cc pc .areturn 1)
  | .return_ => gd (decide (ret = none)) (s1 cc pc .return_ 1)
  | _ => none
def okF (o : Nat) (ini : Bool) (ret : Option FieldType) (cc : ByteArray) (P : Nat → Nat) : Nat → List MI → Bool
  | _, [] => true
  | pc, i :: is => match okI o ini ret cc P pc i with
    | some q => okF o ini ret cc P q is
    | none => false
def okM (m : Nat) : Bool := (List.range (bp m).2.2).all (fun k => okF (mInf m).2.2.1 (decide ((mInf m).1.name = "<init>")) (mInf m).2.2.2.2.1 (mInf m).2.1 (bp m).2.1 ((bp m).2.1 k) ((bp m).1 k))
