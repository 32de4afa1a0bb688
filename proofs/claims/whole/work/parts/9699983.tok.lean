/-! ===== THE REFERENCE: tokens ===== -/
def bA (T : Nat → Int) (len p : Nat) : Int := if p < len then T p else -1
def sgF (x : Int) : Nat → Nat → Int
  | 0, _ => -1
  | m + 1, i => if (((sB.getD 42 []).getD i 0 : Nat) : Int) = x then (i : Int) else sgF x m (i + 1)
def sgA (x : Int) (a : Nat) : Bool := decide ((txt a).length = 1) && decide ((((txt a).getD 0 0 : Nat) : Int) = x)
def sgB (x y : Int) (a : Nat) : Bool := decide ((txt a).length = 2) && decide ((((txt a).getD 0 0 : Nat) : Int) = x) && decide ((((txt a).getD 1 0 : Nat) : Int) = y)
def spM (f : Nat → Bool) (o : Nat) : Nat → Nat → Nat
  | 0, _ => o
  | m + 1, a => if f a = true then a else spM f o m (a + 1)
section TOKM
variable {L : Nat} {xs : Nat → Int} {fm : Bool} {hc hc' : Nat → MC} {h : MH} {sb len : Nat} {th sz ea tk dp wk bt : Int} {oo : Nat} {T tp : Nat → Int} {W : Nat → Nat → Int} {F : Nat → Nat → Int} {od : Int} {b : Nat}
theorem spK_M {B : Nat → Int} {p e o : Nat} {f : Nat → Bool} (hf : ∀ a, mtB B p e a = f a) : ∀ {m a : Nat}, spK B p e o m a = spM f o m a
  | 0, _ => rfl
  | m + 1, a => by
    unfold spK spM
    rw [hf a, spK_M hf]
theorem spM_no {f : Nat → Bool} {o : Nat} : ∀ {m a : Nat}, (∀ i, a ≤ i → i < a + m → f i = false) → spM f o m a = o
  | 0, _, _ => rfl
  | m + 1, a, h => by
    unfold spM
    rw [if_neg (by rw [h a (Nat.le_refl _) (by omega)]; decide)]
    exact spM_no (fun i h1 h2 => h i (by omega) (by omega))
theorem mtB_1 {B : Nat → Int} {p : Nat} (a : Nat) : mtB B p (p + 1) a = sgA (B p) a := by
  unfold mtB sgA
  rw [show p + 1 - p = 1 by omega]
  by_cases h : (txt a).length = 1
  · rw [decide_eq_true h, Bool.true_and, Bool.true_and]
    refine decide_eq_decide.mpr ⟨fun z => ?_, fun z i hi => ?_⟩
    · have := z 0 (by omega)
      exact this
    · have : i = 0 := by omega
      subst this
      exact z
  · rw [decide_eq_false h]
    rfl
theorem mtB_2 {B : Nat → Int} {p : Nat} (a : Nat) : mtB B p (p + 2) a = sgB (B p) (B (p + 1)) a := by
  unfold mtB sgB
  rw [show p + 2 - p = 2 by omega]
  by_cases h : (txt a).length = 2
  · rw [decide_eq_true h, Bool.true_and, Bool.true_and, ← Bool.decide_and]
    refine decide_eq_decide.mpr ⟨fun z => ⟨z 0 (by omega), z 1 (by omega)⟩, fun z i hi => ?_⟩
    rcases (by omega : i = 0 ∨ i = 1) with rfl | rfl
    · exact z.1
    · exact z.2
  · rw [decide_eq_false h]
    rfl
theorem tx_one : ∀ a, a < 46 → (txt a).length = 1 → (txt a).getD 0 0 ∈ [40, 41, 91, 93, 59, 44, 43, 45, 42, 47, 60, 62, 61] := by decide
theorem tx_hi : ∀ a, 26 ≤ a → a < 46 → (txt a).length = 0 ∨ (txt a).getD 0 0 < 97 := by
  have h : ∀ a, a < 46 → 26 ≤ a → (txt a).length = 0 ∨ (txt a).getD 0 0 < 97 := by decide
  exact fun a h1 h2 => h a h2 h1
theorem sg_in : ∀ i, i < 13 → (sB.getD 42 []).getD i 0 ∈ [40, 41, 91, 93, 59, 44, 43, 45, 42, 47, 60, 62, 61] := by decide
theorem sgF_no {x : Int} : ∀ {m i : Nat}, (∀ j, i ≤ j → j < i + m → (((sB.getD 42 []).getD j 0 : Nat) : Int) ≠ x) → sgF x m i = -1
  | 0, _, _ => rfl
  | m + 1, i, h => by
    unfold sgF
    rw [if_neg (h i (Nat.le_refl _) (by omega))]
    exact sgF_no (fun j h1 h2 => h j (by omega) (by omega))
/-- one sign: the class' kind and the reference's -/
theorem sg_one {x : Int} : ((kap (spM (sgA x) 44 46 0) : Nat) : Int) = if sgF x 13 0 < 0 then 71 else 40 + sgF x 13 0 := by
  by_cases hx : x = 40 ∨ x = 41 ∨ x = 91 ∨ x = 93 ∨ x = 59 ∨ x = 44 ∨ x = 43 ∨ x = 45 ∨ x = 42 ∨ x = 47 ∨ x = 60 ∨ x = 62 ∨ x = 61
  · rcases hx with rfl | rfl | rfl | rfl | rfl | rfl | rfl | rfl | rfl | rfl | rfl | rfl | rfl <;> decide
  · have h1 : spM (sgA x) 44 46 0 = 44 := spM_no (fun i _ hi => by
      unfold sgA
      by_cases hl : (txt i).length = 1
      · have := tx_one i (by omega) hl
        simp only [List.mem_cons, List.not_mem_nil, or_false] at this
        rw [decide_eq_true hl, Bool.true_and]
        exact decide_eq_false (fun z => hx (by omega))
      · rw [decide_eq_false hl]
        rfl)
    have h2 : sgF x 13 0 = -1 := sgF_no (fun j _ hj z => by
      have := sg_in j (by omega)
      simp only [List.mem_cons, List.not_mem_nil, or_false] at this
      exact hx (by omega))
    rw [h1, h2]
    decide
theorem Tp.c (hT : Tp T tp len) {p : Nat} (hp : p < len) {x : Int} (hx : 0 ≤ x ∧ x < 128) : T p = x ↔ tp p = x := by
  obtain ⟨a, b, c, d⟩ := hT p hp
  by_cases h : T p < 128
  · rw [c h]
  · have := d (by omega)
    omega
theorem Tp.l (hT : Tp T tp len) {p : Nat} (hp : p < len) : isL (T p) = isL (tp p) ∧ isDg (T p) = isDg (tp p) ∧ bkP (T p) = bkP (tp p) := by
  obtain ⟨a, b, c, d⟩ := hT p hp
  by_cases h : T p < 128
  · rw [c h]
    exact ⟨rfl, rfl, rfl⟩
  · have := d (by omega)
    unfold isL isDg bkP
    rw [decide_eq_false (show ¬ T p ≤ 122 by omega), decide_eq_false (show ¬ 97 ≤ tp p by omega), decide_eq_false (show ¬ T p ≤ 57 by omega), decide_eq_false (show ¬ 48 ≤ tp p by omega), decide_eq_false (show ¬ T p = 32 by omega), decide_eq_false (show ¬ tp p = 32 by omega), decide_eq_false (show ¬ T p = 10 by omega), decide_eq_false (show ¬ tp p = 10 by omega)]
    exact ⟨by rw [Bool.and_false, Bool.false_and], by rw [Bool.and_false, Bool.false_and], rfl⟩
theorem Tp.bm (hT : Tp T tp len) {p : Nat} (hp : p < len) : (T p).bmod 256 = tp p := by
  obtain ⟨a, b, c, d⟩ := hT p hp
  rw [Int.bmod_def]
  by_cases h : T p < 128
  · have := c h
    split <;> omega
  · have := d (by omega)
    split <;> omega
theorem m_isLetter {x : Int} : Sp (GG L xs fm) 0 mX12_isLetter [qI x] h (fun v h2 => v = .inl (some (qI (if isL x = true then 1 else 0))) ∧ h2 = h) := by
  refine Sp_of MX12_isLetter ?_
  unfold isL
  by_cases h1 : 97 ≤ x
  · by_cases h2 : x ≤ 122
    · rw [if_pos (by rw [decide_eq_true h1, decide_eq_true h2]; rfl)]
      simp (disch := omega) only [ms_sipush, ms_lconst, ms_ldc2_w, ms_dconst, ms_ldc, ms_getstatic, ms_iload, ms_lload, ms_dload, ms_aload, ms_istore, ms_lstore, ms_dstore, ms_astore, ms_iinc, ms_iadd, ms_isub, ms_imul, ms_idiv, ms_irem, ms_ineg, ms_iand, ms_ior, ms_ishr, ms_iushr, ms_i2b, ms_i2c, ms_i2l, ms_ladd, ms_lmul, ms_lcmp, ms_i2d, ms_ddiv, ms_dcmp, ms_dup, ms_pop, ms_dup2, ms_goto, ms_ifCond, ms_if_icmp, ms_if_acmp_eq, ms_if_acmp_ne, ms_tableswitch, ms_lookupswitch, ms_getfield, ms_putfield, ms_arraylength, ms_iaload, ms_baload, ms_laload, ms_aaload, ms_iastore, ms_bastore, ms_lastore, ms_aastore, ms_newarray, ms_new, ms_anewarray, ms_multianewarray, ms_invokevirtual, ms_invokestatic, ms_invokespecial, ms_invokedynamic_0, ms_invokedynamic_1, ms_invokedynamic_2, ms_invokedynamic_3, ms_invokedynamic_4, ms_invokedynamic_5, ms_ireturn, ms_lreturn, ms_dreturn, ms_areturn, ms_return_, Wp_cons, WSC_nx, WSC_cl, WSC_rt, WSC_th, WSC_if, lg, lset, lfree, wide, isRf, isRT, fitK, hgt, margs, mpad, rcv, rdF, rdN, rdI, rdQ, mC_eq, mC_ne, mC_lt, mC_ge, mC_gt, mC_le, mset, mnew, h_fst, h_snd, lt_drop0, List.drop_succ_cons, List.drop_zero, List.drop_nil, List.take_succ_cons, List.take_zero, List.reverse_cons, List.reverse_nil, List.nil_append, List.cons_append, List.append_nil, List.length_cons, List.length_nil, List.getElem?_cons_succ, List.getElem?_cons_zero, List.set_cons_succ, List.set_cons_zero, List.replicate, Option.toList, reduceIte, Bool.not_false, Bool.not_true, Nat.reduceLT, Nat.reduceLeDiff, Nat.reduceAdd, Nat.reduceSub, Nat.reduceMul, Int.reduceLT, Int.reduceLE, Int.reduceNeg, Int.reduceAdd, Int.reduceSub, Int.reduceMul, Int.reduceEq, and_self, true_and, and_true, false_and, and_false, or_false, false_or, true_or, or_true, not_true_eq_false, not_false_eq_true, Bool.false_eq_true, Bool.true_eq_false, decide_true, decide_false, decide_eq_true_eq, Nat.le_refl, Nat.zero_le, ge_iff_le, gt_iff_lt, Nat.lt_irrefl, reduceCtorEq, if_posD, if_negD, w32_id, Int.toNat_natCast, WCo_in, mUp_self, mUp_ne, ne_eq, Bool.true_and, Bool.and_true, Bool.false_and, Bool.and_false, Bool.true_or, Bool.or_true, Bool.false_or, Bool.or_false, Nat.reduceEqDiff, Int.cast_ofNat_Int, Int.reduceToNat, List.getD_cons_succ, List.getD_cons_zero, eq_self, swL, if_true, if_false, qX12_isLetter_0, qX12_isLetter_1, qX12_isLetter_2, h1, h2]
    · rw [if_neg (by rw [decide_eq_false h2, Bool.and_false]; decide)]
      simp (disch := omega) only [ms_sipush, ms_lconst, ms_ldc2_w, ms_dconst, ms_ldc, ms_getstatic, ms_iload, ms_lload, ms_dload, ms_aload, ms_istore, ms_lstore, ms_dstore, ms_astore, ms_iinc, ms_iadd, ms_isub, ms_imul, ms_idiv, ms_irem, ms_ineg, ms_iand, ms_ior, ms_ishr, ms_iushr, ms_i2b, ms_i2c, ms_i2l, ms_ladd, ms_lmul, ms_lcmp, ms_i2d, ms_ddiv, ms_dcmp, ms_dup, ms_pop, ms_dup2, ms_goto, ms_ifCond, ms_if_icmp, ms_if_acmp_eq, ms_if_acmp_ne, ms_tableswitch, ms_lookupswitch, ms_getfield, ms_putfield, ms_arraylength, ms_iaload, ms_baload, ms_laload, ms_aaload, ms_iastore, ms_bastore, ms_lastore, ms_aastore, ms_newarray, ms_new, ms_anewarray, ms_multianewarray, ms_invokevirtual, ms_invokestatic, ms_invokespecial, ms_invokedynamic_0, ms_invokedynamic_1, ms_invokedynamic_2, ms_invokedynamic_3, ms_invokedynamic_4, ms_invokedynamic_5, ms_ireturn, ms_lreturn, ms_dreturn, ms_areturn, ms_return_, Wp_cons, WSC_nx, WSC_cl, WSC_rt, WSC_th, WSC_if, lg, lset, lfree, wide, isRf, isRT, fitK, hgt, margs, mpad, rcv, rdF, rdN, rdI, rdQ, mC_eq, mC_ne, mC_lt, mC_ge, mC_gt, mC_le, mset, mnew, h_fst, h_snd, lt_drop0, List.drop_succ_cons, List.drop_zero, List.drop_nil, List.take_succ_cons, List.take_zero, List.reverse_cons, List.reverse_nil, List.nil_append, List.cons_append, List.append_nil, List.length_cons, List.length_nil, List.getElem?_cons_succ, List.getElem?_cons_zero, List.set_cons_succ, List.set_cons_zero, List.replicate, Option.toList, reduceIte, Bool.not_false, Bool.not_true, Nat.reduceLT, Nat.reduceLeDiff, Nat.reduceAdd, Nat.reduceSub, Nat.reduceMul, Int.reduceLT, Int.reduceLE, Int.reduceNeg, Int.reduceAdd, Int.reduceSub, Int.reduceMul, Int.reduceEq, and_self, true_and, and_true, false_and, and_false, or_false, false_or, true_or, or_true, not_true_eq_false, not_false_eq_true, Bool.false_eq_true, Bool.true_eq_false, decide_true, decide_false, decide_eq_true_eq, Nat.le_refl, Nat.zero_le, ge_iff_le, gt_iff_lt, Nat.lt_irrefl, reduceCtorEq, if_posD, if_negD, w32_id, Int.toNat_natCast, WCo_in, mUp_self, mUp_ne, ne_eq, Bool.true_and, Bool.and_true, Bool.false_and, Bool.and_false, Bool.true_or, Bool.or_true, Bool.false_or, Bool.or_false, Nat.reduceEqDiff, Int.cast_ofNat_Int, Int.reduceToNat, List.getD_cons_succ, List.getD_cons_zero, eq_self, swL, if_true, if_false, qX12_isLetter_0, qX12_isLetter_1, qX12_isLetter_2, h1, h2]
  · rw [if_neg (by rw [decide_eq_false h1, Bool.false_and]; decide)]
    simp (disch := omega) only [ms_sipush, ms_lconst, ms_ldc2_w, ms_dconst, ms_ldc, ms_getstatic, ms_iload, ms_lload, ms_dload, ms_aload, ms_istore, ms_lstore, ms_dstore, ms_astore, ms_iinc, ms_iadd, ms_isub, ms_imul, ms_idiv, ms_irem, ms_ineg, ms_iand, ms_ior, ms_ishr, ms_iushr, ms_i2b, ms_i2c, ms_i2l, ms_ladd, ms_lmul, ms_lcmp, ms_i2d, ms_ddiv, ms_dcmp, ms_dup, ms_pop, ms_dup2, ms_goto, ms_ifCond, ms_if_icmp, ms_if_acmp_eq, ms_if_acmp_ne, ms_tableswitch, ms_lookupswitch, ms_getfield, ms_putfield, ms_arraylength, ms_iaload, ms_baload, ms_laload, ms_aaload, ms_iastore, ms_bastore, ms_lastore, ms_aastore, ms_newarray, ms_new, ms_anewarray, ms_multianewarray, ms_invokevirtual, ms_invokestatic, ms_invokespecial, ms_invokedynamic_0, ms_invokedynamic_1, ms_invokedynamic_2, ms_invokedynamic_3, ms_invokedynamic_4, ms_invokedynamic_5, ms_ireturn, ms_lreturn, ms_dreturn, ms_areturn, ms_return_, Wp_cons, WSC_nx, WSC_cl, WSC_rt, WSC_th, WSC_if, lg, lset, lfree, wide, isRf, isRT, fitK, hgt, margs, mpad, rcv, rdF, rdN, rdI, rdQ, mC_eq, mC_ne, mC_lt, mC_ge, mC_gt, mC_le, mset, mnew, h_fst, h_snd, lt_drop0, List.drop_succ_cons, List.drop_zero, List.drop_nil, List.take_succ_cons, List.take_zero, List.reverse_cons, List.reverse_nil, List.nil_append, List.cons_append, List.append_nil, List.length_cons, List.length_nil, List.getElem?_cons_succ, List.getElem?_cons_zero, List.set_cons_succ, List.set_cons_zero, List.replicate, Option.toList, reduceIte, Bool.not_false, Bool.not_true, Nat.reduceLT, Nat.reduceLeDiff, Nat.reduceAdd, Nat.reduceSub, Nat.reduceMul, Int.reduceLT, Int.reduceLE, Int.reduceNeg, Int.reduceAdd, Int.reduceSub, Int.reduceMul, Int.reduceEq, and_self, true_and, and_true, false_and, and_false, or_false, false_or, true_or, or_true, not_true_eq_false, not_false_eq_true, Bool.false_eq_true, Bool.true_eq_false, decide_true, decide_false, decide_eq_true_eq, Nat.le_refl, Nat.zero_le, ge_iff_le, gt_iff_lt, Nat.lt_irrefl, reduceCtorEq, if_posD, if_negD, w32_id, Int.toNat_natCast, WCo_in, mUp_self, mUp_ne, ne_eq, Bool.true_and, Bool.and_true, Bool.false_and, Bool.and_false, Bool.true_or, Bool.or_true, Bool.false_or, Bool.or_false, Nat.reduceEqDiff, Int.cast_ofNat_Int, Int.reduceToNat, List.getD_cons_succ, List.getD_cons_zero, eq_self, swL, if_true, if_false, qX12_isLetter_0, qX12_isLetter_1, qX12_isLetter_2, h1]
theorem m_isDigit {x : Int} : Sp (GG L xs fm) 0 mX12_isDigit [qI x] h (fun v h2 => v = .inl (some (qI (if isDg x = true then 1 else 0))) ∧ h2 = h) := by
  refine Sp_of MX12_isDigit ?_
  unfold isDg
  by_cases h1 : 48 ≤ x
  · by_cases h2 : x ≤ 57
    · rw [if_pos (by rw [decide_eq_true h1, decide_eq_true h2]; rfl)]
      simp (disch := omega) only [ms_sipush, ms_lconst, ms_ldc2_w, ms_dconst, ms_ldc, ms_getstatic, ms_iload, ms_lload, ms_dload, ms_aload, ms_istore, ms_lstore, ms_dstore, ms_astore, ms_iinc, ms_iadd, ms_isub, ms_imul, ms_idiv, ms_irem, ms_ineg, ms_iand, ms_ior, ms_ishr, ms_iushr, ms_i2b, ms_i2c, ms_i2l, ms_ladd, ms_lmul, ms_lcmp, ms_i2d, ms_ddiv, ms_dcmp, ms_dup, ms_pop, ms_dup2, ms_goto, ms_ifCond, ms_if_icmp, ms_if_acmp_eq, ms_if_acmp_ne, ms_tableswitch, ms_lookupswitch, ms_getfield, ms_putfield, ms_arraylength, ms_iaload, ms_baload, ms_laload, ms_aaload, ms_iastore, ms_bastore, ms_lastore, ms_aastore, ms_newarray, ms_new, ms_anewarray, ms_multianewarray, ms_invokevirtual, ms_invokestatic, ms_invokespecial, ms_invokedynamic_0, ms_invokedynamic_1, ms_invokedynamic_2, ms_invokedynamic_3, ms_invokedynamic_4, ms_invokedynamic_5, ms_ireturn, ms_lreturn, ms_dreturn, ms_areturn, ms_return_, Wp_cons, WSC_nx, WSC_cl, WSC_rt, WSC_th, WSC_if, lg, lset, lfree, wide, isRf, isRT, fitK, hgt, margs, mpad, rcv, rdF, rdN, rdI, rdQ, mC_eq, mC_ne, mC_lt, mC_ge, mC_gt, mC_le, mset, mnew, h_fst, h_snd, lt_drop0, List.drop_succ_cons, List.drop_zero, List.drop_nil, List.take_succ_cons, List.take_zero, List.reverse_cons, List.reverse_nil, List.nil_append, List.cons_append, List.append_nil, List.length_cons, List.length_nil, List.getElem?_cons_succ, List.getElem?_cons_zero, List.set_cons_succ, List.set_cons_zero, List.replicate, Option.toList, reduceIte, Bool.not_false, Bool.not_true, Nat.reduceLT, Nat.reduceLeDiff, Nat.reduceAdd, Nat.reduceSub, Nat.reduceMul, Int.reduceLT, Int.reduceLE, Int.reduceNeg, Int.reduceAdd, Int.reduceSub, Int.reduceMul, Int.reduceEq, and_self, true_and, and_true, false_and, and_false, or_false, false_or, true_or, or_true, not_true_eq_false, not_false_eq_true, Bool.false_eq_true, Bool.true_eq_false, decide_true, decide_false, decide_eq_true_eq, Nat.le_refl, Nat.zero_le, ge_iff_le, gt_iff_lt, Nat.lt_irrefl, reduceCtorEq, if_posD, if_negD, w32_id, Int.toNat_natCast, WCo_in, mUp_self, mUp_ne, ne_eq, Bool.true_and, Bool.and_true, Bool.false_and, Bool.and_false, Bool.true_or, Bool.or_true, Bool.false_or, Bool.or_false, Nat.reduceEqDiff, Int.cast_ofNat_Int, Int.reduceToNat, List.getD_cons_succ, List.getD_cons_zero, eq_self, swL, if_true, if_false, qX12_isDigit_0, qX12_isDigit_1, qX12_isDigit_2, h1, h2]
    · rw [if_neg (by rw [decide_eq_false h2, Bool.and_false]; decide)]
      simp (disch := omega) only [ms_sipush, ms_lconst, ms_ldc2_w, ms_dconst, ms_ldc, ms_getstatic, ms_iload, ms_lload, ms_dload, ms_aload, ms_istore, ms_lstore, ms_dstore, ms_astore, ms_iinc, ms_iadd, ms_isub, ms_imul, ms_idiv, ms_irem, ms_ineg, ms_iand, ms_ior, ms_ishr, ms_iushr, ms_i2b, ms_i2c, ms_i2l, ms_ladd, ms_lmul, ms_lcmp, ms_i2d, ms_ddiv, ms_dcmp, ms_dup, ms_pop, ms_dup2, ms_goto, ms_ifCond, ms_if_icmp, ms_if_acmp_eq, ms_if_acmp_ne, ms_tableswitch, ms_lookupswitch, ms_getfield, ms_putfield, ms_arraylength, ms_iaload, ms_baload, ms_laload, ms_aaload, ms_iastore, ms_bastore, ms_lastore, ms_aastore, ms_newarray, ms_new, ms_anewarray, ms_multianewarray, ms_invokevirtual, ms_invokestatic, ms_invokespecial, ms_invokedynamic_0, ms_invokedynamic_1, ms_invokedynamic_2, ms_invokedynamic_3, ms_invokedynamic_4, ms_invokedynamic_5, ms_ireturn, ms_lreturn, ms_dreturn, ms_areturn, ms_return_, Wp_cons, WSC_nx, WSC_cl, WSC_rt, WSC_th, WSC_if, lg, lset, lfree, wide, isRf, isRT, fitK, hgt, margs, mpad, rcv, rdF, rdN, rdI, rdQ, mC_eq, mC_ne, mC_lt, mC_ge, mC_gt, mC_le, mset, mnew, h_fst, h_snd, lt_drop0, List.drop_succ_cons, List.drop_zero, List.drop_nil, List.take_succ_cons, List.take_zero, List.reverse_cons, List.reverse_nil, List.nil_append, List.cons_append, List.append_nil, List.length_cons, List.length_nil, List.getElem?_cons_succ, List.getElem?_cons_zero, List.set_cons_succ, List.set_cons_zero, List.replicate, Option.toList, reduceIte, Bool.not_false, Bool.not_true, Nat.reduceLT, Nat.reduceLeDiff, Nat.reduceAdd, Nat.reduceSub, Nat.reduceMul, Int.reduceLT, Int.reduceLE, Int.reduceNeg, Int.reduceAdd, Int.reduceSub, Int.reduceMul, Int.reduceEq, and_self, true_and, and_true, false_and, and_false, or_false, false_or, true_or, or_true, not_true_eq_false, not_false_eq_true, Bool.false_eq_true, Bool.true_eq_false, decide_true, decide_false, decide_eq_true_eq, Nat.le_refl, Nat.zero_le, ge_iff_le, gt_iff_lt, Nat.lt_irrefl, reduceCtorEq, if_posD, if_negD, w32_id, Int.toNat_natCast, WCo_in, mUp_self, mUp_ne, ne_eq, Bool.true_and, Bool.and_true, Bool.false_and, Bool.and_false, Bool.true_or, Bool.or_true, Bool.false_or, Bool.or_false, Nat.reduceEqDiff, Int.cast_ofNat_Int, Int.reduceToNat, List.getD_cons_succ, List.getD_cons_zero, eq_self, swL, if_true, if_false, qX12_isDigit_0, qX12_isDigit_1, qX12_isDigit_2, h1, h2]
  · rw [if_neg (by rw [decide_eq_false h1, Bool.false_and]; decide)]
    simp (disch := omega) only [ms_sipush, ms_lconst, ms_ldc2_w, ms_dconst, ms_ldc, ms_getstatic, ms_iload, ms_lload, ms_dload, ms_aload, ms_istore, ms_lstore, ms_dstore, ms_astore, ms_iinc, ms_iadd, ms_isub, ms_imul, ms_idiv, ms_irem, ms_ineg, ms_iand, ms_ior, ms_ishr, ms_iushr, ms_i2b, ms_i2c, ms_i2l, ms_ladd, ms_lmul, ms_lcmp, ms_i2d, ms_ddiv, ms_dcmp, ms_dup, ms_pop, ms_dup2, ms_goto, ms_ifCond, ms_if_icmp, ms_if_acmp_eq, ms_if_acmp_ne, ms_tableswitch, ms_lookupswitch, ms_getfield, ms_putfield, ms_arraylength, ms_iaload, ms_baload, ms_laload, ms_aaload, ms_iastore, ms_bastore, ms_lastore, ms_aastore, ms_newarray, ms_new, ms_anewarray, ms_multianewarray, ms_invokevirtual, ms_invokestatic, ms_invokespecial, ms_invokedynamic_0, ms_invokedynamic_1, ms_invokedynamic_2, ms_invokedynamic_3, ms_invokedynamic_4, ms_invokedynamic_5, ms_ireturn, ms_lreturn, ms_dreturn, ms_areturn, ms_return_, Wp_cons, WSC_nx, WSC_cl, WSC_rt, WSC_th, WSC_if, lg, lset, lfree, wide, isRf, isRT, fitK, hgt, margs, mpad, rcv, rdF, rdN, rdI, rdQ, mC_eq, mC_ne, mC_lt, mC_ge, mC_gt, mC_le, mset, mnew, h_fst, h_snd, lt_drop0, List.drop_succ_cons, List.drop_zero, List.drop_nil, List.take_succ_cons, List.take_zero, List.reverse_cons, List.reverse_nil, List.nil_append, List.cons_append, List.append_nil, List.length_cons, List.length_nil, List.getElem?_cons_succ, List.getElem?_cons_zero, List.set_cons_succ, List.set_cons_zero, List.replicate, Option.toList, reduceIte, Bool.not_false, Bool.not_true, Nat.reduceLT, Nat.reduceLeDiff, Nat.reduceAdd, Nat.reduceSub, Nat.reduceMul, Int.reduceLT, Int.reduceLE, Int.reduceNeg, Int.reduceAdd, Int.reduceSub, Int.reduceMul, Int.reduceEq, and_self, true_and, and_true, false_and, and_false, or_false, false_or, true_or, or_true, not_true_eq_false, not_false_eq_true, Bool.false_eq_true, Bool.true_eq_false, decide_true, decide_false, decide_eq_true_eq, Nat.le_refl, Nat.zero_le, ge_iff_le, gt_iff_lt, Nat.lt_irrefl, reduceCtorEq, if_posD, if_negD, w32_id, Int.toNat_natCast, WCo_in, mUp_self, mUp_ne, ne_eq, Bool.true_and, Bool.and_true, Bool.false_and, Bool.and_false, Bool.true_or, Bool.or_true, Bool.false_or, Bool.or_false, Nat.reduceEqDiff, Int.cast_ofNat_Int, Int.reduceToNat, List.getD_cons_succ, List.getD_cons_zero, eq_self, swL, if_true, if_false, qX12_isDigit_0, qX12_isDigit_1, qX12_isDigit_2, h1]
theorem m_byteAt (hO : MoA h.1 th sz ea tk dp sb wk oo bt T W) (hsz : sz = (len : Int)) (hl : len ≤ 2000) {p : Nat} : Sp (GG L xs fm) 0 mX12_byteAt [qR 107, qI p] h (fun v h2 => v = .inl (some (qI (bA T len p))) ∧ h2 = h) := by
  have o0 := hO.1
  have o1 := hO.2.1
  subst hsz
  refine Sp_of MX12_byteAt ?_
  unfold bA
  by_cases h1 : p < len
  · rw [if_pos h1]
    simp (disch := omega) only [ms_sipush, ms_lconst, ms_ldc2_w, ms_dconst, ms_ldc, ms_getstatic, ms_iload, ms_lload, ms_dload, ms_aload, ms_istore, ms_lstore, ms_dstore, ms_astore, ms_iinc, ms_iadd, ms_isub, ms_imul, ms_idiv, ms_irem, ms_ineg, ms_iand, ms_ior, ms_ishr, ms_iushr, ms_i2b, ms_i2c, ms_i2l, ms_ladd, ms_lmul, ms_lcmp, ms_i2d, ms_ddiv, ms_dcmp, ms_dup, ms_pop, ms_dup2, ms_goto, ms_ifCond, ms_if_icmp, ms_if_acmp_eq, ms_if_acmp_ne, ms_tableswitch, ms_lookupswitch, ms_getfield, ms_putfield, ms_arraylength, ms_iaload, ms_baload, ms_laload, ms_aaload, ms_iastore, ms_bastore, ms_lastore, ms_aastore, ms_newarray, ms_new, ms_anewarray, ms_multianewarray, ms_invokevirtual, ms_invokestatic, ms_invokespecial, ms_invokedynamic_0, ms_invokedynamic_1, ms_invokedynamic_2, ms_invokedynamic_3, ms_invokedynamic_4, ms_invokedynamic_5, ms_ireturn, ms_lreturn, ms_dreturn, ms_areturn, ms_return_, Wp_cons, WSC_nx, WSC_cl, WSC_rt, WSC_th, WSC_if, lg, lset, lfree, wide, isRf, isRT, fitK, hgt, margs, mpad, rcv, rdF, rdN, rdI, rdQ, mC_eq, mC_ne, mC_lt, mC_ge, mC_gt, mC_le, mset, mnew, h_fst, h_snd, lt_drop0, List.drop_succ_cons, List.drop_zero, List.drop_nil, List.take_succ_cons, List.take_zero, List.reverse_cons, List.reverse_nil, List.nil_append, List.cons_append, List.append_nil, List.length_cons, List.length_nil, List.getElem?_cons_succ, List.getElem?_cons_zero, List.set_cons_succ, List.set_cons_zero, List.replicate, Option.toList, reduceIte, Bool.not_false, Bool.not_true, Nat.reduceLT, Nat.reduceLeDiff, Nat.reduceAdd, Nat.reduceSub, Nat.reduceMul, Int.reduceLT, Int.reduceLE, Int.reduceNeg, Int.reduceAdd, Int.reduceSub, Int.reduceMul, Int.reduceEq, and_self, true_and, and_true, false_and, and_false, or_false, false_or, true_or, or_true, not_true_eq_false, not_false_eq_true, Bool.false_eq_true, Bool.true_eq_false, decide_true, decide_false, decide_eq_true_eq, Nat.le_refl, Nat.zero_le, ge_iff_le, gt_iff_lt, Nat.lt_irrefl, reduceCtorEq, if_posD, if_negD, w32_id, Int.toNat_natCast, WCo_in, mUp_self, mUp_ne, ne_eq, Bool.true_and, Bool.and_true, Bool.false_and, Bool.and_false, Bool.true_or, Bool.or_true, Bool.false_or, Bool.or_false, Nat.reduceEqDiff, Int.cast_ofNat_Int, Int.reduceToNat, List.getD_cons_succ, List.getD_cons_zero, eq_self, swL, if_true, if_false, qX12_byteAt_0, qX12_byteAt_1, qX12_byteAt_2, o0, o1]
  · rw [if_neg h1]
    simp (disch := omega) only [ms_sipush, ms_lconst, ms_ldc2_w, ms_dconst, ms_ldc, ms_getstatic, ms_iload, ms_lload, ms_dload, ms_aload, ms_istore, ms_lstore, ms_dstore, ms_astore, ms_iinc, ms_iadd, ms_isub, ms_imul, ms_idiv, ms_irem, ms_ineg, ms_iand, ms_ior, ms_ishr, ms_iushr, ms_i2b, ms_i2c, ms_i2l, ms_ladd, ms_lmul, ms_lcmp, ms_i2d, ms_ddiv, ms_dcmp, ms_dup, ms_pop, ms_dup2, ms_goto, ms_ifCond, ms_if_icmp, ms_if_acmp_eq, ms_if_acmp_ne, ms_tableswitch, ms_lookupswitch, ms_getfield, ms_putfield, ms_arraylength, ms_iaload, ms_baload, ms_laload, ms_aaload, ms_iastore, ms_bastore, ms_lastore, ms_aastore, ms_newarray, ms_new, ms_anewarray, ms_multianewarray, ms_invokevirtual, ms_invokestatic, ms_invokespecial, ms_invokedynamic_0, ms_invokedynamic_1, ms_invokedynamic_2, ms_invokedynamic_3, ms_invokedynamic_4, ms_invokedynamic_5, ms_ireturn, ms_lreturn, ms_dreturn, ms_areturn, ms_return_, Wp_cons, WSC_nx, WSC_cl, WSC_rt, WSC_th, WSC_if, lg, lset, lfree, wide, isRf, isRT, fitK, hgt, margs, mpad, rcv, rdF, rdN, rdI, rdQ, mC_eq, mC_ne, mC_lt, mC_ge, mC_gt, mC_le, mset, mnew, h_fst, h_snd, lt_drop0, List.drop_succ_cons, List.drop_zero, List.drop_nil, List.take_succ_cons, List.take_zero, List.reverse_cons, List.reverse_nil, List.nil_append, List.cons_append, List.append_nil, List.length_cons, List.length_nil, List.getElem?_cons_succ, List.getElem?_cons_zero, List.set_cons_succ, List.set_cons_zero, List.replicate, Option.toList, reduceIte, Bool.not_false, Bool.not_true, Nat.reduceLT, Nat.reduceLeDiff, Nat.reduceAdd, Nat.reduceSub, Nat.reduceMul, Int.reduceLT, Int.reduceLE, Int.reduceNeg, Int.reduceAdd, Int.reduceSub, Int.reduceMul, Int.reduceEq, and_self, true_and, and_true, false_and, and_false, or_false, false_or, true_or, or_true, not_true_eq_false, not_false_eq_true, Bool.false_eq_true, Bool.true_eq_false, decide_true, decide_false, decide_eq_true_eq, Nat.le_refl, Nat.zero_le, ge_iff_le, gt_iff_lt, Nat.lt_irrefl, reduceCtorEq, if_posD, if_negD, w32_id, Int.toNat_natCast, WCo_in, mUp_self, mUp_ne, ne_eq, Bool.true_and, Bool.and_true, Bool.false_and, Bool.and_false, Bool.true_or, Bool.or_true, Bool.false_or, Bool.or_false, Nat.reduceEqDiff, Int.cast_ofNat_Int, Int.reduceToNat, List.getD_cons_succ, List.getD_cons_zero, eq_self, swL, if_true, if_false, qX12_byteAt_0, qX12_byteAt_1, qX12_byteAt_2, o0]
theorem cm_L1 {x : Int} {d : Nat} {B : Nat → List MI} {ex : List Nat} {is : List MI} {ls st : List MV} {Q' : (Option MV ⊕ Nat) → MH → Prop} (hx : isL x = true) (hd : 0 < d) : WCl (GG L xs fm) d B ex is ls 154 [qI x] st h Q' = Wp (GG L xs fm) d B is ls (qI 1 :: st) h Q' := WCl_sp (by
  have := m_isLetter (L := L) (xs := xs) (fm := fm) (h := h) (x := x)
  rw [if_pos hx] at this
  exact this) hd
theorem cm_L0 {x : Int} {d : Nat} {B : Nat → List MI} {ex : List Nat} {is : List MI} {ls st : List MV} {Q' : (Option MV ⊕ Nat) → MH → Prop} (hx : isL x = false) (hd : 0 < d) : WCl (GG L xs fm) d B ex is ls 154 [qI x] st h Q' = Wp (GG L xs fm) d B is ls (qI 0 :: st) h Q' := WCl_sp (by
  have := m_isLetter (L := L) (xs := xs) (fm := fm) (h := h) (x := x)
  rw [if_neg (by rw [hx]; decide)] at this
  exact this) hd
theorem cm_D1 {x : Int} {d : Nat} {B : Nat → List MI} {ex : List Nat} {is : List MI} {ls st : List MV} {Q' : (Option MV ⊕ Nat) → MH → Prop} (hx : isDg x = true) (hd : 0 < d) : WCl (GG L xs fm) d B ex is ls 155 [qI x] st h Q' = Wp (GG L xs fm) d B is ls (qI 1 :: st) h Q' := WCl_sp (by
  have := m_isDigit (L := L) (xs := xs) (fm := fm) (h := h) (x := x)
  rw [if_pos hx] at this
  exact this) hd
theorem cm_D0 {x : Int} {d : Nat} {B : Nat → List MI} {ex : List Nat} {is : List MI} {ls st : List MV} {Q' : (Option MV ⊕ Nat) → MH → Prop} (hx : isDg x = false) (hd : 0 < d) : WCl (GG L xs fm) d B ex is ls 155 [qI x] st h Q' = Wp (GG L xs fm) d B is ls (qI 0 :: st) h Q' := WCl_sp (by
  have := m_isDigit (L := L) (xs := xs) (fm := fm) (h := h) (x := x)
  rw [if_neg (by rw [hx]; decide)] at this
  exact this) hd
end TOKM
