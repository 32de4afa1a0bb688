/-! ===== WHAT IS DRAWN FROM THE CELLS OF THE SCRIPT ===== -/
def bw (v : Int) (n : Nat) : Nat := (i32 (· &&& ·) v 2147483647).toNat % n
def sr (x k : Int) : Int := i32 (fun a b => a >>> (b &&& 31)) x k
theorem and31 {x : Int} : 0 ≤ i32 (· &&& ·) x 2147483647 ∧ i32 (· &&& ·) x 2147483647 < 2147483648 := by
  have h1 : ((Int32.ofInt x &&& Int32.ofInt 2147483647).toBitVec).msb = false := by
    rw [Int32.toBitVec_and, BitVec.msb_and]
    have h2 : (Int32.ofInt 2147483647).toBitVec.msb = false := by decide
    rw [h2, Bool.and_false]
  have h3 : i32 (· &&& ·) x 2147483647 = ((Int32.ofInt x &&& Int32.ofInt 2147483647).toBitVec.toNat : Int) := by
    show (Int32.ofInt x &&& Int32.ofInt 2147483647).toBitVec.toInt = _
    rw [BitVec.toInt_eq_msb_cond, h1, if_neg (by decide)]
  have h4 := BitVec.msb_eq_false_iff_two_mul_lt.mp h1
  omega
theorem bw_lt {v : Int} {n : Nat} (hn : 0 < n) : bw v n < n := Nat.mod_lt _ hn
def ceX (L : Nat) (xs : Nat → Int) (k : Nat) : Int := if k < L then xs k else w32 (790386105 * w32 ((k : Int) + 3))
theorem remN {a b : Nat} (hb : 0 < b) (ha : a < 2000000000) : w32 ((a : Int) - (a : Int).tdiv (b : Int) * (b : Int)) = ((a % b : Nat) : Int) := by
  have h1 : (a : Int).tdiv (b : Int) = ((a / b : Nat) : Int) := by
    rw [tdE (by omega)]
    rfl
  have h2 := Nat.div_add_mod a b
  have h3 : ((a / b : Nat) : Int) * (b : Int) = ((b * (a / b) : Nat) : Int) := by
    rw [Int.natCast_mul, Int.mul_comm]
  have h4 := Nat.mod_lt a hb
  have h5 := Nat.mod_le a b
  rw [h1, h3, show (a : Int) - ((b * (a / b) : Nat) : Int) = ((a % b : Nat) : Int) by omega, w32_id (by omega) (by omega)]
section DRAW
variable {L : Nat} {xs : Nat → Int} {fm : Bool} {h : MH}
theorem l_bel {v m : Int} (h0 : 0 < m) (h1 : m < 1000000) : Sp (GG L xs fm) 0 mL_below [qI v, qI m] h (fun r h2 => r = .inl (some (qI ((bw v m.toNat : Nat) : Int))) ∧ h2 = h) := by
  refine Sp_of ML_below ?_
  have hm : m ≠ 0 := by omega
  obtain ⟨a1, a2⟩ := and31 (x := v)
  have e := remN (a := (i32 (· &&& ·) v 2147483647).toNat) (b := m.toNat) (by omega)
  have e1 : (((i32 (· &&& ·) v 2147483647).toNat : Nat) : Int) = i32 (· &&& ·) v 2147483647 := Int.toNat_of_nonneg a1
  have e2 : ((m.toNat : Nat) : Int) = m := Int.toNat_of_nonneg (by omega)
  by_cases hb : (i32 (· &&& ·) v 2147483647).toNat < 2000000000
  · have e3 := e hb
    rw [e1, e2] at e3
    simp (disch := omega) only [ms_sipush, ms_lconst, ms_ldc2_w, ms_dconst, ms_ldc, ms_getstatic, ms_iload, ms_lload, ms_dload, ms_aload, ms_istore, ms_lstore, ms_dstore, ms_astore, ms_iinc, ms_iadd, ms_isub, ms_imul, ms_idiv, ms_irem, ms_ineg, ms_iand, ms_ior, ms_ishr, ms_ishl, ms_iushr, ms_i2b, ms_i2c, ms_i2l, ms_ladd, ms_lmul, ms_lcmp, ms_i2d, ms_ddiv, ms_dcmp, ms_dup, ms_pop, ms_dup2, ms_dup_x1, ms_aconst_null, ms_ifnull, ms_ifnonnull, ms_checkcast, ms_goto, ms_ifCond, ms_if_icmp, ms_if_acmp_eq, ms_if_acmp_ne, ms_tableswitch, ms_lookupswitch, ms_getfield, ms_putfield, ms_arraylength, ms_iaload, ms_baload, ms_laload, ms_aaload, ms_iastore, ms_bastore, ms_lastore, ms_aastore, ms_newarray, ms_new, ms_anewarray, ms_multianewarray, ms_invokevirtual, ms_invokestatic, ms_invokespecial, ms_invokeinterface, ms_invokedynamic_0, ms_invokedynamic_1, ms_invokedynamic_2, ms_invokedynamic_3, ms_invokedynamic_4, ms_invokedynamic_5, ms_invokedynamic_6, ms_invokedynamic_7, ms_invokedynamic_8, ms_ireturn, ms_lreturn, ms_dreturn, ms_areturn, ms_return_, Wp_cons, WSC_nx, WSC_cl, WSC_rt, WSC_th, WSC_if, lg, lset, lfree, wide, isRf, isRT, fitK, hgt, margs, mpad, rcv, rdF, rdN, rdI, rdQ, mC_eq, mC_ne, mC_lt, mC_ge, mC_gt, mC_le, mset, mnew, h_fst, h_snd, lt_drop0, List.drop_succ_cons, List.drop_zero, List.drop_nil, List.take_succ_cons, List.take_zero, List.reverse_cons, List.reverse_nil, List.nil_append, List.cons_append, List.append_nil, List.length_cons, List.length_nil, List.getElem?_cons_succ, List.getElem?_cons_zero, List.set_cons_succ, List.set_cons_zero, List.replicate, Option.toList, reduceIte, Bool.not_false, Bool.not_true, Nat.reduceLT, Nat.reduceLeDiff, Nat.reduceAdd, Nat.reduceSub, Nat.reduceMul, Int.reduceLT, Int.reduceLE, Int.reduceNeg, Int.reduceAdd, Int.reduceSub, Int.reduceMul, Int.reduceEq, and_self, true_and, and_true, false_and, and_false, or_false, false_or, true_or, or_true, not_true_eq_false, not_false_eq_true, Bool.false_eq_true, Bool.true_eq_false, decide_true, decide_false, decide_eq_true_eq, Nat.le_refl, Nat.zero_le, ge_iff_le, gt_iff_lt, Nat.lt_irrefl, reduceCtorEq, if_posD, if_negD, w32_id, Int.toNat_natCast, WCo_in, mUp_self, mUp_ne, ne_eq, Bool.true_and, Bool.and_true, Bool.false_and, Bool.and_false, Bool.true_or, Bool.or_true, Bool.false_or, Bool.or_false, Nat.reduceEqDiff, Int.cast_ofNat_Int, Int.reduceToNat, List.getD_cons_succ, List.getD_cons_zero, eq_self, swL, if_true, if_false, nqT, isNl, qL_below_0, hm]
    rw [e3]
    rfl
  · have h2 := Nat.div_add_mod (i32 (· &&& ·) v 2147483647).toNat m.toNat
    have h4 := Nat.mod_lt (i32 (· &&& ·) v 2147483647).toNat (show 0 < m.toNat by omega)
    have t1 : (i32 (· &&& ·) v 2147483647).tdiv m = (((i32 (· &&& ·) v 2147483647).toNat / m.toNat : Nat) : Int) := by
      rw [tdE a1, ← e1, ← e2]
      rfl
    have t2 : ((((i32 (· &&& ·) v 2147483647).toNat / m.toNat : Nat) : Int)) * m = ((m.toNat * ((i32 (· &&& ·) v 2147483647).toNat / m.toNat) : Nat) : Int) := by
      rw [Int.natCast_mul, Int.mul_comm, e2]
    have e3 : w32 (i32 (· &&& ·) v 2147483647 - (i32 (· &&& ·) v 2147483647).tdiv m * m) = ((bw v m.toNat : Nat) : Int) := by
      rw [t1, t2, show i32 (· &&& ·) v 2147483647 - ((m.toNat * ((i32 (· &&& ·) v 2147483647).toNat / m.toNat) : Nat) : Int) = (((i32 (· &&& ·) v 2147483647).toNat % m.toNat : Nat) : Int) by omega, w32_id (by omega) (by omega)]
      rfl
    simp (disch := omega) only [ms_sipush, ms_lconst, ms_ldc2_w, ms_dconst, ms_ldc, ms_getstatic, ms_iload, ms_lload, ms_dload, ms_aload, ms_istore, ms_lstore, ms_dstore, ms_astore, ms_iinc, ms_iadd, ms_isub, ms_imul, ms_idiv, ms_irem, ms_ineg, ms_iand, ms_ior, ms_ishr, ms_ishl, ms_iushr, ms_i2b, ms_i2c, ms_i2l, ms_ladd, ms_lmul, ms_lcmp, ms_i2d, ms_ddiv, ms_dcmp, ms_dup, ms_pop, ms_dup2, ms_dup_x1, ms_aconst_null, ms_ifnull, ms_ifnonnull, ms_checkcast, ms_goto, ms_ifCond, ms_if_icmp, ms_if_acmp_eq, ms_if_acmp_ne, ms_tableswitch, ms_lookupswitch, ms_getfield, ms_putfield, ms_arraylength, ms_iaload, ms_baload, ms_laload, ms_aaload, ms_iastore, ms_bastore, ms_lastore, ms_aastore, ms_newarray, ms_new, ms_anewarray, ms_multianewarray, ms_invokevirtual, ms_invokestatic, ms_invokespecial, ms_invokeinterface, ms_invokedynamic_0, ms_invokedynamic_1, ms_invokedynamic_2, ms_invokedynamic_3, ms_invokedynamic_4, ms_invokedynamic_5, ms_invokedynamic_6, ms_invokedynamic_7, ms_invokedynamic_8, ms_ireturn, ms_lreturn, ms_dreturn, ms_areturn, ms_return_, Wp_cons, WSC_nx, WSC_cl, WSC_rt, WSC_th, WSC_if, lg, lset, lfree, wide, isRf, isRT, fitK, hgt, margs, mpad, rcv, rdF, rdN, rdI, rdQ, mC_eq, mC_ne, mC_lt, mC_ge, mC_gt, mC_le, mset, mnew, h_fst, h_snd, lt_drop0, List.drop_succ_cons, List.drop_zero, List.drop_nil, List.take_succ_cons, List.take_zero, List.reverse_cons, List.reverse_nil, List.nil_append, List.cons_append, List.append_nil, List.length_cons, List.length_nil, List.getElem?_cons_succ, List.getElem?_cons_zero, List.set_cons_succ, List.set_cons_zero, List.replicate, Option.toList, reduceIte, Bool.not_false, Bool.not_true, Nat.reduceLT, Nat.reduceLeDiff, Nat.reduceAdd, Nat.reduceSub, Nat.reduceMul, Int.reduceLT, Int.reduceLE, Int.reduceNeg, Int.reduceAdd, Int.reduceSub, Int.reduceMul, Int.reduceEq, and_self, true_and, and_true, false_and, and_false, or_false, false_or, true_or, or_true, not_true_eq_false, not_false_eq_true, Bool.false_eq_true, Bool.true_eq_false, decide_true, decide_false, decide_eq_true_eq, Nat.le_refl, Nat.zero_le, ge_iff_le, gt_iff_lt, Nat.lt_irrefl, reduceCtorEq, if_posD, if_negD, w32_id, Int.toNat_natCast, WCo_in, mUp_self, mUp_ne, ne_eq, Bool.true_and, Bool.and_true, Bool.false_and, Bool.and_false, Bool.true_or, Bool.or_true, Bool.false_or, Bool.or_false, Nat.reduceEqDiff, Int.cast_ofNat_Int, Int.reduceToNat, List.getD_cons_succ, List.getD_cons_zero, eq_self, swL, if_true, if_false, nqT, isNl, qL_below_0, hm]
    rw [e3]
theorem c_bw {d : Nat} {B : Nat → List MI} {ex : List Nat} {is : List MI} {ls st : List MV} {Q' : (Option MV ⊕ Nat) → MH → Prop} {v m : Int} (h0 : 0 < m) (h1 : m < 1000000) (hd : 0 < d) : WCl (GG L xs fm) d B ex is ls mL_below [qI v, qI m] st h Q' = Wp (GG L xs fm) d B is ls (qI ((bw v m.toNat : Nat) : Int) :: st) h Q' := WCl_sp (l_bel h0 h1) hd
theorem SAr_998 : SAr L xs 998 = some (.int, L, fun j => qI (xs j)) := rfl
theorem l_cel {k : Int} (hL : L ≤ 300) (h0 : 0 ≤ k) (h1 : k < 1000) : Sp (GG L xs fm) 0 mL_cell [qS 998, qI k] h (fun r h2 => r = .inl (some (qI (ceX L xs k.toNat))) ∧ h2 = h) := by
  refine Sp_of ML_cell ?_
  unfold ceX
  by_cases hk : k.toNat < L
  · have hk2 : ¬ (L : Int) ≤ k := by omega
    have hk3 : k < (L : Int) := by omega
    rw [if_pos hk]
    simp (disch := omega) only [ms_sipush, ms_lconst, ms_ldc2_w, ms_dconst, ms_ldc, ms_getstatic, ms_iload, ms_lload, ms_dload, ms_aload, ms_istore, ms_lstore, ms_dstore, ms_astore, ms_iinc, ms_iadd, ms_isub, ms_imul, ms_idiv, ms_irem, ms_ineg, ms_iand, ms_ior, ms_ishr, ms_ishl, ms_iushr, ms_i2b, ms_i2c, ms_i2l, ms_ladd, ms_lmul, ms_lcmp, ms_i2d, ms_ddiv, ms_dcmp, ms_dup, ms_pop, ms_dup2, ms_dup_x1, ms_aconst_null, ms_ifnull, ms_ifnonnull, ms_checkcast, ms_goto, ms_ifCond, ms_if_icmp, ms_if_acmp_eq, ms_if_acmp_ne, ms_tableswitch, ms_lookupswitch, ms_getfield, ms_putfield, ms_arraylength, ms_iaload, ms_baload, ms_laload, ms_aaload, ms_iastore, ms_bastore, ms_lastore, ms_aastore, ms_newarray, ms_new, ms_anewarray, ms_multianewarray, ms_invokevirtual, ms_invokestatic, ms_invokespecial, ms_invokeinterface, ms_invokedynamic_0, ms_invokedynamic_1, ms_invokedynamic_2, ms_invokedynamic_3, ms_invokedynamic_4, ms_invokedynamic_5, ms_invokedynamic_6, ms_invokedynamic_7, ms_invokedynamic_8, ms_ireturn, ms_lreturn, ms_dreturn, ms_areturn, ms_return_, Wp_cons, WSC_nx, WSC_cl, WSC_rt, WSC_th, WSC_if, lg, lset, lfree, wide, isRf, isRT, fitK, hgt, margs, mpad, rcv, rdF, rdN, rdI, rdQ, mC_eq, mC_ne, mC_lt, mC_ge, mC_gt, mC_le, mset, mnew, h_fst, h_snd, lt_drop0, List.drop_succ_cons, List.drop_zero, List.drop_nil, List.take_succ_cons, List.take_zero, List.reverse_cons, List.reverse_nil, List.nil_append, List.cons_append, List.append_nil, List.length_cons, List.length_nil, List.getElem?_cons_succ, List.getElem?_cons_zero, List.set_cons_succ, List.set_cons_zero, List.replicate, Option.toList, reduceIte, Bool.not_false, Bool.not_true, Nat.reduceLT, Nat.reduceLeDiff, Nat.reduceAdd, Nat.reduceSub, Nat.reduceMul, Int.reduceLT, Int.reduceLE, Int.reduceNeg, Int.reduceAdd, Int.reduceSub, Int.reduceMul, Int.reduceEq, and_self, true_and, and_true, false_and, and_false, or_false, false_or, true_or, or_true, not_true_eq_false, not_false_eq_true, Bool.false_eq_true, Bool.true_eq_false, decide_true, decide_false, decide_eq_true_eq, Nat.le_refl, Nat.zero_le, ge_iff_le, gt_iff_lt, Nat.lt_irrefl, reduceCtorEq, if_posD, if_negD, w32_id, Int.toNat_natCast, WCo_in, mUp_self, mUp_ne, ne_eq, Bool.true_and, Bool.and_true, Bool.false_and, Bool.and_false, Bool.true_or, Bool.or_true, Bool.false_or, Bool.or_false, Nat.reduceEqDiff, Int.cast_ofNat_Int, Int.reduceToNat, List.getD_cons_succ, List.getD_cons_zero, eq_self, swL, if_true, if_false, nqT, isNl, qL_cell_0, qL_cell_2, GG3, SAr_998, hk2, hk3]
  · have hk2 : (L : Int) ≤ k := by omega
    have e : ((k.toNat : Nat) : Int) = k := Int.toNat_of_nonneg h0
    rw [if_neg hk, e]
    simp (disch := omega) only [ms_sipush, ms_lconst, ms_ldc2_w, ms_dconst, ms_ldc, ms_getstatic, ms_iload, ms_lload, ms_dload, ms_aload, ms_istore, ms_lstore, ms_dstore, ms_astore, ms_iinc, ms_iadd, ms_isub, ms_imul, ms_idiv, ms_irem, ms_ineg, ms_iand, ms_ior, ms_ishr, ms_ishl, ms_iushr, ms_i2b, ms_i2c, ms_i2l, ms_ladd, ms_lmul, ms_lcmp, ms_i2d, ms_ddiv, ms_dcmp, ms_dup, ms_pop, ms_dup2, ms_dup_x1, ms_aconst_null, ms_ifnull, ms_ifnonnull, ms_checkcast, ms_goto, ms_ifCond, ms_if_icmp, ms_if_acmp_eq, ms_if_acmp_ne, ms_tableswitch, ms_lookupswitch, ms_getfield, ms_putfield, ms_arraylength, ms_iaload, ms_baload, ms_laload, ms_aaload, ms_iastore, ms_bastore, ms_lastore, ms_aastore, ms_newarray, ms_new, ms_anewarray, ms_multianewarray, ms_invokevirtual, ms_invokestatic, ms_invokespecial, ms_invokeinterface, ms_invokedynamic_0, ms_invokedynamic_1, ms_invokedynamic_2, ms_invokedynamic_3, ms_invokedynamic_4, ms_invokedynamic_5, ms_invokedynamic_6, ms_invokedynamic_7, ms_invokedynamic_8, ms_ireturn, ms_lreturn, ms_dreturn, ms_areturn, ms_return_, Wp_cons, WSC_nx, WSC_cl, WSC_rt, WSC_th, WSC_if, lg, lset, lfree, wide, isRf, isRT, fitK, hgt, margs, mpad, rcv, rdF, rdN, rdI, rdQ, mC_eq, mC_ne, mC_lt, mC_ge, mC_gt, mC_le, mset, mnew, h_fst, h_snd, lt_drop0, List.drop_succ_cons, List.drop_zero, List.drop_nil, List.take_succ_cons, List.take_zero, List.reverse_cons, List.reverse_nil, List.nil_append, List.cons_append, List.append_nil, List.length_cons, List.length_nil, List.getElem?_cons_succ, List.getElem?_cons_zero, List.set_cons_succ, List.set_cons_zero, List.replicate, Option.toList, reduceIte, Bool.not_false, Bool.not_true, Nat.reduceLT, Nat.reduceLeDiff, Nat.reduceAdd, Nat.reduceSub, Nat.reduceMul, Int.reduceLT, Int.reduceLE, Int.reduceNeg, Int.reduceAdd, Int.reduceSub, Int.reduceMul, Int.reduceEq, and_self, true_and, and_true, false_and, and_false, or_false, false_or, true_or, or_true, not_true_eq_false, not_false_eq_true, Bool.false_eq_true, Bool.true_eq_false, decide_true, decide_false, decide_eq_true_eq, Nat.le_refl, Nat.zero_le, ge_iff_le, gt_iff_lt, Nat.lt_irrefl, reduceCtorEq, if_posD, if_negD, w32_id, Int.toNat_natCast, WCo_in, mUp_self, mUp_ne, ne_eq, Bool.true_and, Bool.and_true, Bool.false_and, Bool.and_false, Bool.true_or, Bool.or_true, Bool.false_or, Bool.or_false, Nat.reduceEqDiff, Int.cast_ofNat_Int, Int.reduceToNat, List.getD_cons_succ, List.getD_cons_zero, eq_self, swL, if_true, if_false, nqT, isNl, qL_cell_0, qL_cell_1, qL_cell_2, GG3, SAr_998, hk2]
theorem c_ce {d : Nat} {B : Nat → List MI} {ex : List Nat} {is : List MI} {ls st : List MV} {Q' : (Option MV ⊕ Nat) → MH → Prop} {k : Int} (hL : L ≤ 300) (h0 : 0 ≤ k) (h1 : k < 1000) (hd : 0 < d) : WCl (GG L xs fm) d B ex is ls mL_cell [qS 998, qI k] st h Q' = Wp (GG L xs fm) d B is ls (qI (ceX L xs k.toNat) :: st) h Q' := WCl_sp (l_cel hL h0 h1) hd
end DRAW
/-! the land that is drawn -/
def dN (L : Nat) (xs : Nat → Int) : Nat := 2 + bw (ceX L xs 0) 8
def dC (L : Nat) (xs : Nat → Int) : Nat := 1 + bw (ceX L xs 1) 13
def dU (L : Nat) (xs : Nat → Int) : Nat := 1 + bw (ceX L xs 6) 4
def dQ (L : Nat) (xs : Nat → Int) : Nat := bw (ceX L xs 7) 7
def dX (L : Nat) (xs : Nat → Int) (r : Nat) : Int := sr (ceX L xs (1 + r % 5)) (((r / 5 * 9 : Nat) : Int))
def dF (L : Nat) (xs : Nat → Int) (r : Nat) : Nat := bw (dX L xs r) (dN L xs)
def dT (L : Nat) (xs : Nat → Int) (r : Nat) : Nat := (dF L xs r + 1 + bw (sr (dX L xs r) 3) (if bw (sr (dX L xs r) 5) 2 = 0 then 1 else dN L xs - 1)) % dN L xs
def dM (L : Nat) (xs : Nat → Int) (r : Nat) : Nat := 1 + bw (sr (dX L xs r) 4) (if bw (sr (dX L xs r) 6) 3 = 0 then 30 else 7)
def dY (L : Nat) (xs : Nat → Int) (k : Nat) : Int := sr (ceX L xs 6) (((2 + 5 * k : Nat) : Int))
def dA (L : Nat) (xs : Nat → Int) (k : Nat) : Nat := bw (dY L xs k) (dN L xs)
def dB (L : Nat) (xs : Nat → Int) (k : Nat) : Nat := bw (sr (dY L xs k) 3) 9
def dW (L : Nat) (xs : Nat → Int) (j : Nat) : Int := sr (ceX L xs (8 + j % 8)) 1
def dZ (L : Nat) (xs : Nat → Int) (j i : Nat) : Nat :=
  if i = 0 then bw (dW L xs j) 3 else if i = 1 then bw (sr (dW L xs j) 2) (if bw (dW L xs j) 3 = 2 then dN L xs else dC L xs) else if i = 2 then bw (sr (dW L xs j) 3) 8 else if i = 3 then bw (sr (dW L xs j) 5) 9 else if i = 4 then bw (sr (dW L xs j) 4) 9 else if i = 5 then bw (sr (dW L xs j) 6) (dC L xs) else if i = 6 then bw (sr (dW L xs j) 7) (dN L xs) else if i = 7 then bw (sr (dW L xs j) 8) (dN L xs) else bw (sr (dW L xs j) 9) (dU L xs)
theorem dN_b {L : Nat} {xs : Nat → Int} : 2 ≤ dN L xs ∧ dN L xs ≤ 9 := by
  have := bw_lt (v := ceX L xs 0) (n := 8) (by omega)
  unfold dN
  omega
theorem dC_b {L : Nat} {xs : Nat → Int} : 1 ≤ dC L xs ∧ dC L xs ≤ 13 := by
  have := bw_lt (v := ceX L xs 1) (n := 13) (by omega)
  unfold dC
  omega
theorem dU_b {L : Nat} {xs : Nat → Int} : 1 ≤ dU L xs ∧ dU L xs ≤ 4 := by
  have := bw_lt (v := ceX L xs 6) (n := 4) (by omega)
  unfold dU
  omega
theorem dQ_b {L : Nat} {xs : Nat → Int} : dQ L xs ≤ 6 := by
  have := bw_lt (v := ceX L xs 7) (n := 7) (by omega)
  unfold dQ
  omega
theorem mod_ne {f e n : Nat} (h1 : f < n) (h2 : 1 ≤ e) (h3 : e < n) : (f + e) % n < n ∧ f ≠ (f + e) % n := by
  refine ⟨Nat.mod_lt _ (by omega), ?_⟩
  by_cases h : f + e < n
  · rw [Nat.mod_eq_of_lt h]
    omega
  · have : (f + e) % n = f + e - n := by
      rw [Nat.mod_eq_sub_mod (by omega), Nat.mod_eq_of_lt (by omega)]
    omega
theorem dR_b {L : Nat} {xs : Nat → Int} {r : Nat} : dF L xs r < dN L xs ∧ dT L xs r < dN L xs ∧ dF L xs r ≠ dT L xs r ∧ 1 ≤ dM L xs r ∧ dM L xs r ≤ 30 := by
  obtain ⟨n1, n2⟩ := dN_b (L := L) (xs := xs)
  have hf : dF L xs r < dN L xs := bw_lt (by omega)
  have hd : bw (sr (dX L xs r) 3) (if bw (sr (dX L xs r) 5) 2 = 0 then 1 else dN L xs - 1) + 1 < dN L xs := by
    split
    · have := bw_lt (v := sr (dX L xs r) 3) (n := 1) (by omega)
      omega
    · have := bw_lt (v := sr (dX L xs r) 3) (n := dN L xs - 1) (by omega)
      omega
  have hm := mod_ne (f := dF L xs r) (e := 1 + bw (sr (dX L xs r) 3) (if bw (sr (dX L xs r) 5) 2 = 0 then 1 else dN L xs - 1)) (n := dN L xs) hf (by omega) (by omega)
  have et : dT L xs r = (dF L xs r + (1 + bw (sr (dX L xs r) 3) (if bw (sr (dX L xs r) 5) 2 = 0 then 1 else dN L xs - 1))) % dN L xs := by
    unfold dT
    rw [Nat.add_assoc]
  rw [et]
  refine ⟨hf, hm.1, hm.2, ?_, ?_⟩
  · unfold dM
    omega
  · unfold dM
    split
    · have := bw_lt (v := sr (dX L xs r) 4) (n := 30) (by omega)
      omega
    · have := bw_lt (v := sr (dX L xs r) 4) (n := 7) (by omega)
      omega
theorem dZ_ok {L : Nat} {xs : Nat → Int} {j : Nat} : ZdOk (dN L xs) (dC L xs) (dU L xs) (dZ L xs j) := by
  obtain ⟨n1, n2⟩ := dN_b (L := L) (xs := xs)
  obtain ⟨c1, c2⟩ := dC_b (L := L) (xs := xs)
  obtain ⟨u1, u2⟩ := dU_b (L := L) (xs := xs)
  have b0 := bw_lt (v := dW L xs j) (n := 3) (by omega)
  have b2 := bw_lt (v := sr (dW L xs j) 3) (n := 8) (by omega)
  have b3 := bw_lt (v := sr (dW L xs j) 5) (n := 9) (by omega)
  have b4 := bw_lt (v := sr (dW L xs j) 4) (n := 9) (by omega)
  refine ⟨by show bw _ 3 ≤ 2; omega, fun h => ?_, fun h => ?_, by show bw _ 8 ≤ 7; omega, by show bw _ 9 ≤ 8; omega, by show bw _ 9 ≤ 8; omega, bw_lt (by omega), bw_lt (by omega), bw_lt (by omega), bw_lt (by omega)⟩
  · have h : bw (dW L xs j) 3 ≠ 2 := h
    show bw (sr (dW L xs j) 2) (if bw (dW L xs j) 3 = 2 then dN L xs else dC L xs) < dC L xs
    rw [if_neg h]
    exact bw_lt (by omega)
  · have h : bw (dW L xs j) 3 = 2 := h
    show bw (sr (dW L xs j) 2) (if bw (dW L xs j) 3 = 2 then dN L xs else dC L xs) < dN L xs
    rw [if_pos h]
    exact bw_lt (by omega)
theorem dr_ok {L : Nat} {xs : Nat → Int} : DrOk (dN L xs) (dC L xs) (dU L xs) (dQ L xs) (dF L xs) (dT L xs) (dM L xs) (dA L xs) (dB L xs) (dZ L xs) := by
  obtain ⟨n1, n2⟩ := dN_b (L := L) (xs := xs)
  obtain ⟨c1, c2⟩ := dC_b (L := L) (xs := xs)
  obtain ⟨u1, u2⟩ := dU_b (L := L) (xs := xs)
  refine ⟨n2, c2, u2, dQ_b, fun r _ => dR_b, fun k _ => ⟨bw_lt (by omega), ?_⟩, fun j _ => dZ_ok⟩
  have := bw_lt (v := sr (dY L xs k) 3) (n := 9) (by omega)
  unfold dB
  omega
