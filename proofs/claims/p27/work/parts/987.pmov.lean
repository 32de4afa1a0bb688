/-! ===== THE HAND-MADE LAND: rumours begin, travellers go on ===== -/
def HeO (Q : Pn) (he : Nat → Int) : Prop := ∀ t k, t < Q.1 → k < Q.2.2.1 → -1 ≤ he (t * 6 + k)
def WeOk (Q : Pn) (l : List Wr) : Prop := ∀ x, x ∈ l → x.2.1 = toP Q x.1 ∨ x.2.1 = frP Q x.1
theorem hrs_ok {Q : Pn} {he : Nat → Int} {i : Nat} {hr : Int} (h : HeO Q he) (h0 : 0 ≤ hr) : HeO Q (hrs he i hr) := fun t k ht hk => by
  unfold hrs
  split
  · unfold mUp
    split
    · omega
    · exact h t k ht hk
  · exact h t k ht hk
theorem bgK_ok {Q : Pn} {ba : Nat → Nat} {bo : Nat → Int} {he : Nat → Int} {hr : Int} (h : HeO Q he) (h0 : 0 ≤ hr) : ∀ i, HeO Q (bgK ba bo hr he i).1
  | 0 => h
  | i + 1 => by
    unfold bgK
    split
    · exact hrs_ok (bgK_ok h h0 i) h0
    · exact bgK_ok h h0 i
section PMOV
variable {L : Nat} {xs : Nat → Int} {fm : Bool} {h : MH} {tg ad wa : Nat → Nat} {ev : MV} {mc : Int} {Q : Pn} {oz : Nat → Nat → Int} {S : St8} {hu : Nat → Int}
abbrev baP (Q : Pn) : Nat → Nat := Q.2.2.2.2.2.2.1
abbrev boP (Q : Pn) : Nat → Int := Q.2.2.2.2.2.2.2.1
theorem sm_pbgn (hQ : PnOk Q) (hH : HeO Q (heS6 S)) (hR : HrOk S) {l1 l2 l5 l6 l7 : MV} {i3 : Int} {P : (Option MV ⊕ Nat) → MH → Prop}
    (k : ∀ hi, SimA hi tg ad wa ev mc Q oz (heS S (bgK (baP Q) (boP Q) S.1 (heS6 S) Q.2.2.1).1) hu → Fx tg tg 0 0 h hi → Wp (GG L xs fm) 6 BX10_pass (BX10_pass 12) [qR (ad 0), l1, l2, qI i3, qI Q.2.2.1, l5, l6, l7] [] hi P) :
    ∀ (m i : Nat) (hi : MH), i + m = Q.2.2.1 → SimA hi tg ad wa ev mc Q oz (heS S (bgK (baP Q) (boP Q) S.1 (heS6 S) i).1) hu → Fx tg tg 0 0 h hi → Wp (GG L xs fm) 6 BX10_pass (BX10_pass 10) [qR (ad 0), l1, l2, qI i3, qI i, l5, l6, l7] [] hi P := by
  obtain ⟨q1, q2, q3, q4, -, qb, -⟩ := id hQ
  intro m
  induction m with
  | zero =>
    intro i hi hm hA hF
    obtain rfl : i = Q.2.2.1 := by omega
    have nx := k hi hA hF
    have e0 := hA.1
    unfold SimO at e0
    obtain ⟨-, -, ⟨⟨f, e1, -⟩, -⟩, -⟩ := id hA
    rw [qX10_pass_10]
    simp (disch := omega) only [ms_sipush, ms_lconst, ms_ldc2_w, ms_dconst, ms_ldc, ms_getstatic, ms_iload, ms_lload, ms_dload, ms_aload, ms_istore, ms_lstore, ms_dstore, ms_astore, ms_iinc, ms_iadd, ms_isub, ms_imul, ms_idiv, ms_irem, ms_ineg, ms_iand, ms_ior, ms_ishr, ms_ishl, ms_iushr, ms_i2b, ms_i2c, ms_i2l, ms_ladd, ms_lmul, ms_lcmp, ms_i2d, ms_ddiv, ms_dcmp, ms_dup, ms_pop, ms_dup2, ms_dup_x1, ms_aconst_null, ms_ifnull, ms_ifnonnull, ms_checkcast, ms_goto, ms_ifCond, ms_if_icmp, ms_if_acmp_eq, ms_if_acmp_ne, ms_tableswitch, ms_lookupswitch, ms_getfield, ms_putfield, ms_arraylength, ms_iaload, ms_baload, ms_laload, ms_aaload, ms_iastore, ms_bastore, ms_lastore, ms_aastore, ms_newarray, ms_new, ms_anewarray, ms_multianewarray, ms_invokevirtual, ms_invokestatic, ms_invokespecial, ms_invokeinterface, ms_invokedynamic_0, ms_invokedynamic_1, ms_invokedynamic_2, ms_invokedynamic_3, ms_invokedynamic_4, ms_invokedynamic_5, ms_invokedynamic_6, ms_invokedynamic_7, ms_invokedynamic_8, ms_ireturn, ms_lreturn, ms_dreturn, ms_areturn, ms_return_, Wp_cons, WSC_nx, WSC_cl, WSC_rt, WSC_th, WSC_if, lg, lset, lfree, wide, isRf, isRT, fitK, hgt, margs, mpad, rcv, rdF, rdN, rdI, rdQ, mC_eq, mC_ne, mC_lt, mC_ge, mC_gt, mC_le, mset, mnew, h_fst, h_snd, lt_drop0, List.drop_succ_cons, List.drop_zero, List.drop_nil, List.take_succ_cons, List.take_zero, List.reverse_cons, List.reverse_nil, List.nil_append, List.cons_append, List.append_nil, List.length_cons, List.length_nil, List.getElem?_cons_succ, List.getElem?_cons_zero, List.set_cons_succ, List.set_cons_zero, List.replicate, Option.toList, reduceIte, Bool.not_false, Bool.not_true, Nat.reduceLT, Nat.reduceLeDiff, Nat.reduceAdd, Nat.reduceSub, Nat.reduceMul, Int.reduceLT, Int.reduceLE, Int.reduceNeg, Int.reduceAdd, Int.reduceSub, Int.reduceMul, Int.reduceEq, and_self, true_and, and_true, false_and, and_false, or_false, false_or, true_or, or_true, not_true_eq_false, not_false_eq_true, Bool.false_eq_true, Bool.true_eq_false, decide_true, decide_false, decide_eq_true_eq, Nat.le_refl, Nat.zero_le, ge_iff_le, gt_iff_lt, Nat.lt_irrefl, reduceCtorEq, if_posD, if_negD, w32_id, Int.toNat_natCast, WCo_in, mUp_self, mUp_ne, ne_eq, Bool.true_and, Bool.and_true, Bool.false_and, Bool.and_false, Bool.true_or, Bool.or_true, Bool.false_or, Bool.or_false, Nat.reduceEqDiff, Int.cast_ofNat_Int, Int.reduceToNat, List.getD_cons_succ, List.getD_cons_zero, eq_self, swL, if_true, if_false, nqT, isNl, qX10_pass_11, MJx4a65c_add_9ea2d, MJx4a65c_get_915e3, MJx4a65c_remove_915e3, MJx4a65c_size_8abf5, MX10_all, MX10_carries, MX10_hears, MX10_isOpen, MX10_length, GG1, e0, e1]
    exact nx
  | succ m ih =>
    intro i hi hm hA hF
    have hk : i < Q.2.2.1 := by omega
    have hb : baP Q i < Q.1 := qb i hk
    have e0 := hA.1
    unfold SimO at e0
    change hi.1 (ad 0) = cO 10 [qI S.1, _, _, _, _, _, _, _, _, _, _] at e0
    obtain ⟨f, g, e1, e2, e3, e4⟩ := hA.2.2.1.at hk
    have g0 : g 0 = (baP Q i : Int) := e4 0 (by omega)
    have g1 : g 1 = boP Q i := e4 1 (by omega)
    rw [qX10_pass_10]
    by_cases h9 : boP Q i = S.1
    · have es : (bgK (baP Q) (boP Q) S.1 (heS6 S) (i + 1)).1 = hrs (bgK (baP Q) (boP Q) S.1 (heS6 S) i).1 (baP Q i * 6 + i) S.1 := by
        have : bgK (baP Q) (boP Q) S.1 (heS6 S) (i + 1) = (hrs (bgK (baP Q) (boP Q) S.1 (heS6 S) i).1 (baP Q i * 6 + i) S.1, (bgK (baP Q) (boP Q) S.1 (heS6 S) i).2 + isNw (bgK (baP Q) (boP Q) S.1 (heS6 S) i).1 (baP Q i * 6 + i)) := if_pos h9
        rw [this]
      simp (disch := omega) only [ms_sipush, ms_lconst, ms_ldc2_w, ms_dconst, ms_ldc, ms_getstatic, ms_iload, ms_lload, ms_dload, ms_aload, ms_istore, ms_lstore, ms_dstore, ms_astore, ms_iinc, ms_iadd, ms_isub, ms_imul, ms_idiv, ms_irem, ms_ineg, ms_iand, ms_ior, ms_ishr, ms_ishl, ms_iushr, ms_i2b, ms_i2c, ms_i2l, ms_ladd, ms_lmul, ms_lcmp, ms_i2d, ms_ddiv, ms_dcmp, ms_dup, ms_pop, ms_dup2, ms_dup_x1, ms_aconst_null, ms_ifnull, ms_ifnonnull, ms_checkcast, ms_goto, ms_ifCond, ms_if_icmp, ms_if_acmp_eq, ms_if_acmp_ne, ms_tableswitch, ms_lookupswitch, ms_getfield, ms_putfield, ms_arraylength, ms_iaload, ms_baload, ms_laload, ms_aaload, ms_iastore, ms_bastore, ms_lastore, ms_aastore, ms_newarray, ms_new, ms_anewarray, ms_multianewarray, ms_invokevirtual, ms_invokestatic, ms_invokespecial, ms_invokeinterface, ms_invokedynamic_0, ms_invokedynamic_1, ms_invokedynamic_2, ms_invokedynamic_3, ms_invokedynamic_4, ms_invokedynamic_5, ms_invokedynamic_6, ms_invokedynamic_7, ms_invokedynamic_8, ms_ireturn, ms_lreturn, ms_dreturn, ms_areturn, ms_return_, Wp_cons, WSC_nx, WSC_cl, WSC_rt, WSC_th, WSC_if, lg, lset, lfree, wide, isRf, isRT, fitK, hgt, margs, mpad, rcv, rdF, rdN, rdI, rdQ, mC_eq, mC_ne, mC_lt, mC_ge, mC_gt, mC_le, mset, mnew, h_fst, h_snd, lt_drop0, List.drop_succ_cons, List.drop_zero, List.drop_nil, List.take_succ_cons, List.take_zero, List.reverse_cons, List.reverse_nil, List.nil_append, List.cons_append, List.append_nil, List.length_cons, List.length_nil, List.getElem?_cons_succ, List.getElem?_cons_zero, List.set_cons_succ, List.set_cons_zero, List.replicate, Option.toList, reduceIte, Bool.not_false, Bool.not_true, Nat.reduceLT, Nat.reduceLeDiff, Nat.reduceAdd, Nat.reduceSub, Nat.reduceMul, Int.reduceLT, Int.reduceLE, Int.reduceNeg, Int.reduceAdd, Int.reduceSub, Int.reduceMul, Int.reduceEq, and_self, true_and, and_true, false_and, and_false, or_false, false_or, true_or, or_true, not_true_eq_false, not_false_eq_true, Bool.false_eq_true, Bool.true_eq_false, decide_true, decide_false, decide_eq_true_eq, Nat.le_refl, Nat.zero_le, ge_iff_le, gt_iff_lt, Nat.lt_irrefl, reduceCtorEq, if_posD, if_negD, w32_id, Int.toNat_natCast, WCo_in, mUp_self, mUp_ne, ne_eq, Bool.true_and, Bool.and_true, Bool.false_and, Bool.and_false, Bool.true_or, Bool.or_true, Bool.false_or, Bool.or_false, Nat.reduceEqDiff, Int.cast_ofNat_Int, Int.reduceToNat, List.getD_cons_succ, List.getD_cons_zero, eq_self, swL, if_true, if_false, nqT, isNl, e0, e1, e2, e3, g0, g1, h9]
      refine WCl_of (sm_hears hA hQ (bgK_ok hH hR.1 i) hb hk) (by omega) (fun v h2 hv => ?_)
      obtain ⟨rfl, -, hA2, hF2⟩ := hv
      have nx := ih (i + 1) h2 (by omega) (by rw [es]; exact hA2) (hF.tr hF2)
      simp (disch := omega) only [ms_sipush, ms_lconst, ms_ldc2_w, ms_dconst, ms_ldc, ms_getstatic, ms_iload, ms_lload, ms_dload, ms_aload, ms_istore, ms_lstore, ms_dstore, ms_astore, ms_iinc, ms_iadd, ms_isub, ms_imul, ms_idiv, ms_irem, ms_ineg, ms_iand, ms_ior, ms_ishr, ms_ishl, ms_iushr, ms_i2b, ms_i2c, ms_i2l, ms_ladd, ms_lmul, ms_lcmp, ms_i2d, ms_ddiv, ms_dcmp, ms_dup, ms_pop, ms_dup2, ms_dup_x1, ms_aconst_null, ms_ifnull, ms_ifnonnull, ms_checkcast, ms_goto, ms_ifCond, ms_if_icmp, ms_if_acmp_eq, ms_if_acmp_ne, ms_tableswitch, ms_lookupswitch, ms_getfield, ms_putfield, ms_arraylength, ms_iaload, ms_baload, ms_laload, ms_aaload, ms_iastore, ms_bastore, ms_lastore, ms_aastore, ms_newarray, ms_new, ms_anewarray, ms_multianewarray, ms_invokevirtual, ms_invokestatic, ms_invokespecial, ms_invokeinterface, ms_invokedynamic_0, ms_invokedynamic_1, ms_invokedynamic_2, ms_invokedynamic_3, ms_invokedynamic_4, ms_invokedynamic_5, ms_invokedynamic_6, ms_invokedynamic_7, ms_invokedynamic_8, ms_ireturn, ms_lreturn, ms_dreturn, ms_areturn, ms_return_, Wp_cons, WSC_nx, WSC_cl, WSC_rt, WSC_th, WSC_if, lg, lset, lfree, wide, isRf, isRT, fitK, hgt, margs, mpad, rcv, rdF, rdN, rdI, rdQ, mC_eq, mC_ne, mC_lt, mC_ge, mC_gt, mC_le, mset, mnew, h_fst, h_snd, lt_drop0, List.drop_succ_cons, List.drop_zero, List.drop_nil, List.take_succ_cons, List.take_zero, List.reverse_cons, List.reverse_nil, List.nil_append, List.cons_append, List.append_nil, List.length_cons, List.length_nil, List.getElem?_cons_succ, List.getElem?_cons_zero, List.set_cons_succ, List.set_cons_zero, List.replicate, Option.toList, reduceIte, Bool.not_false, Bool.not_true, Nat.reduceLT, Nat.reduceLeDiff, Nat.reduceAdd, Nat.reduceSub, Nat.reduceMul, Int.reduceLT, Int.reduceLE, Int.reduceNeg, Int.reduceAdd, Int.reduceSub, Int.reduceMul, Int.reduceEq, and_self, true_and, and_true, false_and, and_false, or_false, false_or, true_or, or_true, not_true_eq_false, not_false_eq_true, Bool.false_eq_true, Bool.true_eq_false, decide_true, decide_false, decide_eq_true_eq, Nat.le_refl, Nat.zero_le, ge_iff_le, gt_iff_lt, Nat.lt_irrefl, reduceCtorEq, if_posD, if_negD, w32_id, Int.toNat_natCast, WCo_in, mUp_self, mUp_ne, ne_eq, Bool.true_and, Bool.and_true, Bool.false_and, Bool.and_false, Bool.true_or, Bool.or_true, Bool.false_or, Bool.or_false, Nat.reduceEqDiff, Int.cast_ofNat_Int, Int.reduceToNat, List.getD_cons_succ, List.getD_cons_zero, eq_self, swL, if_true, if_false, nqT, isNl, qX10_pass_11, MJx4a65c_add_9ea2d, MJx4a65c_get_915e3, MJx4a65c_remove_915e3, MJx4a65c_size_8abf5, MX10_all, MX10_carries, MX10_hears, MX10_isOpen, MX10_length, GG1]
      exact nx
    · have es : (bgK (baP Q) (boP Q) S.1 (heS6 S) (i + 1)).1 = (bgK (baP Q) (boP Q) S.1 (heS6 S) i).1 := by
        have : bgK (baP Q) (boP Q) S.1 (heS6 S) (i + 1) = bgK (baP Q) (boP Q) S.1 (heS6 S) i := if_neg h9
        rw [this]
      have nx := ih (i + 1) hi (by omega) (by rw [es]; exact hA) hF
      simp (disch := omega) only [ms_sipush, ms_lconst, ms_ldc2_w, ms_dconst, ms_ldc, ms_getstatic, ms_iload, ms_lload, ms_dload, ms_aload, ms_istore, ms_lstore, ms_dstore, ms_astore, ms_iinc, ms_iadd, ms_isub, ms_imul, ms_idiv, ms_irem, ms_ineg, ms_iand, ms_ior, ms_ishr, ms_ishl, ms_iushr, ms_i2b, ms_i2c, ms_i2l, ms_ladd, ms_lmul, ms_lcmp, ms_i2d, ms_ddiv, ms_dcmp, ms_dup, ms_pop, ms_dup2, ms_dup_x1, ms_aconst_null, ms_ifnull, ms_ifnonnull, ms_checkcast, ms_goto, ms_ifCond, ms_if_icmp, ms_if_acmp_eq, ms_if_acmp_ne, ms_tableswitch, ms_lookupswitch, ms_getfield, ms_putfield, ms_arraylength, ms_iaload, ms_baload, ms_laload, ms_aaload, ms_iastore, ms_bastore, ms_lastore, ms_aastore, ms_newarray, ms_new, ms_anewarray, ms_multianewarray, ms_invokevirtual, ms_invokestatic, ms_invokespecial, ms_invokeinterface, ms_invokedynamic_0, ms_invokedynamic_1, ms_invokedynamic_2, ms_invokedynamic_3, ms_invokedynamic_4, ms_invokedynamic_5, ms_invokedynamic_6, ms_invokedynamic_7, ms_invokedynamic_8, ms_ireturn, ms_lreturn, ms_dreturn, ms_areturn, ms_return_, Wp_cons, WSC_nx, WSC_cl, WSC_rt, WSC_th, WSC_if, lg, lset, lfree, wide, isRf, isRT, fitK, hgt, margs, mpad, rcv, rdF, rdN, rdI, rdQ, mC_eq, mC_ne, mC_lt, mC_ge, mC_gt, mC_le, mset, mnew, h_fst, h_snd, lt_drop0, List.drop_succ_cons, List.drop_zero, List.drop_nil, List.take_succ_cons, List.take_zero, List.reverse_cons, List.reverse_nil, List.nil_append, List.cons_append, List.append_nil, List.length_cons, List.length_nil, List.getElem?_cons_succ, List.getElem?_cons_zero, List.set_cons_succ, List.set_cons_zero, List.replicate, Option.toList, reduceIte, Bool.not_false, Bool.not_true, Nat.reduceLT, Nat.reduceLeDiff, Nat.reduceAdd, Nat.reduceSub, Nat.reduceMul, Int.reduceLT, Int.reduceLE, Int.reduceNeg, Int.reduceAdd, Int.reduceSub, Int.reduceMul, Int.reduceEq, and_self, true_and, and_true, false_and, and_false, or_false, false_or, true_or, or_true, not_true_eq_false, not_false_eq_true, Bool.false_eq_true, Bool.true_eq_false, decide_true, decide_false, decide_eq_true_eq, Nat.le_refl, Nat.zero_le, ge_iff_le, gt_iff_lt, Nat.lt_irrefl, reduceCtorEq, if_posD, if_negD, w32_id, Int.toNat_natCast, WCo_in, mUp_self, mUp_ne, ne_eq, Bool.true_and, Bool.and_true, Bool.false_and, Bool.and_false, Bool.true_or, Bool.or_true, Bool.false_or, Bool.or_false, Nat.reduceEqDiff, Int.cast_ofNat_Int, Int.reduceToNat, List.getD_cons_succ, List.getD_cons_zero, eq_self, swL, if_true, if_false, nqT, isNl, qX10_pass_11, MJx4a65c_add_9ea2d, MJx4a65c_get_915e3, MJx4a65c_remove_915e3, MJx4a65c_size_8abf5, MX10_all, MX10_carries, MX10_hears, MX10_isOpen, MX10_length, GG1, e0, e1, e2, e3, g0, g1, h9]
      exact nx
theorem sm_len' (hA : SimA h tg ad wa ev mc Q oz S hu) {r : Nat} (b4 : 1 ≤ miS S r) (b5 : miS S r ≤ 30) (b6 : 0 ≤ woS S r) (b7 : woS S r ≤ 3) (hr : r < Q.2.1) : Sp (GG L xs fm) 0 mX10_length [qR (ad 0), qI r] h (fun v h2 => v = .inl (some (qI (miS S r + 2 * woS S r))) ∧ h2 = h) := by
  have e0 := hA.1
  obtain ⟨f, g, e1, e2, e3, g0, g1, g2, g3⟩ := hA.rd hr
  unfold SimO at e0
  refine Sp_of MX10_length ?_
  simp (disch := omega) only [ms_sipush, ms_lconst, ms_ldc2_w, ms_dconst, ms_ldc, ms_getstatic, ms_iload, ms_lload, ms_dload, ms_aload, ms_istore, ms_lstore, ms_dstore, ms_astore, ms_iinc, ms_iadd, ms_isub, ms_imul, ms_idiv, ms_irem, ms_ineg, ms_iand, ms_ior, ms_ishr, ms_ishl, ms_iushr, ms_i2b, ms_i2c, ms_i2l, ms_ladd, ms_lmul, ms_lcmp, ms_i2d, ms_ddiv, ms_dcmp, ms_dup, ms_pop, ms_dup2, ms_dup_x1, ms_aconst_null, ms_ifnull, ms_ifnonnull, ms_checkcast, ms_goto, ms_ifCond, ms_if_icmp, ms_if_acmp_eq, ms_if_acmp_ne, ms_tableswitch, ms_lookupswitch, ms_getfield, ms_putfield, ms_arraylength, ms_iaload, ms_baload, ms_laload, ms_aaload, ms_iastore, ms_bastore, ms_lastore, ms_aastore, ms_newarray, ms_new, ms_anewarray, ms_multianewarray, ms_invokevirtual, ms_invokestatic, ms_invokespecial, ms_invokeinterface, ms_invokedynamic_0, ms_invokedynamic_1, ms_invokedynamic_2, ms_invokedynamic_3, ms_invokedynamic_4, ms_invokedynamic_5, ms_invokedynamic_6, ms_invokedynamic_7, ms_invokedynamic_8, ms_ireturn, ms_lreturn, ms_dreturn, ms_areturn, ms_return_, Wp_cons, WSC_nx, WSC_cl, WSC_rt, WSC_th, WSC_if, lg, lset, lfree, wide, isRf, isRT, fitK, hgt, margs, mpad, rcv, rdF, rdN, rdI, rdQ, mC_eq, mC_ne, mC_lt, mC_ge, mC_gt, mC_le, mset, mnew, h_fst, h_snd, lt_drop0, List.drop_succ_cons, List.drop_zero, List.drop_nil, List.take_succ_cons, List.take_zero, List.reverse_cons, List.reverse_nil, List.nil_append, List.cons_append, List.append_nil, List.length_cons, List.length_nil, List.getElem?_cons_succ, List.getElem?_cons_zero, List.set_cons_succ, List.set_cons_zero, List.replicate, Option.toList, reduceIte, Bool.not_false, Bool.not_true, Nat.reduceLT, Nat.reduceLeDiff, Nat.reduceAdd, Nat.reduceSub, Nat.reduceMul, Int.reduceLT, Int.reduceLE, Int.reduceNeg, Int.reduceAdd, Int.reduceSub, Int.reduceMul, Int.reduceEq, and_self, true_and, and_true, false_and, and_false, or_false, false_or, true_or, or_true, not_true_eq_false, not_false_eq_true, Bool.false_eq_true, Bool.true_eq_false, decide_true, decide_false, decide_eq_true_eq, Nat.le_refl, Nat.zero_le, ge_iff_le, gt_iff_lt, Nat.lt_irrefl, reduceCtorEq, if_posD, if_negD, w32_id, Int.toNat_natCast, WCo_in, mUp_self, mUp_ne, ne_eq, Bool.true_and, Bool.and_true, Bool.false_and, Bool.and_false, Bool.true_or, Bool.or_true, Bool.false_or, Bool.or_false, Nat.reduceEqDiff, Int.cast_ofNat_Int, Int.reduceToNat, List.getD_cons_succ, List.getD_cons_zero, eq_self, swL, if_true, if_false, nqT, isNl, qX10_length_0, e0, e1, e2, e3, g2, g3]
  have e9 : miS S r + woS S r + woS S r = miS S r + 2 * woS S r := by omega
  rw [e9]
theorem c_smLen' {d : Nat} {B : Nat → List MI} {ex : List Nat} {is : List MI} {ls st : List MV} {Q' : (Option MV ⊕ Nat) → MH → Prop} (hA : SimA h tg ad wa ev mc Q oz S hu) {r : Nat} (b4 : 1 ≤ miS S r) (b5 : miS S r ≤ 30) (b6 : 0 ≤ woS S r) (b7 : woS S r ≤ 3) (hr : r < Q.2.1) (hd : 0 < d) : WCl (GG L xs fm) d B ex is ls mX10_length [qR (ad 0), qI r] st h Q' = Wp (GG L xs fm) d B is ls (qI (miS S r + 2 * woS S r) :: st) h Q' := WCl_sp (sm_len' hA b4 b5 b6 b7 hr) hd
theorem set_app {α : Type} {x y : α} {F : List α} : ∀ {A : List α}, (A ++ x :: F).set A.length y = A ++ y :: F
  | [] => rfl
  | z :: A => by
    show z :: (A ++ x :: F).set A.length y = _
    rw [set_app]
    rfl
theorem get_app {α : Type} {x : α} {F A : List α} : (A ++ x :: F)[A.length]? = some x := by
  rw [List.getElem?_append_right (Nat.le_refl _), Nat.sub_self]
  rfl
abbrev hlS (S : St8) (he : Nat → Int) (l : List Wr) : St8 := lsS (heS S he) l
theorem sm_pmov (hQ : PnOk Q) (hR : RdOk Q.1 Q.2.1 (frP Q) (toP Q) (miS S) (woS S)) (hO : HrOk S) {l1 l2 l6 l7 : MV} {i3 : Int} {P : (Option MV ⊕ Nat) → MH → Prop} :
    ∀ (T K : List Wr) (he : Nat → Int) (wa : Nat → Nat) (mc : Int) (hi : MH) (l5 : MV), wide l5 = false → (K ++ T).length ≤ 168 → WsOk Q.1 Q.2.1 Q.2.2.1 T → WeOk Q T → HeO Q he → SimA hi tg ad wa ev mc Q oz (hlS S he (K ++ T)) hu → Fx tg tg 0 0 h hi →
    (∀ wa mc hi l4 l5, wide l4 = false → wide l5 = false → SimA hi tg ad wa ev mc Q oz (hlS S (mvW (miS S) (woS S) S.1 T he).2.1 (K ++ (mvW (miS S) (woS S) S.1 T he).1)) hu → Fx tg tg 0 0 h hi → Wp (GG L xs fm) 6 BX10_pass (BX10_pass 16) [qR (ad 0), l1, l2, qI i3, l4, l5, l6, l7] [] hi P) →
    Wp (GG L xs fm) 6 BX10_pass (BX10_pass 13) [qR (ad 0), l1, l2, qI i3, qI K.length, l5, l6, l7] [] hi P := by
  intro T
  induction T with
  | nil =>
    intro K he wa mc hi l5 w5 hl hW hE hH hA hF k
    have nx := k wa mc hi (qI K.length) l5 rfl w5 hA hF
    have e0 := hA.1
    unfold SimO at e0
    have c1 := hA.2.2.2.2.2.2.1.1
    rw [List.append_nil] at c1
    change hi.1 (ad 6) = cO 12 [qI mc, ev, qI K.length] at c1
    have hl' : K.length ≤ 168 := by simpa using hl
    rw [qX10_pass_13]
    simp (disch := omega) only [ms_sipush, ms_lconst, ms_ldc2_w, ms_dconst, ms_ldc, ms_getstatic, ms_iload, ms_lload, ms_dload, ms_aload, ms_istore, ms_lstore, ms_dstore, ms_astore, ms_iinc, ms_iadd, ms_isub, ms_imul, ms_idiv, ms_irem, ms_ineg, ms_iand, ms_ior, ms_ishr, ms_ishl, ms_iushr, ms_i2b, ms_i2c, ms_i2l, ms_ladd, ms_lmul, ms_lcmp, ms_i2d, ms_ddiv, ms_dcmp, ms_dup, ms_pop, ms_dup2, ms_dup_x1, ms_aconst_null, ms_ifnull, ms_ifnonnull, ms_checkcast, ms_goto, ms_ifCond, ms_if_icmp, ms_if_acmp_eq, ms_if_acmp_ne, ms_tableswitch, ms_lookupswitch, ms_getfield, ms_putfield, ms_arraylength, ms_iaload, ms_baload, ms_laload, ms_aaload, ms_iastore, ms_bastore, ms_lastore, ms_aastore, ms_newarray, ms_new, ms_anewarray, ms_multianewarray, ms_invokevirtual, ms_invokestatic, ms_invokespecial, ms_invokeinterface, ms_invokedynamic_0, ms_invokedynamic_1, ms_invokedynamic_2, ms_invokedynamic_3, ms_invokedynamic_4, ms_invokedynamic_5, ms_invokedynamic_6, ms_invokedynamic_7, ms_invokedynamic_8, ms_ireturn, ms_lreturn, ms_dreturn, ms_areturn, ms_return_, Wp_cons, WSC_nx, WSC_cl, WSC_rt, WSC_th, WSC_if, lg, lset, lfree, wide, isRf, isRT, fitK, hgt, margs, mpad, rcv, rdF, rdN, rdI, rdQ, mC_eq, mC_ne, mC_lt, mC_ge, mC_gt, mC_le, mset, mnew, h_fst, h_snd, lt_drop0, List.drop_succ_cons, List.drop_zero, List.drop_nil, List.take_succ_cons, List.take_zero, List.reverse_cons, List.reverse_nil, List.nil_append, List.cons_append, List.append_nil, List.length_cons, List.length_nil, List.getElem?_cons_succ, List.getElem?_cons_zero, List.set_cons_succ, List.set_cons_zero, List.replicate, Option.toList, reduceIte, Bool.not_false, Bool.not_true, Nat.reduceLT, Nat.reduceLeDiff, Nat.reduceAdd, Nat.reduceSub, Nat.reduceMul, Int.reduceLT, Int.reduceLE, Int.reduceNeg, Int.reduceAdd, Int.reduceSub, Int.reduceMul, Int.reduceEq, and_self, true_and, and_true, false_and, and_false, or_false, false_or, true_or, or_true, not_true_eq_false, not_false_eq_true, Bool.false_eq_true, Bool.true_eq_false, decide_true, decide_false, decide_eq_true_eq, Nat.le_refl, Nat.zero_le, ge_iff_le, gt_iff_lt, Nat.lt_irrefl, reduceCtorEq, if_posD, if_negD, w32_id, Int.toNat_natCast, WCo_in, mUp_self, mUp_ne, ne_eq, Bool.true_and, Bool.and_true, Bool.false_and, Bool.and_false, Bool.true_or, Bool.or_true, Bool.false_or, Bool.or_false, Nat.reduceEqDiff, Int.cast_ofNat_Int, Int.reduceToNat, List.getD_cons_succ, List.getD_cons_zero, eq_self, swL, if_true, if_false, nqT, isNl, qX10_pass_14, MJx4a65c_add_9ea2d, MJx4a65c_get_915e3, MJx4a65c_remove_915e3, MJx4a65c_size_8abf5, MX10_all, MX10_carries, MX10_hears, MX10_isOpen, MX10_length, GG1, e0, c1, c_alSize c1]
    exact nx
  | cons x T ih =>
    intro K he wa mc hi l5 w5 hl hW hE hH hA hF k
    obtain ⟨x1, x2, x3, x4, x5⟩ := hW x (by simp)
    have hll : (K ++ x :: T).length = K.length + (T.length + 1) := by simp
    rw [hll] at hl
    have hlen : K.length < (wlS (hlS S he (K ++ x :: T))).length := by
      show K.length < (K ++ x :: T).length
      omega
    obtain ⟨rfl, c1, cap, f, c2, c3, c4, c5, c6⟩ := hA.lrow hlen
    change hi.1 (ad 6) = cO 12 [qI mc, qR (ad 7), qI (K ++ x :: T).length] at c1
    change (K ++ x :: T).length ≤ cap at c3
    have hlen' : K.length < (K ++ x :: T).length := hlen
    have hlI : (K.length : Int) < ((K ++ x :: T).length : Int) := by omega
    obtain ⟨g, g1, g2, g3, g4, g5⟩ := hA.row (i := K.length) (x := x) get_app
    have e0 := hA.1
    unfold SimO at e0
    have hfx := c6 K.length hlen
    have hne : (qR (ad 7) : MV) ≠ qS 301 := by intro q; cases q
    have ck : ckC 0 (cI .int 4 g) = true := rfl
    obtain ⟨hA2, hF2⟩ := hA.mile hQ (i := K.length) (x := x) get_app g1 (v := x.2.2.2 + 1)
    have e2 : (wlS (hlS S he (K ++ x :: T))).set K.length (x.1, x.2.1, x.2.2.1, x.2.2.2 + 1) = K ++ (x.1, x.2.1, x.2.2.1, x.2.2.2 + 1) :: T := set_app
    rw [e2] at hA2
    have e02 := hA2.1
    unfold SimO at e02
    change mUp hi.1 _ _ (ad 0) = _ at e02
    have b := hR.2.2 x.1 x1
    obtain ⟨b1, b2, b3, b4, b5, b6, b7⟩ := b
    change 1 ≤ miS S x.1 at b4
    change miS S x.1 ≤ 30 at b5
    change 0 ≤ woS S x.1 at b6
    change woS S x.1 ≤ 3 at b7
    have hS2 : 0 ≤ miS S x.1 + 2 * woS S x.1 := by omega
    have cl : ∀ {d : Nat} {B : Nat → List MI} {ex : List Nat} {is : List MI} {ls st : List MV} {Q' : (Option MV ⊕ Nat) → MH → Prop}, 0 < d → WCl (GG L xs fm) d B ex is ls mX10_length [qR (ad 0), qI x.1] st (mUp hi.1 (wa K.length) (cI .int 4 (mUp g 3 (x.2.2.2 + 1))), hi.2) Q' = Wp (GG L xs fm) d B is ls (qI (miS S x.1 + 2 * woS S x.1) :: st) (mUp hi.1 (wa K.length) (cI .int 4 (mUp g 3 (x.2.2.2 + 1))), hi.2) Q' := fun hd => c_smLen' hA2 b4 b5 b6 b7 x1 hd
    have mv : mvW (miS S) (woS S) S.1 (x :: T) he = if x.2.2.2 + 1 < miS S x.1 + 2 * woS S x.1 then ((x.1, x.2.1, x.2.2.1, x.2.2.2 + 1) :: (mvW (miS S) (woS S) S.1 T he).1, (mvW (miS S) (woS S) S.1 T he).2)
      else ((mvW (miS S) (woS S) S.1 T (hrs he (x.2.1 * 6 + x.2.2.1) S.1)).1, (mvW (miS S) (woS S) S.1 T (hrs he (x.2.1 * 6 + x.2.2.1) S.1)).2.1, isNw he (x.2.1 * 6 + x.2.2.1) + (mvW (miS S) (woS S) S.1 T (hrs he (x.2.1 * 6 + x.2.2.1) S.1)).2.2) := rfl
    have hWT : WsOk Q.1 Q.2.1 Q.2.2.1 T := fun y hy => hW y (List.mem_cons_of_mem _ hy)
    have hET : WeOk Q T := fun y hy => hE y (List.mem_cons_of_mem _ hy)
    rw [qX10_pass_13]
    by_cases h9 : x.2.2.2 + 1 < miS S x.1 + 2 * woS S x.1
    · rw [if_pos h9] at mv
      have eK : (K ++ [(x.1, x.2.1, x.2.2.1, x.2.2.2 + 1)]) ++ T = K ++ (x.1, x.2.1, x.2.2.1, x.2.2.2 + 1) :: T := by simp
      have eL : (K ++ [(x.1, x.2.1, x.2.2.1, x.2.2.2 + 1)]).length = K.length + 1 := by simp
      have nx := ih (K ++ [(x.1, x.2.1, x.2.2.1, x.2.2.2 + 1)]) he wa mc _ (qR (wa K.length)) rfl (by rw [eK]; simp; omega) hWT hET hH (by rw [eK]; exact hA2) (hF.tr hF2) (fun wa mc hi l4 l5 w4 w5 h1 h2 => k wa mc hi l4 l5 w4 w5 (by
        rw [mv]
        have : K ++ (x.1, x.2.1, x.2.2.1, x.2.2.2 + 1) :: (mvW (miS S) (woS S) S.1 T he).1 = (K ++ [(x.1, x.2.1, x.2.2.1, x.2.2.2 + 1)]) ++ (mvW (miS S) (woS S) S.1 T he).1 := by simp
        rw [this]
        exact h1) h2)
      rw [eL] at nx
      simp (disch := omega) only [ms_sipush, ms_lconst, ms_ldc2_w, ms_dconst, ms_ldc, ms_getstatic, ms_iload, ms_lload, ms_dload, ms_aload, ms_istore, ms_lstore, ms_dstore, ms_astore, ms_iinc, ms_iadd, ms_isub, ms_imul, ms_idiv, ms_irem, ms_ineg, ms_iand, ms_ior, ms_ishr, ms_ishl, ms_iushr, ms_i2b, ms_i2c, ms_i2l, ms_ladd, ms_lmul, ms_lcmp, ms_i2d, ms_ddiv, ms_dcmp, ms_dup, ms_pop, ms_dup2, ms_dup_x1, ms_aconst_null, ms_ifnull, ms_ifnonnull, ms_checkcast, ms_goto, ms_ifCond, ms_if_icmp, ms_if_acmp_eq, ms_if_acmp_ne, ms_tableswitch, ms_lookupswitch, ms_getfield, ms_putfield, ms_arraylength, ms_iaload, ms_baload, ms_laload, ms_aaload, ms_iastore, ms_bastore, ms_lastore, ms_aastore, ms_newarray, ms_new, ms_anewarray, ms_multianewarray, ms_invokevirtual, ms_invokestatic, ms_invokespecial, ms_invokeinterface, ms_invokedynamic_0, ms_invokedynamic_1, ms_invokedynamic_2, ms_invokedynamic_3, ms_invokedynamic_4, ms_invokedynamic_5, ms_invokedynamic_6, ms_invokedynamic_7, ms_invokedynamic_8, ms_ireturn, ms_lreturn, ms_dreturn, ms_areturn, ms_return_, Wp_cons, WSC_nx, WSC_cl, WSC_rt, WSC_th, WSC_if, lg, lset, lfree, wide, isRf, isRT, fitK, hgt, margs, mpad, rcv, rdF, rdN, rdI, rdQ, mC_eq, mC_ne, mC_lt, mC_ge, mC_gt, mC_le, mset, mnew, h_fst, h_snd, lt_drop0, List.drop_succ_cons, List.drop_zero, List.drop_nil, List.take_succ_cons, List.take_zero, List.reverse_cons, List.reverse_nil, List.nil_append, List.cons_append, List.append_nil, List.length_cons, List.length_nil, List.getElem?_cons_succ, List.getElem?_cons_zero, List.set_cons_succ, List.set_cons_zero, List.replicate, Option.toList, reduceIte, Bool.not_false, Bool.not_true, Nat.reduceLT, Nat.reduceLeDiff, Nat.reduceAdd, Nat.reduceSub, Nat.reduceMul, Int.reduceLT, Int.reduceLE, Int.reduceNeg, Int.reduceAdd, Int.reduceSub, Int.reduceMul, Int.reduceEq, and_self, true_and, and_true, false_and, and_false, or_false, false_or, true_or, or_true, not_true_eq_false, not_false_eq_true, Bool.false_eq_true, Bool.true_eq_false, decide_true, decide_false, decide_eq_true_eq, Nat.le_refl, Nat.zero_le, ge_iff_le, gt_iff_lt, Nat.lt_irrefl, reduceCtorEq, if_posD, if_negD, w32_id, Int.toNat_natCast, WCo_in, mUp_self, mUp_ne, ne_eq, Bool.true_and, Bool.and_true, Bool.false_and, Bool.and_false, Bool.true_or, Bool.or_true, Bool.false_or, Bool.or_false, Nat.reduceEqDiff, Int.cast_ofNat_Int, Int.reduceToNat, List.getD_cons_succ, List.getD_cons_zero, eq_self, swL, if_true, if_false, nqT, isNl, qX10_pass_15, MJx4a65c_add_9ea2d, MJx4a65c_get_915e3, MJx4a65c_remove_915e3, MJx4a65c_size_8abf5, MX10_all, MX10_carries, MX10_hears, MX10_isOpen, MX10_length, GG1, e0, c1, c_alSize c1, hlI, c_alGet c1 c2 hlen' c3 hfx, ck, g1, g3, g5, e02, cl, h9]
      exact nx
    · rw [if_neg h9] at mv
      obtain ⟨f1, g1', r1, r2, r3, r4, r5, r6, r7⟩ := hA2.rd x1
      change mUp hi.1 _ _ (ad 1) = _ at r1
      change mUp hi.1 _ _ (ad (16 + x.1)) = _ at r3
      have hdest : g1' (1 - (if toP Q x.1 = x.2.1 then (0 : Int) else 1)).toNat = (x.2.1 : Int) := by
        rcases hE x (by simp) with h8 | h8
        · rw [if_pos h8.symm]
          show g1' 1 = _
          rw [r5, h8]
        · by_cases h7 : toP Q x.1 = x.2.1
          · rw [if_pos h7]
            show g1' 1 = _
            rw [r5, h7]
          · rw [if_neg h7]
            show g1' 0 = _
            rw [r4, h8]
      have hdb : 0 ≤ 1 - (if toP Q x.1 = x.2.1 then (0 : Int) else 1) ∧ 1 - (if toP Q x.1 = x.2.1 then (0 : Int) else 1) < 4 ∧ (if toP Q x.1 = x.2.1 then (0 : Int) else 1) ≤ 1 ∧ 0 ≤ (if toP Q x.1 = x.2.1 then (0 : Int) else 1) := by split <;> omega
      generalize (if toP Q x.1 = x.2.1 then (0 : Int) else 1) = en at *
      simp (disch := omega) only [ms_sipush, ms_lconst, ms_ldc2_w, ms_dconst, ms_ldc, ms_getstatic, ms_iload, ms_lload, ms_dload, ms_aload, ms_istore, ms_lstore, ms_dstore, ms_astore, ms_iinc, ms_iadd, ms_isub, ms_imul, ms_idiv, ms_irem, ms_ineg, ms_iand, ms_ior, ms_ishr, ms_ishl, ms_iushr, ms_i2b, ms_i2c, ms_i2l, ms_ladd, ms_lmul, ms_lcmp, ms_i2d, ms_ddiv, ms_dcmp, ms_dup, ms_pop, ms_dup2, ms_dup_x1, ms_aconst_null, ms_ifnull, ms_ifnonnull, ms_checkcast, ms_goto, ms_ifCond, ms_if_icmp, ms_if_acmp_eq, ms_if_acmp_ne, ms_tableswitch, ms_lookupswitch, ms_getfield, ms_putfield, ms_arraylength, ms_iaload, ms_baload, ms_laload, ms_aaload, ms_iastore, ms_bastore, ms_lastore, ms_aastore, ms_newarray, ms_new, ms_anewarray, ms_multianewarray, ms_invokevirtual, ms_invokestatic, ms_invokespecial, ms_invokeinterface, ms_invokedynamic_0, ms_invokedynamic_1, ms_invokedynamic_2, ms_invokedynamic_3, ms_invokedynamic_4, ms_invokedynamic_5, ms_invokedynamic_6, ms_invokedynamic_7, ms_invokedynamic_8, ms_ireturn, ms_lreturn, ms_dreturn, ms_areturn, ms_return_, Wp_cons, WSC_nx, WSC_cl, WSC_rt, WSC_th, WSC_if, lg, lset, lfree, wide, isRf, isRT, fitK, hgt, margs, mpad, rcv, rdF, rdN, rdI, rdQ, mC_eq, mC_ne, mC_lt, mC_ge, mC_gt, mC_le, mset, mnew, h_fst, h_snd, lt_drop0, List.drop_succ_cons, List.drop_zero, List.drop_nil, List.take_succ_cons, List.take_zero, List.reverse_cons, List.reverse_nil, List.nil_append, List.cons_append, List.append_nil, List.length_cons, List.length_nil, List.getElem?_cons_succ, List.getElem?_cons_zero, List.set_cons_succ, List.set_cons_zero, List.replicate, Option.toList, reduceIte, Bool.not_false, Bool.not_true, Nat.reduceLT, Nat.reduceLeDiff, Nat.reduceAdd, Nat.reduceSub, Nat.reduceMul, Int.reduceLT, Int.reduceLE, Int.reduceNeg, Int.reduceAdd, Int.reduceSub, Int.reduceMul, Int.reduceEq, and_self, true_and, and_true, false_and, and_false, or_false, false_or, true_or, or_true, not_true_eq_false, not_false_eq_true, Bool.false_eq_true, Bool.true_eq_false, decide_true, decide_false, decide_eq_true_eq, Nat.le_refl, Nat.zero_le, ge_iff_le, gt_iff_lt, Nat.lt_irrefl, reduceCtorEq, if_posD, if_negD, w32_id, Int.toNat_natCast, WCo_in, mUp_self, mUp_ne, ne_eq, Bool.true_and, Bool.and_true, Bool.false_and, Bool.and_false, Bool.true_or, Bool.or_true, Bool.false_or, Bool.or_false, Nat.reduceEqDiff, Int.cast_ofNat_Int, Int.reduceToNat, List.getD_cons_succ, List.getD_cons_zero, eq_self, swL, if_true, if_false, nqT, isNl, qX10_pass_14, MJx4a65c_add_9ea2d, MJx4a65c_get_915e3, MJx4a65c_remove_915e3, MJx4a65c_size_8abf5, MX10_all, MX10_carries, MX10_hears, MX10_isOpen, MX10_length, GG1, e0, c1, c_alSize c1, hlI, c_alGet c1 c2 hlen' c3 hfx, ck, g1, g2, g3, g4, g5, e02, cl, h9, r1, r2, r3, hdest]
      refine WCl_of (sm_hears hA2 hQ hH x2 x3) (by omega) (fun v h2 hv => ?_)
      obtain ⟨rfl, -, hA3, hF3⟩ := hv
      change SimA h2 tg ad wa (qR (ad 7)) mc Q oz (hlS S (hrs he (x.2.1 * 6 + x.2.2.1) S.1) (K ++ (x.1, x.2.1, x.2.2.1, x.2.2.2 + 1) :: T)) hu at hA3
      have hlen3 : K.length < (wlS (hlS S (hrs he (x.2.1 * 6 + x.2.2.1) S.1) (K ++ (x.1, x.2.1, x.2.2.1, x.2.2.2 + 1) :: T))).length := by
        show K.length < (K ++ (x.1, x.2.1, x.2.2.1, x.2.2.2 + 1) :: T).length
        simp
      obtain ⟨-, p1, cap', f', p2, p3, p4, p5, p6⟩ := hA3.lrow hlen3
      have e03 := hA3.1
      unfold SimO at e03
      have hfx' := p6 K.length hlen3
      obtain ⟨hA4, hF4⟩ := hA3.rmv hQ hlen3 p2 p3 p4 p5 p6
      have ee : (wlS (hlS S (hrs he (x.2.1 * 6 + x.2.2.1) S.1) (K ++ (x.1, x.2.1, x.2.2.1, x.2.2.2 + 1) :: T))).eraseIdx K.length = K ++ T := er_app
      rw [ee] at hA4
      have nx := ih K (hrs he (x.2.1 * 6 + x.2.2.1) S.1) _ _ _ (qR (wa K.length)) rfl (by simp; omega) hWT hET (hrs_ok hH hO.1) hA4 (((hF.tr hF2).tr hF3).tr hF4) (fun wa mc hi l4 l5 w4 w5 h1 h2 => k wa mc hi l4 l5 w4 w5 (by
        rw [mv]
        exact h1) h2)
      have e9 : ((K.length : Int) + -1 + 1) = (K.length : Int) := by omega
      simp (disch := omega) only [ms_sipush, ms_lconst, ms_ldc2_w, ms_dconst, ms_ldc, ms_getstatic, ms_iload, ms_lload, ms_dload, ms_aload, ms_istore, ms_lstore, ms_dstore, ms_astore, ms_iinc, ms_iadd, ms_isub, ms_imul, ms_idiv, ms_irem, ms_ineg, ms_iand, ms_ior, ms_ishr, ms_ishl, ms_iushr, ms_i2b, ms_i2c, ms_i2l, ms_ladd, ms_lmul, ms_lcmp, ms_i2d, ms_ddiv, ms_dcmp, ms_dup, ms_pop, ms_dup2, ms_dup_x1, ms_aconst_null, ms_ifnull, ms_ifnonnull, ms_checkcast, ms_goto, ms_ifCond, ms_if_icmp, ms_if_acmp_eq, ms_if_acmp_ne, ms_tableswitch, ms_lookupswitch, ms_getfield, ms_putfield, ms_arraylength, ms_iaload, ms_baload, ms_laload, ms_aaload, ms_iastore, ms_bastore, ms_lastore, ms_aastore, ms_newarray, ms_new, ms_anewarray, ms_multianewarray, ms_invokevirtual, ms_invokestatic, ms_invokespecial, ms_invokeinterface, ms_invokedynamic_0, ms_invokedynamic_1, ms_invokedynamic_2, ms_invokedynamic_3, ms_invokedynamic_4, ms_invokedynamic_5, ms_invokedynamic_6, ms_invokedynamic_7, ms_invokedynamic_8, ms_ireturn, ms_lreturn, ms_dreturn, ms_areturn, ms_return_, Wp_cons, WSC_nx, WSC_cl, WSC_rt, WSC_th, WSC_if, lg, lset, lfree, wide, isRf, isRT, fitK, hgt, margs, mpad, rcv, rdF, rdN, rdI, rdQ, mC_eq, mC_ne, mC_lt, mC_ge, mC_gt, mC_le, mset, mnew, h_fst, h_snd, lt_drop0, List.drop_succ_cons, List.drop_zero, List.drop_nil, List.take_succ_cons, List.take_zero, List.reverse_cons, List.reverse_nil, List.nil_append, List.cons_append, List.append_nil, List.length_cons, List.length_nil, List.getElem?_cons_succ, List.getElem?_cons_zero, List.set_cons_succ, List.set_cons_zero, List.replicate, Option.toList, reduceIte, Bool.not_false, Bool.not_true, Nat.reduceLT, Nat.reduceLeDiff, Nat.reduceAdd, Nat.reduceSub, Nat.reduceMul, Int.reduceLT, Int.reduceLE, Int.reduceNeg, Int.reduceAdd, Int.reduceSub, Int.reduceMul, Int.reduceEq, and_self, true_and, and_true, false_and, and_false, or_false, false_or, true_or, or_true, not_true_eq_false, not_false_eq_true, Bool.false_eq_true, Bool.true_eq_false, decide_true, decide_false, decide_eq_true_eq, Nat.le_refl, Nat.zero_le, ge_iff_le, gt_iff_lt, Nat.lt_irrefl, reduceCtorEq, if_posD, if_negD, w32_id, Int.toNat_natCast, WCo_in, mUp_self, mUp_ne, ne_eq, Bool.true_and, Bool.and_true, Bool.false_and, Bool.and_false, Bool.true_or, Bool.or_true, Bool.false_or, Bool.or_false, Nat.reduceEqDiff, Int.cast_ofNat_Int, Int.reduceToNat, List.getD_cons_succ, List.getD_cons_zero, eq_self, swL, if_true, if_false, nqT, isNl, qX10_pass_15, MJx4a65c_add_9ea2d, MJx4a65c_get_915e3, MJx4a65c_remove_915e3, MJx4a65c_size_8abf5, MX10_all, MX10_carries, MX10_hears, MX10_isOpen, MX10_length, GG1, e03, p1, c_alRemove p1 p2 (hA3.n67 hne) hlen3 p3 p5 hfx' (hA3.hel p6), e9]
      exact nx
end PMOV
