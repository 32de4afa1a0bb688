/-! ===== THE HAND-MADE LAND: tavern by tavern; what stays true through an hour ===== -/
section PSND3
variable {L : Nat} {xs : Nat → Int} {fm : Bool} {h : MH} {tg0 : Nat → Nat} {a0 u0 : Nat} {Q : Pn} {oz : Nat → Nat → Int} {S : St8} {hu : Nat → Int}
abbrev sdTq (Q : Pn) (S : St8) (hu : Nat → Int) (X : SS) (t : Nat) : SS := sdT Q.2.1 Q.2.2.1 (frP Q) (toP Q) (woS S) (heS6 S) hu X t
/-- a hushed tavern is passed by -/
theorem sm_pse2h (hQ : PnOk Q) {t : Nat} (ht : t < Q.1) (h0t : hu t ≠ 0) {tg ad wa : Nat → Nat} {ev : MV} {mc : Int} {hi : MH} {l1 l2 l6 l7 : MV} {i3 : Int} {P : (Option MV ⊕ Nat) → MH → Prop} (hA : SimA hi tg ad wa ev mc Q oz S hu)
    (kk : Wp (GG L xs fm) 6 BX10_pass (BX10_pass 25) [qR (ad 0), l1, l2, qI i3, qI t, qI Q.2.2.1, l6, l7] [] hi P) :
    ∀ (m k : Nat), k + m = Q.2.2.1 → Wp (GG L xs fm) 6 BX10_pass (BX10_pass 18) [qR (ad 0), l1, l2, qI i3, qI t, qI k, l6, l7] [] hi P := by
  obtain ⟨q1, q2, q3, q4, -⟩ := id hQ
  have e0 := hA.1
  unfold SimO at e0
  obtain ⟨-, -, ⟨⟨f, e1, -⟩, -⟩, -⟩ := id hA
  obtain ⟨gh, v1, v2⟩ := hA.2.2.2.2.2.1
  have v3 := v2 t ht
  have v4 : ¬ gh t = 0 := by rw [v3]; exact h0t
  intro m
  induction m with
  | zero =>
    intro k hk
    obtain rfl : k = Q.2.2.1 := by omega
    rw [qX10_pass_18]
    simp (disch := omega) only [ms_sipush, ms_lconst, ms_ldc2_w, ms_dconst, ms_ldc, ms_getstatic, ms_iload, ms_lload, ms_dload, ms_aload, ms_istore, ms_lstore, ms_dstore, ms_astore, ms_iinc, ms_iadd, ms_isub, ms_imul, ms_idiv, ms_irem, ms_ineg, ms_iand, ms_ior, ms_ishr, ms_ishl, ms_iushr, ms_i2b, ms_i2c, ms_i2l, ms_ladd, ms_lmul, ms_lcmp, ms_i2d, ms_ddiv, ms_dcmp, ms_dup, ms_pop, ms_dup2, ms_dup_x1, ms_aconst_null, ms_ifnull, ms_ifnonnull, ms_checkcast, ms_goto, ms_ifCond, ms_if_icmp, ms_if_acmp_eq, ms_if_acmp_ne, ms_tableswitch, ms_lookupswitch, ms_getfield, ms_putfield, ms_arraylength, ms_iaload, ms_baload, ms_laload, ms_aaload, ms_iastore, ms_bastore, ms_lastore, ms_aastore, ms_newarray, ms_new, ms_anewarray, ms_multianewarray, ms_invokevirtual, ms_invokestatic, ms_invokespecial, ms_invokeinterface, ms_invokedynamic_0, ms_invokedynamic_1, ms_invokedynamic_2, ms_invokedynamic_3, ms_invokedynamic_4, ms_invokedynamic_5, ms_invokedynamic_6, ms_invokedynamic_7, ms_invokedynamic_8, ms_ireturn, ms_lreturn, ms_dreturn, ms_areturn, ms_return_, Wp_cons, WSC_nx, WSC_cl, WSC_rt, WSC_th, WSC_if, lg, lset, lfree, wide, isRf, isRT, fitK, hgt, margs, mpad, rcv, rdF, rdN, rdI, rdQ, mC_eq, mC_ne, mC_lt, mC_ge, mC_gt, mC_le, mset, mnew, h_fst, h_snd, lt_drop0, List.drop_succ_cons, List.drop_zero, List.drop_nil, List.take_succ_cons, List.take_zero, List.reverse_cons, List.reverse_nil, List.nil_append, List.cons_append, List.append_nil, List.length_cons, List.length_nil, List.getElem?_cons_succ, List.getElem?_cons_zero, List.set_cons_succ, List.set_cons_zero, List.replicate, Option.toList, reduceIte, Bool.not_false, Bool.not_true, Nat.reduceLT, Nat.reduceLeDiff, Nat.reduceAdd, Nat.reduceSub, Nat.reduceMul, Int.reduceLT, Int.reduceLE, Int.reduceNeg, Int.reduceAdd, Int.reduceSub, Int.reduceMul, Int.reduceEq, and_self, true_and, and_true, false_and, and_false, or_false, false_or, true_or, or_true, not_true_eq_false, not_false_eq_true, Bool.false_eq_true, Bool.true_eq_false, decide_true, decide_false, decide_eq_true_eq, Nat.le_refl, Nat.zero_le, ge_iff_le, gt_iff_lt, Nat.lt_irrefl, reduceCtorEq, if_posD, if_negD, w32_id, Int.toNat_natCast, WCo_in, mUp_self, mUp_ne, ne_eq, Bool.true_and, Bool.and_true, Bool.false_and, Bool.and_false, Bool.true_or, Bool.or_true, Bool.false_or, Bool.or_false, Nat.reduceEqDiff, Int.cast_ofNat_Int, Int.reduceToNat, List.getD_cons_succ, List.getD_cons_zero, eq_self, swL, if_true, if_false, nqT, isNl, qX10_pass_24, MJx4a65c_add_9ea2d, MJx4a65c_get_915e3, MJx4a65c_remove_915e3, MJx4a65c_size_8abf5, MX10_all, MX10_carries, MX10_hears, MX10_isOpen, MX10_length, GG1, e0, e1]
    exact kk
  | succ m ih =>
    intro k hk
    have nx := ih (k + 1) (by omega)
    rw [qX10_pass_18]
    simp (disch := omega) only [ms_sipush, ms_lconst, ms_ldc2_w, ms_dconst, ms_ldc, ms_getstatic, ms_iload, ms_lload, ms_dload, ms_aload, ms_istore, ms_lstore, ms_dstore, ms_astore, ms_iinc, ms_iadd, ms_isub, ms_imul, ms_idiv, ms_irem, ms_ineg, ms_iand, ms_ior, ms_ishr, ms_ishl, ms_iushr, ms_i2b, ms_i2c, ms_i2l, ms_ladd, ms_lmul, ms_lcmp, ms_i2d, ms_ddiv, ms_dcmp, ms_dup, ms_pop, ms_dup2, ms_dup_x1, ms_aconst_null, ms_ifnull, ms_ifnonnull, ms_checkcast, ms_goto, ms_ifCond, ms_if_icmp, ms_if_acmp_eq, ms_if_acmp_ne, ms_tableswitch, ms_lookupswitch, ms_getfield, ms_putfield, ms_arraylength, ms_iaload, ms_baload, ms_laload, ms_aaload, ms_iastore, ms_bastore, ms_lastore, ms_aastore, ms_newarray, ms_new, ms_anewarray, ms_multianewarray, ms_invokevirtual, ms_invokestatic, ms_invokespecial, ms_invokeinterface, ms_invokedynamic_0, ms_invokedynamic_1, ms_invokedynamic_2, ms_invokedynamic_3, ms_invokedynamic_4, ms_invokedynamic_5, ms_invokedynamic_6, ms_invokedynamic_7, ms_invokedynamic_8, ms_ireturn, ms_lreturn, ms_dreturn, ms_areturn, ms_return_, Wp_cons, WSC_nx, WSC_cl, WSC_rt, WSC_th, WSC_if, lg, lset, lfree, wide, isRf, isRT, fitK, hgt, margs, mpad, rcv, rdF, rdN, rdI, rdQ, mC_eq, mC_ne, mC_lt, mC_ge, mC_gt, mC_le, mset, mnew, h_fst, h_snd, lt_drop0, List.drop_succ_cons, List.drop_zero, List.drop_nil, List.take_succ_cons, List.take_zero, List.reverse_cons, List.reverse_nil, List.nil_append, List.cons_append, List.append_nil, List.length_cons, List.length_nil, List.getElem?_cons_succ, List.getElem?_cons_zero, List.set_cons_succ, List.set_cons_zero, List.replicate, Option.toList, reduceIte, Bool.not_false, Bool.not_true, Nat.reduceLT, Nat.reduceLeDiff, Nat.reduceAdd, Nat.reduceSub, Nat.reduceMul, Int.reduceLT, Int.reduceLE, Int.reduceNeg, Int.reduceAdd, Int.reduceSub, Int.reduceMul, Int.reduceEq, and_self, true_and, and_true, false_and, and_false, or_false, false_or, true_or, or_true, not_true_eq_false, not_false_eq_true, Bool.false_eq_true, Bool.true_eq_false, decide_true, decide_false, decide_eq_true_eq, Nat.le_refl, Nat.zero_le, ge_iff_le, gt_iff_lt, Nat.lt_irrefl, reduceCtorEq, if_posD, if_negD, w32_id, Int.toNat_natCast, WCo_in, mUp_self, mUp_ne, ne_eq, Bool.true_and, Bool.and_true, Bool.false_and, Bool.and_false, Bool.true_or, Bool.or_true, Bool.false_or, Bool.or_false, Nat.reduceEqDiff, Int.cast_ofNat_Int, Int.reduceToNat, List.getD_cons_succ, List.getD_cons_zero, eq_self, swL, if_true, if_false, nqT, isNl, qX10_pass_24, MJx4a65c_add_9ea2d, MJx4a65c_get_915e3, MJx4a65c_remove_915e3, MJx4a65c_size_8abf5, MX10_all, MX10_carries, MX10_hears, MX10_isOpen, MX10_length, GG1, e0, e1, v1, v4]
    exact nx
theorem sm_pse3 (hQ : PnOk Q) (hR : RdOk Q.1 Q.2.1 (frP Q) (toP Q) (miS S) (woS S)) (hH : HeO Q (heS6 S)) {X : SS} (hX : SdOk Q.1 Q.2.1 Q.2.2.1 (frP Q) (toP Q) X) {l1 l2 : MV} {i3 : Int} {P : (Option MV ⊕ Nat) → MH → Prop}
    (kk : ∀ tg ad wa ev mc hi l4 l5 l6 l7, wide l4 = false → wide l5 = false → wide l6 = false → wide l7 = false → ad 0 = a0 → SimA hi tg ad wa ev mc Q oz (sxS S (sdTq Q S hu X Q.1)) hu → (∃ c, c + uS (sdTq Q S hu X Q.1).1 = u0 ∧ Fx tg0 tg (28 * c) (4256 * c) h hi) → Wp (GG L xs fm) 6 BX10_pass (BX10_pass 26) [qR a0, l1, l2, qI i3, l4, l5, l6, l7] [] hi P) :
    ∀ (m t : Nat) (tg ad wa : Nat → Nat) (ev : MV) (mc : Int) (hi : MH) (l5 l6 l7 : MV), wide l5 = false → wide l6 = false → wide l7 = false → t + m = Q.1 → ad 0 = a0 → SimA hi tg ad wa ev mc Q oz (sxS S (sdTq Q S hu X t)) hu → (∃ c, c + uS (sdTq Q S hu X t).1 = u0 ∧ Fx tg0 tg (28 * c) (4256 * c) h hi) → Wp (GG L xs fm) 6 BX10_pass (BX10_pass 17) [qR a0, l1, l2, qI i3, qI t, l5, l6, l7] [] hi P := by
  obtain ⟨q1, q2, q3, q4, -⟩ := id hQ
  intro m
  induction m with
  | zero =>
    intro t tg ad wa ev mc hi l5 l6 l7 w5 w6 w7 ht h0 hA hF
    obtain rfl : t = Q.1 := by omega
    have nx := kk tg ad wa ev mc hi (qI Q.1) l5 l6 l7 rfl w5 w6 w7 h0 hA hF
    subst h0
    have e0 := hA.1
    unfold SimO at e0
    rw [qX10_pass_17]
    simp (disch := omega) only [ms_sipush, ms_lconst, ms_ldc2_w, ms_dconst, ms_ldc, ms_getstatic, ms_iload, ms_lload, ms_dload, ms_aload, ms_istore, ms_lstore, ms_dstore, ms_astore, ms_iinc, ms_iadd, ms_isub, ms_imul, ms_idiv, ms_irem, ms_ineg, ms_iand, ms_ior, ms_ishr, ms_ishl, ms_iushr, ms_i2b, ms_i2c, ms_i2l, ms_ladd, ms_lmul, ms_lcmp, ms_i2d, ms_ddiv, ms_dcmp, ms_dup, ms_pop, ms_dup2, ms_dup_x1, ms_aconst_null, ms_ifnull, ms_ifnonnull, ms_checkcast, ms_goto, ms_ifCond, ms_if_icmp, ms_if_acmp_eq, ms_if_acmp_ne, ms_tableswitch, ms_lookupswitch, ms_getfield, ms_putfield, ms_arraylength, ms_iaload, ms_baload, ms_laload, ms_aaload, ms_iastore, ms_bastore, ms_lastore, ms_aastore, ms_newarray, ms_new, ms_anewarray, ms_multianewarray, ms_invokevirtual, ms_invokestatic, ms_invokespecial, ms_invokeinterface, ms_invokedynamic_0, ms_invokedynamic_1, ms_invokedynamic_2, ms_invokedynamic_3, ms_invokedynamic_4, ms_invokedynamic_5, ms_invokedynamic_6, ms_invokedynamic_7, ms_invokedynamic_8, ms_ireturn, ms_lreturn, ms_dreturn, ms_areturn, ms_return_, Wp_cons, WSC_nx, WSC_cl, WSC_rt, WSC_th, WSC_if, lg, lset, lfree, wide, isRf, isRT, fitK, hgt, margs, mpad, rcv, rdF, rdN, rdI, rdQ, mC_eq, mC_ne, mC_lt, mC_ge, mC_gt, mC_le, mset, mnew, h_fst, h_snd, lt_drop0, List.drop_succ_cons, List.drop_zero, List.drop_nil, List.take_succ_cons, List.take_zero, List.reverse_cons, List.reverse_nil, List.nil_append, List.cons_append, List.append_nil, List.length_cons, List.length_nil, List.getElem?_cons_succ, List.getElem?_cons_zero, List.set_cons_succ, List.set_cons_zero, List.replicate, Option.toList, reduceIte, Bool.not_false, Bool.not_true, Nat.reduceLT, Nat.reduceLeDiff, Nat.reduceAdd, Nat.reduceSub, Nat.reduceMul, Int.reduceLT, Int.reduceLE, Int.reduceNeg, Int.reduceAdd, Int.reduceSub, Int.reduceMul, Int.reduceEq, and_self, true_and, and_true, false_and, and_false, or_false, false_or, true_or, or_true, not_true_eq_false, not_false_eq_true, Bool.false_eq_true, Bool.true_eq_false, decide_true, decide_false, decide_eq_true_eq, Nat.le_refl, Nat.zero_le, ge_iff_le, gt_iff_lt, Nat.lt_irrefl, reduceCtorEq, if_posD, if_negD, w32_id, Int.toNat_natCast, WCo_in, mUp_self, mUp_ne, ne_eq, Bool.true_and, Bool.and_true, Bool.false_and, Bool.and_false, Bool.true_or, Bool.or_true, Bool.false_or, Bool.or_false, Nat.reduceEqDiff, Int.cast_ofNat_Int, Int.reduceToNat, List.getD_cons_succ, List.getD_cons_zero, eq_self, swL, if_true, if_false, nqT, isNl, qX10_pass_25, MJx4a65c_add_9ea2d, MJx4a65c_get_915e3, MJx4a65c_remove_915e3, MJx4a65c_size_8abf5, MX10_all, MX10_carries, MX10_hears, MX10_isOpen, MX10_length, GG1, e0]
    exact nx
  | succ m ih =>
    intro t tg ad wa ev mc hi l5 l6 l7 w5 w6 w7 ht h0 hA hF
    have htn : t < Q.1 := by omega
    have ih' := fun tg ad wa ev mc hi l5 l6 l7 w5 w6 w7 h0 hA hF => ih (t + 1) tg ad wa ev mc hi l5 l6 l7 w5 w6 w7 (by omega) h0 hA hF
    have hY := sdT_ok (he := heS6 S) (hu := hu) hR q3 hX t (by omega)
    have es : sdTq Q S hu X (t + 1) = if hu t = 0 then sdK Q.2.1 (frP Q) (toP Q) (woS S) (heS6 S) t (sdTq Q S hu X t) Q.2.2.1 else sdTq Q S hu X t := rfl
    have e0 := hA.1
    unfold SimO at e0
    subst h0
    rw [qX10_pass_17]
    by_cases h9 : hu t = 0
    · rw [if_pos h9] at es
      have nx := sm_pse2 (L := L) (xs := xs) (fm := fm) (a0 := ad 0) (u0 := u0) (h := h) (tg0 := tg0) (oz := oz) (l1 := l1) (l2 := l2) (i3 := i3) (P := P) (S := S) (X := sdTq Q S hu X t) hQ hR hH htn hY h9 (fun tg ad' wa ev mc hi l5 l6 l7 w5 w6 w7 h0 hA hF => by
        have nx := ih' tg ad' wa ev mc hi l5 l6 l7 w5 w6 w7 h0 (by rw [es]; exact hA) (by rw [es]; exact hF)
        rw [qX10_pass_25]
        simp (disch := omega) only [ms_sipush, ms_lconst, ms_ldc2_w, ms_dconst, ms_ldc, ms_getstatic, ms_iload, ms_lload, ms_dload, ms_aload, ms_istore, ms_lstore, ms_dstore, ms_astore, ms_iinc, ms_iadd, ms_isub, ms_imul, ms_idiv, ms_irem, ms_ineg, ms_iand, ms_ior, ms_ishr, ms_ishl, ms_iushr, ms_i2b, ms_i2c, ms_i2l, ms_ladd, ms_lmul, ms_lcmp, ms_i2d, ms_ddiv, ms_dcmp, ms_dup, ms_pop, ms_dup2, ms_dup_x1, ms_aconst_null, ms_ifnull, ms_ifnonnull, ms_checkcast, ms_goto, ms_ifCond, ms_if_icmp, ms_if_acmp_eq, ms_if_acmp_ne, ms_tableswitch, ms_lookupswitch, ms_getfield, ms_putfield, ms_arraylength, ms_iaload, ms_baload, ms_laload, ms_aaload, ms_iastore, ms_bastore, ms_lastore, ms_aastore, ms_newarray, ms_new, ms_anewarray, ms_multianewarray, ms_invokevirtual, ms_invokestatic, ms_invokespecial, ms_invokeinterface, ms_invokedynamic_0, ms_invokedynamic_1, ms_invokedynamic_2, ms_invokedynamic_3, ms_invokedynamic_4, ms_invokedynamic_5, ms_invokedynamic_6, ms_invokedynamic_7, ms_invokedynamic_8, ms_ireturn, ms_lreturn, ms_dreturn, ms_areturn, ms_return_, Wp_cons, WSC_nx, WSC_cl, WSC_rt, WSC_th, WSC_if, lg, lset, lfree, wide, isRf, isRT, fitK, hgt, margs, mpad, rcv, rdF, rdN, rdI, rdQ, mC_eq, mC_ne, mC_lt, mC_ge, mC_gt, mC_le, mset, mnew, h_fst, h_snd, lt_drop0, List.drop_succ_cons, List.drop_zero, List.drop_nil, List.take_succ_cons, List.take_zero, List.reverse_cons, List.reverse_nil, List.nil_append, List.cons_append, List.append_nil, List.length_cons, List.length_nil, List.getElem?_cons_succ, List.getElem?_cons_zero, List.set_cons_succ, List.set_cons_zero, List.replicate, Option.toList, reduceIte, Bool.not_false, Bool.not_true, Nat.reduceLT, Nat.reduceLeDiff, Nat.reduceAdd, Nat.reduceSub, Nat.reduceMul, Int.reduceLT, Int.reduceLE, Int.reduceNeg, Int.reduceAdd, Int.reduceSub, Int.reduceMul, Int.reduceEq, and_self, true_and, and_true, false_and, and_false, or_false, false_or, true_or, or_true, not_true_eq_false, not_false_eq_true, Bool.false_eq_true, Bool.true_eq_false, decide_true, decide_false, decide_eq_true_eq, Nat.le_refl, Nat.zero_le, ge_iff_le, gt_iff_lt, Nat.lt_irrefl, reduceCtorEq, if_posD, if_negD, w32_id, Int.toNat_natCast, WCo_in, mUp_self, mUp_ne, ne_eq, Bool.true_and, Bool.and_true, Bool.false_and, Bool.and_false, Bool.true_or, Bool.or_true, Bool.false_or, Bool.or_false, Nat.reduceEqDiff, Int.cast_ofNat_Int, Int.reduceToNat, List.getD_cons_succ, List.getD_cons_zero, eq_self, swL, if_true, if_false, nqT, isNl, qX10_pass_26, MJx4a65c_add_9ea2d, MJx4a65c_get_915e3, MJx4a65c_remove_915e3, MJx4a65c_size_8abf5, MX10_all, MX10_carries, MX10_hears, MX10_isOpen, MX10_length, GG1]
        exact nx) Q.2.2.1 0 tg ad wa ev mc hi l6 l7 w6 w7 (by omega) rfl hA hF
      simp (disch := omega) only [ms_sipush, ms_lconst, ms_ldc2_w, ms_dconst, ms_ldc, ms_getstatic, ms_iload, ms_lload, ms_dload, ms_aload, ms_istore, ms_lstore, ms_dstore, ms_astore, ms_iinc, ms_iadd, ms_isub, ms_imul, ms_idiv, ms_irem, ms_ineg, ms_iand, ms_ior, ms_ishr, ms_ishl, ms_iushr, ms_i2b, ms_i2c, ms_i2l, ms_ladd, ms_lmul, ms_lcmp, ms_i2d, ms_ddiv, ms_dcmp, ms_dup, ms_pop, ms_dup2, ms_dup_x1, ms_aconst_null, ms_ifnull, ms_ifnonnull, ms_checkcast, ms_goto, ms_ifCond, ms_if_icmp, ms_if_acmp_eq, ms_if_acmp_ne, ms_tableswitch, ms_lookupswitch, ms_getfield, ms_putfield, ms_arraylength, ms_iaload, ms_baload, ms_laload, ms_aaload, ms_iastore, ms_bastore, ms_lastore, ms_aastore, ms_newarray, ms_new, ms_anewarray, ms_multianewarray, ms_invokevirtual, ms_invokestatic, ms_invokespecial, ms_invokeinterface, ms_invokedynamic_0, ms_invokedynamic_1, ms_invokedynamic_2, ms_invokedynamic_3, ms_invokedynamic_4, ms_invokedynamic_5, ms_invokedynamic_6, ms_invokedynamic_7, ms_invokedynamic_8, ms_ireturn, ms_lreturn, ms_dreturn, ms_areturn, ms_return_, Wp_cons, WSC_nx, WSC_cl, WSC_rt, WSC_th, WSC_if, lg, lset, lfree, wide, isRf, isRT, fitK, hgt, margs, mpad, rcv, rdF, rdN, rdI, rdQ, mC_eq, mC_ne, mC_lt, mC_ge, mC_gt, mC_le, mset, mnew, h_fst, h_snd, lt_drop0, List.drop_succ_cons, List.drop_zero, List.drop_nil, List.take_succ_cons, List.take_zero, List.reverse_cons, List.reverse_nil, List.nil_append, List.cons_append, List.append_nil, List.length_cons, List.length_nil, List.getElem?_cons_succ, List.getElem?_cons_zero, List.set_cons_succ, List.set_cons_zero, List.replicate, Option.toList, reduceIte, Bool.not_false, Bool.not_true, Nat.reduceLT, Nat.reduceLeDiff, Nat.reduceAdd, Nat.reduceSub, Nat.reduceMul, Int.reduceLT, Int.reduceLE, Int.reduceNeg, Int.reduceAdd, Int.reduceSub, Int.reduceMul, Int.reduceEq, and_self, true_and, and_true, false_and, and_false, or_false, false_or, true_or, or_true, not_true_eq_false, not_false_eq_true, Bool.false_eq_true, Bool.true_eq_false, decide_true, decide_false, decide_eq_true_eq, Nat.le_refl, Nat.zero_le, ge_iff_le, gt_iff_lt, Nat.lt_irrefl, reduceCtorEq, if_posD, if_negD, w32_id, Int.toNat_natCast, WCo_in, mUp_self, mUp_ne, ne_eq, Bool.true_and, Bool.and_true, Bool.false_and, Bool.and_false, Bool.true_or, Bool.or_true, Bool.false_or, Bool.or_false, Nat.reduceEqDiff, Int.cast_ofNat_Int, Int.reduceToNat, List.getD_cons_succ, List.getD_cons_zero, eq_self, swL, if_true, if_false, nqT, isNl, qX10_pass_25, MJx4a65c_add_9ea2d, MJx4a65c_get_915e3, MJx4a65c_remove_915e3, MJx4a65c_size_8abf5, MX10_all, MX10_carries, MX10_hears, MX10_isOpen, MX10_length, GG1, e0]
      exact nx
    · rw [if_neg h9] at es
      have nx := sm_pse2h (L := L) (xs := xs) (fm := fm) (l1 := l1) (l2 := l2) (l6 := l6) (l7 := l7) (i3 := i3) (P := P) hQ htn h9 hA (by
        have nx := ih' tg ad wa ev mc hi (qI Q.2.2.1) l6 l7 rfl w6 w7 rfl (by rw [es]; exact hA) (by rw [es]; exact hF)
        rw [qX10_pass_25]
        simp (disch := omega) only [ms_sipush, ms_lconst, ms_ldc2_w, ms_dconst, ms_ldc, ms_getstatic, ms_iload, ms_lload, ms_dload, ms_aload, ms_istore, ms_lstore, ms_dstore, ms_astore, ms_iinc, ms_iadd, ms_isub, ms_imul, ms_idiv, ms_irem, ms_ineg, ms_iand, ms_ior, ms_ishr, ms_ishl, ms_iushr, ms_i2b, ms_i2c, ms_i2l, ms_ladd, ms_lmul, ms_lcmp, ms_i2d, ms_ddiv, ms_dcmp, ms_dup, ms_pop, ms_dup2, ms_dup_x1, ms_aconst_null, ms_ifnull, ms_ifnonnull, ms_checkcast, ms_goto, ms_ifCond, ms_if_icmp, ms_if_acmp_eq, ms_if_acmp_ne, ms_tableswitch, ms_lookupswitch, ms_getfield, ms_putfield, ms_arraylength, ms_iaload, ms_baload, ms_laload, ms_aaload, ms_iastore, ms_bastore, ms_lastore, ms_aastore, ms_newarray, ms_new, ms_anewarray, ms_multianewarray, ms_invokevirtual, ms_invokestatic, ms_invokespecial, ms_invokeinterface, ms_invokedynamic_0, ms_invokedynamic_1, ms_invokedynamic_2, ms_invokedynamic_3, ms_invokedynamic_4, ms_invokedynamic_5, ms_invokedynamic_6, ms_invokedynamic_7, ms_invokedynamic_8, ms_ireturn, ms_lreturn, ms_dreturn, ms_areturn, ms_return_, Wp_cons, WSC_nx, WSC_cl, WSC_rt, WSC_th, WSC_if, lg, lset, lfree, wide, isRf, isRT, fitK, hgt, margs, mpad, rcv, rdF, rdN, rdI, rdQ, mC_eq, mC_ne, mC_lt, mC_ge, mC_gt, mC_le, mset, mnew, h_fst, h_snd, lt_drop0, List.drop_succ_cons, List.drop_zero, List.drop_nil, List.take_succ_cons, List.take_zero, List.reverse_cons, List.reverse_nil, List.nil_append, List.cons_append, List.append_nil, List.length_cons, List.length_nil, List.getElem?_cons_succ, List.getElem?_cons_zero, List.set_cons_succ, List.set_cons_zero, List.replicate, Option.toList, reduceIte, Bool.not_false, Bool.not_true, Nat.reduceLT, Nat.reduceLeDiff, Nat.reduceAdd, Nat.reduceSub, Nat.reduceMul, Int.reduceLT, Int.reduceLE, Int.reduceNeg, Int.reduceAdd, Int.reduceSub, Int.reduceMul, Int.reduceEq, and_self, true_and, and_true, false_and, and_false, or_false, false_or, true_or, or_true, not_true_eq_false, not_false_eq_true, Bool.false_eq_true, Bool.true_eq_false, decide_true, decide_false, decide_eq_true_eq, Nat.le_refl, Nat.zero_le, ge_iff_le, gt_iff_lt, Nat.lt_irrefl, reduceCtorEq, if_posD, if_negD, w32_id, Int.toNat_natCast, WCo_in, mUp_self, mUp_ne, ne_eq, Bool.true_and, Bool.and_true, Bool.false_and, Bool.and_false, Bool.true_or, Bool.or_true, Bool.false_or, Bool.or_false, Nat.reduceEqDiff, Int.cast_ofNat_Int, Int.reduceToNat, List.getD_cons_succ, List.getD_cons_zero, eq_self, swL, if_true, if_false, nqT, isNl, qX10_pass_26, MJx4a65c_add_9ea2d, MJx4a65c_get_915e3, MJx4a65c_remove_915e3, MJx4a65c_size_8abf5, MX10_all, MX10_carries, MX10_hears, MX10_isOpen, MX10_length, GG1]
        exact nx) Q.2.2.1 0 (by omega)
      simp (disch := omega) only [ms_sipush, ms_lconst, ms_ldc2_w, ms_dconst, ms_ldc, ms_getstatic, ms_iload, ms_lload, ms_dload, ms_aload, ms_istore, ms_lstore, ms_dstore, ms_astore, ms_iinc, ms_iadd, ms_isub, ms_imul, ms_idiv, ms_irem, ms_ineg, ms_iand, ms_ior, ms_ishr, ms_ishl, ms_iushr, ms_i2b, ms_i2c, ms_i2l, ms_ladd, ms_lmul, ms_lcmp, ms_i2d, ms_ddiv, ms_dcmp, ms_dup, ms_pop, ms_dup2, ms_dup_x1, ms_aconst_null, ms_ifnull, ms_ifnonnull, ms_checkcast, ms_goto, ms_ifCond, ms_if_icmp, ms_if_acmp_eq, ms_if_acmp_ne, ms_tableswitch, ms_lookupswitch, ms_getfield, ms_putfield, ms_arraylength, ms_iaload, ms_baload, ms_laload, ms_aaload, ms_iastore, ms_bastore, ms_lastore, ms_aastore, ms_newarray, ms_new, ms_anewarray, ms_multianewarray, ms_invokevirtual, ms_invokestatic, ms_invokespecial, ms_invokeinterface, ms_invokedynamic_0, ms_invokedynamic_1, ms_invokedynamic_2, ms_invokedynamic_3, ms_invokedynamic_4, ms_invokedynamic_5, ms_invokedynamic_6, ms_invokedynamic_7, ms_invokedynamic_8, ms_ireturn, ms_lreturn, ms_dreturn, ms_areturn, ms_return_, Wp_cons, WSC_nx, WSC_cl, WSC_rt, WSC_th, WSC_if, lg, lset, lfree, wide, isRf, isRT, fitK, hgt, margs, mpad, rcv, rdF, rdN, rdI, rdQ, mC_eq, mC_ne, mC_lt, mC_ge, mC_gt, mC_le, mset, mnew, h_fst, h_snd, lt_drop0, List.drop_succ_cons, List.drop_zero, List.drop_nil, List.take_succ_cons, List.take_zero, List.reverse_cons, List.reverse_nil, List.nil_append, List.cons_append, List.append_nil, List.length_cons, List.length_nil, List.getElem?_cons_succ, List.getElem?_cons_zero, List.set_cons_succ, List.set_cons_zero, List.replicate, Option.toList, reduceIte, Bool.not_false, Bool.not_true, Nat.reduceLT, Nat.reduceLeDiff, Nat.reduceAdd, Nat.reduceSub, Nat.reduceMul, Int.reduceLT, Int.reduceLE, Int.reduceNeg, Int.reduceAdd, Int.reduceSub, Int.reduceMul, Int.reduceEq, and_self, true_and, and_true, false_and, and_false, or_false, false_or, true_or, or_true, not_true_eq_false, not_false_eq_true, Bool.false_eq_true, Bool.true_eq_false, decide_true, decide_false, decide_eq_true_eq, Nat.le_refl, Nat.zero_le, ge_iff_le, gt_iff_lt, Nat.lt_irrefl, reduceCtorEq, if_posD, if_negD, w32_id, Int.toNat_natCast, WCo_in, mUp_self, mUp_ne, ne_eq, Bool.true_and, Bool.and_true, Bool.false_and, Bool.and_false, Bool.true_or, Bool.or_true, Bool.false_or, Bool.or_false, Nat.reduceEqDiff, Int.cast_ofNat_Int, Int.reduceToNat, List.getD_cons_succ, List.getD_cons_zero, eq_self, swL, if_true, if_false, nqT, isNl, qX10_pass_25, MJx4a65c_add_9ea2d, MJx4a65c_get_915e3, MJx4a65c_remove_915e3, MJx4a65c_size_8abf5, MX10_all, MX10_carries, MX10_hears, MX10_isOpen, MX10_length, GG1, e0]
      exact nx
theorem we_ls {wo : Nat → Int} {l : List Wr} (h : WeOk Q l) : WeOk Q (lsW wo l) := fun x hx => h x (List.mem_filter.mp hx).1
theorem we_mv {mi wo : Nat → Int} {hr : Int} : ∀ {l : List Wr} {he : Nat → Int}, WeOk Q l → WeOk Q (mvW mi wo hr l he).1
  | [], _, h => h
  | x :: l, he, h => by
    unfold mvW
    split
    · intro y hy
      rcases List.mem_cons.mp hy with rfl | hy
      · exact h x List.mem_cons_self
      · exact we_mv (fun z hz => h z (List.mem_cons_of_mem _ hz)) y hy
    · exact we_mv (fun z hz => h z (List.mem_cons_of_mem _ hz))
theorem he_mv {mi wo : Nat → Int} {hr : Int} (h0 : 0 ≤ hr) : ∀ {l : List Wr} {he : Nat → Int}, HeO Q he → HeO Q (mvW mi wo hr l he).2.1
  | [], _, h => h
  | x :: l, he, h => by
    unfold mvW
    split
    · exact he_mv h0 h
    · exact he_mv h0 (hrs_ok h h0)
theorem we_sf {wo : Nat → Int} {t k : Nat} {l : List Wr} (h : WeOk Q l) : ∀ r, WeOk Q (sfK (frP Q) (toP Q) wo t k l r)
  | 0 => h
  | r + 1 => by
    unfold sfK
    split
    · intro y hy
      rcases List.mem_append.mp hy with hy | hy
      · exact we_sf h r y hy
      · rw [List.mem_singleton] at hy
        subst hy
        show (if frP Q r = t then toP Q r else frP Q r) = toP Q r ∨ (if frP Q r = t then toP Q r else frP Q r) = frP Q r
        split
        · exact Or.inl rfl
        · exact Or.inr rfl
    · exact we_sf h r
theorem we_sd {wo he : Nat → Int} {t k : Nat} {X : SS} {c : Nat} (h : WeOk Q X.2) : WeOk Q (sdS c (frP Q) (toP Q) wo he t k X).2 := by
  unfold sdS
  split
  · exact h
  · split
    · exact we_sf h c
    · exact h
theorem we_sdK {wo he : Nat → Int} {t : Nat} {X : SS} {c : Nat} (h : WeOk Q X.2) : ∀ k, WeOk Q (sdK c (frP Q) (toP Q) wo he t X k).2
  | 0 => h
  | k + 1 => we_sd (we_sdK h k)
theorem we_sdT {wo he hu : Nat → Int} {X : SS} {c u : Nat} (h : WeOk Q X.2) : ∀ t, WeOk Q (sdT c u (frP Q) (toP Q) wo he hu X t).2
  | 0 => h
  | t + 1 => by
    unfold sdT
    split
    · exact we_sdK (we_sdT h t) u
    · exact we_sdT h t
/-- what an hour keeps -/
def SmOk (Q : Pn) (S : St8) : Prop := SOk Q S ∧ HeO Q (heS6 S) ∧ WeOk Q (wlS S) ∧ (-2147483648 ≤ S.2.1 ∧ S.2.1 < 2147483648) ∧ (-2147483648 ≤ S.2.2.1 ∧ S.2.2.1 < 2147483648)
theorem hour_ok (hQ : PnOk Q) (h : SmOk Q S) (h0 : 0 ≤ S.1) : SmOk Q (hourS Q S) := by
  obtain ⟨h1, h2, h3, h4, h5⟩ := h
  exact ⟨hourS_ok hQ h1, he_mv h0 (bgK_ok h2 h0 _), we_sdT (we_mv (we_ls h3)) _, orK_ca h4 _, w32_rg _⟩
end PSND3
