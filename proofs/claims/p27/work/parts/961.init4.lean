/-! ===== THE CLASS IS MADE: the whole object ===== -/
section INIT4
variable {L : Nat} {xs : Nat → Int} {fm : Bool} {hc : Nat → MC} {cn sl : Nat}
theorem pl_empty {hc : Nat → MC} {b : Nat} (h : PlA hc b 0 0 0 0 0 0 (fun _ => 45) (fun _ => 0) (fun _ _ => 0)) : PlV hc b Q00 (fun _ => 0) :=
  ⟨0, 0, _, _, _, h, by decide, by decide, fun i hi => absurd hi (Nat.not_lt_zero _), fun r hr => absurd hr (Nat.not_lt_zero _), fun r hr => absurd hr (Nat.not_lt_zero _), fun r hr => absurd hr (Nat.not_lt_zero _)⟩
theorem la_empty {hc : Nat → MC} {b pb : Nat} (h : LaA hc b pb 0 0 0 0 0 (fun _ _ => 0)) (hr : RoA hc (b + 1) 0 0 (-2) 0 0 (fun _ _ => 0)) : LaV hc b pb Q00 (begS 0 (fun _ => 0)) :=
  ⟨⟨-2, 0, 0, fun _ _ => 0, hr, ⟨by decide, by decide, fun r hr => absurd hr (Nat.not_lt_zero _)⟩, fun r hr => absurd hr (Nat.not_lt_zero _), fun r hr => absurd hr (Nat.not_lt_zero _), Or.inl rfl⟩, 0, fun _ _ => 0, h, fun i hi => absurd hi (Nat.not_lt_zero _), fun i hi => rfl, fun i x hx => by cases hx⟩
theorem i_cl (h0 : hc 0 = cO 9 [qN, qI 0, qI 0, qN, qN, qN, qN, qN, qN]) : Sp (GG L xs fm) 2 mX9_init [qR 0] (hc, 1, cn, sl) (fun v h2 => v = .inl none ∧ Mk 0 107 8677 hc (cn + 1) sl (h2.1, h2.2.1, h2.2.2.1 + 1, h2.2.2.2) ∧ ClA h2.1 2 18 Q00 (begS 0 (fun _ => 0)) (fun _ => 0) 0 (-1)) := by
  refine Sp_of MX9_init ?_
  generalize hP : (fun (v : Option MV ⊕ Nat) (h2 : MH) => v = .inl none ∧ Mk 0 107 8677 hc (cn + 1) sl (h2.1, h2.2.1, h2.2.2.1 + 1, h2.2.2.2) ∧ ClA h2.1 2 18 Q00 (begS 0 (fun _ => 0)) (fun _ => 0) 0 (-1)) = Post
  have d5 : mdef (CF 5) = [qN, qN, qI 0, qI 0, qI 0, qI 0, qI 0, qN, qN, qN, qN, qN, qN, qN, qN, qN] := rfl
  have l5 : (CF 5).length = 16 := rfl
  have d1 : mdef (CF 1) = [qN, qI 0, qN] := rfl
  have l1 : (CF 1).length = 3 := rfl
  have d4 : mdef (CF 4) = [qN, qN, qI 0, qN, qI 0, qI 0] := rfl
  have l4 : (CF 4).length = 6 := rfl
  have d3 : mdef (CF 3) = [qN, qN, qN, qI 0, qI 0, qI 0, qN, qN, qN, qI 0, qN, qN, qN, qN] := rfl
  have l3 : (CF 3).length = 14 := rfl
  simp (disch := omega) only [ms_sipush, ms_lconst, ms_ldc2_w, ms_dconst, ms_ldc, ms_getstatic, ms_iload, ms_lload, ms_dload, ms_aload, ms_istore, ms_lstore, ms_dstore, ms_astore, ms_iinc, ms_iadd, ms_isub, ms_imul, ms_idiv, ms_irem, ms_ineg, ms_iand, ms_ior, ms_ishr, ms_ishl, ms_iushr, ms_i2b, ms_i2c, ms_i2l, ms_ladd, ms_lmul, ms_lcmp, ms_i2d, ms_ddiv, ms_dcmp, ms_dup, ms_pop, ms_dup2, ms_dup_x1, ms_aconst_null, ms_ifnull, ms_ifnonnull, ms_checkcast, ms_goto, ms_ifCond, ms_if_icmp, ms_if_acmp_eq, ms_if_acmp_ne, ms_tableswitch, ms_lookupswitch, ms_getfield, ms_putfield, ms_arraylength, ms_iaload, ms_baload, ms_laload, ms_aaload, ms_iastore, ms_bastore, ms_lastore, ms_aastore, ms_newarray, ms_new, ms_anewarray, ms_multianewarray, ms_invokevirtual, ms_invokestatic, ms_invokespecial, ms_invokeinterface, ms_invokedynamic_0, ms_invokedynamic_1, ms_invokedynamic_2, ms_invokedynamic_3, ms_invokedynamic_4, ms_invokedynamic_5, ms_invokedynamic_6, ms_invokedynamic_7, ms_invokedynamic_8, ms_ireturn, ms_lreturn, ms_dreturn, ms_areturn, ms_return_, Wp_cons, WSC_nx, WSC_cl, WSC_rt, WSC_th, WSC_if, lg, lset, lfree, wide, isRf, isRT, fitK, hgt, margs, mpad, rcv, rdF, rdN, rdI, rdQ, mC_eq, mC_ne, mC_lt, mC_ge, mC_gt, mC_le, mset, mnew, h_fst, h_snd, lt_drop0, List.drop_succ_cons, List.drop_zero, List.drop_nil, List.take_succ_cons, List.take_zero, List.reverse_cons, List.reverse_nil, List.nil_append, List.cons_append, List.append_nil, List.length_cons, List.length_nil, List.getElem?_cons_succ, List.getElem?_cons_zero, List.set_cons_succ, List.set_cons_zero, List.replicate, Option.toList, reduceIte, Bool.not_false, Bool.not_true, Nat.reduceLT, Nat.reduceLeDiff, Nat.reduceAdd, Nat.reduceSub, Nat.reduceMul, Int.reduceLT, Int.reduceLE, Int.reduceNeg, Int.reduceAdd, Int.reduceSub, Int.reduceMul, Int.reduceEq, and_self, true_and, and_true, false_and, and_false, or_false, false_or, true_or, or_true, not_true_eq_false, not_false_eq_true, Bool.false_eq_true, Bool.true_eq_false, decide_true, decide_false, decide_eq_true_eq, Nat.le_refl, Nat.zero_le, ge_iff_le, gt_iff_lt, Nat.lt_irrefl, reduceCtorEq, if_posD, if_negD, w32_id, Int.toNat_natCast, WCo_in, mUp_self, mUp_ne, ne_eq, Bool.true_and, Bool.and_true, Bool.false_and, Bool.and_false, Bool.true_or, Bool.or_true, Bool.false_or, Bool.or_false, Nat.reduceEqDiff, Int.cast_ofNat_Int, Int.reduceToNat, List.getD_cons_succ, List.getD_cons_zero, eq_self, swL, if_true, if_false, nqT, isNl, qX9_init_0, MX1_init, MX3_init, MX4_init, MX5_init, GG1, h0, Nat.add_assoc, mUp_mUp, GG4, d5, l5]
  refine WCl_of (i_pl (b := 2) (mUp_self _ _ _)) (by omega) (fun v h2 hv => ?_)
  obtain ⟨rfl, ⟨m1, m2⟩, W1⟩ := hv
  obtain ⟨g2, s2⟩ := h2
  dsimp only at m1 m2 W1
  subst m1
  have a0 : g2 0 = cO 9 [qR 1, qI 0, qI (-1), qN, qN, qN, qN, qN, qN] := by
    rw [m2 0 (by omega), mUp_ne (by omega)]
    simp (disch := omega) only [mUp_ne, mUp_self, ne_eq]
  have a1 : g2 1 = cI .byte 2000 (fun _ => 0) := by
    rw [m2 1 (by omega), mUp_ne (by omega)]
    simp (disch := omega) only [mUp_ne, mUp_self, ne_eq]
  have fr2 : ∀ a, 107 ≤ a → g2 a = hc a := fun a ha => by
    rw [m2 a (by omega)]
    simp (disch := omega) only [mUp_ne, ne_eq]
  clear m2
  simp (disch := omega) only [ms_sipush, ms_lconst, ms_ldc2_w, ms_dconst, ms_ldc, ms_getstatic, ms_iload, ms_lload, ms_dload, ms_aload, ms_istore, ms_lstore, ms_dstore, ms_astore, ms_iinc, ms_iadd, ms_isub, ms_imul, ms_idiv, ms_irem, ms_ineg, ms_iand, ms_ior, ms_ishr, ms_ishl, ms_iushr, ms_i2b, ms_i2c, ms_i2l, ms_ladd, ms_lmul, ms_lcmp, ms_i2d, ms_ddiv, ms_dcmp, ms_dup, ms_pop, ms_dup2, ms_dup_x1, ms_aconst_null, ms_ifnull, ms_ifnonnull, ms_checkcast, ms_goto, ms_ifCond, ms_if_icmp, ms_if_acmp_eq, ms_if_acmp_ne, ms_tableswitch, ms_lookupswitch, ms_getfield, ms_putfield, ms_arraylength, ms_iaload, ms_baload, ms_laload, ms_aaload, ms_iastore, ms_bastore, ms_lastore, ms_aastore, ms_newarray, ms_new, ms_anewarray, ms_multianewarray, ms_invokevirtual, ms_invokestatic, ms_invokespecial, ms_invokeinterface, ms_invokedynamic_0, ms_invokedynamic_1, ms_invokedynamic_2, ms_invokedynamic_3, ms_invokedynamic_4, ms_invokedynamic_5, ms_invokedynamic_6, ms_invokedynamic_7, ms_invokedynamic_8, ms_ireturn, ms_lreturn, ms_dreturn, ms_areturn, ms_return_, Wp_cons, WSC_nx, WSC_cl, WSC_rt, WSC_th, WSC_if, lg, lset, lfree, wide, isRf, isRT, fitK, hgt, margs, mpad, rcv, rdF, rdN, rdI, rdQ, mC_eq, mC_ne, mC_lt, mC_ge, mC_gt, mC_le, mset, mnew, h_fst, h_snd, lt_drop0, List.drop_succ_cons, List.drop_zero, List.drop_nil, List.take_succ_cons, List.take_zero, List.reverse_cons, List.reverse_nil, List.nil_append, List.cons_append, List.append_nil, List.length_cons, List.length_nil, List.getElem?_cons_succ, List.getElem?_cons_zero, List.set_cons_succ, List.set_cons_zero, List.replicate, Option.toList, reduceIte, Bool.not_false, Bool.not_true, Nat.reduceLT, Nat.reduceLeDiff, Nat.reduceAdd, Nat.reduceSub, Nat.reduceMul, Int.reduceLT, Int.reduceLE, Int.reduceNeg, Int.reduceAdd, Int.reduceSub, Int.reduceMul, Int.reduceEq, and_self, true_and, and_true, false_and, and_false, or_false, false_or, true_or, or_true, not_true_eq_false, not_false_eq_true, Bool.false_eq_true, Bool.true_eq_false, decide_true, decide_false, decide_eq_true_eq, Nat.le_refl, Nat.zero_le, ge_iff_le, gt_iff_lt, Nat.lt_irrefl, reduceCtorEq, if_posD, if_negD, w32_id, Int.toNat_natCast, WCo_in, mUp_self, mUp_ne, ne_eq, Bool.true_and, Bool.and_true, Bool.false_and, Bool.and_false, Bool.true_or, Bool.or_true, Bool.false_or, Bool.or_false, Nat.reduceEqDiff, Int.cast_ofNat_Int, Int.reduceToNat, List.getD_cons_succ, List.getD_cons_zero, eq_self, swL, if_true, if_false, nqT, isNl, qX9_init_0, MX1_init, MX3_init, MX4_init, MX5_init, GG1, a0, Nat.add_assoc, mUp_mUp, GG4, d5, l5]
  refine WCl_of (i_pl (b := 18) (mUp_self _ _ _)) (by omega) (fun v h3 hv => ?_)
  obtain ⟨rfl, ⟨m1, m2⟩, W2⟩ := hv
  obtain ⟨g3, s3⟩ := h3
  dsimp only at m1 m2 W2
  subst m1
  have b0 : g3 0 = cO 9 [qR 1, qI 0, qI (-1), qR 2, qN, qN, qN, qN, qN] := by
    rw [m2 0 (by omega)]
    simp (disch := omega) only [mUp_ne, mUp_self, ne_eq]
  have fr3 : ∀ a, a ≠ 0 → (a < 18 ∨ 34 ≤ a) → g3 a = g2 a := fun a h0 ha => by
    rw [m2 a (by omega)]
    simp (disch := omega) only [mUp_ne, ne_eq]
  clear m2
  simp (disch := omega) only [ms_sipush, ms_lconst, ms_ldc2_w, ms_dconst, ms_ldc, ms_getstatic, ms_iload, ms_lload, ms_dload, ms_aload, ms_istore, ms_lstore, ms_dstore, ms_astore, ms_iinc, ms_iadd, ms_isub, ms_imul, ms_idiv, ms_irem, ms_ineg, ms_iand, ms_ior, ms_ishr, ms_ishl, ms_iushr, ms_i2b, ms_i2c, ms_i2l, ms_ladd, ms_lmul, ms_lcmp, ms_i2d, ms_ddiv, ms_dcmp, ms_dup, ms_pop, ms_dup2, ms_dup_x1, ms_aconst_null, ms_ifnull, ms_ifnonnull, ms_checkcast, ms_goto, ms_ifCond, ms_if_icmp, ms_if_acmp_eq, ms_if_acmp_ne, ms_tableswitch, ms_lookupswitch, ms_getfield, ms_putfield, ms_arraylength, ms_iaload, ms_baload, ms_laload, ms_aaload, ms_iastore, ms_bastore, ms_lastore, ms_aastore, ms_newarray, ms_new, ms_anewarray, ms_multianewarray, ms_invokevirtual, ms_invokestatic, ms_invokespecial, ms_invokeinterface, ms_invokedynamic_0, ms_invokedynamic_1, ms_invokedynamic_2, ms_invokedynamic_3, ms_invokedynamic_4, ms_invokedynamic_5, ms_invokedynamic_6, ms_invokedynamic_7, ms_invokedynamic_8, ms_ireturn, ms_lreturn, ms_dreturn, ms_areturn, ms_return_, Wp_cons, WSC_nx, WSC_cl, WSC_rt, WSC_th, WSC_if, lg, lset, lfree, wide, isRf, isRT, fitK, hgt, margs, mpad, rcv, rdF, rdN, rdI, rdQ, mC_eq, mC_ne, mC_lt, mC_ge, mC_gt, mC_le, mset, mnew, h_fst, h_snd, lt_drop0, List.drop_succ_cons, List.drop_zero, List.drop_nil, List.take_succ_cons, List.take_zero, List.reverse_cons, List.reverse_nil, List.nil_append, List.cons_append, List.append_nil, List.length_cons, List.length_nil, List.getElem?_cons_succ, List.getElem?_cons_zero, List.set_cons_succ, List.set_cons_zero, List.replicate, Option.toList, reduceIte, Bool.not_false, Bool.not_true, Nat.reduceLT, Nat.reduceLeDiff, Nat.reduceAdd, Nat.reduceSub, Nat.reduceMul, Int.reduceLT, Int.reduceLE, Int.reduceNeg, Int.reduceAdd, Int.reduceSub, Int.reduceMul, Int.reduceEq, and_self, true_and, and_true, false_and, and_false, or_false, false_or, true_or, or_true, not_true_eq_false, not_false_eq_true, Bool.false_eq_true, Bool.true_eq_false, decide_true, decide_false, decide_eq_true_eq, Nat.le_refl, Nat.zero_le, ge_iff_le, gt_iff_lt, Nat.lt_irrefl, reduceCtorEq, if_posD, if_negD, w32_id, Int.toNat_natCast, WCo_in, mUp_self, mUp_ne, ne_eq, Bool.true_and, Bool.and_true, Bool.false_and, Bool.and_false, Bool.true_or, Bool.or_true, Bool.false_or, Bool.or_false, Nat.reduceEqDiff, Int.cast_ofNat_Int, Int.reduceToNat, List.getD_cons_succ, List.getD_cons_zero, eq_self, swL, if_true, if_false, nqT, isNl, qX9_init_0, MX1_init, MX3_init, MX4_init, MX5_init, GG1, b0, Nat.add_assoc, mUp_mUp, GG4, d1, l1]
  have cg := fun {hc : Nat → MC} {pb cn sl : Nat} (h0 : hc 34 = cO 1 [qN, qI 0, qN]) => i_gr (L := L) (xs := xs) (fm := fm) (hc := hc) (b := 34) (pb := pb) (cn := cn) (sl := sl) h0
  refine WCl_of (cg (mUp_self _ _ _)) (by omega) (fun v h4 hv => ?_)
  obtain ⟨rfl, rfl⟩ := hv
  simp (disch := omega) only [ms_sipush, ms_lconst, ms_ldc2_w, ms_dconst, ms_ldc, ms_getstatic, ms_iload, ms_lload, ms_dload, ms_aload, ms_istore, ms_lstore, ms_dstore, ms_astore, ms_iinc, ms_iadd, ms_isub, ms_imul, ms_idiv, ms_irem, ms_ineg, ms_iand, ms_ior, ms_ishr, ms_ishl, ms_iushr, ms_i2b, ms_i2c, ms_i2l, ms_ladd, ms_lmul, ms_lcmp, ms_i2d, ms_ddiv, ms_dcmp, ms_dup, ms_pop, ms_dup2, ms_dup_x1, ms_aconst_null, ms_ifnull, ms_ifnonnull, ms_checkcast, ms_goto, ms_ifCond, ms_if_icmp, ms_if_acmp_eq, ms_if_acmp_ne, ms_tableswitch, ms_lookupswitch, ms_getfield, ms_putfield, ms_arraylength, ms_iaload, ms_baload, ms_laload, ms_aaload, ms_iastore, ms_bastore, ms_lastore, ms_aastore, ms_newarray, ms_new, ms_anewarray, ms_multianewarray, ms_invokevirtual, ms_invokestatic, ms_invokespecial, ms_invokeinterface, ms_invokedynamic_0, ms_invokedynamic_1, ms_invokedynamic_2, ms_invokedynamic_3, ms_invokedynamic_4, ms_invokedynamic_5, ms_invokedynamic_6, ms_invokedynamic_7, ms_invokedynamic_8, ms_ireturn, ms_lreturn, ms_dreturn, ms_areturn, ms_return_, Wp_cons, WSC_nx, WSC_cl, WSC_rt, WSC_th, WSC_if, lg, lset, lfree, wide, isRf, isRT, fitK, hgt, margs, mpad, rcv, rdF, rdN, rdI, rdQ, mC_eq, mC_ne, mC_lt, mC_ge, mC_gt, mC_le, mset, mnew, h_fst, h_snd, lt_drop0, List.drop_succ_cons, List.drop_zero, List.drop_nil, List.take_succ_cons, List.take_zero, List.reverse_cons, List.reverse_nil, List.nil_append, List.cons_append, List.append_nil, List.length_cons, List.length_nil, List.getElem?_cons_succ, List.getElem?_cons_zero, List.set_cons_succ, List.set_cons_zero, List.replicate, Option.toList, reduceIte, Bool.not_false, Bool.not_true, Nat.reduceLT, Nat.reduceLeDiff, Nat.reduceAdd, Nat.reduceSub, Nat.reduceMul, Int.reduceLT, Int.reduceLE, Int.reduceNeg, Int.reduceAdd, Int.reduceSub, Int.reduceMul, Int.reduceEq, and_self, true_and, and_true, false_and, and_false, or_false, false_or, true_or, or_true, not_true_eq_false, not_false_eq_true, Bool.false_eq_true, Bool.true_eq_false, decide_true, decide_false, decide_eq_true_eq, Nat.le_refl, Nat.zero_le, ge_iff_le, gt_iff_lt, Nat.lt_irrefl, reduceCtorEq, if_posD, if_negD, w32_id, Int.toNat_natCast, WCo_in, mUp_self, mUp_ne, ne_eq, Bool.true_and, Bool.and_true, Bool.false_and, Bool.and_false, Bool.true_or, Bool.or_true, Bool.false_or, Bool.or_false, Nat.reduceEqDiff, Int.cast_ofNat_Int, Int.reduceToNat, List.getD_cons_succ, List.getD_cons_zero, eq_self, swL, if_true, if_false, nqT, isNl, qX9_init_0, MX1_init, MX3_init, MX4_init, MX5_init, GG1, Nat.add_assoc, mUp_mUp, GG4, d4, l4]
  refine WCl_of (i_nm (b := 35) (mUp_self _ _ _)) (by omega) (fun v h5 hv => ?_)
  obtain ⟨rfl, ⟨m1, m2⟩, N0, N1, N2, N3⟩ := hv
  obtain ⟨g5, s5⟩ := h5
  dsimp only at m1 m2 N0 N1 N2 N3
  subst m1
  have c0 : g5 0 = cO 9 [qR 1, qI 0, qI (-1), qR 2, qR 18, qR 34, qN, qN, qN] := by
    rw [m2 0 (by omega)]
    simp (disch := omega) only [mUp_ne, mUp_self, ne_eq]
  have c34 : g5 34 = cO 1 [qR 18, qI 0, qS 45] := by
    rw [m2 34 (by omega)]
    simp (disch := omega) only [mUp_ne, mUp_self, ne_eq]
  have fr5 : ∀ a, a ≠ 0 → (a < 34 ∨ 41 ≤ a) → g5 a = g3 a := fun a h0 ha => by
    rw [m2 a (by omega)]
    simp (disch := omega) only [mUp_ne, ne_eq]
  clear m2
  simp (disch := omega) only [ms_sipush, ms_lconst, ms_ldc2_w, ms_dconst, ms_ldc, ms_getstatic, ms_iload, ms_lload, ms_dload, ms_aload, ms_istore, ms_lstore, ms_dstore, ms_astore, ms_iinc, ms_iadd, ms_isub, ms_imul, ms_idiv, ms_irem, ms_ineg, ms_iand, ms_ior, ms_ishr, ms_ishl, ms_iushr, ms_i2b, ms_i2c, ms_i2l, ms_ladd, ms_lmul, ms_lcmp, ms_i2d, ms_ddiv, ms_dcmp, ms_dup, ms_pop, ms_dup2, ms_dup_x1, ms_aconst_null, ms_ifnull, ms_ifnonnull, ms_checkcast, ms_goto, ms_ifCond, ms_if_icmp, ms_if_acmp_eq, ms_if_acmp_ne, ms_tableswitch, ms_lookupswitch, ms_getfield, ms_putfield, ms_arraylength, ms_iaload, ms_baload, ms_laload, ms_aaload, ms_iastore, ms_bastore, ms_lastore, ms_aastore, ms_newarray, ms_new, ms_anewarray, ms_multianewarray, ms_invokevirtual, ms_invokestatic, ms_invokespecial, ms_invokeinterface, ms_invokedynamic_0, ms_invokedynamic_1, ms_invokedynamic_2, ms_invokedynamic_3, ms_invokedynamic_4, ms_invokedynamic_5, ms_invokedynamic_6, ms_invokedynamic_7, ms_invokedynamic_8, ms_ireturn, ms_lreturn, ms_dreturn, ms_areturn, ms_return_, Wp_cons, WSC_nx, WSC_cl, WSC_rt, WSC_th, WSC_if, lg, lset, lfree, wide, isRf, isRT, fitK, hgt, margs, mpad, rcv, rdF, rdN, rdI, rdQ, mC_eq, mC_ne, mC_lt, mC_ge, mC_gt, mC_le, mset, mnew, h_fst, h_snd, lt_drop0, List.drop_succ_cons, List.drop_zero, List.drop_nil, List.take_succ_cons, List.take_zero, List.reverse_cons, List.reverse_nil, List.nil_append, List.cons_append, List.append_nil, List.length_cons, List.length_nil, List.getElem?_cons_succ, List.getElem?_cons_zero, List.set_cons_succ, List.set_cons_zero, List.replicate, Option.toList, reduceIte, Bool.not_false, Bool.not_true, Nat.reduceLT, Nat.reduceLeDiff, Nat.reduceAdd, Nat.reduceSub, Nat.reduceMul, Int.reduceLT, Int.reduceLE, Int.reduceNeg, Int.reduceAdd, Int.reduceSub, Int.reduceMul, Int.reduceEq, and_self, true_and, and_true, false_and, and_false, or_false, false_or, true_or, or_true, not_true_eq_false, not_false_eq_true, Bool.false_eq_true, Bool.true_eq_false, decide_true, decide_false, decide_eq_true_eq, Nat.le_refl, Nat.zero_le, ge_iff_le, gt_iff_lt, Nat.lt_irrefl, reduceCtorEq, if_posD, if_negD, w32_id, Int.toNat_natCast, WCo_in, mUp_self, mUp_ne, ne_eq, Bool.true_and, Bool.and_true, Bool.false_and, Bool.and_false, Bool.true_or, Bool.or_true, Bool.false_or, Bool.or_false, Nat.reduceEqDiff, Int.cast_ofNat_Int, Int.reduceToNat, List.getD_cons_succ, List.getD_cons_zero, eq_self, swL, if_true, if_false, nqT, isNl, qX9_init_0, MX1_init, MX3_init, MX4_init, MX5_init, GG1, c0, Nat.add_assoc, mUp_mUp, GG4, d3, l3]
  refine WCl_of (i_la (b := 41) (mUp_self _ _ _)) (by omega) (fun v h6 hv => ?_)
  obtain ⟨rfl, ⟨m1, m2⟩, A1, A2⟩ := hv
  obtain ⟨g6, s6⟩ := h6
  dsimp only at m1 m2 A1 A2
  subst m1
  have e0 : g6 0 = cO 9 [qR 1, qI 0, qI (-1), qR 2, qR 18, qR 34, qR 35, qN, qN] := by
    rw [m2 0 (by omega)]
    simp (disch := omega) only [mUp_ne, mUp_self, ne_eq]
  have fr6 : ∀ a, a ≠ 0 → (a < 41 ∨ 74 ≤ a) → g6 a = g5 a := fun a h0 ha => by
    rw [m2 a (by omega)]
    simp (disch := omega) only [mUp_ne, ne_eq]
  clear m2
  simp (disch := omega) only [ms_sipush, ms_lconst, ms_ldc2_w, ms_dconst, ms_ldc, ms_getstatic, ms_iload, ms_lload, ms_dload, ms_aload, ms_istore, ms_lstore, ms_dstore, ms_astore, ms_iinc, ms_iadd, ms_isub, ms_imul, ms_idiv, ms_irem, ms_ineg, ms_iand, ms_ior, ms_ishr, ms_ishl, ms_iushr, ms_i2b, ms_i2c, ms_i2l, ms_ladd, ms_lmul, ms_lcmp, ms_i2d, ms_ddiv, ms_dcmp, ms_dup, ms_pop, ms_dup2, ms_dup_x1, ms_aconst_null, ms_ifnull, ms_ifnonnull, ms_checkcast, ms_goto, ms_ifCond, ms_if_icmp, ms_if_acmp_eq, ms_if_acmp_ne, ms_tableswitch, ms_lookupswitch, ms_getfield, ms_putfield, ms_arraylength, ms_iaload, ms_baload, ms_laload, ms_aaload, ms_iastore, ms_bastore, ms_lastore, ms_aastore, ms_newarray, ms_new, ms_anewarray, ms_multianewarray, ms_invokevirtual, ms_invokestatic, ms_invokespecial, ms_invokeinterface, ms_invokedynamic_0, ms_invokedynamic_1, ms_invokedynamic_2, ms_invokedynamic_3, ms_invokedynamic_4, ms_invokedynamic_5, ms_invokedynamic_6, ms_invokedynamic_7, ms_invokedynamic_8, ms_ireturn, ms_lreturn, ms_dreturn, ms_areturn, ms_return_, Wp_cons, WSC_nx, WSC_cl, WSC_rt, WSC_th, WSC_if, lg, lset, lfree, wide, isRf, isRT, fitK, hgt, margs, mpad, rcv, rdF, rdN, rdI, rdQ, mC_eq, mC_ne, mC_lt, mC_ge, mC_gt, mC_le, mset, mnew, h_fst, h_snd, lt_drop0, List.drop_succ_cons, List.drop_zero, List.drop_nil, List.take_succ_cons, List.take_zero, List.reverse_cons, List.reverse_nil, List.nil_append, List.cons_append, List.append_nil, List.length_cons, List.length_nil, List.getElem?_cons_succ, List.getElem?_cons_zero, List.set_cons_succ, List.set_cons_zero, List.replicate, Option.toList, reduceIte, Bool.not_false, Bool.not_true, Nat.reduceLT, Nat.reduceLeDiff, Nat.reduceAdd, Nat.reduceSub, Nat.reduceMul, Int.reduceLT, Int.reduceLE, Int.reduceNeg, Int.reduceAdd, Int.reduceSub, Int.reduceMul, Int.reduceEq, and_self, true_and, and_true, false_and, and_false, or_false, false_or, true_or, or_true, not_true_eq_false, not_false_eq_true, Bool.false_eq_true, Bool.true_eq_false, decide_true, decide_false, decide_eq_true_eq, Nat.le_refl, Nat.zero_le, ge_iff_le, gt_iff_lt, Nat.lt_irrefl, reduceCtorEq, if_posD, if_negD, w32_id, Int.toNat_natCast, WCo_in, mUp_self, mUp_ne, ne_eq, Bool.true_and, Bool.and_true, Bool.false_and, Bool.and_false, Bool.true_or, Bool.or_true, Bool.false_or, Bool.or_false, Nat.reduceEqDiff, Int.cast_ofNat_Int, Int.reduceToNat, List.getD_cons_succ, List.getD_cons_zero, eq_self, swL, if_true, if_false, nqT, isNl, qX9_init_0, MX1_init, MX3_init, MX4_init, MX5_init, GG1, e0, Nat.add_assoc, mUp_mUp, GG4, d3, l3]
  refine WCl_of (i_la (b := 74) (mUp_self _ _ _)) (by omega) (fun v h7 hv => ?_)
  obtain ⟨rfl, ⟨m1, m2⟩, B1, B2⟩ := hv
  obtain ⟨g7, s7⟩ := h7
  dsimp only at m1 m2 B1 B2
  subst m1
  have f0 : g7 0 = cO 9 [qR 1, qI 0, qI (-1), qR 2, qR 18, qR 34, qR 35, qR 41, qN] := by
    rw [m2 0 (by omega)]
    simp (disch := omega) only [mUp_ne, mUp_self, ne_eq]
  have fr7 : ∀ a, a ≠ 0 → (a < 74 ∨ 107 ≤ a) → g7 a = g6 a := fun a h0 ha => by
    rw [m2 a (by omega)]
    simp (disch := omega) only [mUp_ne, ne_eq]
  clear m2
  simp (disch := omega) only [ms_sipush, ms_lconst, ms_ldc2_w, ms_dconst, ms_ldc, ms_getstatic, ms_iload, ms_lload, ms_dload, ms_aload, ms_istore, ms_lstore, ms_dstore, ms_astore, ms_iinc, ms_iadd, ms_isub, ms_imul, ms_idiv, ms_irem, ms_ineg, ms_iand, ms_ior, ms_ishr, ms_ishl, ms_iushr, ms_i2b, ms_i2c, ms_i2l, ms_ladd, ms_lmul, ms_lcmp, ms_i2d, ms_ddiv, ms_dcmp, ms_dup, ms_pop, ms_dup2, ms_dup_x1, ms_aconst_null, ms_ifnull, ms_ifnonnull, ms_checkcast, ms_goto, ms_ifCond, ms_if_icmp, ms_if_acmp_eq, ms_if_acmp_ne, ms_tableswitch, ms_lookupswitch, ms_getfield, ms_putfield, ms_arraylength, ms_iaload, ms_baload, ms_laload, ms_aaload, ms_iastore, ms_bastore, ms_lastore, ms_aastore, ms_newarray, ms_new, ms_anewarray, ms_multianewarray, ms_invokevirtual, ms_invokestatic, ms_invokespecial, ms_invokeinterface, ms_invokedynamic_0, ms_invokedynamic_1, ms_invokedynamic_2, ms_invokedynamic_3, ms_invokedynamic_4, ms_invokedynamic_5, ms_invokedynamic_6, ms_invokedynamic_7, ms_invokedynamic_8, ms_ireturn, ms_lreturn, ms_dreturn, ms_areturn, ms_return_, Wp_cons, WSC_nx, WSC_cl, WSC_rt, WSC_th, WSC_if, lg, lset, lfree, wide, isRf, isRT, fitK, hgt, margs, mpad, rcv, rdF, rdN, rdI, rdQ, mC_eq, mC_ne, mC_lt, mC_ge, mC_gt, mC_le, mset, mnew, h_fst, h_snd, lt_drop0, List.drop_succ_cons, List.drop_zero, List.drop_nil, List.take_succ_cons, List.take_zero, List.reverse_cons, List.reverse_nil, List.nil_append, List.cons_append, List.append_nil, List.length_cons, List.length_nil, List.getElem?_cons_succ, List.getElem?_cons_zero, List.set_cons_succ, List.set_cons_zero, List.replicate, Option.toList, reduceIte, Bool.not_false, Bool.not_true, Nat.reduceLT, Nat.reduceLeDiff, Nat.reduceAdd, Nat.reduceSub, Nat.reduceMul, Int.reduceLT, Int.reduceLE, Int.reduceNeg, Int.reduceAdd, Int.reduceSub, Int.reduceMul, Int.reduceEq, and_self, true_and, and_true, false_and, and_false, or_false, false_or, true_or, or_true, not_true_eq_false, not_false_eq_true, Bool.false_eq_true, Bool.true_eq_false, decide_true, decide_false, decide_eq_true_eq, Nat.le_refl, Nat.zero_le, ge_iff_le, gt_iff_lt, Nat.lt_irrefl, reduceCtorEq, if_posD, if_negD, w32_id, Int.toNat_natCast, WCo_in, mUp_self, mUp_ne, ne_eq, Bool.true_and, Bool.and_true, Bool.false_and, Bool.and_false, Bool.true_or, Bool.or_true, Bool.false_or, Bool.or_false, Nat.reduceEqDiff, Int.cast_ofNat_Int, Int.reduceToNat, List.getD_cons_succ, List.getD_cons_zero, eq_self, swL, if_true, if_false, nqT, isNl, qX9_init_0, MX1_init, MX3_init, MX4_init, MX5_init, GG1, f0, Nat.add_assoc, mUp_mUp]
  subst hP
  have up : ∀ {a : Nat} {c : MC}, a ≠ 0 → mUp g7 0 c a = g7 a := fun h => mUp_ne h
  refine ⟨rfl, ⟨rfl, fun a ha => ?_⟩, Or.inl ⟨rfl, rfl⟩, by decide, mUp_self g7 0 (cO 9 [qR 1, qI 0, qI (-1), qR 2, qR 18, qR 34, qR 35, qR 41, qR 74]), ?_, ⟨fun _ => 0, pl_empty (W1.cg (fun a h1 h2 => ?_))⟩, ⟨_, _, _, _, _, _, _, _, _, W2.cg (fun a h1 h2 => ?_)⟩, ⟨18, 0, 45, ?_⟩, ⟨18, 0, 0, 0, ?_, ?_, fun k hk => ⟨fun _ => 0, ?_⟩, ⟨fun _ => 0, ?_⟩⟩, la_empty (A1.cg (fun a h1 h2 => ?_)) (A2.cg (fun a h1 h2 => ?_)), (la_empty (B1.cg (fun a h1 h2 => ?_)) (B2.cg (fun a h1 h2 => ?_))).w⟩
  · dsimp only
    rw [up (by omega), fr7 a (by omega) (by omega), fr6 a (by omega) (by omega), fr5 a (by omega) (by omega), fr3 a (by omega) (by omega)]
    exact fr2 a (by omega)
  · dsimp only
    rw [up (by omega), fr7 1 (by omega) (by omega), fr6 1 (by omega) (by omega), fr5 1 (by omega) (by omega), fr3 1 (by omega) (by omega)]
    exact a1
  · dsimp only
    rw [up (by omega), fr7 a (by omega) (by omega), fr6 a (by omega) (by omega), fr5 a (by omega) (by omega), fr3 a (by omega) (by omega)]
  · dsimp only
    rw [up (by omega), fr7 a (by omega) (by omega), fr6 a (by omega) (by omega), fr5 a (by omega) (by omega)]
  · dsimp only
    rw [up (by omega), fr7 34 (by omega) (by omega), fr6 34 (by omega) (by omega)]
    exact c34
  · dsimp only
    rw [up (by omega), fr7 35 (by omega) (by omega), fr6 35 (by omega) (by omega)]
    exact N0
  · dsimp only
    rw [up (by omega), fr7 36 (by omega) (by omega), fr6 36 (by omega) (by omega)]
    exact N1
  · dsimp only
    rw [up (by omega), fr7 _ (by omega) (by omega), fr6 _ (by omega) (by omega)]
    exact N2 k hk
  · dsimp only
    rw [up (by omega), fr7 40 (by omega) (by omega), fr6 40 (by omega) (by omega)]
    exact N3
  · dsimp only
    rw [up (by omega), fr7 a (by omega) (by omega)]
  · dsimp only
    rw [up (by omega), fr7 a (by omega) (by omega)]
  · dsimp only
    exact up (by omega)
  · dsimp only
    exact up (by omega)
end INIT4
