/-! ===== THE REFERENCE IS MADE ===== -/
section MOD2
variable {L : Nat} {xs : Nat → Int} {fm : Bool} {hc hc' : Nat → MC} {b cn sl : Nat} {h : MH}
theorem shT_lt {k m : Nat} (hk : shT k = some m) : 1 ≤ k ∧ k < 16 := by
  unfold shT at hk
  repeat' split at hk
  all_goals first | omega | cases hk
theorem stT_lt {k m : Nat} (hk : stT k = some m) : 1 ≤ k ∧ k < 10 := by
  unfold stT at hk
  repeat' split at hk
  all_goals first | omega | cases hk
theorem ShA.cg {od : Int} {F : Nat → Nat → Int} (hS : ShA hc b od F) (hf : ∀ a, b ≤ a → a < b + 16 → hc' a = hc a) : ShA hc' b od F := by
  refine ⟨by rw [hf b (by omega) (by omega)]; exact hS.1, fun k m hk => ?_⟩
  have := shT_lt hk
  rw [hf _ (by omega) (by omega)]
  exact hS.2 k m hk
theorem StA.cg {hr ca lo he : Int} {tn : Nat} {G : Nat → Nat → Int} (hS : StA hc b hr ca lo he tn G) (hf : ∀ a, b ≤ a → a < b + 10 → hc' a = hc a) : StA hc' b hr ca lo he tn G := by
  refine ⟨by rw [hf b (by omega) (by omega)]; exact hS.1, fun k m hk => ?_⟩
  have := stT_lt hk
  rw [hf _ (by omega) (by omega)]
  exact hS.2 k m hk
theorem StA.wr {hr ca lo he : Int} {tn k m : Nat} {G : Nat → Nat → Int} {f : Nat → Int} (hS : StA hc b hr ca lo he tn G) (hk : stT k = some m) : StA (mUp hc (b + k) (cI .int m f)) b hr ca lo he tn (mUp G k f) := by
  have hk1 := stT_lt hk
  refine ⟨by rw [mUp_ne (by omega)]; exact hS.1, fun j n hj => ?_⟩
  by_cases hjk : j = k
  · subst hjk
    rw [hk] at hj
    cases hj
    rw [mUp_self, mUp_self]
  · rw [mUp_ne (by omega), mUp_ne hjk]
    exact hS.2 j n hj
theorem StA.ob {hr ca lo he hr' ca' lo' he' tx : Int} {tn tn' : Nat} {G : Nat → Nat → Int} (hS : StA hc b hr ca lo he tn G) (htx : tx = (tn' : Int)) : StA (mUp hc b (cO 11 [qI hr', qI ca', qI lo', qI he', qR (b + 1), qR (b + 2), qR (b + 3), qR (b + 4), qR (b + 5), qI tx, qR (b + 6), qR (b + 7), qR (b + 8), qR (b + 9)])) b hr' ca' lo' he' tn' G := by
  subst htx
  refine ⟨mUp_self _ _ _, fun k m hk => ?_⟩
  have := stT_lt hk
  rw [mUp_ne (by omega)]
  exact hS.2 k m hk
theorem i_md (h0 : hc 107 = cO 12 [qI 0, qN, qI 0, qI 0, qI 0, qI 0, qN, qN, qN, qI 0, qN, qN, qN, qN, qN, qN, qN, qI 0]) : Sp (GG L xs fm) 1 mX12_init [qR 107] (hc, 108, cn, sl) (fun v h2 => v = .inl none ∧ Mk 107 44 5604 hc cn sl h2 ∧ MoA h2.1 0 0 (-1) 0 0 109 0 125 (-1) (fun _ => 0) (fun _ _ => 0) ∧ ShA h2.1 109 0 (fun _ _ => 0) ∧ (∃ f, StA h2.1 125 0 0 0 0 0 (mUp (fun _ _ => 0) 3 f) ∧ ∀ i, i < 60 → f i = -1) ∧ StA h2.1 135 0 0 0 0 0 (fun _ _ => 0)) := by
  refine Sp_of MX12_init ?_
  generalize hP : (fun (v : Option MV ⊕ Nat) (h2 : MH) => v = .inl none ∧ Mk 107 44 5604 hc cn sl h2 ∧ MoA h2.1 0 0 (-1) 0 0 109 0 125 (-1) (fun _ => 0) (fun _ _ => 0) ∧ ShA h2.1 109 0 (fun _ _ => 0) ∧ (∃ f, StA h2.1 125 0 0 0 0 0 (mUp (fun _ _ => 0) 3 f) ∧ ∀ i, i < 60 → f i = -1) ∧ StA h2.1 135 0 0 0 0 0 (fun _ _ => 0)) = Post
  have d10 : mdef (CF 10) = [qN, qN, qN, qN, qN, qN, qN, qN, qN, qN, qN, qI 0, qN, qN, qN, qN] := rfl
  have l10 : (CF 10).length = 16 := rfl
  have d11 : mdef (CF 11) = [qI 0, qI 0, qI 0, qI 0, qN, qN, qN, qN, qN, qI 0, qN, qN, qN, qN] := rfl
  have l11 : (CF 11).length = 14 := rfl
  simp (disch := omega) only [ms_sipush, ms_lconst, ms_ldc2_w, ms_dconst, ms_ldc, ms_getstatic, ms_iload, ms_lload, ms_dload, ms_aload, ms_istore, ms_lstore, ms_dstore, ms_astore, ms_iinc, ms_iadd, ms_isub, ms_imul, ms_idiv, ms_irem, ms_ineg, ms_iand, ms_ior, ms_ishr, ms_iushr, ms_i2b, ms_i2c, ms_i2l, ms_ladd, ms_lmul, ms_lcmp, ms_i2d, ms_ddiv, ms_dcmp, ms_dup, ms_pop, ms_dup2, ms_goto, ms_ifCond, ms_if_icmp, ms_if_acmp_eq, ms_if_acmp_ne, ms_tableswitch, ms_lookupswitch, ms_getfield, ms_putfield, ms_arraylength, ms_iaload, ms_baload, ms_laload, ms_aaload, ms_iastore, ms_bastore, ms_lastore, ms_aastore, ms_newarray, ms_new, ms_anewarray, ms_multianewarray, ms_invokevirtual, ms_invokestatic, ms_invokespecial, ms_invokedynamic_0, ms_invokedynamic_1, ms_invokedynamic_2, ms_invokedynamic_3, ms_invokedynamic_4, ms_invokedynamic_5, ms_ireturn, ms_lreturn, ms_dreturn, ms_areturn, ms_return_, Wp_cons, WSC_nx, WSC_cl, WSC_rt, WSC_th, WSC_if, lg, lset, lfree, wide, isRf, isRT, fitK, hgt, margs, mpad, rcv, rdF, rdN, rdI, rdQ, mC_eq, mC_ne, mC_lt, mC_ge, mC_gt, mC_le, mset, mnew, h_fst, h_snd, lt_drop0, List.drop_succ_cons, List.drop_zero, List.drop_nil, List.take_succ_cons, List.take_zero, List.reverse_cons, List.reverse_nil, List.nil_append, List.cons_append, List.append_nil, List.length_cons, List.length_nil, List.getElem?_cons_succ, List.getElem?_cons_zero, List.set_cons_succ, List.set_cons_zero, List.replicate, Option.toList, reduceIte, Bool.not_false, Bool.not_true, Nat.reduceLT, Nat.reduceLeDiff, Nat.reduceAdd, Nat.reduceSub, Nat.reduceMul, Int.reduceLT, Int.reduceLE, Int.reduceNeg, Int.reduceAdd, Int.reduceSub, Int.reduceMul, Int.reduceEq, and_self, true_and, and_true, false_and, and_false, or_false, false_or, true_or, or_true, not_true_eq_false, not_false_eq_true, Bool.false_eq_true, Bool.true_eq_false, decide_true, decide_false, decide_eq_true_eq, Nat.le_refl, Nat.zero_le, ge_iff_le, gt_iff_lt, Nat.lt_irrefl, reduceCtorEq, if_posD, if_negD, w32_id, Int.toNat_natCast, WCo_in, mUp_self, mUp_ne, ne_eq, Bool.true_and, Bool.and_true, Bool.false_and, Bool.and_false, Bool.true_or, Bool.or_true, Bool.false_or, Bool.or_false, Nat.reduceEqDiff, Int.cast_ofNat_Int, Int.reduceToNat, List.getD_cons_succ, List.getD_cons_zero, eq_self, swL, if_true, if_false, qX12_init_0, MX10_init, MX11_init, MX12_fill, GG1, h0, Nat.add_assoc, mUp_mUp, GG4, d10, l10]
  refine WCl_of (i_sh (b := 109) (mUp_self _ _ _)) (by omega) (fun v h2 hv => ?_)
  obtain ⟨rfl, ⟨m1, m2⟩, W1⟩ := hv
  obtain ⟨g2, s2⟩ := h2
  dsimp only at m1 m2 W1
  subst m1
  have a0 : g2 107 = cO 12 [qI 0, qR 108, qI 0, qI (-1), qI 0, qI 0, qN, qN, qN, qI 0, qN, qN, qN, qN, qN, qN, qN, qI 0] := by
    rw [m2 107 (by omega)]
    simp (disch := omega) only [mUp_ne, mUp_self, ne_eq]
  have a1 : g2 108 = cI .int 2000 (fun _ => 0) := by
    rw [m2 108 (by omega)]
    simp (disch := omega) only [mUp_ne, mUp_self, ne_eq]
  have fr2 : ∀ a, (a < 107 ∨ 151 ≤ a) → g2 a = hc a := fun a ha => by
    rw [m2 a (by omega)]
    simp (disch := omega) only [mUp_ne, ne_eq]
  clear m2
  simp (disch := omega) only [ms_sipush, ms_lconst, ms_ldc2_w, ms_dconst, ms_ldc, ms_getstatic, ms_iload, ms_lload, ms_dload, ms_aload, ms_istore, ms_lstore, ms_dstore, ms_astore, ms_iinc, ms_iadd, ms_isub, ms_imul, ms_idiv, ms_irem, ms_ineg, ms_iand, ms_ior, ms_ishr, ms_iushr, ms_i2b, ms_i2c, ms_i2l, ms_ladd, ms_lmul, ms_lcmp, ms_i2d, ms_ddiv, ms_dcmp, ms_dup, ms_pop, ms_dup2, ms_goto, ms_ifCond, ms_if_icmp, ms_if_acmp_eq, ms_if_acmp_ne, ms_tableswitch, ms_lookupswitch, ms_getfield, ms_putfield, ms_arraylength, ms_iaload, ms_baload, ms_laload, ms_aaload, ms_iastore, ms_bastore, ms_lastore, ms_aastore, ms_newarray, ms_new, ms_anewarray, ms_multianewarray, ms_invokevirtual, ms_invokestatic, ms_invokespecial, ms_invokedynamic_0, ms_invokedynamic_1, ms_invokedynamic_2, ms_invokedynamic_3, ms_invokedynamic_4, ms_invokedynamic_5, ms_ireturn, ms_lreturn, ms_dreturn, ms_areturn, ms_return_, Wp_cons, WSC_nx, WSC_cl, WSC_rt, WSC_th, WSC_if, lg, lset, lfree, wide, isRf, isRT, fitK, hgt, margs, mpad, rcv, rdF, rdN, rdI, rdQ, mC_eq, mC_ne, mC_lt, mC_ge, mC_gt, mC_le, mset, mnew, h_fst, h_snd, lt_drop0, List.drop_succ_cons, List.drop_zero, List.drop_nil, List.take_succ_cons, List.take_zero, List.reverse_cons, List.reverse_nil, List.nil_append, List.cons_append, List.append_nil, List.length_cons, List.length_nil, List.getElem?_cons_succ, List.getElem?_cons_zero, List.set_cons_succ, List.set_cons_zero, List.replicate, Option.toList, reduceIte, Bool.not_false, Bool.not_true, Nat.reduceLT, Nat.reduceLeDiff, Nat.reduceAdd, Nat.reduceSub, Nat.reduceMul, Int.reduceLT, Int.reduceLE, Int.reduceNeg, Int.reduceAdd, Int.reduceSub, Int.reduceMul, Int.reduceEq, and_self, true_and, and_true, false_and, and_false, or_false, false_or, true_or, or_true, not_true_eq_false, not_false_eq_true, Bool.false_eq_true, Bool.true_eq_false, decide_true, decide_false, decide_eq_true_eq, Nat.le_refl, Nat.zero_le, ge_iff_le, gt_iff_lt, Nat.lt_irrefl, reduceCtorEq, if_posD, if_negD, w32_id, Int.toNat_natCast, WCo_in, mUp_self, mUp_ne, ne_eq, Bool.true_and, Bool.and_true, Bool.false_and, Bool.and_false, Bool.true_or, Bool.or_true, Bool.false_or, Bool.or_false, Nat.reduceEqDiff, Int.cast_ofNat_Int, Int.reduceToNat, List.getD_cons_succ, List.getD_cons_zero, eq_self, swL, if_true, if_false, qX12_init_0, MX10_init, MX11_init, MX12_fill, GG1, a0, Nat.add_assoc, mUp_mUp, GG4, d11, l11]
  refine WCl_of (i_st (b := 125) (mUp_self _ _ _)) (by omega) (fun v h3 hv => ?_)
  obtain ⟨rfl, ⟨m1, m2⟩, W2⟩ := hv
  obtain ⟨g3, s3⟩ := h3
  dsimp only at m1 m2 W2
  subst m1
  have b0 : g3 107 = cO 12 [qI 0, qR 108, qI 0, qI (-1), qI 0, qI 0, qR 109, qN, qN, qI 0, qN, qN, qN, qN, qN, qN, qN, qI 0] := by
    rw [m2 107 (by omega)]
    simp (disch := omega) only [mUp_ne, mUp_self, ne_eq]
  have fr3 : ∀ a, a ≠ 107 → (a < 125 ∨ 135 ≤ a) → g3 a = g2 a := fun a h0 ha => by
    rw [m2 a (by omega)]
    simp (disch := omega) only [mUp_ne, ne_eq]
  clear m2
  simp (disch := omega) only [ms_sipush, ms_lconst, ms_ldc2_w, ms_dconst, ms_ldc, ms_getstatic, ms_iload, ms_lload, ms_dload, ms_aload, ms_istore, ms_lstore, ms_dstore, ms_astore, ms_iinc, ms_iadd, ms_isub, ms_imul, ms_idiv, ms_irem, ms_ineg, ms_iand, ms_ior, ms_ishr, ms_iushr, ms_i2b, ms_i2c, ms_i2l, ms_ladd, ms_lmul, ms_lcmp, ms_i2d, ms_ddiv, ms_dcmp, ms_dup, ms_pop, ms_dup2, ms_goto, ms_ifCond, ms_if_icmp, ms_if_acmp_eq, ms_if_acmp_ne, ms_tableswitch, ms_lookupswitch, ms_getfield, ms_putfield, ms_arraylength, ms_iaload, ms_baload, ms_laload, ms_aaload, ms_iastore, ms_bastore, ms_lastore, ms_aastore, ms_newarray, ms_new, ms_anewarray, ms_multianewarray, ms_invokevirtual, ms_invokestatic, ms_invokespecial, ms_invokedynamic_0, ms_invokedynamic_1, ms_invokedynamic_2, ms_invokedynamic_3, ms_invokedynamic_4, ms_invokedynamic_5, ms_ireturn, ms_lreturn, ms_dreturn, ms_areturn, ms_return_, Wp_cons, WSC_nx, WSC_cl, WSC_rt, WSC_th, WSC_if, lg, lset, lfree, wide, isRf, isRT, fitK, hgt, margs, mpad, rcv, rdF, rdN, rdI, rdQ, mC_eq, mC_ne, mC_lt, mC_ge, mC_gt, mC_le, mset, mnew, h_fst, h_snd, lt_drop0, List.drop_succ_cons, List.drop_zero, List.drop_nil, List.take_succ_cons, List.take_zero, List.reverse_cons, List.reverse_nil, List.nil_append, List.cons_append, List.append_nil, List.length_cons, List.length_nil, List.getElem?_cons_succ, List.getElem?_cons_zero, List.set_cons_succ, List.set_cons_zero, List.replicate, Option.toList, reduceIte, Bool.not_false, Bool.not_true, Nat.reduceLT, Nat.reduceLeDiff, Nat.reduceAdd, Nat.reduceSub, Nat.reduceMul, Int.reduceLT, Int.reduceLE, Int.reduceNeg, Int.reduceAdd, Int.reduceSub, Int.reduceMul, Int.reduceEq, and_self, true_and, and_true, false_and, and_false, or_false, false_or, true_or, or_true, not_true_eq_false, not_false_eq_true, Bool.false_eq_true, Bool.true_eq_false, decide_true, decide_false, decide_eq_true_eq, Nat.le_refl, Nat.zero_le, ge_iff_le, gt_iff_lt, Nat.lt_irrefl, reduceCtorEq, if_posD, if_negD, w32_id, Int.toNat_natCast, WCo_in, mUp_self, mUp_ne, ne_eq, Bool.true_and, Bool.and_true, Bool.false_and, Bool.and_false, Bool.true_or, Bool.or_true, Bool.false_or, Bool.or_false, Nat.reduceEqDiff, Int.cast_ofNat_Int, Int.reduceToNat, List.getD_cons_succ, List.getD_cons_zero, eq_self, swL, if_true, if_false, qX12_init_0, MX10_init, MX11_init, MX12_fill, GG1, b0, Nat.add_assoc, mUp_mUp, GG4, d11, l11]
  refine WCl_of (i_st (b := 135) (mUp_self _ _ _)) (by omega) (fun v h4 hv => ?_)
  obtain ⟨rfl, ⟨m1, m2⟩, W3⟩ := hv
  obtain ⟨g4, s4⟩ := h4
  dsimp only at m1 m2 W3
  subst m1
  have c0 : g4 107 = cO 12 [qI 0, qR 108, qI 0, qI (-1), qI 0, qI 0, qR 109, qR 125, qN, qI 0, qN, qN, qN, qN, qN, qN, qN, qI 0] := by
    rw [m2 107 (by omega)]
    simp (disch := omega) only [mUp_ne, mUp_self, ne_eq]
  have fr4 : ∀ a, a ≠ 107 → (a < 135 ∨ 145 ≤ a) → g4 a = g3 a := fun a h0 ha => by
    rw [m2 a (by omega)]
    simp (disch := omega) only [mUp_ne, ne_eq]
  clear m2
  have W2' : StA g4 125 0 0 0 0 0 (fun _ _ => 0) := W2.cg (fun a h1 h2 => fr4 a (by omega) (by omega))
  have e125 := W2'.1
  have e128 : g4 128 = cI .int 60 (fun _ => 0) := W2'.2 3 60 rfl
  simp (disch := omega) only [ms_sipush, ms_lconst, ms_ldc2_w, ms_dconst, ms_ldc, ms_getstatic, ms_iload, ms_lload, ms_dload, ms_aload, ms_istore, ms_lstore, ms_dstore, ms_astore, ms_iinc, ms_iadd, ms_isub, ms_imul, ms_idiv, ms_irem, ms_ineg, ms_iand, ms_ior, ms_ishr, ms_iushr, ms_i2b, ms_i2c, ms_i2l, ms_ladd, ms_lmul, ms_lcmp, ms_i2d, ms_ddiv, ms_dcmp, ms_dup, ms_pop, ms_dup2, ms_goto, ms_ifCond, ms_if_icmp, ms_if_acmp_eq, ms_if_acmp_ne, ms_tableswitch, ms_lookupswitch, ms_getfield, ms_putfield, ms_arraylength, ms_iaload, ms_baload, ms_laload, ms_aaload, ms_iastore, ms_bastore, ms_lastore, ms_aastore, ms_newarray, ms_new, ms_anewarray, ms_multianewarray, ms_invokevirtual, ms_invokestatic, ms_invokespecial, ms_invokedynamic_0, ms_invokedynamic_1, ms_invokedynamic_2, ms_invokedynamic_3, ms_invokedynamic_4, ms_invokedynamic_5, ms_ireturn, ms_lreturn, ms_dreturn, ms_areturn, ms_return_, Wp_cons, WSC_nx, WSC_cl, WSC_rt, WSC_th, WSC_if, lg, lset, lfree, wide, isRf, isRT, fitK, hgt, margs, mpad, rcv, rdF, rdN, rdI, rdQ, mC_eq, mC_ne, mC_lt, mC_ge, mC_gt, mC_le, mset, mnew, h_fst, h_snd, lt_drop0, List.drop_succ_cons, List.drop_zero, List.drop_nil, List.take_succ_cons, List.take_zero, List.reverse_cons, List.reverse_nil, List.nil_append, List.cons_append, List.append_nil, List.length_cons, List.length_nil, List.getElem?_cons_succ, List.getElem?_cons_zero, List.set_cons_succ, List.set_cons_zero, List.replicate, Option.toList, reduceIte, Bool.not_false, Bool.not_true, Nat.reduceLT, Nat.reduceLeDiff, Nat.reduceAdd, Nat.reduceSub, Nat.reduceMul, Int.reduceLT, Int.reduceLE, Int.reduceNeg, Int.reduceAdd, Int.reduceSub, Int.reduceMul, Int.reduceEq, and_self, true_and, and_true, false_and, and_false, or_false, false_or, true_or, or_true, not_true_eq_false, not_false_eq_true, Bool.false_eq_true, Bool.true_eq_false, decide_true, decide_false, decide_eq_true_eq, Nat.le_refl, Nat.zero_le, ge_iff_le, gt_iff_lt, Nat.lt_irrefl, reduceCtorEq, if_posD, if_negD, w32_id, Int.toNat_natCast, WCo_in, mUp_self, mUp_ne, ne_eq, Bool.true_and, Bool.and_true, Bool.false_and, Bool.and_false, Bool.true_or, Bool.or_true, Bool.false_or, Bool.or_false, Nat.reduceEqDiff, Int.cast_ofNat_Int, Int.reduceToNat, List.getD_cons_succ, List.getD_cons_zero, eq_self, swL, if_true, if_false, qX12_init_0, MX10_init, MX11_init, MX12_fill, GG1, c0, Nat.add_assoc, mUp_mUp, e125]
  refine WCl_of (m_fill (N := 60) (f := fun _ => 0) (by
    simp (disch := omega) only [mUp_ne, mUp_self, ne_eq]
    exact e128) (by decide)) (by omega) (fun v h5 hv => ?_)
  obtain ⟨rfl, f, rfl, hf⟩ := hv
  simp (disch := omega) only [ms_sipush, ms_lconst, ms_ldc2_w, ms_dconst, ms_ldc, ms_getstatic, ms_iload, ms_lload, ms_dload, ms_aload, ms_istore, ms_lstore, ms_dstore, ms_astore, ms_iinc, ms_iadd, ms_isub, ms_imul, ms_idiv, ms_irem, ms_ineg, ms_iand, ms_ior, ms_ishr, ms_iushr, ms_i2b, ms_i2c, ms_i2l, ms_ladd, ms_lmul, ms_lcmp, ms_i2d, ms_ddiv, ms_dcmp, ms_dup, ms_pop, ms_dup2, ms_goto, ms_ifCond, ms_if_icmp, ms_if_acmp_eq, ms_if_acmp_ne, ms_tableswitch, ms_lookupswitch, ms_getfield, ms_putfield, ms_arraylength, ms_iaload, ms_baload, ms_laload, ms_aaload, ms_iastore, ms_bastore, ms_lastore, ms_aastore, ms_newarray, ms_new, ms_anewarray, ms_multianewarray, ms_invokevirtual, ms_invokestatic, ms_invokespecial, ms_invokedynamic_0, ms_invokedynamic_1, ms_invokedynamic_2, ms_invokedynamic_3, ms_invokedynamic_4, ms_invokedynamic_5, ms_ireturn, ms_lreturn, ms_dreturn, ms_areturn, ms_return_, Wp_cons, WSC_nx, WSC_cl, WSC_rt, WSC_th, WSC_if, lg, lset, lfree, wide, isRf, isRT, fitK, hgt, margs, mpad, rcv, rdF, rdN, rdI, rdQ, mC_eq, mC_ne, mC_lt, mC_ge, mC_gt, mC_le, mset, mnew, h_fst, h_snd, lt_drop0, List.drop_succ_cons, List.drop_zero, List.drop_nil, List.take_succ_cons, List.take_zero, List.reverse_cons, List.reverse_nil, List.nil_append, List.cons_append, List.append_nil, List.length_cons, List.length_nil, List.getElem?_cons_succ, List.getElem?_cons_zero, List.set_cons_succ, List.set_cons_zero, List.replicate, Option.toList, reduceIte, Bool.not_false, Bool.not_true, Nat.reduceLT, Nat.reduceLeDiff, Nat.reduceAdd, Nat.reduceSub, Nat.reduceMul, Int.reduceLT, Int.reduceLE, Int.reduceNeg, Int.reduceAdd, Int.reduceSub, Int.reduceMul, Int.reduceEq, and_self, true_and, and_true, false_and, and_false, or_false, false_or, true_or, or_true, not_true_eq_false, not_false_eq_true, Bool.false_eq_true, Bool.true_eq_false, decide_true, decide_false, decide_eq_true_eq, Nat.le_refl, Nat.zero_le, ge_iff_le, gt_iff_lt, Nat.lt_irrefl, reduceCtorEq, if_posD, if_negD, w32_id, Int.toNat_natCast, WCo_in, mUp_self, mUp_ne, ne_eq, Bool.true_and, Bool.and_true, Bool.false_and, Bool.and_false, Bool.true_or, Bool.or_true, Bool.false_or, Bool.or_false, Nat.reduceEqDiff, Int.cast_ofNat_Int, Int.reduceToNat, List.getD_cons_succ, List.getD_cons_zero, eq_self, swL, if_true, if_false, qX12_init_0, MX10_init, MX11_init, MX12_fill, GG1]
  subst hP
  refine ⟨rfl, ⟨rfl, fun a ha => ?_⟩, ⟨?_, ?_, fun k hk => ?_, fun k hk hk2 => ?_⟩, W1.cg (fun a h1 h2 => ?_), ⟨f, ?_, hf⟩, W3.cg (fun a h1 h2 => ?_)⟩
  · simp (disch := omega) only [mUp_ne, ne_eq]
    rw [fr4 a (by omega) (by omega), fr3 a (by omega) (by omega)]
    exact fr2 a (by omega)
  · simp (disch := omega) only [mUp_ne, mUp_self, ne_eq]
  · simp (disch := omega) only [mUp_ne, ne_eq]
    rw [fr4 108 (by omega) (by omega), fr3 108 (by omega) (by omega)]
    exact a1
  · rcases (by omega : k = 0 ∨ k = 1 ∨ k = 2) with rfl | rfl | rfl <;> simp (disch := omega) only [mUp_ne, mUp_self, ne_eq]
  · rcases (by omega : k = 3 ∨ k = 4 ∨ k = 5) with rfl | rfl | rfl <;> simp (disch := omega) only [mUp_ne, mUp_self, ne_eq]
  · simp (disch := omega) only [mUp_ne, ne_eq]
    rw [fr4 a (by omega) (by omega), fr3 a (by omega) (by omega)]
  · have := W2'.wr (k := 3) (m := 60) (f := f) rfl
    refine this.cg (fun a h1 h2 => ?_)
    by_cases ha : a = 128
    · subst ha
      rw [mUp_self]
      exact (mUp_self g4 128 _).symm
    · simp (disch := omega) only [mUp_ne, ne_eq]
  · simp (disch := omega) only [mUp_ne, ne_eq]
end MOD2
