/-! ===== LANDS OF THE CLASS: copies, beginnings ===== -/
/-- a land at b, whatever it holds -/
def LaW (hc : Nat → MC) (b : Nat) : Prop := ∃ (pb n c : Nat) (nw nr nl : Int) (F' : Nat → Nat → Int) (hr ca lo : Int) (wn ht : Nat) (F : Nat → Nat → Int), RoA hc (b + 1) n c nw nr nl F' ∧ LaA hc b pb hr ca lo wn ht F
section COPY
variable {L : Nat} {xs : Nat → Int} {fm : Bool} {h h2 : MH} {hc hc' : Nat → MC} {b b' pb n c n' c' : Nat} {nw nr nl nw' nr' nl' : Int} {F F' : Nat → Nat → Int} {fr to : Nat → Nat} {mi wo : Nat → Int} {Q : Pn} {S : St8} {m0 : Nat → Int}
theorem LaW.cg (hL : LaW hc b) (hf : ∀ a, b ≤ a → a < b + 33 → hc' a = hc a) : LaW hc' b := by
  obtain ⟨pb, n, c, nw, nr, nl, F', hr, ca, lo, wn, ht, F, h1, h2⟩ := hL
  exact ⟨pb, n, c, nw, nr, nl, F', hr, ca, lo, wn, ht, F, h1.cg (fun a h3 h4 => hf a (by omega) (by omega)), h2.cg hf⟩
theorem LaV.w (hL : LaV hc b pb Q S) : LaW hc b := by
  obtain ⟨⟨nw, nr, nl, F', hR, -⟩, ht, F, h2, -⟩ := hL
  exact ⟨_, _, _, _, _, _, _, _, _, _, _, _, _, hR, h2⟩
theorem ro_copy (hV : RoV h.1 b' n c fr to mi wo) (hR : RoA h.1 b n' c' nw nr nl F) (hs : b' + 23 ≤ b ∨ b + 23 ≤ b') : Sp (GG L xs fm) 1 mX7_copy [qR b, qR b'] h (fun v h2 => v = .inl none ∧ Fm b 23 h h2 ∧ RoV h2.1 b n c fr to mi wo) := by
  obtain ⟨nw', nr', nl', F', hR', hO, hF, hC, hN⟩ := hV
  have hc14 := hO.2.1
  have e0 := hR.1
  have e1 := hR.2.2 1 _ _ rfl
  have e2 := hR.2.2 2 _ _ rfl
  have e3 := hR.2.2 3 _ _ rfl
  have e4 := hR.2.2 4 _ _ rfl
  have e5 := hR.2.2 5 _ _ rfl
  have f0 := hR'.1
  have f1 := hR'.2.2 1 _ _ rfl
  have f2 := hR'.2.2 2 _ _ rfl
  have f3 := hR'.2.2 3 _ _ rfl
  have f4 := hR'.2.2 4 _ _ rfl
  have f5 := hR'.2.2 5 _ _ rfl
  have r5 := ((((((hR.ob (n' := n) (c' := c) (nw' := nw) (nr' := nr) (nl' := nl)).wr (k := 1) (ty := .int) (m := 14) (f := fun j => if j < 14 then F' 1 j else F 1 j) rfl).wr (k := 2) (ty := .int) (m := 14) (f := fun j => if j < 14 then F' 2 j else F 2 j) rfl).wr (k := 3) (ty := .int) (m := 14) (f := fun j => if j < 14 then F' 3 j else F 3 j) rfl).wr (k := 4) (ty := .int) (m := 14) (f := fun j => if j < 14 then F' 4 j else F 4 j) rfl).wr (k := 5) (ty := .int) (m := 14) (f := fun j => if j < 14 then F' 5 j else F 5 j) rfl)
  refine Sp_of MX7_copy ?_
  simp (disch := omega) only [ms_sipush, ms_lconst, ms_ldc2_w, ms_dconst, ms_ldc, ms_getstatic, ms_iload, ms_lload, ms_dload, ms_aload, ms_istore, ms_lstore, ms_dstore, ms_astore, ms_iinc, ms_iadd, ms_isub, ms_imul, ms_idiv, ms_irem, ms_ineg, ms_iand, ms_ior, ms_ishr, ms_ishl, ms_iushr, ms_i2b, ms_i2c, ms_i2l, ms_ladd, ms_lmul, ms_lcmp, ms_i2d, ms_ddiv, ms_dcmp, ms_dup, ms_pop, ms_dup2, ms_dup_x1, ms_aconst_null, ms_ifnull, ms_ifnonnull, ms_checkcast, ms_goto, ms_ifCond, ms_if_icmp, ms_if_acmp_eq, ms_if_acmp_ne, ms_tableswitch, ms_lookupswitch, ms_getfield, ms_putfield, ms_arraylength, ms_iaload, ms_baload, ms_laload, ms_aaload, ms_iastore, ms_bastore, ms_lastore, ms_aastore, ms_newarray, ms_new, ms_anewarray, ms_multianewarray, ms_invokevirtual, ms_invokestatic, ms_invokespecial, ms_invokeinterface, ms_invokedynamic_0, ms_invokedynamic_1, ms_invokedynamic_2, ms_invokedynamic_3, ms_invokedynamic_4, ms_invokedynamic_5, ms_invokedynamic_6, ms_invokedynamic_7, ms_invokedynamic_8, ms_ireturn, ms_lreturn, ms_dreturn, ms_areturn, ms_return_, Wp_cons, WSC_nx, WSC_cl, WSC_rt, WSC_th, WSC_if, lg, lset, lfree, wide, isRf, isRT, fitK, hgt, margs, mpad, rcv, rdF, rdN, rdI, rdQ, mC_eq, mC_ne, mC_lt, mC_ge, mC_gt, mC_le, mset, mnew, h_fst, h_snd, lt_drop0, List.drop_succ_cons, List.drop_zero, List.drop_nil, List.take_succ_cons, List.take_zero, List.reverse_cons, List.reverse_nil, List.nil_append, List.cons_append, List.append_nil, List.length_cons, List.length_nil, List.getElem?_cons_succ, List.getElem?_cons_zero, List.set_cons_succ, List.set_cons_zero, List.replicate, Option.toList, reduceIte, Bool.not_false, Bool.not_true, Nat.reduceLT, Nat.reduceLeDiff, Nat.reduceAdd, Nat.reduceSub, Nat.reduceMul, Int.reduceLT, Int.reduceLE, Int.reduceNeg, Int.reduceAdd, Int.reduceSub, Int.reduceMul, Int.reduceEq, and_self, true_and, and_true, false_and, and_false, or_false, false_or, true_or, or_true, not_true_eq_false, not_false_eq_true, Bool.false_eq_true, Bool.true_eq_false, decide_true, decide_false, decide_eq_true_eq, Nat.le_refl, Nat.zero_le, ge_iff_le, gt_iff_lt, Nat.lt_irrefl, reduceCtorEq, if_posD, if_negD, w32_id, Int.toNat_natCast, WCo_in, mUp_self, mUp_ne, ne_eq, Bool.true_and, Bool.and_true, Bool.false_and, Bool.and_false, Bool.true_or, Bool.or_true, Bool.false_or, Bool.or_false, Nat.reduceEqDiff, Int.cast_ofNat_Int, Int.reduceToNat, List.getD_cons_succ, List.getD_cons_zero, eq_self, swL, if_true, if_false, nqT, isNl, qX7_copy_0, MX7_forgetWays, GG1, e0, e1, e2, e3, e4, e5, f0, f1, f2, f3, f4, f5, mCopy, Nat.zero_add, Nat.sub_zero, mUp_mUp]
  refine WCl_of (ro_forgetWays (h := (_, h.2)) r5) (by omega) (fun v h2 hv => ?_)
  obtain ⟨rfl, g2, f, r6, v6⟩ := hv
  simp (disch := omega) only [ms_sipush, ms_lconst, ms_ldc2_w, ms_dconst, ms_ldc, ms_getstatic, ms_iload, ms_lload, ms_dload, ms_aload, ms_istore, ms_lstore, ms_dstore, ms_astore, ms_iinc, ms_iadd, ms_isub, ms_imul, ms_idiv, ms_irem, ms_ineg, ms_iand, ms_ior, ms_ishr, ms_ishl, ms_iushr, ms_i2b, ms_i2c, ms_i2l, ms_ladd, ms_lmul, ms_lcmp, ms_i2d, ms_ddiv, ms_dcmp, ms_dup, ms_pop, ms_dup2, ms_dup_x1, ms_aconst_null, ms_ifnull, ms_ifnonnull, ms_checkcast, ms_goto, ms_ifCond, ms_if_icmp, ms_if_acmp_eq, ms_if_acmp_ne, ms_tableswitch, ms_lookupswitch, ms_getfield, ms_putfield, ms_arraylength, ms_iaload, ms_baload, ms_laload, ms_aaload, ms_iastore, ms_bastore, ms_lastore, ms_aastore, ms_newarray, ms_new, ms_anewarray, ms_multianewarray, ms_invokevirtual, ms_invokestatic, ms_invokespecial, ms_invokeinterface, ms_invokedynamic_0, ms_invokedynamic_1, ms_invokedynamic_2, ms_invokedynamic_3, ms_invokedynamic_4, ms_invokedynamic_5, ms_invokedynamic_6, ms_invokedynamic_7, ms_invokedynamic_8, ms_ireturn, ms_lreturn, ms_dreturn, ms_areturn, ms_return_, Wp_cons, WSC_nx, WSC_cl, WSC_rt, WSC_th, WSC_if, lg, lset, lfree, wide, isRf, isRT, fitK, hgt, margs, mpad, rcv, rdF, rdN, rdI, rdQ, mC_eq, mC_ne, mC_lt, mC_ge, mC_gt, mC_le, mset, mnew, h_fst, h_snd, lt_drop0, List.drop_succ_cons, List.drop_zero, List.drop_nil, List.take_succ_cons, List.take_zero, List.reverse_cons, List.reverse_nil, List.nil_append, List.cons_append, List.append_nil, List.length_cons, List.length_nil, List.getElem?_cons_succ, List.getElem?_cons_zero, List.set_cons_succ, List.set_cons_zero, List.replicate, Option.toList, reduceIte, Bool.not_false, Bool.not_true, Nat.reduceLT, Nat.reduceLeDiff, Nat.reduceAdd, Nat.reduceSub, Nat.reduceMul, Int.reduceLT, Int.reduceLE, Int.reduceNeg, Int.reduceAdd, Int.reduceSub, Int.reduceMul, Int.reduceEq, and_self, true_and, and_true, false_and, and_false, or_false, false_or, true_or, or_true, not_true_eq_false, not_false_eq_true, Bool.false_eq_true, Bool.true_eq_false, decide_true, decide_false, decide_eq_true_eq, Nat.le_refl, Nat.zero_le, ge_iff_le, gt_iff_lt, Nat.lt_irrefl, reduceCtorEq, if_posD, if_negD, w32_id, Int.toNat_natCast, WCo_in, mUp_self, mUp_ne, ne_eq, Bool.true_and, Bool.and_true, Bool.false_and, Bool.and_false, Bool.true_or, Bool.or_true, Bool.false_or, Bool.or_false, Nat.reduceEqDiff, Int.cast_ofNat_Int, Int.reduceToNat, List.getD_cons_succ, List.getD_cons_zero, eq_self, swL, if_true, if_false, nqT, isNl]
  refine ⟨((((((Fm.rf.at (by omega) (by omega)).at (by omega) (by omega)).at (by omega) (by omega)).at (by omega) (by omega)).at (by omega) (by omega)).at (by omega) (by omega)).tr g2, _, _, _, _, r6, hO, fun r hr => ?_, CaV.nil hO.1 v6, Or.inl rfl⟩
  have hr14 : r < 14 := by omega
  obtain ⟨j1, j2, j3, j4, j5⟩ := hF r hr
  refine ⟨?_, ?_, ?_, ?_, ?_⟩
  · show (if r < 14 then F' 1 r else F 1 r) = _
    rw [if_pos hr14, j1]
  · show (if r < 14 then F' 2 r else F 2 r) = _
    rw [if_pos hr14, j2]
  · show (if r < 14 then F' 3 r else F 3 r) = _
    rw [if_pos hr14, j3]
  · show (if r < 14 then F' 4 r else F 4 r) = _
    rw [if_pos hr14, j4]
  · show (if r < 14 then F' 5 r else F 5 r) = _
    rw [if_pos hr14, j5]
theorem la_copy (hV : LaV h.1 b' pb Q S) (hW : LaW h.1 b) (hs : b' + 33 ≤ b) (hn10 : Q.1 ≤ 10) (hse : ∀ i, i < 60 → S.2.2.2.2.2.2.1 i = 0 ∨ S.2.2.2.2.2.2.1 i = 1) (hw168 : S.2.2.2.2.2.2.2.length ≤ 168) : Sp (GG L xs fm) 2 mX3_copy [qR b, qR b'] h (fun v h2 => v = .inl none ∧ Fm b 33 h h2 ∧ LaV h2.1 b pb Q S) := by
  obtain ⟨v1, ht', F', hL', hE, hSe, hWs⟩ := hV
  obtain ⟨pb', n, c, nw, nr, nl, G, hr, ca, lo, wn, ht, F, hR, hL⟩ := hW
  have e0 := hL.1
  have d0 := hL'.1
  have d26 := hL'.2.2 26 _ _ rfl
  have r0 := hR.1
  have hL1 := hL.ob (pb' := pb) (hr' := hr) (ca' := ca) (lo' := lo) (wn' := wn) rfl
  have hR1 : RoA (mUp h.1 b (cO 3 [qR (b + 1), qR (b + 24), qR pb, qI hr, qI ca, qI lo, qR (b + 26), qR (b + 27), qR (b + 28), qI ((wn : Nat) : Int), qR (b + 29), qR (b + 30), qR (b + 31), qR (b + 32)])) (b + 1) n c nw nr nl G := hR.cg (fun a h1 h3 => mUp_ne (by omega))
  have v1' : RoV (mUp h.1 b (cO 3 [qR (b + 1), qR (b + 24), qR pb, qI hr, qI ca, qI lo, qR (b + 26), qR (b + 27), qR (b + 28), qI ((wn : Nat) : Int), qR (b + 29), qR (b + 30), qR (b + 31), qR (b + 32)])) (b' + 1) Q.1 Q.2.1 Q.2.2.2.2.1 Q.2.2.2.2.2.1 S.2.2.2.1 S.2.2.2.2.1 := v1.cg (fun a h1 h3 => mUp_ne (by omega))
  refine Sp_of MX3_copy ?_
  simp (disch := omega) only [ms_sipush, ms_lconst, ms_ldc2_w, ms_dconst, ms_ldc, ms_getstatic, ms_iload, ms_lload, ms_dload, ms_aload, ms_istore, ms_lstore, ms_dstore, ms_astore, ms_iinc, ms_iadd, ms_isub, ms_imul, ms_idiv, ms_irem, ms_ineg, ms_iand, ms_ior, ms_ishr, ms_ishl, ms_iushr, ms_i2b, ms_i2c, ms_i2l, ms_ladd, ms_lmul, ms_lcmp, ms_i2d, ms_ddiv, ms_dcmp, ms_dup, ms_pop, ms_dup2, ms_dup_x1, ms_aconst_null, ms_ifnull, ms_ifnonnull, ms_checkcast, ms_goto, ms_ifCond, ms_if_icmp, ms_if_acmp_eq, ms_if_acmp_ne, ms_tableswitch, ms_lookupswitch, ms_getfield, ms_putfield, ms_arraylength, ms_iaload, ms_baload, ms_laload, ms_aaload, ms_iastore, ms_bastore, ms_lastore, ms_aastore, ms_newarray, ms_new, ms_anewarray, ms_multianewarray, ms_invokevirtual, ms_invokestatic, ms_invokespecial, ms_invokeinterface, ms_invokedynamic_0, ms_invokedynamic_1, ms_invokedynamic_2, ms_invokedynamic_3, ms_invokedynamic_4, ms_invokedynamic_5, ms_invokedynamic_6, ms_invokedynamic_7, ms_invokedynamic_8, ms_ireturn, ms_lreturn, ms_dreturn, ms_areturn, ms_return_, Wp_cons, WSC_nx, WSC_cl, WSC_rt, WSC_th, WSC_if, lg, lset, lfree, wide, isRf, isRT, fitK, hgt, margs, mpad, rcv, rdF, rdN, rdI, rdQ, mC_eq, mC_ne, mC_lt, mC_ge, mC_gt, mC_le, mset, mnew, h_fst, h_snd, lt_drop0, List.drop_succ_cons, List.drop_zero, List.drop_nil, List.take_succ_cons, List.take_zero, List.reverse_cons, List.reverse_nil, List.nil_append, List.cons_append, List.append_nil, List.length_cons, List.length_nil, List.getElem?_cons_succ, List.getElem?_cons_zero, List.set_cons_succ, List.set_cons_zero, List.replicate, Option.toList, reduceIte, Bool.not_false, Bool.not_true, Nat.reduceLT, Nat.reduceLeDiff, Nat.reduceAdd, Nat.reduceSub, Nat.reduceMul, Int.reduceLT, Int.reduceLE, Int.reduceNeg, Int.reduceAdd, Int.reduceSub, Int.reduceMul, Int.reduceEq, and_self, true_and, and_true, false_and, and_false, or_false, false_or, true_or, or_true, not_true_eq_false, not_false_eq_true, Bool.false_eq_true, Bool.true_eq_false, decide_true, decide_false, decide_eq_true_eq, Nat.le_refl, Nat.zero_le, ge_iff_le, gt_iff_lt, Nat.lt_irrefl, reduceCtorEq, if_posD, if_negD, w32_id, Int.toNat_natCast, WCo_in, mUp_self, mUp_ne, ne_eq, Bool.true_and, Bool.and_true, Bool.false_and, Bool.and_false, Bool.true_or, Bool.or_true, Bool.false_or, Bool.or_false, Nat.reduceEqDiff, Int.cast_ofNat_Int, Int.reduceToNat, List.getD_cons_succ, List.getD_cons_zero, eq_self, swL, if_true, if_false, nqT, isNl, qX3_copy_0, MX7_copy, GG1, e0, d0, r0]
  refine WCl_of (ro_copy (h := (_, h.2)) v1' hR1 (Or.inl (by omega))) (by omega) (fun v h2 hv => ?_)
  obtain ⟨rfl, f2, v2⟩ := hv
  have hL2 := hL1.fmr f2
  have hL2' : LaA h2.1 b' pb S.1 S.2.1 S.2.2.1 S.2.2.2.2.2.2.2.length ht' F' := hL'.cg (fun a h1 h3 => by
    rw [f2.2 a (by omega)]
    exact mUp_ne (by omega))
  have a0 := hL2.1
  have a26 := hL2.2.2 26 _ _ rfl
  have c0 := hL2'.1
  have c26 := hL2'.2.2 26 _ _ rfl
  have hLL := (hL2.ob (pb' := pb) (hr' := S.1) (ca' := S.2.1) (lo' := S.2.2.1) (wn' := wn) rfl).wr (k := 26) (ty := .int) (m := 60) (f := fun j => if j < 60 then F' 26 j else F 26 j) rfl
  simp (disch := omega) only [ms_sipush, ms_lconst, ms_ldc2_w, ms_dconst, ms_ldc, ms_getstatic, ms_iload, ms_lload, ms_dload, ms_aload, ms_istore, ms_lstore, ms_dstore, ms_astore, ms_iinc, ms_iadd, ms_isub, ms_imul, ms_idiv, ms_irem, ms_ineg, ms_iand, ms_ior, ms_ishr, ms_ishl, ms_iushr, ms_i2b, ms_i2c, ms_i2l, ms_ladd, ms_lmul, ms_lcmp, ms_i2d, ms_ddiv, ms_dcmp, ms_dup, ms_pop, ms_dup2, ms_dup_x1, ms_aconst_null, ms_ifnull, ms_ifnonnull, ms_checkcast, ms_goto, ms_ifCond, ms_if_icmp, ms_if_acmp_eq, ms_if_acmp_ne, ms_tableswitch, ms_lookupswitch, ms_getfield, ms_putfield, ms_arraylength, ms_iaload, ms_baload, ms_laload, ms_aaload, ms_iastore, ms_bastore, ms_lastore, ms_aastore, ms_newarray, ms_new, ms_anewarray, ms_multianewarray, ms_invokevirtual, ms_invokestatic, ms_invokespecial, ms_invokeinterface, ms_invokedynamic_0, ms_invokedynamic_1, ms_invokedynamic_2, ms_invokedynamic_3, ms_invokedynamic_4, ms_invokedynamic_5, ms_invokedynamic_6, ms_invokedynamic_7, ms_invokedynamic_8, ms_ireturn, ms_lreturn, ms_dreturn, ms_areturn, ms_return_, Wp_cons, WSC_nx, WSC_cl, WSC_rt, WSC_th, WSC_if, lg, lset, lfree, wide, isRf, isRT, fitK, hgt, margs, mpad, rcv, rdF, rdN, rdI, rdQ, mC_eq, mC_ne, mC_lt, mC_ge, mC_gt, mC_le, mset, mnew, h_fst, h_snd, lt_drop0, List.drop_succ_cons, List.drop_zero, List.drop_nil, List.take_succ_cons, List.take_zero, List.reverse_cons, List.reverse_nil, List.nil_append, List.cons_append, List.append_nil, List.length_cons, List.length_nil, List.getElem?_cons_succ, List.getElem?_cons_zero, List.set_cons_succ, List.set_cons_zero, List.replicate, Option.toList, reduceIte, Bool.not_false, Bool.not_true, Nat.reduceLT, Nat.reduceLeDiff, Nat.reduceAdd, Nat.reduceSub, Nat.reduceMul, Int.reduceLT, Int.reduceLE, Int.reduceNeg, Int.reduceAdd, Int.reduceSub, Int.reduceMul, Int.reduceEq, and_self, true_and, and_true, false_and, and_false, or_false, false_or, true_or, or_true, not_true_eq_false, not_false_eq_true, Bool.false_eq_true, Bool.true_eq_false, decide_true, decide_false, decide_eq_true_eq, Nat.le_refl, Nat.zero_le, ge_iff_le, gt_iff_lt, Nat.lt_irrefl, reduceCtorEq, if_posD, if_negD, w32_id, Int.toNat_natCast, WCo_in, mUp_self, mUp_ne, ne_eq, Bool.true_and, Bool.and_true, Bool.false_and, Bool.and_false, Bool.true_or, Bool.or_true, Bool.false_or, Bool.or_false, Nat.reduceEqDiff, Int.cast_ofNat_Int, Int.reduceToNat, List.getD_cons_succ, List.getD_cons_zero, eq_self, swL, if_true, if_false, nqT, isNl, a0, c0, a26, c26, mCopy, Nat.zero_add, Nat.sub_zero, mUp_mUp]
  have loop : ∀ (m j : Nat) (f : Nat → Int) (h3 : MH), j + m = 60 → (∀ i, i < j → f i = F' 27 i) → LaA h3.1 b pb S.1 S.2.1 S.2.2.1 wn ht (mUp (mUp F 26 (fun j => if j < 60 then F' 26 j else F 26 j)) 27 f) → RoV h3.1 (b + 1) Q.1 Q.2.1 Q.2.2.2.2.1 Q.2.2.2.2.2.1 S.2.2.2.1 S.2.2.2.2.1 → Fm b 33 h h3 → Wp (GG L xs fm) 2 BX3_copy (BX3_copy 1) [qR b, qR b', qI j] [] h3 (fun v h2 => v = .inl none ∧ Fm b 33 h h2 ∧ LaV h2.1 b pb Q S) := by
    intro m
    induction m with
    | zero =>
      intro j f h3 hj hf hL3 v3 f3
      obtain rfl : j = 60 := by omega
      have hL3' : LaA h3.1 b' pb S.1 S.2.1 S.2.2.1 S.2.2.2.2.2.2.2.length ht' F' := hL'.cg (fun a h1 h3 => f3.2 a (by omega))
      have a0 := hL3.1
      have a27 := hL3.2.2 27 _ _ rfl
      have a29 := hL3.2.2 29 _ _ rfl
      have a30 := hL3.2.2 30 _ _ rfl
      have a31 := hL3.2.2 31 _ _ rfl
      have a32 := hL3.2.2 32 _ _ rfl
      have c0 := hL3'.1
      have c29 := hL3'.2.2 29 _ _ rfl
      have c30 := hL3'.2.2 30 _ _ rfl
      have c31 := hL3'.2.2 31 _ _ rfl
      have c32 := hL3'.2.2 32 _ _ rfl
      have g29 : (mUp (mUp F 26 (fun j => if j < 60 then F' 26 j else F 26 j)) 27 f) 29 = F 29 := rfl
      have g30 : (mUp (mUp F 26 (fun j => if j < 60 then F' 26 j else F 26 j)) 27 f) 30 = F 30 := rfl
      have g31 : (mUp (mUp F 26 (fun j => if j < 60 then F' 26 j else F 26 j)) 27 f) 31 = F 31 := rfl
      have g32 : (mUp (mUp F 26 (fun j => if j < 60 then F' 26 j else F 26 j)) 27 f) 32 = F 32 := rfl
      rw [g29] at a29
      rw [g30] at a30
      rw [g31] at a31
      rw [g32] at a32
      generalize hw : S.2.2.2.2.2.2.2.length = w at *
      have hLL := ((((hL3.ob (pb' := pb) (hr' := S.1) (ca' := S.2.1) (lo' := S.2.2.1) (wn' := w) rfl).wr (k := 29) (ty := .int) (m := 168) (f := fun j => if j < w then F' 29 j else F 29 j) rfl).wr (k := 30) (ty := .int) (m := 168) (f := fun j => if j < w then F' 30 j else F 30 j) rfl).wr (k := 31) (ty := .int) (m := 168) (f := fun j => if j < w then F' 31 j else F 31 j) rfl).wr (k := 32) (ty := .int) (m := 168) (f := fun j => if j < w then F' 32 j else F 32 j) rfl
      rw [qX3_copy_1]
      simp (disch := omega) only [ms_sipush, ms_lconst, ms_ldc2_w, ms_dconst, ms_ldc, ms_getstatic, ms_iload, ms_lload, ms_dload, ms_aload, ms_istore, ms_lstore, ms_dstore, ms_astore, ms_iinc, ms_iadd, ms_isub, ms_imul, ms_idiv, ms_irem, ms_ineg, ms_iand, ms_ior, ms_ishr, ms_ishl, ms_iushr, ms_i2b, ms_i2c, ms_i2l, ms_ladd, ms_lmul, ms_lcmp, ms_i2d, ms_ddiv, ms_dcmp, ms_dup, ms_pop, ms_dup2, ms_dup_x1, ms_aconst_null, ms_ifnull, ms_ifnonnull, ms_checkcast, ms_goto, ms_ifCond, ms_if_icmp, ms_if_acmp_eq, ms_if_acmp_ne, ms_tableswitch, ms_lookupswitch, ms_getfield, ms_putfield, ms_arraylength, ms_iaload, ms_baload, ms_laload, ms_aaload, ms_iastore, ms_bastore, ms_lastore, ms_aastore, ms_newarray, ms_new, ms_anewarray, ms_multianewarray, ms_invokevirtual, ms_invokestatic, ms_invokespecial, ms_invokeinterface, ms_invokedynamic_0, ms_invokedynamic_1, ms_invokedynamic_2, ms_invokedynamic_3, ms_invokedynamic_4, ms_invokedynamic_5, ms_invokedynamic_6, ms_invokedynamic_7, ms_invokedynamic_8, ms_ireturn, ms_lreturn, ms_dreturn, ms_areturn, ms_return_, Wp_cons, WSC_nx, WSC_cl, WSC_rt, WSC_th, WSC_if, lg, lset, lfree, wide, isRf, isRT, fitK, hgt, margs, mpad, rcv, rdF, rdN, rdI, rdQ, mC_eq, mC_ne, mC_lt, mC_ge, mC_gt, mC_le, mset, mnew, h_fst, h_snd, lt_drop0, List.drop_succ_cons, List.drop_zero, List.drop_nil, List.take_succ_cons, List.take_zero, List.reverse_cons, List.reverse_nil, List.nil_append, List.cons_append, List.append_nil, List.length_cons, List.length_nil, List.getElem?_cons_succ, List.getElem?_cons_zero, List.set_cons_succ, List.set_cons_zero, List.replicate, Option.toList, reduceIte, Bool.not_false, Bool.not_true, Nat.reduceLT, Nat.reduceLeDiff, Nat.reduceAdd, Nat.reduceSub, Nat.reduceMul, Int.reduceLT, Int.reduceLE, Int.reduceNeg, Int.reduceAdd, Int.reduceSub, Int.reduceMul, Int.reduceEq, and_self, true_and, and_true, false_and, and_false, or_false, false_or, true_or, or_true, not_true_eq_false, not_false_eq_true, Bool.false_eq_true, Bool.true_eq_false, decide_true, decide_false, decide_eq_true_eq, Nat.le_refl, Nat.zero_le, ge_iff_le, gt_iff_lt, Nat.lt_irrefl, reduceCtorEq, if_posD, if_negD, w32_id, Int.toNat_natCast, WCo_in, mUp_self, mUp_ne, ne_eq, Bool.true_and, Bool.and_true, Bool.false_and, Bool.and_false, Bool.true_or, Bool.or_true, Bool.false_or, Bool.or_false, Nat.reduceEqDiff, Int.cast_ofNat_Int, Int.reduceToNat, List.getD_cons_succ, List.getD_cons_zero, eq_self, swL, if_true, if_false, nqT, isNl, a0, a27, qX3_copy_2, MX7_copy, GG1, c0, a29, a30, a31, a32, c29, c30, c31, c32, mCopy, Nat.zero_add, Nat.sub_zero, mUp_mUp]
      refine ⟨(((((f3.at (by omega) (by omega)).at (by omega) (by omega)).at (by omega) (by omega)).at (by omega) (by omega)).at (by omega) (by omega)), v3.cg (fun a h1 h3 => by rw [mUp_ne (by omega), mUp_ne (by omega), mUp_ne (by omega), mUp_ne (by omega), mUp_ne (by omega)]), ht, _, by rw [hw]; exact hLL, fun i hi => ?_, fun i hi => ?_, fun i x hx => ?_⟩
      · have hi60 : i < 60 := by omega
        show (if i < 60 then F' 26 i else F 26 i) = _
        rw [if_pos hi60]
        exact hE i hi
      · show f i = _
        rw [hf i (by omega)]
        exact hSe i hi
      · have hil := (List.getElem?_eq_some_iff.mp hx).1
        have hiw : i < w := by omega
        obtain ⟨x1, x2, x3, x4⟩ := hWs i x hx
        refine ⟨?_, ?_, ?_, ?_⟩
        · show (if i < w then F' 29 i else F 29 i) = _
          rw [if_pos hiw, x1]
        · show (if i < w then F' 30 i else F 30 i) = _
          rw [if_pos hiw, x2]
        · show (if i < w then F' 31 i else F 31 i) = _
          rw [if_pos hiw, x3]
        · show (if i < w then F' 32 i else F 32 i) = _
          rw [if_pos hiw, x4]
    | succ m ih =>
      intro j f h3 hj hf hL3 v3 f3
      have hL3' : LaA h3.1 b' pb S.1 S.2.1 S.2.2.1 S.2.2.2.2.2.2.2.length ht' F' := hL'.cg (fun a h1 h3 => f3.2 a (by omega))
      have a0 := hL3.1
      have a27 := hL3.2.2 27 _ _ rfl
      rw [mUp_self] at a27
      have c0 := hL3'.1
      have c27 := hL3'.2.2 27 _ _ rfl
      have hv := hse j (by omega)
      rw [← hSe j (by omega)] at hv
      have hLL := hL3.wr (k := 27) (ty := .boolean) (m := 60) (f := mUp f j (F' 27 j)) rfl
      rw [mUp_mUp] at hLL
      have := ih (j + 1) (mUp f j (F' 27 j)) (_, h3.2) (by omega) (fun i hi => by
        by_cases hij : i = j
        · rw [hij, mUp_self]
        · rw [mUp_ne hij]; exact hf i (by omega)) hLL (v3.cg (fun a h1 h3 => mUp_ne (by omega))) (f3.at (by omega) (by omega))
      rw [Int.natCast_add] at this
      rw [qX3_copy_1]
      rcases hv with hv | hv
      · rw [hv] at this
        simp (disch := omega) only [ms_sipush, ms_lconst, ms_ldc2_w, ms_dconst, ms_ldc, ms_getstatic, ms_iload, ms_lload, ms_dload, ms_aload, ms_istore, ms_lstore, ms_dstore, ms_astore, ms_iinc, ms_iadd, ms_isub, ms_imul, ms_idiv, ms_irem, ms_ineg, ms_iand, ms_ior, ms_ishr, ms_ishl, ms_iushr, ms_i2b, ms_i2c, ms_i2l, ms_ladd, ms_lmul, ms_lcmp, ms_i2d, ms_ddiv, ms_dcmp, ms_dup, ms_pop, ms_dup2, ms_dup_x1, ms_aconst_null, ms_ifnull, ms_ifnonnull, ms_checkcast, ms_goto, ms_ifCond, ms_if_icmp, ms_if_acmp_eq, ms_if_acmp_ne, ms_tableswitch, ms_lookupswitch, ms_getfield, ms_putfield, ms_arraylength, ms_iaload, ms_baload, ms_laload, ms_aaload, ms_iastore, ms_bastore, ms_lastore, ms_aastore, ms_newarray, ms_new, ms_anewarray, ms_multianewarray, ms_invokevirtual, ms_invokestatic, ms_invokespecial, ms_invokeinterface, ms_invokedynamic_0, ms_invokedynamic_1, ms_invokedynamic_2, ms_invokedynamic_3, ms_invokedynamic_4, ms_invokedynamic_5, ms_invokedynamic_6, ms_invokedynamic_7, ms_invokedynamic_8, ms_ireturn, ms_lreturn, ms_dreturn, ms_areturn, ms_return_, Wp_cons, WSC_nx, WSC_cl, WSC_rt, WSC_th, WSC_if, lg, lset, lfree, wide, isRf, isRT, fitK, hgt, margs, mpad, rcv, rdF, rdN, rdI, rdQ, mC_eq, mC_ne, mC_lt, mC_ge, mC_gt, mC_le, mset, mnew, h_fst, h_snd, lt_drop0, List.drop_succ_cons, List.drop_zero, List.drop_nil, List.take_succ_cons, List.take_zero, List.reverse_cons, List.reverse_nil, List.nil_append, List.cons_append, List.append_nil, List.length_cons, List.length_nil, List.getElem?_cons_succ, List.getElem?_cons_zero, List.set_cons_succ, List.set_cons_zero, List.replicate, Option.toList, reduceIte, Bool.not_false, Bool.not_true, Nat.reduceLT, Nat.reduceLeDiff, Nat.reduceAdd, Nat.reduceSub, Nat.reduceMul, Int.reduceLT, Int.reduceLE, Int.reduceNeg, Int.reduceAdd, Int.reduceSub, Int.reduceMul, Int.reduceEq, and_self, true_and, and_true, false_and, and_false, or_false, false_or, true_or, or_true, not_true_eq_false, not_false_eq_true, Bool.false_eq_true, Bool.true_eq_false, decide_true, decide_false, decide_eq_true_eq, Nat.le_refl, Nat.zero_le, ge_iff_le, gt_iff_lt, Nat.lt_irrefl, reduceCtorEq, if_posD, if_negD, w32_id, Int.toNat_natCast, WCo_in, mUp_self, mUp_ne, ne_eq, Bool.true_and, Bool.and_true, Bool.false_and, Bool.and_false, Bool.true_or, Bool.or_true, Bool.false_or, Bool.or_false, Nat.reduceEqDiff, Int.cast_ofNat_Int, Int.reduceToNat, List.getD_cons_succ, List.getD_cons_zero, eq_self, swL, if_true, if_false, nqT, isNl, a0, a27, c0, c27, hv]
        exact this
      · rw [hv] at this
        simp (disch := omega) only [ms_sipush, ms_lconst, ms_ldc2_w, ms_dconst, ms_ldc, ms_getstatic, ms_iload, ms_lload, ms_dload, ms_aload, ms_istore, ms_lstore, ms_dstore, ms_astore, ms_iinc, ms_iadd, ms_isub, ms_imul, ms_idiv, ms_irem, ms_ineg, ms_iand, ms_ior, ms_ishr, ms_ishl, ms_iushr, ms_i2b, ms_i2c, ms_i2l, ms_ladd, ms_lmul, ms_lcmp, ms_i2d, ms_ddiv, ms_dcmp, ms_dup, ms_pop, ms_dup2, ms_dup_x1, ms_aconst_null, ms_ifnull, ms_ifnonnull, ms_checkcast, ms_goto, ms_ifCond, ms_if_icmp, ms_if_acmp_eq, ms_if_acmp_ne, ms_tableswitch, ms_lookupswitch, ms_getfield, ms_putfield, ms_arraylength, ms_iaload, ms_baload, ms_laload, ms_aaload, ms_iastore, ms_bastore, ms_lastore, ms_aastore, ms_newarray, ms_new, ms_anewarray, ms_multianewarray, ms_invokevirtual, ms_invokestatic, ms_invokespecial, ms_invokeinterface, ms_invokedynamic_0, ms_invokedynamic_1, ms_invokedynamic_2, ms_invokedynamic_3, ms_invokedynamic_4, ms_invokedynamic_5, ms_invokedynamic_6, ms_invokedynamic_7, ms_invokedynamic_8, ms_ireturn, ms_lreturn, ms_dreturn, ms_areturn, ms_return_, Wp_cons, WSC_nx, WSC_cl, WSC_rt, WSC_th, WSC_if, lg, lset, lfree, wide, isRf, isRT, fitK, hgt, margs, mpad, rcv, rdF, rdN, rdI, rdQ, mC_eq, mC_ne, mC_lt, mC_ge, mC_gt, mC_le, mset, mnew, h_fst, h_snd, lt_drop0, List.drop_succ_cons, List.drop_zero, List.drop_nil, List.take_succ_cons, List.take_zero, List.reverse_cons, List.reverse_nil, List.nil_append, List.cons_append, List.append_nil, List.length_cons, List.length_nil, List.getElem?_cons_succ, List.getElem?_cons_zero, List.set_cons_succ, List.set_cons_zero, List.replicate, Option.toList, reduceIte, Bool.not_false, Bool.not_true, Nat.reduceLT, Nat.reduceLeDiff, Nat.reduceAdd, Nat.reduceSub, Nat.reduceMul, Int.reduceLT, Int.reduceLE, Int.reduceNeg, Int.reduceAdd, Int.reduceSub, Int.reduceMul, Int.reduceEq, and_self, true_and, and_true, false_and, and_false, or_false, false_or, true_or, or_true, not_true_eq_false, not_false_eq_true, Bool.false_eq_true, Bool.true_eq_false, decide_true, decide_false, decide_eq_true_eq, Nat.le_refl, Nat.zero_le, ge_iff_le, gt_iff_lt, Nat.lt_irrefl, reduceCtorEq, if_posD, if_negD, w32_id, Int.toNat_natCast, WCo_in, mUp_self, mUp_ne, ne_eq, Bool.true_and, Bool.and_true, Bool.false_and, Bool.and_false, Bool.true_or, Bool.or_true, Bool.false_or, Bool.or_false, Nat.reduceEqDiff, Int.cast_ofNat_Int, Int.reduceToNat, List.getD_cons_succ, List.getD_cons_zero, eq_self, swL, if_true, if_false, nqT, isNl, a0, a27, c0, c27, hv]
        exact this
  exact loop 60 0 (F 27) _ (by omega) (fun i hi => by omega) (by
    have : (mUp F 26 (fun j => if j < 60 then F' 26 j else F 26 j)) 27 = F 27 := rfl
    rw [← this, mUp_same]
    exact hLL) ((v2.cg (fun a h1 h3 => mUp_ne (by omega))).cg (fun a h1 h3 => mUp_ne (by omega))) ((((Fm.rf.at (by omega) (by omega)).tr (f2.wd (by omega) (by omega))).at (by omega) (by omega)).at (by omega) (by omega))
end COPY
