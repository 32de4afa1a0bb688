/-! ===== THE HAND-MADE LAND: travellers on closed roads are lost ===== -/
theorem er_app {α : Type} {x : α} {F : List α} : ∀ {A : List α}, (A ++ x :: F).eraseIdx A.length = A ++ F
  | [] => rfl
  | y :: A => by
    show y :: (A ++ x :: F).eraseIdx A.length = _
    rw [er_app]
    rfl
theorem w32_w {x y : Int} : w32 (w32 x + y) = w32 (x + y) := by
  unfold w32
  exact Int.bmod_add_bmod
section PDRP
variable {L : Nat} {xs : Nat → Int} {fm : Bool} {h : MH} {tg ad : Nat → Nat} {ev : MV} {Q : Pn} {oz : Nat → Nat → Int} {S : St8} {hu : Nat → Int}
abbrev loS (S : St8) (lo : Int) (l : List Wr) : St8 := lsS (obS S S.1 S.2.1 lo) l
theorem sm_pdrp (hQ : PnOk Q) (hR : RdOk Q.1 Q.2.1 (frP Q) (toP Q) (miS S) (woS S)) {l1 l2 l5 l6 l7 : MV} {i3 : Int} {P : (Option MV ⊕ Nat) → MH → Prop} :
    ∀ (m : Nat) (A F : List Wr) (lo : Int) (wa : Nat → Nat) (mc : Int) (hi : MH), A.length = m → (A ++ F).length ≤ 168 → (∀ x, x ∈ A → x.1 < Q.2.1) → SimA hi tg ad wa ev mc Q oz (loS S (w32 lo) (A ++ F)) hu → Fx tg tg 0 0 h hi →
    (∀ wa mc hi, SimA hi tg ad wa ev mc Q oz (loS S (w32 (lo + ((A.length : Int) - ((lsW (woS S) A).length : Int)))) (lsW (woS S) A ++ F)) hu → Fx tg tg 0 0 h hi → Wp (GG L xs fm) 6 BX10_pass (BX10_pass 9) [qR (ad 0), l1, l2, qI i3, qI (-1), l5, l6, l7] [] hi P) →
    Wp (GG L xs fm) 6 BX10_pass (BX10_pass 6) [qR (ad 0), l1, l2, qI i3, qI ((m : Int) - 1), l5, l6, l7] [] hi P := by
  intro m
  induction m with
  | zero =>
    intro A F lo wa mc hi hm hl hx hA hF k
    obtain rfl : A = [] := List.length_eq_zero_iff.mp hm
    have nx := k wa mc hi (by
      show SimA hi tg ad wa ev mc Q oz (loS S (w32 (lo + (0 - 0))) F) hu
      rw [Int.sub_self, Int.add_zero]
      exact hA) hF
    have e9 : ((0 : Nat) : Int) - 1 = -1 := rfl
    rw [e9, qX10_pass_6]
    simp (disch := omega) only [ms_sipush, ms_lconst, ms_ldc2_w, ms_dconst, ms_ldc, ms_getstatic, ms_iload, ms_lload, ms_dload, ms_aload, ms_istore, ms_lstore, ms_dstore, ms_astore, ms_iinc, ms_iadd, ms_isub, ms_imul, ms_idiv, ms_irem, ms_ineg, ms_iand, ms_ior, ms_ishr, ms_ishl, ms_iushr, ms_i2b, ms_i2c, ms_i2l, ms_ladd, ms_lmul, ms_lcmp, ms_i2d, ms_ddiv, ms_dcmp, ms_dup, ms_pop, ms_dup2, ms_dup_x1, ms_aconst_null, ms_ifnull, ms_ifnonnull, ms_checkcast, ms_goto, ms_ifCond, ms_if_icmp, ms_if_acmp_eq, ms_if_acmp_ne, ms_tableswitch, ms_lookupswitch, ms_getfield, ms_putfield, ms_arraylength, ms_iaload, ms_baload, ms_laload, ms_aaload, ms_iastore, ms_bastore, ms_lastore, ms_aastore, ms_newarray, ms_new, ms_anewarray, ms_multianewarray, ms_invokevirtual, ms_invokestatic, ms_invokespecial, ms_invokeinterface, ms_invokedynamic_0, ms_invokedynamic_1, ms_invokedynamic_2, ms_invokedynamic_3, ms_invokedynamic_4, ms_invokedynamic_5, ms_invokedynamic_6, ms_invokedynamic_7, ms_invokedynamic_8, ms_ireturn, ms_lreturn, ms_dreturn, ms_areturn, ms_return_, Wp_cons, WSC_nx, WSC_cl, WSC_rt, WSC_th, WSC_if, lg, lset, lfree, wide, isRf, isRT, fitK, hgt, margs, mpad, rcv, rdF, rdN, rdI, rdQ, mC_eq, mC_ne, mC_lt, mC_ge, mC_gt, mC_le, mset, mnew, h_fst, h_snd, lt_drop0, List.drop_succ_cons, List.drop_zero, List.drop_nil, List.take_succ_cons, List.take_zero, List.reverse_cons, List.reverse_nil, List.nil_append, List.cons_append, List.append_nil, List.length_cons, List.length_nil, List.getElem?_cons_succ, List.getElem?_cons_zero, List.set_cons_succ, List.set_cons_zero, List.replicate, Option.toList, reduceIte, Bool.not_false, Bool.not_true, Nat.reduceLT, Nat.reduceLeDiff, Nat.reduceAdd, Nat.reduceSub, Nat.reduceMul, Int.reduceLT, Int.reduceLE, Int.reduceNeg, Int.reduceAdd, Int.reduceSub, Int.reduceMul, Int.reduceEq, and_self, true_and, and_true, false_and, and_false, or_false, false_or, true_or, or_true, not_true_eq_false, not_false_eq_true, Bool.false_eq_true, Bool.true_eq_false, decide_true, decide_false, decide_eq_true_eq, Nat.le_refl, Nat.zero_le, ge_iff_le, gt_iff_lt, Nat.lt_irrefl, reduceCtorEq, if_posD, if_negD, w32_id, Int.toNat_natCast, WCo_in, mUp_self, mUp_ne, ne_eq, Bool.true_and, Bool.and_true, Bool.false_and, Bool.and_false, Bool.true_or, Bool.or_true, Bool.false_or, Bool.or_false, Nat.reduceEqDiff, Int.cast_ofNat_Int, Int.reduceToNat, List.getD_cons_succ, List.getD_cons_zero, eq_self, swL, if_true, if_false, nqT, isNl, qX10_pass_7, MJx4a65c_add_9ea2d, MJx4a65c_get_915e3, MJx4a65c_remove_915e3, MJx4a65c_size_8abf5, MX10_all, MX10_carries, MX10_hears, MX10_isOpen, MX10_length, GG1]
    exact nx
  | succ m ih =>
    intro A F lo wa mc hi hm hl hx hA hF k
    rcases List.eq_nil_or_concat A with rfl | ⟨A', x, rfl⟩
    · exact absurd hm (by simp)
    · rw [List.concat_eq_append] at *
      have hm' : A'.length = m := by simpa using hm
      have hxc : x.1 < Q.2.1 := hx x (by simp)
      have el : A' ++ [x] ++ F = A' ++ x :: F := by simp
      rw [el] at hA hl
      have hlen : m < (wlS (loS S (w32 lo) (A' ++ x :: F))).length := by
        show m < (A' ++ x :: F).length
        simp
        omega
      have hll : (wlS (loS S (w32 lo) (A' ++ x :: F))).length = A'.length + (F.length + 1) := by
        show (A' ++ x :: F).length = _
        simp
      have hl2 : A'.length + (F.length + 1) ≤ 168 := by
        have : (A' ++ x :: F).length = A'.length + (F.length + 1) := by simp
        omega
      obtain ⟨rfl, c1, cap, f, c2, c3, c4, c5, c6⟩ := hA.lrow hlen
      obtain ⟨g, g1, g2, g3, g4, g5⟩ := hA.row (i := m) (x := x) (by
        show (A' ++ x :: F)[m]? = some x
        rw [← hm', List.getElem?_append_right (Nat.le_refl _), Nat.sub_self]
        rfl)
      have e0 := hA.1
      unfold SimO at e0
      have em : ((m + 1 : Nat) : Int) - 1 = (m : Int) := by omega
      have hfx := c6 m hlen
      have hne : (qR (ad 7) : MV) ≠ qS 301 := by intro q; cases q
      have h67 := hA.n67 hne
      have hel := hA.hel c6
      have fA : lsW (woS S) (A' ++ [x]) = lsW (woS S) A' ++ (if woS S x.1 < 3 then [x] else []) := by
        unfold lsW
        rw [List.filter_append]
        congr 1
        by_cases h9 : woS S x.1 < 3
        · rw [if_pos h9]
          simp [h9]
        · rw [if_neg h9]
          simp [h9]
      have ck : ckC 0 (cI .int 4 g) = true := rfl
      have hb := (hR.2.2 x.1 hxc).2.2.2.2.2
      rw [em, qX10_pass_6]
      by_cases ho : woS S x.1 = 3
      · obtain ⟨hA2, hF2⟩ := hA.rmv hQ hlen c2 c3 c4 c5 c6
        have e02 := hA2.1
        unfold SimO at e02
        have ee : (wlS (loS S (w32 lo) (A' ++ x :: F))).eraseIdx m = A' ++ F := by
          show (A' ++ x :: F).eraseIdx m = A' ++ F
          rw [← hm']
          exact er_app
        rw [ee] at hA2
        change mUp (mUp hi.1 _ _) _ _ (ad 0) = _ at e02
        have eL : w32 (lo + 1) = w32 (w32 lo + 1) := w32_w.symm
        have hA3 := hA2.wob hQ (hr := S.1) (ca := S.2.1) (lo := w32 (w32 lo + 1))
        have hF3 := (hF.tr hF2).tr (Fx.st (c := (cO 10 [qI S.1, qI S.2.1, qI (w32 (w32 lo + 1)), qI Q.1, qR (ad 1), qR (ad 2), qR (ad 3), qR (ad 4), qR (ad 5), qR (ad 6), qR (ad 8)])) (hA2.tgl hQ (us8 (i := 0) (by omega) (by omega))))
        have nx := ih A' F (lo + 1) _ _ _ hm' (by simp; omega) (fun y hy => hx y (by simp [hy])) (by rw [eL]; exact hA3) hF3 (fun wa mc hi h1 h2 => k wa mc hi (by
          rw [fA, if_neg (by omega), List.append_nil]
          have : lo + (((A' ++ [x]).length : Int) - ((lsW (woS S) A').length : Int)) = lo + 1 + ((A'.length : Int) - ((lsW (woS S) A').length : Int)) := by
            simp
            omega
          rw [this]
          exact h1) h2)
        simp (disch := omega) only [ms_sipush, ms_lconst, ms_ldc2_w, ms_dconst, ms_ldc, ms_getstatic, ms_iload, ms_lload, ms_dload, ms_aload, ms_istore, ms_lstore, ms_dstore, ms_astore, ms_iinc, ms_iadd, ms_isub, ms_imul, ms_idiv, ms_irem, ms_ineg, ms_iand, ms_ior, ms_ishr, ms_ishl, ms_iushr, ms_i2b, ms_i2c, ms_i2l, ms_ladd, ms_lmul, ms_lcmp, ms_i2d, ms_ddiv, ms_dcmp, ms_dup, ms_pop, ms_dup2, ms_dup_x1, ms_aconst_null, ms_ifnull, ms_ifnonnull, ms_checkcast, ms_goto, ms_ifCond, ms_if_icmp, ms_if_acmp_eq, ms_if_acmp_ne, ms_tableswitch, ms_lookupswitch, ms_getfield, ms_putfield, ms_arraylength, ms_iaload, ms_baload, ms_laload, ms_aaload, ms_iastore, ms_bastore, ms_lastore, ms_aastore, ms_newarray, ms_new, ms_anewarray, ms_multianewarray, ms_invokevirtual, ms_invokestatic, ms_invokespecial, ms_invokeinterface, ms_invokedynamic_0, ms_invokedynamic_1, ms_invokedynamic_2, ms_invokedynamic_3, ms_invokedynamic_4, ms_invokedynamic_5, ms_invokedynamic_6, ms_invokedynamic_7, ms_invokedynamic_8, ms_ireturn, ms_lreturn, ms_dreturn, ms_areturn, ms_return_, Wp_cons, WSC_nx, WSC_cl, WSC_rt, WSC_th, WSC_if, lg, lset, lfree, wide, isRf, isRT, fitK, hgt, margs, mpad, rcv, rdF, rdN, rdI, rdQ, mC_eq, mC_ne, mC_lt, mC_ge, mC_gt, mC_le, mset, mnew, h_fst, h_snd, lt_drop0, List.drop_succ_cons, List.drop_zero, List.drop_nil, List.take_succ_cons, List.take_zero, List.reverse_cons, List.reverse_nil, List.nil_append, List.cons_append, List.append_nil, List.length_cons, List.length_nil, List.getElem?_cons_succ, List.getElem?_cons_zero, List.set_cons_succ, List.set_cons_zero, List.replicate, Option.toList, reduceIte, Bool.not_false, Bool.not_true, Nat.reduceLT, Nat.reduceLeDiff, Nat.reduceAdd, Nat.reduceSub, Nat.reduceMul, Int.reduceLT, Int.reduceLE, Int.reduceNeg, Int.reduceAdd, Int.reduceSub, Int.reduceMul, Int.reduceEq, and_self, true_and, and_true, false_and, and_false, or_false, false_or, true_or, or_true, not_true_eq_false, not_false_eq_true, Bool.false_eq_true, Bool.true_eq_false, decide_true, decide_false, decide_eq_true_eq, Nat.le_refl, Nat.zero_le, ge_iff_le, gt_iff_lt, Nat.lt_irrefl, reduceCtorEq, if_posD, if_negD, w32_id, Int.toNat_natCast, WCo_in, mUp_self, mUp_ne, ne_eq, Bool.true_and, Bool.and_true, Bool.false_and, Bool.and_false, Bool.true_or, Bool.or_true, Bool.false_or, Bool.or_false, Nat.reduceEqDiff, Int.cast_ofNat_Int, Int.reduceToNat, List.getD_cons_succ, List.getD_cons_zero, eq_self, swL, if_true, if_false, nqT, isNl, qX10_pass_7, qX10_pass_8, MJx4a65c_add_9ea2d, MJx4a65c_get_915e3, MJx4a65c_remove_915e3, MJx4a65c_size_8abf5, MX10_all, MX10_carries, MX10_hears, MX10_isOpen, MX10_length, GG1, e0, c1, c_alGet c1 c2 hlen c3 hfx, ck, g1, g3, c_smOpen hA hxc hQ.2.1, ho, c_alRemove c1 c2 h67 hlen c3 c5 hfx hel, e02]
        exact nx
      · have fA' : lsW (woS S) (A' ++ [x]) = lsW (woS S) A' ++ [x] := by rw [fA, if_pos (by omega)]
        have nx := ih A' (x :: F) lo wa mc hi hm' (by simp; omega) (fun y hy => hx y (by simp [hy])) hA hF (fun wa mc hi h1 h2 => k wa mc hi (by
          rw [fA']
          have : lo + (((A' ++ [x]).length : Int) - ((lsW (woS S) A' ++ [x]).length : Int)) = lo + ((A'.length : Int) - ((lsW (woS S) A').length : Int)) := by
            simp
            omega
          rw [this, List.append_assoc]
          exact h1) h2)
        simp (disch := omega) only [ms_sipush, ms_lconst, ms_ldc2_w, ms_dconst, ms_ldc, ms_getstatic, ms_iload, ms_lload, ms_dload, ms_aload, ms_istore, ms_lstore, ms_dstore, ms_astore, ms_iinc, ms_iadd, ms_isub, ms_imul, ms_idiv, ms_irem, ms_ineg, ms_iand, ms_ior, ms_ishr, ms_ishl, ms_iushr, ms_i2b, ms_i2c, ms_i2l, ms_ladd, ms_lmul, ms_lcmp, ms_i2d, ms_ddiv, ms_dcmp, ms_dup, ms_pop, ms_dup2, ms_dup_x1, ms_aconst_null, ms_ifnull, ms_ifnonnull, ms_checkcast, ms_goto, ms_ifCond, ms_if_icmp, ms_if_acmp_eq, ms_if_acmp_ne, ms_tableswitch, ms_lookupswitch, ms_getfield, ms_putfield, ms_arraylength, ms_iaload, ms_baload, ms_laload, ms_aaload, ms_iastore, ms_bastore, ms_lastore, ms_aastore, ms_newarray, ms_new, ms_anewarray, ms_multianewarray, ms_invokevirtual, ms_invokestatic, ms_invokespecial, ms_invokeinterface, ms_invokedynamic_0, ms_invokedynamic_1, ms_invokedynamic_2, ms_invokedynamic_3, ms_invokedynamic_4, ms_invokedynamic_5, ms_invokedynamic_6, ms_invokedynamic_7, ms_invokedynamic_8, ms_ireturn, ms_lreturn, ms_dreturn, ms_areturn, ms_return_, Wp_cons, WSC_nx, WSC_cl, WSC_rt, WSC_th, WSC_if, lg, lset, lfree, wide, isRf, isRT, fitK, hgt, margs, mpad, rcv, rdF, rdN, rdI, rdQ, mC_eq, mC_ne, mC_lt, mC_ge, mC_gt, mC_le, mset, mnew, h_fst, h_snd, lt_drop0, List.drop_succ_cons, List.drop_zero, List.drop_nil, List.take_succ_cons, List.take_zero, List.reverse_cons, List.reverse_nil, List.nil_append, List.cons_append, List.append_nil, List.length_cons, List.length_nil, List.getElem?_cons_succ, List.getElem?_cons_zero, List.set_cons_succ, List.set_cons_zero, List.replicate, Option.toList, reduceIte, Bool.not_false, Bool.not_true, Nat.reduceLT, Nat.reduceLeDiff, Nat.reduceAdd, Nat.reduceSub, Nat.reduceMul, Int.reduceLT, Int.reduceLE, Int.reduceNeg, Int.reduceAdd, Int.reduceSub, Int.reduceMul, Int.reduceEq, and_self, true_and, and_true, false_and, and_false, or_false, false_or, true_or, or_true, not_true_eq_false, not_false_eq_true, Bool.false_eq_true, Bool.true_eq_false, decide_true, decide_false, decide_eq_true_eq, Nat.le_refl, Nat.zero_le, ge_iff_le, gt_iff_lt, Nat.lt_irrefl, reduceCtorEq, if_posD, if_negD, w32_id, Int.toNat_natCast, WCo_in, mUp_self, mUp_ne, ne_eq, Bool.true_and, Bool.and_true, Bool.false_and, Bool.and_false, Bool.true_or, Bool.or_true, Bool.false_or, Bool.or_false, Nat.reduceEqDiff, Int.cast_ofNat_Int, Int.reduceToNat, List.getD_cons_succ, List.getD_cons_zero, eq_self, swL, if_true, if_false, nqT, isNl, qX10_pass_8, MJx4a65c_add_9ea2d, MJx4a65c_get_915e3, MJx4a65c_remove_915e3, MJx4a65c_size_8abf5, MX10_all, MX10_carries, MX10_hears, MX10_isOpen, MX10_length, GG1, e0, c1, c_alGet c1 c2 hlen c3 hfx, ck, g1, g3, c_smOpen hA hxc hQ.2.1, ho]
        exact nx
end PDRP
