/-! ===== AN HOUR OF THE CLASS ===== -/
def RowM (F : Nat → Nat → Int) (i : Nat) (x : Wr) : Prop := F 29 i = (x.1 : Int) ∧ F 30 i = (x.2.1 : Int) ∧ F 31 i = (x.2.2.1 : Int) ∧ F 32 i = x.2.2.2
def WsD (F : Nat → Nat → Int) (j : Nat) (l : List Wr) : Prop := ∀ (i : Nat) (x : Wr), l[i]? = some x → RowM F (j + i) x
def kpF (F : Nat → Nat → Int) (p w : Nat) : Nat → Nat → Int := mUp (mUp (mUp (mUp F 29 (mUp (F 29) p (F 29 w))) 30 (mUp (F 30) p (F 30 w))) 31 (mUp (F 31) p (F 31 w))) 32 (mUp (F 32) p (F 32 w))
theorem kpF_lt {F : Nat → Nat → Int} {p w k : Nat} (h : k < 29) : kpF F p w k = F k := by
  unfold kpF
  rw [mUp_ne (by omega), mUp_ne (by omega), mUp_ne (by omega), mUp_ne (by omega)]
theorem kpF_at {F : Nat → Nat → Int} {p w : Nat} {x : Wr} (h : RowM F w x) : RowM (kpF F p w) p x := by
  obtain ⟨h1, h2, h3, h4⟩ := h
  refine ⟨?_, ?_, ?_, ?_⟩
  · show mUp (F 29) p (F 29 w) p = _
    rw [mUp_self, h1]
  · show mUp (F 30) p (F 30 w) p = _
    rw [mUp_self, h2]
  · show mUp (F 31) p (F 31 w) p = _
    rw [mUp_self, h3]
  · show mUp (F 32) p (F 32 w) p = _
    rw [mUp_self, h4]
theorem kpF_ne {F : Nat → Nat → Int} {p w i : Nat} {x : Wr} (h : RowM F i x) (hi : i ≠ p) : RowM (kpF F p w) i x := by
  obtain ⟨h1, h2, h3, h4⟩ := h
  refine ⟨?_, ?_, ?_, ?_⟩
  · show mUp (F 29) p (F 29 w) i = _
    rw [mUp_ne hi, h1]
  · show mUp (F 30) p (F 30 w) i = _
    rw [mUp_ne hi, h2]
  · show mUp (F 31) p (F 31 w) i = _
    rw [mUp_ne hi, h3]
  · show mUp (F 32) p (F 32 w) i = _
    rw [mUp_ne hi, h4]
theorem WsR.snoc {F F' : Nat → Nat → Int} {K : List Wr} {x : Wr} (h : WsR F K) (hK : ∀ i y, i < K.length → RowM F i y → RowM F' i y) (hx : RowM F' K.length x) : WsR F' (K ++ [x]) := by
  intro i y hi
  by_cases hik : i < K.length
  · rw [List.getElem?_append_left hik] at hi
    exact hK i y hik (h i y hi)
  · rw [List.getElem?_append_right (by omega)] at hi
    by_cases hik2 : i = K.length
    · subst hik2
      rw [Nat.sub_self] at hi
      cases hi
      exact hx
    · obtain ⟨j, hj⟩ : ∃ j, i - K.length = j + 1 := ⟨i - K.length - 1, by omega⟩
      rw [hj] at hi
      simp at hi
theorem WsD.tl {F : Nat → Nat → Int} {j : Nat} {x : Wr} {l : List Wr} (h : WsD F j (x :: l)) : WsD F (j + 1) l := fun i y hi => by
  have := h (i + 1) y hi
  rw [show j + (i + 1) = j + 1 + i by omega] at this
  exact this
theorem WsD.hd {F : Nat → Nat → Int} {j : Nat} {x : Wr} {l : List Wr} (h : WsD F j (x :: l)) : RowM F j x := h 0 x rfl
theorem WsD.cg {F F' : Nat → Nat → Int} {j : Nat} {l : List Wr} (h : WsD F j l) (hf : ∀ i y, j ≤ i → RowM F i y → RowM F' i y) : WsD F' j l := fun i y hi => hf (j + i) y (by omega) (h i y hi)
theorem WsR.cg {F F' : Nat → Nat → Int} {l : List Wr} (h : WsR F l) (h1 : F' 29 = F 29) (h2 : F' 30 = F 30) (h3 : F' 31 = F 31) (h4 : F' 32 = F 32) : WsR F' l := fun i y hi => by
  rw [h1, h2, h3, h4]
  exact h i y hi
section LAHR
variable {L : Nat} {xs : Nat → Int} {fm : Bool} {h h2 : MH} {hc : Nat → MC} {b pb n c u : Nat} {hr ca lo : Int} {wn ht : Nat} {F : Nat → Nat → Int} {fr to : Nat → Nat} {mi wo he hu se : Nat → Int} {cl tv rd ru od tc : Nat} {kd : Nat → Nat} {sp : Nat → Int} {P : Nat → Nat → Int} {ws : List Wr}
theorem la_keep (hL : LaA h.1 b pb hr ca lo wn ht F) {p w : Nat} (hp : p < 168) (hw : w < 168) : Sp (GG L xs fm) 0 mX3_keepWalker [qR b, qI p, qI w] h (fun v h2 => v = .inl none ∧ Fm (b + 24) 9 h h2 ∧ LaA h2.1 b pb hr ca lo wn ht (kpF F p w)) := by
  have e0 := hL.1
  have e29 := hL.2.2 29 _ _ rfl
  have e30 := hL.2.2 30 _ _ rfl
  have e31 := hL.2.2 31 _ _ rfl
  have e32 := hL.2.2 32 _ _ rfl
  refine Sp_of MX3_keepWalker ?_
  simp (disch := omega) only [ms_sipush, ms_lconst, ms_ldc2_w, ms_dconst, ms_ldc, ms_getstatic, ms_iload, ms_lload, ms_dload, ms_aload, ms_istore, ms_lstore, ms_dstore, ms_astore, ms_iinc, ms_iadd, ms_isub, ms_imul, ms_idiv, ms_irem, ms_ineg, ms_iand, ms_ior, ms_ishr, ms_iushr, ms_i2b, ms_i2c, ms_i2l, ms_ladd, ms_lmul, ms_lcmp, ms_i2d, ms_ddiv, ms_dcmp, ms_dup, ms_pop, ms_dup2, ms_goto, ms_ifCond, ms_if_icmp, ms_if_acmp_eq, ms_if_acmp_ne, ms_tableswitch, ms_lookupswitch, ms_getfield, ms_putfield, ms_arraylength, ms_iaload, ms_baload, ms_laload, ms_aaload, ms_iastore, ms_bastore, ms_lastore, ms_aastore, ms_newarray, ms_new, ms_anewarray, ms_multianewarray, ms_invokevirtual, ms_invokestatic, ms_invokespecial, ms_invokedynamic_0, ms_invokedynamic_1, ms_invokedynamic_2, ms_invokedynamic_3, ms_invokedynamic_4, ms_invokedynamic_5, ms_ireturn, ms_lreturn, ms_dreturn, ms_areturn, ms_return_, Wp_cons, WSC_nx, WSC_cl, WSC_rt, WSC_th, WSC_if, lg, lset, lfree, wide, isRf, isRT, fitK, hgt, margs, mpad, rcv, rdF, rdN, rdI, rdQ, mC_eq, mC_ne, mC_lt, mC_ge, mC_gt, mC_le, mset, mnew, h_fst, h_snd, lt_drop0, List.drop_succ_cons, List.drop_zero, List.drop_nil, List.take_succ_cons, List.take_zero, List.reverse_cons, List.reverse_nil, List.nil_append, List.cons_append, List.append_nil, List.length_cons, List.length_nil, List.getElem?_cons_succ, List.getElem?_cons_zero, List.set_cons_succ, List.set_cons_zero, List.replicate, Option.toList, reduceIte, Bool.not_false, Bool.not_true, Nat.reduceLT, Nat.reduceLeDiff, Nat.reduceAdd, Nat.reduceSub, Nat.reduceMul, Int.reduceLT, Int.reduceLE, Int.reduceNeg, Int.reduceAdd, Int.reduceSub, Int.reduceMul, Int.reduceEq, and_self, true_and, and_true, false_and, and_false, or_false, false_or, true_or, or_true, not_true_eq_false, not_false_eq_true, Bool.false_eq_true, Bool.true_eq_false, decide_true, decide_false, decide_eq_true_eq, Nat.le_refl, Nat.zero_le, ge_iff_le, gt_iff_lt, Nat.lt_irrefl, reduceCtorEq, if_posD, if_negD, w32_id, Int.toNat_natCast, WCo_in, mUp_self, mUp_ne, ne_eq, Bool.true_and, Bool.and_true, Bool.false_and, Bool.and_false, Bool.true_or, Bool.or_true, Bool.false_or, Bool.or_false, Nat.reduceEqDiff, Int.cast_ofNat_Int, Int.reduceToNat, List.getD_cons_succ, List.getD_cons_zero, eq_self, swL, if_true, if_false, qX3_keepWalker_0, e0, e29, e30, e31, e32]
  exact ⟨(((Fm.rf.at (by omega) (by omega)).at (by omega) (by omega)).at (by omega) (by omega)).at (by omega) (by omega), (((hL.wr (k := 29) (ty := .int) (m := 168) rfl).wr (k := 30) (ty := .int) (m := 168) rfl).wr (k := 31) (ty := .int) (m := 168) rfl).wr (k := 32) (ty := .int) (m := 168) rfl⟩
theorem la_lose (hV : RoV h.1 (b + 1) n c fr to mi wo) (hL : LaA h.1 b pb hr ca lo ws.length ht F) (hW : WsR F ws) (hK : WsOk n c u ws) (h168 : ws.length ≤ 168) : Sp (GG L xs fm) 2 mX3_loseWalkers [qR b] h (fun v h2 => v = .inl none ∧ Fm b 33 h h2 ∧ RoV h2.1 (b + 1) n c fr to mi wo ∧ ∃ F', LaA h2.1 b pb hr ca (w32 (lo + ((ws.length : Int) - ((lsW wo ws).length : Int)))) (lsW wo ws).length ht F' ∧ WsR F' (lsW wo ws) ∧ ∀ k, k < 29 → F' k = F k) := by
  have hc14 := hV.ok.2.1
  refine Sp_of MX3_loseWalkers ?_
  have loop : ∀ (l : List Wr) (j : Nat) (K : List Wr) (F' : Nat → Nat → Int) (h2 : MH), j + l.length = ws.length → K.length ≤ j → lsW wo ws = K ++ lsW wo l → LaA h2.1 b pb hr ca lo ws.length ht F' → WsR F' K → WsD F' j l → (∀ k, k < 29 → F' k = F k) → WsOk n c u l → Fm (b + 24) 9 h h2 → Wp (GG L xs fm) 2 BX3_loseWalkers (BX3_loseWalkers 1) [qR b, qI K.length, qI j] [] h2 (fun v h2 => v = .inl none ∧ Fm b 33 h h2 ∧ RoV h2.1 (b + 1) n c fr to mi wo ∧ ∃ F', LaA h2.1 b pb hr ca (w32 (lo + ((ws.length : Int) - ((lsW wo ws).length : Int)))) (lsW wo ws).length ht F' ∧ WsR F' (lsW wo ws) ∧ ∀ k, k < 29 → F' k = F k) := by
    intro l
    induction l with
    | nil =>
      intro j K F' h2 hj hKj hls hL2 hWK hWD hF hok f2
      have hj0 : j + 0 = ws.length := hj
      obtain rfl : j = ws.length := by omega
      have hls' : lsW wo ws = K := by rw [hls]; exact List.append_nil K
      rw [hls']
      have e0 := hL2.1
      rw [qX3_loseWalkers_1]
      simp (disch := omega) only [ms_sipush, ms_lconst, ms_ldc2_w, ms_dconst, ms_ldc, ms_getstatic, ms_iload, ms_lload, ms_dload, ms_aload, ms_istore, ms_lstore, ms_dstore, ms_astore, ms_iinc, ms_iadd, ms_isub, ms_imul, ms_idiv, ms_irem, ms_ineg, ms_iand, ms_ior, ms_ishr, ms_iushr, ms_i2b, ms_i2c, ms_i2l, ms_ladd, ms_lmul, ms_lcmp, ms_i2d, ms_ddiv, ms_dcmp, ms_dup, ms_pop, ms_dup2, ms_goto, ms_ifCond, ms_if_icmp, ms_if_acmp_eq, ms_if_acmp_ne, ms_tableswitch, ms_lookupswitch, ms_getfield, ms_putfield, ms_arraylength, ms_iaload, ms_baload, ms_laload, ms_aaload, ms_iastore, ms_bastore, ms_lastore, ms_aastore, ms_newarray, ms_new, ms_anewarray, ms_multianewarray, ms_invokevirtual, ms_invokestatic, ms_invokespecial, ms_invokedynamic_0, ms_invokedynamic_1, ms_invokedynamic_2, ms_invokedynamic_3, ms_invokedynamic_4, ms_invokedynamic_5, ms_ireturn, ms_lreturn, ms_dreturn, ms_areturn, ms_return_, Wp_cons, WSC_nx, WSC_cl, WSC_rt, WSC_th, WSC_if, lg, lset, lfree, wide, isRf, isRT, fitK, hgt, margs, mpad, rcv, rdF, rdN, rdI, rdQ, mC_eq, mC_ne, mC_lt, mC_ge, mC_gt, mC_le, mset, mnew, h_fst, h_snd, lt_drop0, List.drop_succ_cons, List.drop_zero, List.drop_nil, List.take_succ_cons, List.take_zero, List.reverse_cons, List.reverse_nil, List.nil_append, List.cons_append, List.append_nil, List.length_cons, List.length_nil, List.getElem?_cons_succ, List.getElem?_cons_zero, List.set_cons_succ, List.set_cons_zero, List.replicate, Option.toList, reduceIte, Bool.not_false, Bool.not_true, Nat.reduceLT, Nat.reduceLeDiff, Nat.reduceAdd, Nat.reduceSub, Nat.reduceMul, Int.reduceLT, Int.reduceLE, Int.reduceNeg, Int.reduceAdd, Int.reduceSub, Int.reduceMul, Int.reduceEq, and_self, true_and, and_true, false_and, and_false, or_false, false_or, true_or, or_true, not_true_eq_false, not_false_eq_true, Bool.false_eq_true, Bool.true_eq_false, decide_true, decide_false, decide_eq_true_eq, Nat.le_refl, Nat.zero_le, ge_iff_le, gt_iff_lt, Nat.lt_irrefl, reduceCtorEq, if_posD, if_negD, w32_id, Int.toNat_natCast, WCo_in, mUp_self, mUp_ne, ne_eq, Bool.true_and, Bool.and_true, Bool.false_and, Bool.and_false, Bool.true_or, Bool.or_true, Bool.false_or, Bool.or_false, Nat.reduceEqDiff, Int.cast_ofNat_Int, Int.reduceToNat, List.getD_cons_succ, List.getD_cons_zero, eq_self, swL, if_true, if_false, qX3_loseWalkers_3, MX3_keepWalker, MX7_isOpen, GG1, e0]
      rw [mUp_mUp]
      exact ⟨(f2.wd (by omega) (by omega)).at (by omega) (by omega), (hV.cg (fun a h1 h3 => f2.2 a (by omega))).cg (fun a h1 h3 => mUp_ne (by omega)), F', hL2.ob rfl, hWK, hF⟩
    | cons x l ih =>
      intro j K F' h2 hj hKj hls hL2 hWK hWD hF hok f2
      have hjl : j + (l.length + 1) = ws.length := hj
      have hx := hok x List.mem_cons_self
      have hokl : WsOk n c u l := fun y hy => hok y (List.mem_cons_of_mem _ hy)
      have v2 : RoV h2.1 (b + 1) n c fr to mi wo := hV.cg (fun a h1 h3 => f2.2 a (by omega))
      have e0 := hL2.1
      have e29 := hL2.2.2 29 _ _ rfl
      have r29 := hWD.hd.1
      obtain ⟨nw, nr, nl, F7, hR7, -⟩ := id v2
      have g0 := hR7.1
      rw [qX3_loseWalkers_1]
      by_cases hw : wo x.1 < 3
      · simp (disch := omega) only [ms_sipush, ms_lconst, ms_ldc2_w, ms_dconst, ms_ldc, ms_getstatic, ms_iload, ms_lload, ms_dload, ms_aload, ms_istore, ms_lstore, ms_dstore, ms_astore, ms_iinc, ms_iadd, ms_isub, ms_imul, ms_idiv, ms_irem, ms_ineg, ms_iand, ms_ior, ms_ishr, ms_iushr, ms_i2b, ms_i2c, ms_i2l, ms_ladd, ms_lmul, ms_lcmp, ms_i2d, ms_ddiv, ms_dcmp, ms_dup, ms_pop, ms_dup2, ms_goto, ms_ifCond, ms_if_icmp, ms_if_acmp_eq, ms_if_acmp_ne, ms_tableswitch, ms_lookupswitch, ms_getfield, ms_putfield, ms_arraylength, ms_iaload, ms_baload, ms_laload, ms_aaload, ms_iastore, ms_bastore, ms_lastore, ms_aastore, ms_newarray, ms_new, ms_anewarray, ms_multianewarray, ms_invokevirtual, ms_invokestatic, ms_invokespecial, ms_invokedynamic_0, ms_invokedynamic_1, ms_invokedynamic_2, ms_invokedynamic_3, ms_invokedynamic_4, ms_invokedynamic_5, ms_ireturn, ms_lreturn, ms_dreturn, ms_areturn, ms_return_, Wp_cons, WSC_nx, WSC_cl, WSC_rt, WSC_th, WSC_if, lg, lset, lfree, wide, isRf, isRT, fitK, hgt, margs, mpad, rcv, rdF, rdN, rdI, rdQ, mC_eq, mC_ne, mC_lt, mC_ge, mC_gt, mC_le, mset, mnew, h_fst, h_snd, lt_drop0, List.drop_succ_cons, List.drop_zero, List.drop_nil, List.take_succ_cons, List.take_zero, List.reverse_cons, List.reverse_nil, List.nil_append, List.cons_append, List.append_nil, List.length_cons, List.length_nil, List.getElem?_cons_succ, List.getElem?_cons_zero, List.set_cons_succ, List.set_cons_zero, List.replicate, Option.toList, reduceIte, Bool.not_false, Bool.not_true, Nat.reduceLT, Nat.reduceLeDiff, Nat.reduceAdd, Nat.reduceSub, Nat.reduceMul, Int.reduceLT, Int.reduceLE, Int.reduceNeg, Int.reduceAdd, Int.reduceSub, Int.reduceMul, Int.reduceEq, and_self, true_and, and_true, false_and, and_false, or_false, false_or, true_or, or_true, not_true_eq_false, not_false_eq_true, Bool.false_eq_true, Bool.true_eq_false, decide_true, decide_false, decide_eq_true_eq, Nat.le_refl, Nat.zero_le, ge_iff_le, gt_iff_lt, Nat.lt_irrefl, reduceCtorEq, if_posD, if_negD, w32_id, Int.toNat_natCast, WCo_in, mUp_self, mUp_ne, ne_eq, Bool.true_and, Bool.and_true, Bool.false_and, Bool.and_false, Bool.true_or, Bool.or_true, Bool.false_or, Bool.or_false, Nat.reduceEqDiff, Int.cast_ofNat_Int, Int.reduceToNat, List.getD_cons_succ, List.getD_cons_zero, eq_self, swL, if_true, if_false, e0, e29, r29, g0, rv_isOpen v2 hx.1, hw]
        refine WCl_of (la_keep hL2 (p := K.length) (w := j) (by omega) (by omega)) (by omega) (fun v h3 hv => ?_)
        obtain ⟨rfl, f3, hL3⟩ := hv
        have := ih (j + 1) (K ++ [x]) (kpF F' K.length j) h3 (by omega) (by rw [List.length_append]; show K.length + 1 ≤ j + 1; omega) (by
          rw [hls, List.append_assoc]
          show K ++ lsW wo (x :: l) = K ++ (x :: lsW wo l)
          unfold lsW
          rw [List.filter_cons, if_pos (by simpa using hw)]) hL3 (hWK.snoc (fun i y hi hy => kpF_ne hy (by omega)) (kpF_at hWD.hd)) (hWD.tl.cg (fun i y hi hy => kpF_ne hy (by omega))) (fun k hk => by rw [kpF_lt hk]; exact hF k hk) hokl (f2.tr f3)
        rw [List.length_append, Int.natCast_add, Int.natCast_add] at this
        simp (disch := omega) only [ms_sipush, ms_lconst, ms_ldc2_w, ms_dconst, ms_ldc, ms_getstatic, ms_iload, ms_lload, ms_dload, ms_aload, ms_istore, ms_lstore, ms_dstore, ms_astore, ms_iinc, ms_iadd, ms_isub, ms_imul, ms_idiv, ms_irem, ms_ineg, ms_iand, ms_ior, ms_ishr, ms_iushr, ms_i2b, ms_i2c, ms_i2l, ms_ladd, ms_lmul, ms_lcmp, ms_i2d, ms_ddiv, ms_dcmp, ms_dup, ms_pop, ms_dup2, ms_goto, ms_ifCond, ms_if_icmp, ms_if_acmp_eq, ms_if_acmp_ne, ms_tableswitch, ms_lookupswitch, ms_getfield, ms_putfield, ms_arraylength, ms_iaload, ms_baload, ms_laload, ms_aaload, ms_iastore, ms_bastore, ms_lastore, ms_aastore, ms_newarray, ms_new, ms_anewarray, ms_multianewarray, ms_invokevirtual, ms_invokestatic, ms_invokespecial, ms_invokedynamic_0, ms_invokedynamic_1, ms_invokedynamic_2, ms_invokedynamic_3, ms_invokedynamic_4, ms_invokedynamic_5, ms_ireturn, ms_lreturn, ms_dreturn, ms_areturn, ms_return_, Wp_cons, WSC_nx, WSC_cl, WSC_rt, WSC_th, WSC_if, lg, lset, lfree, wide, isRf, isRT, fitK, hgt, margs, mpad, rcv, rdF, rdN, rdI, rdQ, mC_eq, mC_ne, mC_lt, mC_ge, mC_gt, mC_le, mset, mnew, h_fst, h_snd, lt_drop0, List.drop_succ_cons, List.drop_zero, List.drop_nil, List.take_succ_cons, List.take_zero, List.reverse_cons, List.reverse_nil, List.nil_append, List.cons_append, List.append_nil, List.length_cons, List.length_nil, List.getElem?_cons_succ, List.getElem?_cons_zero, List.set_cons_succ, List.set_cons_zero, List.replicate, Option.toList, reduceIte, Bool.not_false, Bool.not_true, Nat.reduceLT, Nat.reduceLeDiff, Nat.reduceAdd, Nat.reduceSub, Nat.reduceMul, Int.reduceLT, Int.reduceLE, Int.reduceNeg, Int.reduceAdd, Int.reduceSub, Int.reduceMul, Int.reduceEq, and_self, true_and, and_true, false_and, and_false, or_false, false_or, true_or, or_true, not_true_eq_false, not_false_eq_true, Bool.false_eq_true, Bool.true_eq_false, decide_true, decide_false, decide_eq_true_eq, Nat.le_refl, Nat.zero_le, ge_iff_le, gt_iff_lt, Nat.lt_irrefl, reduceCtorEq, if_posD, if_negD, w32_id, Int.toNat_natCast, WCo_in, mUp_self, mUp_ne, ne_eq, Bool.true_and, Bool.and_true, Bool.false_and, Bool.and_false, Bool.true_or, Bool.or_true, Bool.false_or, Bool.or_false, Nat.reduceEqDiff, Int.cast_ofNat_Int, Int.reduceToNat, List.getD_cons_succ, List.getD_cons_zero, eq_self, swL, if_true, if_false, qX3_loseWalkers_2, MX3_keepWalker, MX7_isOpen, GG1]
        exact this
      · have := ih (j + 1) K F' h2 (by omega) (by omega) (by
          rw [hls]
          show K ++ lsW wo (x :: l) = K ++ lsW wo l
          unfold lsW
          rw [List.filter_cons, if_neg (by simpa using hw)]) hL2 hWK hWD.tl hF hokl f2
        rw [Int.natCast_add] at this
        simp (disch := omega) only [ms_sipush, ms_lconst, ms_ldc2_w, ms_dconst, ms_ldc, ms_getstatic, ms_iload, ms_lload, ms_dload, ms_aload, ms_istore, ms_lstore, ms_dstore, ms_astore, ms_iinc, ms_iadd, ms_isub, ms_imul, ms_idiv, ms_irem, ms_ineg, ms_iand, ms_ior, ms_ishr, ms_iushr, ms_i2b, ms_i2c, ms_i2l, ms_ladd, ms_lmul, ms_lcmp, ms_i2d, ms_ddiv, ms_dcmp, ms_dup, ms_pop, ms_dup2, ms_goto, ms_ifCond, ms_if_icmp, ms_if_acmp_eq, ms_if_acmp_ne, ms_tableswitch, ms_lookupswitch, ms_getfield, ms_putfield, ms_arraylength, ms_iaload, ms_baload, ms_laload, ms_aaload, ms_iastore, ms_bastore, ms_lastore, ms_aastore, ms_newarray, ms_new, ms_anewarray, ms_multianewarray, ms_invokevirtual, ms_invokestatic, ms_invokespecial, ms_invokedynamic_0, ms_invokedynamic_1, ms_invokedynamic_2, ms_invokedynamic_3, ms_invokedynamic_4, ms_invokedynamic_5, ms_ireturn, ms_lreturn, ms_dreturn, ms_areturn, ms_return_, Wp_cons, WSC_nx, WSC_cl, WSC_rt, WSC_th, WSC_if, lg, lset, lfree, wide, isRf, isRT, fitK, hgt, margs, mpad, rcv, rdF, rdN, rdI, rdQ, mC_eq, mC_ne, mC_lt, mC_ge, mC_gt, mC_le, mset, mnew, h_fst, h_snd, lt_drop0, List.drop_succ_cons, List.drop_zero, List.drop_nil, List.take_succ_cons, List.take_zero, List.reverse_cons, List.reverse_nil, List.nil_append, List.cons_append, List.append_nil, List.length_cons, List.length_nil, List.getElem?_cons_succ, List.getElem?_cons_zero, List.set_cons_succ, List.set_cons_zero, List.replicate, Option.toList, reduceIte, Bool.not_false, Bool.not_true, Nat.reduceLT, Nat.reduceLeDiff, Nat.reduceAdd, Nat.reduceSub, Nat.reduceMul, Int.reduceLT, Int.reduceLE, Int.reduceNeg, Int.reduceAdd, Int.reduceSub, Int.reduceMul, Int.reduceEq, and_self, true_and, and_true, false_and, and_false, or_false, false_or, true_or, or_true, not_true_eq_false, not_false_eq_true, Bool.false_eq_true, Bool.true_eq_false, decide_true, decide_false, decide_eq_true_eq, Nat.le_refl, Nat.zero_le, ge_iff_le, gt_iff_lt, Nat.lt_irrefl, reduceCtorEq, if_posD, if_negD, w32_id, Int.toNat_natCast, WCo_in, mUp_self, mUp_ne, ne_eq, Bool.true_and, Bool.and_true, Bool.false_and, Bool.and_false, Bool.true_or, Bool.or_true, Bool.false_or, Bool.or_false, Nat.reduceEqDiff, Int.cast_ofNat_Int, Int.reduceToNat, List.getD_cons_succ, List.getD_cons_zero, eq_self, swL, if_true, if_false, qX3_loseWalkers_2, MX3_keepWalker, MX7_isOpen, GG1, e0, e29, r29, g0, rv_isOpen v2 hx.1, hw]
        exact this
  simp (disch := omega) only [ms_sipush, ms_lconst, ms_ldc2_w, ms_dconst, ms_ldc, ms_getstatic, ms_iload, ms_lload, ms_dload, ms_aload, ms_istore, ms_lstore, ms_dstore, ms_astore, ms_iinc, ms_iadd, ms_isub, ms_imul, ms_idiv, ms_irem, ms_ineg, ms_iand, ms_ior, ms_ishr, ms_iushr, ms_i2b, ms_i2c, ms_i2l, ms_ladd, ms_lmul, ms_lcmp, ms_i2d, ms_ddiv, ms_dcmp, ms_dup, ms_pop, ms_dup2, ms_goto, ms_ifCond, ms_if_icmp, ms_if_acmp_eq, ms_if_acmp_ne, ms_tableswitch, ms_lookupswitch, ms_getfield, ms_putfield, ms_arraylength, ms_iaload, ms_baload, ms_laload, ms_aaload, ms_iastore, ms_bastore, ms_lastore, ms_aastore, ms_newarray, ms_new, ms_anewarray, ms_multianewarray, ms_invokevirtual, ms_invokestatic, ms_invokespecial, ms_invokedynamic_0, ms_invokedynamic_1, ms_invokedynamic_2, ms_invokedynamic_3, ms_invokedynamic_4, ms_invokedynamic_5, ms_ireturn, ms_lreturn, ms_dreturn, ms_areturn, ms_return_, Wp_cons, WSC_nx, WSC_cl, WSC_rt, WSC_th, WSC_if, lg, lset, lfree, wide, isRf, isRT, fitK, hgt, margs, mpad, rcv, rdF, rdN, rdI, rdQ, mC_eq, mC_ne, mC_lt, mC_ge, mC_gt, mC_le, mset, mnew, h_fst, h_snd, lt_drop0, List.drop_succ_cons, List.drop_zero, List.drop_nil, List.take_succ_cons, List.take_zero, List.reverse_cons, List.reverse_nil, List.nil_append, List.cons_append, List.append_nil, List.length_cons, List.length_nil, List.getElem?_cons_succ, List.getElem?_cons_zero, List.set_cons_succ, List.set_cons_zero, List.replicate, Option.toList, reduceIte, Bool.not_false, Bool.not_true, Nat.reduceLT, Nat.reduceLeDiff, Nat.reduceAdd, Nat.reduceSub, Nat.reduceMul, Int.reduceLT, Int.reduceLE, Int.reduceNeg, Int.reduceAdd, Int.reduceSub, Int.reduceMul, Int.reduceEq, and_self, true_and, and_true, false_and, and_false, or_false, false_or, true_or, or_true, not_true_eq_false, not_false_eq_true, Bool.false_eq_true, Bool.true_eq_false, decide_true, decide_false, decide_eq_true_eq, Nat.le_refl, Nat.zero_le, ge_iff_le, gt_iff_lt, Nat.lt_irrefl, reduceCtorEq, if_posD, if_negD, w32_id, Int.toNat_natCast, WCo_in, mUp_self, mUp_ne, ne_eq, Bool.true_and, Bool.and_true, Bool.false_and, Bool.and_false, Bool.true_or, Bool.or_true, Bool.false_or, Bool.or_false, Nat.reduceEqDiff, Int.cast_ofNat_Int, Int.reduceToNat, List.getD_cons_succ, List.getD_cons_zero, eq_self, swL, if_true, if_false, qX3_loseWalkers_0, MX3_keepWalker, MX7_isOpen, GG1]
  exact loop ws 0 [] F h (by omega) (Nat.le_refl _) rfl hL (fun i x hi => by simp at hi) (fun i x hi => by rw [Nat.zero_add]; exact hW i x hi) (fun _ _ => rfl) hK Fm.rf
theorem bgK_bd {ba : Nat → Nat} {bo : Nat → Int} : ∀ {k : Nat}, 0 ≤ (bgK ba bo hr he k).2 ∧ (bgK ba bo hr he k).2 ≤ (k : Int)
  | 0 => ⟨Int.le_refl _, Int.le_refl _⟩
  | k + 1 => by
    have ih := bgK_bd (ba := ba) (bo := bo) (k := k)
    unfold bgK isNw
    split
    · dsimp only
      split <;> omega
    · omega
theorem EqN.hr2 {m i : Nat} {f g : Nat → Int} (hE : EqN m f g) (hi : i < m) : EqN m (hrs f i hr) (hrs g i hr) := by
  unfold hrs
  rw [hE i hi]
  split
  · exact hE.up
  · exact hE
theorem EqN.nw {m i : Nat} {f g : Nat → Int} (hE : EqN m f g) (hi : i < m) : isNw f i = isNw g i := by
  unfold isNw
  rw [hE i hi]
theorem la_begin (hL : LaA h.1 b pb hr ca lo wn ht F) (hP : PlA h.1 pb cl n rd u od tc kd sp P) (hsep : pb + 16 ≤ b) (hu : u ≤ 6) (hn : n ≤ 10) {ba : Nat → Nat} {bo : Nat → Int} (hb : ∀ k, k < u → ba k < n ∧ P 10 k = ba k ∧ P 11 k = bo k) (hE : EqN (6 * n) (F 26) he) : Sp (GG L xs fm) 3 mX3_beginRumours [qR b] h (fun v h2 => v = .inl (some (qI (bgK ba bo hr he u).2)) ∧ Fm (b + 24) 9 h h2 ∧ ∃ f, LaA h2.1 b pb hr ca lo wn ht (mUp F 26 f) ∧ EqN (6 * n) f (bgK ba bo hr he u).1) := by
  refine Sp_of MX3_beginRumours ?_
  have loop : ∀ (m j : Nat) (f : Nat → Int) (h2 : MH), j + m = u → LaA h2.1 b pb hr ca lo wn ht (mUp F 26 f) → EqN (6 * n) f (bgK ba bo hr he j).1 → Fm (b + 24) 9 h h2 → Wp (GG L xs fm) 3 BX3_beginRumours (BX3_beginRumours 1) [qR b, qI (bgK ba bo hr he j).2, qI j] [] h2 (fun v h2 => v = .inl (some (qI (bgK ba bo hr he u).2)) ∧ Fm (b + 24) 9 h h2 ∧ ∃ f, LaA h2.1 b pb hr ca lo wn ht (mUp F 26 f) ∧ EqN (6 * n) f (bgK ba bo hr he u).1) := by
    intro m
    induction m with
    | zero =>
      intro j f h2 hj hL2 hE2 f2
      obtain rfl : j = u := by omega
      have p0 := (hP.cg (hc' := h2.1) (fun a h1 h3 => f2.2 a (by omega))).1
      have e0 := hL2.1
      rw [qX3_beginRumours_1]
      simp (disch := omega) only [ms_sipush, ms_lconst, ms_ldc2_w, ms_dconst, ms_ldc, ms_getstatic, ms_iload, ms_lload, ms_dload, ms_aload, ms_istore, ms_lstore, ms_dstore, ms_astore, ms_iinc, ms_iadd, ms_isub, ms_imul, ms_idiv, ms_irem, ms_ineg, ms_iand, ms_ior, ms_ishr, ms_iushr, ms_i2b, ms_i2c, ms_i2l, ms_ladd, ms_lmul, ms_lcmp, ms_i2d, ms_ddiv, ms_dcmp, ms_dup, ms_pop, ms_dup2, ms_goto, ms_ifCond, ms_if_icmp, ms_if_acmp_eq, ms_if_acmp_ne, ms_tableswitch, ms_lookupswitch, ms_getfield, ms_putfield, ms_arraylength, ms_iaload, ms_baload, ms_laload, ms_aaload, ms_iastore, ms_bastore, ms_lastore, ms_aastore, ms_newarray, ms_new, ms_anewarray, ms_multianewarray, ms_invokevirtual, ms_invokestatic, ms_invokespecial, ms_invokedynamic_0, ms_invokedynamic_1, ms_invokedynamic_2, ms_invokedynamic_3, ms_invokedynamic_4, ms_invokedynamic_5, ms_ireturn, ms_lreturn, ms_dreturn, ms_areturn, ms_return_, Wp_cons, WSC_nx, WSC_cl, WSC_rt, WSC_th, WSC_if, lg, lset, lfree, wide, isRf, isRT, fitK, hgt, margs, mpad, rcv, rdF, rdN, rdI, rdQ, mC_eq, mC_ne, mC_lt, mC_ge, mC_gt, mC_le, mset, mnew, h_fst, h_snd, lt_drop0, List.drop_succ_cons, List.drop_zero, List.drop_nil, List.take_succ_cons, List.take_zero, List.reverse_cons, List.reverse_nil, List.nil_append, List.cons_append, List.append_nil, List.length_cons, List.length_nil, List.getElem?_cons_succ, List.getElem?_cons_zero, List.set_cons_succ, List.set_cons_zero, List.replicate, Option.toList, reduceIte, Bool.not_false, Bool.not_true, Nat.reduceLT, Nat.reduceLeDiff, Nat.reduceAdd, Nat.reduceSub, Nat.reduceMul, Int.reduceLT, Int.reduceLE, Int.reduceNeg, Int.reduceAdd, Int.reduceSub, Int.reduceMul, Int.reduceEq, and_self, true_and, and_true, false_and, and_false, or_false, false_or, true_or, or_true, not_true_eq_false, not_false_eq_true, Bool.false_eq_true, Bool.true_eq_false, decide_true, decide_false, decide_eq_true_eq, Nat.le_refl, Nat.zero_le, ge_iff_le, gt_iff_lt, Nat.lt_irrefl, reduceCtorEq, if_posD, if_negD, w32_id, Int.toNat_natCast, WCo_in, mUp_self, mUp_ne, ne_eq, Bool.true_and, Bool.and_true, Bool.false_and, Bool.and_false, Bool.true_or, Bool.or_true, Bool.false_or, Bool.or_false, Nat.reduceEqDiff, Int.cast_ofNat_Int, Int.reduceToNat, List.getD_cons_succ, List.getD_cons_zero, eq_self, swL, if_true, if_false, qX3_beginRumours_3, MX3_hears, GG1, e0, p0]
      exact ⟨f2, f, hL2, hE2⟩
    | succ m ih =>
      intro j f h2 hj hL2 hE2 f2
      have hP2 := hP.cg (hc' := h2.1) (fun a h1 h3 => f2.2 a (by omega))
      have p0 := hP2.1
      have p10 := hP2.2.2.2.2.2 10 _ _ rfl
      have p11 := hP2.2.2.2.2.2 11 _ _ rfl
      have e0 := hL2.1
      obtain ⟨b1, b2, b3⟩ := hb j (by omega)
      have hbd := bgK_bd (ba := ba) (bo := bo) (hr := hr) (he := he) (k := j)
      have ih := ih (j + 1)
      rw [Int.natCast_add] at ih
      rw [qX3_beginRumours_1]
      by_cases h1 : bo j = hr
      · have hk1 : (bgK ba bo hr he (j + 1)) = (hrs (bgK ba bo hr he j).1 (ba j * 6 + j) hr, (bgK ba bo hr he j).2 + isNw (bgK ba bo hr he j).1 (ba j * 6 + j)) := if_pos h1
        rw [hk1] at ih
        dsimp only at ih
        have hi : ba j * 6 + j < 6 * n := by omega
        simp (disch := omega) only [ms_sipush, ms_lconst, ms_ldc2_w, ms_dconst, ms_ldc, ms_getstatic, ms_iload, ms_lload, ms_dload, ms_aload, ms_istore, ms_lstore, ms_dstore, ms_astore, ms_iinc, ms_iadd, ms_isub, ms_imul, ms_idiv, ms_irem, ms_ineg, ms_iand, ms_ior, ms_ishr, ms_iushr, ms_i2b, ms_i2c, ms_i2l, ms_ladd, ms_lmul, ms_lcmp, ms_i2d, ms_ddiv, ms_dcmp, ms_dup, ms_pop, ms_dup2, ms_goto, ms_ifCond, ms_if_icmp, ms_if_acmp_eq, ms_if_acmp_ne, ms_tableswitch, ms_lookupswitch, ms_getfield, ms_putfield, ms_arraylength, ms_iaload, ms_baload, ms_laload, ms_aaload, ms_iastore, ms_bastore, ms_lastore, ms_aastore, ms_newarray, ms_new, ms_anewarray, ms_multianewarray, ms_invokevirtual, ms_invokestatic, ms_invokespecial, ms_invokedynamic_0, ms_invokedynamic_1, ms_invokedynamic_2, ms_invokedynamic_3, ms_invokedynamic_4, ms_invokedynamic_5, ms_ireturn, ms_lreturn, ms_dreturn, ms_areturn, ms_return_, Wp_cons, WSC_nx, WSC_cl, WSC_rt, WSC_th, WSC_if, lg, lset, lfree, wide, isRf, isRT, fitK, hgt, margs, mpad, rcv, rdF, rdN, rdI, rdQ, mC_eq, mC_ne, mC_lt, mC_ge, mC_gt, mC_le, mset, mnew, h_fst, h_snd, lt_drop0, List.drop_succ_cons, List.drop_zero, List.drop_nil, List.take_succ_cons, List.take_zero, List.reverse_cons, List.reverse_nil, List.nil_append, List.cons_append, List.append_nil, List.length_cons, List.length_nil, List.getElem?_cons_succ, List.getElem?_cons_zero, List.set_cons_succ, List.set_cons_zero, List.replicate, Option.toList, reduceIte, Bool.not_false, Bool.not_true, Nat.reduceLT, Nat.reduceLeDiff, Nat.reduceAdd, Nat.reduceSub, Nat.reduceMul, Int.reduceLT, Int.reduceLE, Int.reduceNeg, Int.reduceAdd, Int.reduceSub, Int.reduceMul, Int.reduceEq, and_self, true_and, and_true, false_and, and_false, or_false, false_or, true_or, or_true, not_true_eq_false, not_false_eq_true, Bool.false_eq_true, Bool.true_eq_false, decide_true, decide_false, decide_eq_true_eq, Nat.le_refl, Nat.zero_le, ge_iff_le, gt_iff_lt, Nat.lt_irrefl, reduceCtorEq, if_posD, if_negD, w32_id, Int.toNat_natCast, WCo_in, mUp_self, mUp_ne, ne_eq, Bool.true_and, Bool.and_true, Bool.false_and, Bool.and_false, Bool.true_or, Bool.or_true, Bool.false_or, Bool.or_false, Nat.reduceEqDiff, Int.cast_ofNat_Int, Int.reduceToNat, List.getD_cons_succ, List.getD_cons_zero, eq_self, swL, if_true, if_false, e0, p0, p10, p11, b2, b3, h1]
        refine WCl_of (la_hears hL2 hP2 (t := ba j) (k := j) (by omega) (by omega) (by omega) (by omega)) (by omega) (fun v h3 hv => ?_)
        obtain ⟨rfl, f3, hL3⟩ := hv
        rw [mUp_self] at hL3 ⊢
        rw [mUp_mUp] at hL3
        have := ih _ h3 (by omega) hL3 (hE2.hr2 hi) (f2.tr f3)
        rw [hE2.nw hi]
        have hw : isNw (bgK ba bo hr he j).1 (ba j * 6 + j) = 0 ∨ isNw (bgK ba bo hr he j).1 (ba j * 6 + j) = 1 := by
          unfold isNw
          split
          · exact Or.inr rfl
          · exact Or.inl rfl
        rcases hw with hw | hw
        · rw [hw, Int.add_zero] at this
          simp (disch := omega) only [ms_sipush, ms_lconst, ms_ldc2_w, ms_dconst, ms_ldc, ms_getstatic, ms_iload, ms_lload, ms_dload, ms_aload, ms_istore, ms_lstore, ms_dstore, ms_astore, ms_iinc, ms_iadd, ms_isub, ms_imul, ms_idiv, ms_irem, ms_ineg, ms_iand, ms_ior, ms_ishr, ms_iushr, ms_i2b, ms_i2c, ms_i2l, ms_ladd, ms_lmul, ms_lcmp, ms_i2d, ms_ddiv, ms_dcmp, ms_dup, ms_pop, ms_dup2, ms_goto, ms_ifCond, ms_if_icmp, ms_if_acmp_eq, ms_if_acmp_ne, ms_tableswitch, ms_lookupswitch, ms_getfield, ms_putfield, ms_arraylength, ms_iaload, ms_baload, ms_laload, ms_aaload, ms_iastore, ms_bastore, ms_lastore, ms_aastore, ms_newarray, ms_new, ms_anewarray, ms_multianewarray, ms_invokevirtual, ms_invokestatic, ms_invokespecial, ms_invokedynamic_0, ms_invokedynamic_1, ms_invokedynamic_2, ms_invokedynamic_3, ms_invokedynamic_4, ms_invokedynamic_5, ms_ireturn, ms_lreturn, ms_dreturn, ms_areturn, ms_return_, Wp_cons, WSC_nx, WSC_cl, WSC_rt, WSC_th, WSC_if, lg, lset, lfree, wide, isRf, isRT, fitK, hgt, margs, mpad, rcv, rdF, rdN, rdI, rdQ, mC_eq, mC_ne, mC_lt, mC_ge, mC_gt, mC_le, mset, mnew, h_fst, h_snd, lt_drop0, List.drop_succ_cons, List.drop_zero, List.drop_nil, List.take_succ_cons, List.take_zero, List.reverse_cons, List.reverse_nil, List.nil_append, List.cons_append, List.append_nil, List.length_cons, List.length_nil, List.getElem?_cons_succ, List.getElem?_cons_zero, List.set_cons_succ, List.set_cons_zero, List.replicate, Option.toList, reduceIte, Bool.not_false, Bool.not_true, Nat.reduceLT, Nat.reduceLeDiff, Nat.reduceAdd, Nat.reduceSub, Nat.reduceMul, Int.reduceLT, Int.reduceLE, Int.reduceNeg, Int.reduceAdd, Int.reduceSub, Int.reduceMul, Int.reduceEq, and_self, true_and, and_true, false_and, and_false, or_false, false_or, true_or, or_true, not_true_eq_false, not_false_eq_true, Bool.false_eq_true, Bool.true_eq_false, decide_true, decide_false, decide_eq_true_eq, Nat.le_refl, Nat.zero_le, ge_iff_le, gt_iff_lt, Nat.lt_irrefl, reduceCtorEq, if_posD, if_negD, w32_id, Int.toNat_natCast, WCo_in, mUp_self, mUp_ne, ne_eq, Bool.true_and, Bool.and_true, Bool.false_and, Bool.and_false, Bool.true_or, Bool.or_true, Bool.false_or, Bool.or_false, Nat.reduceEqDiff, Int.cast_ofNat_Int, Int.reduceToNat, List.getD_cons_succ, List.getD_cons_zero, eq_self, swL, if_true, if_false, hw, qX3_beginRumours_2, MX3_hears, GG1]
          exact this
        · rw [hw] at this
          simp (disch := omega) only [ms_sipush, ms_lconst, ms_ldc2_w, ms_dconst, ms_ldc, ms_getstatic, ms_iload, ms_lload, ms_dload, ms_aload, ms_istore, ms_lstore, ms_dstore, ms_astore, ms_iinc, ms_iadd, ms_isub, ms_imul, ms_idiv, ms_irem, ms_ineg, ms_iand, ms_ior, ms_ishr, ms_iushr, ms_i2b, ms_i2c, ms_i2l, ms_ladd, ms_lmul, ms_lcmp, ms_i2d, ms_ddiv, ms_dcmp, ms_dup, ms_pop, ms_dup2, ms_goto, ms_ifCond, ms_if_icmp, ms_if_acmp_eq, ms_if_acmp_ne, ms_tableswitch, ms_lookupswitch, ms_getfield, ms_putfield, ms_arraylength, ms_iaload, ms_baload, ms_laload, ms_aaload, ms_iastore, ms_bastore, ms_lastore, ms_aastore, ms_newarray, ms_new, ms_anewarray, ms_multianewarray, ms_invokevirtual, ms_invokestatic, ms_invokespecial, ms_invokedynamic_0, ms_invokedynamic_1, ms_invokedynamic_2, ms_invokedynamic_3, ms_invokedynamic_4, ms_invokedynamic_5, ms_ireturn, ms_lreturn, ms_dreturn, ms_areturn, ms_return_, Wp_cons, WSC_nx, WSC_cl, WSC_rt, WSC_th, WSC_if, lg, lset, lfree, wide, isRf, isRT, fitK, hgt, margs, mpad, rcv, rdF, rdN, rdI, rdQ, mC_eq, mC_ne, mC_lt, mC_ge, mC_gt, mC_le, mset, mnew, h_fst, h_snd, lt_drop0, List.drop_succ_cons, List.drop_zero, List.drop_nil, List.take_succ_cons, List.take_zero, List.reverse_cons, List.reverse_nil, List.nil_append, List.cons_append, List.append_nil, List.length_cons, List.length_nil, List.getElem?_cons_succ, List.getElem?_cons_zero, List.set_cons_succ, List.set_cons_zero, List.replicate, Option.toList, reduceIte, Bool.not_false, Bool.not_true, Nat.reduceLT, Nat.reduceLeDiff, Nat.reduceAdd, Nat.reduceSub, Nat.reduceMul, Int.reduceLT, Int.reduceLE, Int.reduceNeg, Int.reduceAdd, Int.reduceSub, Int.reduceMul, Int.reduceEq, and_self, true_and, and_true, false_and, and_false, or_false, false_or, true_or, or_true, not_true_eq_false, not_false_eq_true, Bool.false_eq_true, Bool.true_eq_false, decide_true, decide_false, decide_eq_true_eq, Nat.le_refl, Nat.zero_le, ge_iff_le, gt_iff_lt, Nat.lt_irrefl, reduceCtorEq, if_posD, if_negD, w32_id, Int.toNat_natCast, WCo_in, mUp_self, mUp_ne, ne_eq, Bool.true_and, Bool.and_true, Bool.false_and, Bool.and_false, Bool.true_or, Bool.or_true, Bool.false_or, Bool.or_false, Nat.reduceEqDiff, Int.cast_ofNat_Int, Int.reduceToNat, List.getD_cons_succ, List.getD_cons_zero, eq_self, swL, if_true, if_false, hw, qX3_beginRumours_2, MX3_hears, GG1]
          exact this
      · have hk1 : (bgK ba bo hr he (j + 1)) = bgK ba bo hr he j := if_neg h1
        rw [hk1] at ih
        have := ih f h2 (by omega) hL2 hE2 f2
        simp (disch := omega) only [ms_sipush, ms_lconst, ms_ldc2_w, ms_dconst, ms_ldc, ms_getstatic, ms_iload, ms_lload, ms_dload, ms_aload, ms_istore, ms_lstore, ms_dstore, ms_astore, ms_iinc, ms_iadd, ms_isub, ms_imul, ms_idiv, ms_irem, ms_ineg, ms_iand, ms_ior, ms_ishr, ms_iushr, ms_i2b, ms_i2c, ms_i2l, ms_ladd, ms_lmul, ms_lcmp, ms_i2d, ms_ddiv, ms_dcmp, ms_dup, ms_pop, ms_dup2, ms_goto, ms_ifCond, ms_if_icmp, ms_if_acmp_eq, ms_if_acmp_ne, ms_tableswitch, ms_lookupswitch, ms_getfield, ms_putfield, ms_arraylength, ms_iaload, ms_baload, ms_laload, ms_aaload, ms_iastore, ms_bastore, ms_lastore, ms_aastore, ms_newarray, ms_new, ms_anewarray, ms_multianewarray, ms_invokevirtual, ms_invokestatic, ms_invokespecial, ms_invokedynamic_0, ms_invokedynamic_1, ms_invokedynamic_2, ms_invokedynamic_3, ms_invokedynamic_4, ms_invokedynamic_5, ms_ireturn, ms_lreturn, ms_dreturn, ms_areturn, ms_return_, Wp_cons, WSC_nx, WSC_cl, WSC_rt, WSC_th, WSC_if, lg, lset, lfree, wide, isRf, isRT, fitK, hgt, margs, mpad, rcv, rdF, rdN, rdI, rdQ, mC_eq, mC_ne, mC_lt, mC_ge, mC_gt, mC_le, mset, mnew, h_fst, h_snd, lt_drop0, List.drop_succ_cons, List.drop_zero, List.drop_nil, List.take_succ_cons, List.take_zero, List.reverse_cons, List.reverse_nil, List.nil_append, List.cons_append, List.append_nil, List.length_cons, List.length_nil, List.getElem?_cons_succ, List.getElem?_cons_zero, List.set_cons_succ, List.set_cons_zero, List.replicate, Option.toList, reduceIte, Bool.not_false, Bool.not_true, Nat.reduceLT, Nat.reduceLeDiff, Nat.reduceAdd, Nat.reduceSub, Nat.reduceMul, Int.reduceLT, Int.reduceLE, Int.reduceNeg, Int.reduceAdd, Int.reduceSub, Int.reduceMul, Int.reduceEq, and_self, true_and, and_true, false_and, and_false, or_false, false_or, true_or, or_true, not_true_eq_false, not_false_eq_true, Bool.false_eq_true, Bool.true_eq_false, decide_true, decide_false, decide_eq_true_eq, Nat.le_refl, Nat.zero_le, ge_iff_le, gt_iff_lt, Nat.lt_irrefl, reduceCtorEq, if_posD, if_negD, w32_id, Int.toNat_natCast, WCo_in, mUp_self, mUp_ne, ne_eq, Bool.true_and, Bool.and_true, Bool.false_and, Bool.and_false, Bool.true_or, Bool.or_true, Bool.false_or, Bool.or_false, Nat.reduceEqDiff, Int.cast_ofNat_Int, Int.reduceToNat, List.getD_cons_succ, List.getD_cons_zero, eq_self, swL, if_true, if_false, e0, p0, p10, p11, b2, b3, h1, qX3_beginRumours_2, MX3_hears, GG1]
        exact this
  simp (disch := omega) only [ms_sipush, ms_lconst, ms_ldc2_w, ms_dconst, ms_ldc, ms_getstatic, ms_iload, ms_lload, ms_dload, ms_aload, ms_istore, ms_lstore, ms_dstore, ms_astore, ms_iinc, ms_iadd, ms_isub, ms_imul, ms_idiv, ms_irem, ms_ineg, ms_iand, ms_ior, ms_ishr, ms_iushr, ms_i2b, ms_i2c, ms_i2l, ms_ladd, ms_lmul, ms_lcmp, ms_i2d, ms_ddiv, ms_dcmp, ms_dup, ms_pop, ms_dup2, ms_goto, ms_ifCond, ms_if_icmp, ms_if_acmp_eq, ms_if_acmp_ne, ms_tableswitch, ms_lookupswitch, ms_getfield, ms_putfield, ms_arraylength, ms_iaload, ms_baload, ms_laload, ms_aaload, ms_iastore, ms_bastore, ms_lastore, ms_aastore, ms_newarray, ms_new, ms_anewarray, ms_multianewarray, ms_invokevirtual, ms_invokestatic, ms_invokespecial, ms_invokedynamic_0, ms_invokedynamic_1, ms_invokedynamic_2, ms_invokedynamic_3, ms_invokedynamic_4, ms_invokedynamic_5, ms_ireturn, ms_lreturn, ms_dreturn, ms_areturn, ms_return_, Wp_cons, WSC_nx, WSC_cl, WSC_rt, WSC_th, WSC_if, lg, lset, lfree, wide, isRf, isRT, fitK, hgt, margs, mpad, rcv, rdF, rdN, rdI, rdQ, mC_eq, mC_ne, mC_lt, mC_ge, mC_gt, mC_le, mset, mnew, h_fst, h_snd, lt_drop0, List.drop_succ_cons, List.drop_zero, List.drop_nil, List.take_succ_cons, List.take_zero, List.reverse_cons, List.reverse_nil, List.nil_append, List.cons_append, List.append_nil, List.length_cons, List.length_nil, List.getElem?_cons_succ, List.getElem?_cons_zero, List.set_cons_succ, List.set_cons_zero, List.replicate, Option.toList, reduceIte, Bool.not_false, Bool.not_true, Nat.reduceLT, Nat.reduceLeDiff, Nat.reduceAdd, Nat.reduceSub, Nat.reduceMul, Int.reduceLT, Int.reduceLE, Int.reduceNeg, Int.reduceAdd, Int.reduceSub, Int.reduceMul, Int.reduceEq, and_self, true_and, and_true, false_and, and_false, or_false, false_or, true_or, or_true, not_true_eq_false, not_false_eq_true, Bool.false_eq_true, Bool.true_eq_false, decide_true, decide_false, decide_eq_true_eq, Nat.le_refl, Nat.zero_le, ge_iff_le, gt_iff_lt, Nat.lt_irrefl, reduceCtorEq, if_posD, if_negD, w32_id, Int.toNat_natCast, WCo_in, mUp_self, mUp_ne, ne_eq, Bool.true_and, Bool.and_true, Bool.false_and, Bool.and_false, Bool.true_or, Bool.or_true, Bool.false_or, Bool.or_false, Nat.reduceEqDiff, Int.cast_ofNat_Int, Int.reduceToNat, List.getD_cons_succ, List.getD_cons_zero, eq_self, swL, if_true, if_false, qX3_beginRumours_0, MX3_hears, GG1]
  exact loop u 0 (F 26) h (by omega) (by rw [mUp_same]; exact hL) hE Fm.rf
theorem mvW_bd : ∀ {l : List Wr} {he : Nat → Int}, 0 ≤ (mvW mi wo hr l he).2.2 ∧ (mvW mi wo hr l he).2.2 ≤ (l.length : Int)
  | [], _ => ⟨Int.le_refl _, Int.le_refl _⟩
  | x :: t, he => by
    have i1 := mvW_bd (l := t) (he := he)
    have i2 := mvW_bd (l := t) (he := hrs he (x.2.1 * 6 + x.2.2.1) hr)
    unfold mvW
    rw [List.length_cons, Int.natCast_add]
    split
    · dsimp only
      omega
    · dsimp only
      unfold isNw
      split <;> omega
end LAHR
