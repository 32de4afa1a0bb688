/-! ===== THE CLASS IS MADE ===== -/
def mG (t n k nx : Nat) (hc : Nat → MC) : Nat → MC := fun a => if nx + 1 ≤ a ∧ a < nx + 1 + n then (if t = 0 then cI .int k (fun _ => 0) else if t = 3 then cI .boolean k (fun _ => 0) else cL k (fun _ => 0)) else mUp hc nx (cQ (.array (if t = 0 then .int else if t = 3 then .boolean else .long)) n (fun j => if j < n then qR (nx + 1 + j) else qN)) a
theorem mgrid_eq {t nx c s : Nat} {n k : Int} {hc : Nat → MC} : mgrid t n k (hc, nx, c, s) = (mG t n.toNat k.toNat nx hc, nx + 1 + n.toNat, c + 1 + n.toNat, s + n.toNat + n.toNat * k.toNat) := rfl
theorem mG_ne {t n k nx a : Nat} {hc : Nat → MC} (h1 : a ≠ nx) (h2 : ¬ (nx + 1 ≤ a ∧ a < nx + 1 + n)) : mG t n k nx hc a = hc a := by
  unfold mG
  rw [if_neg h2, mUp_ne h1]
theorem mG_0 {t n k nx : Nat} {hc : Nat → MC} : mG t n k nx hc nx = cQ (.array (if t = 0 then .int else if t = 3 then .boolean else .long)) n (fun j => if j < n then qR (nx + 1 + j) else qN) := by
  unfold mG
  rw [if_neg (by omega), mUp_self]
theorem mG_r {t n k nx a : Nat} {hc : Nat → MC} (h2 : nx + 1 ≤ a ∧ a < nx + 1 + n) : mG t n k nx hc a = if t = 0 then cI .int k (fun _ => 0) else if t = 3 then cI .boolean k (fun _ => 0) else cL k (fun _ => 0) := by
  unfold mG
  rw [if_pos h2]
/-- made: n cells from b on, s slots -/
def Mk (b n s : Nat) (hc : Nat → MC) (cn sl : Nat) (h2 : MH) : Prop := h2.2 = (b + n, cn + (n - 1), sl + s) ∧ ∀ a, (a < b ∨ b + n ≤ a) → h2.1 a = hc a
section INIT
variable {L : Nat} {xs : Nat → Int} {fm : Bool} {hc : Nat → MC} {b cn sl : Nat}
theorem i_rk (h0 : hc b = cO 6 [qN, qI 0]) : Sp (GG L xs fm) 0 mX6_init [qR b] (hc, b + 1, cn, sl) (fun v h2 => v = .inl none ∧ Mk b 2 64 hc cn sl h2 ∧ h2.1 b = cO 6 [qR (b + 1), qI 0] ∧ h2.1 (b + 1) = cI .int 64 (fun _ => 0)) := by
  refine Sp_of MX6_init ?_
  generalize hP : (fun (v : Option MV ⊕ Nat) (h2 : MH) => v = .inl none ∧ Mk b 2 64 hc cn sl h2 ∧ h2.1 b = cO 6 [qR (b + 1), qI 0] ∧ h2.1 (b + 1) = cI .int 64 (fun _ => 0)) = Post
  simp (disch := omega) only [ms_sipush, ms_lconst, ms_ldc2_w, ms_dconst, ms_ldc, ms_getstatic, ms_iload, ms_lload, ms_dload, ms_aload, ms_istore, ms_lstore, ms_dstore, ms_astore, ms_iinc, ms_iadd, ms_isub, ms_imul, ms_idiv, ms_irem, ms_ineg, ms_iand, ms_ior, ms_ishr, ms_ishl, ms_iushr, ms_i2b, ms_i2c, ms_i2l, ms_ladd, ms_lmul, ms_lcmp, ms_i2d, ms_ddiv, ms_dcmp, ms_dup, ms_pop, ms_dup2, ms_dup_x1, ms_aconst_null, ms_ifnull, ms_ifnonnull, ms_checkcast, ms_goto, ms_ifCond, ms_if_icmp, ms_if_acmp_eq, ms_if_acmp_ne, ms_tableswitch, ms_lookupswitch, ms_getfield, ms_putfield, ms_arraylength, ms_iaload, ms_baload, ms_laload, ms_aaload, ms_iastore, ms_bastore, ms_lastore, ms_aastore, ms_newarray, ms_new, ms_anewarray, ms_multianewarray, ms_invokevirtual, ms_invokestatic, ms_invokespecial, ms_invokeinterface, ms_invokedynamic_0, ms_invokedynamic_1, ms_invokedynamic_2, ms_invokedynamic_3, ms_invokedynamic_4, ms_invokedynamic_5, ms_invokedynamic_6, ms_invokedynamic_7, ms_invokedynamic_8, ms_ireturn, ms_lreturn, ms_dreturn, ms_areturn, ms_return_, Wp_cons, WSC_nx, WSC_cl, WSC_rt, WSC_th, WSC_if, lg, lset, lfree, wide, isRf, isRT, fitK, hgt, margs, mpad, rcv, rdF, rdN, rdI, rdQ, mC_eq, mC_ne, mC_lt, mC_ge, mC_gt, mC_le, mset, mnew, h_fst, h_snd, lt_drop0, List.drop_succ_cons, List.drop_zero, List.drop_nil, List.take_succ_cons, List.take_zero, List.reverse_cons, List.reverse_nil, List.nil_append, List.cons_append, List.append_nil, List.length_cons, List.length_nil, List.getElem?_cons_succ, List.getElem?_cons_zero, List.set_cons_succ, List.set_cons_zero, List.replicate, Option.toList, reduceIte, Bool.not_false, Bool.not_true, Nat.reduceLT, Nat.reduceLeDiff, Nat.reduceAdd, Nat.reduceSub, Nat.reduceMul, Int.reduceLT, Int.reduceLE, Int.reduceNeg, Int.reduceAdd, Int.reduceSub, Int.reduceMul, Int.reduceEq, and_self, true_and, and_true, false_and, and_false, or_false, false_or, true_or, or_true, not_true_eq_false, not_false_eq_true, Bool.false_eq_true, Bool.true_eq_false, decide_true, decide_false, decide_eq_true_eq, Nat.le_refl, Nat.zero_le, ge_iff_le, gt_iff_lt, Nat.lt_irrefl, reduceCtorEq, if_posD, if_negD, w32_id, Int.toNat_natCast, WCo_in, mUp_self, mUp_ne, ne_eq, Bool.true_and, Bool.and_true, Bool.false_and, Bool.and_false, Bool.true_or, Bool.or_true, Bool.false_or, Bool.or_false, Nat.reduceEqDiff, Int.cast_ofNat_Int, Int.reduceToNat, List.getD_cons_succ, List.getD_cons_zero, eq_self, swL, if_true, if_false, nqT, isNl, qX6_init_0, h0, Nat.add_assoc, mUp_mUp]
  subst hP
  refine ⟨rfl, ⟨rfl, fun a ha => ?_⟩, ?_, ?_⟩
  · simp (disch := omega) only [mUp_ne, ne_eq]
  · simp (disch := omega) only [mUp_ne, mUp_self, ne_eq]
  · simp (disch := omega) only [mUp_ne, mUp_self, ne_eq]
theorem i_ro (h0 : hc b = cO 7 [qI 0, qI 0, qN, qN, qN, qN, qN, qN, qN, qN, qI 0, qI 0, qI 0, qN, qN, qN, qN]) : Sp (GG L xs fm) 0 mX7_init [qR b] (hc, b + 1, cn, sl) (fun v h2 => v = .inl none ∧ Mk b 23 252 hc cn sl h2 ∧ RoA h2.1 b 0 0 (-2) 0 0 (fun _ _ => 0)) := by
  refine Sp_of MX7_init ?_
  generalize hP : (fun (v : Option MV ⊕ Nat) (h2 : MH) => v = .inl none ∧ Mk b 23 252 hc cn sl h2 ∧ RoA h2.1 b 0 0 (-2) 0 0 (fun _ _ => 0)) = Post
  simp (disch := omega) only [ms_sipush, ms_lconst, ms_ldc2_w, ms_dconst, ms_ldc, ms_getstatic, ms_iload, ms_lload, ms_dload, ms_aload, ms_istore, ms_lstore, ms_dstore, ms_astore, ms_iinc, ms_iadd, ms_isub, ms_imul, ms_idiv, ms_irem, ms_ineg, ms_iand, ms_ior, ms_ishr, ms_ishl, ms_iushr, ms_i2b, ms_i2c, ms_i2l, ms_ladd, ms_lmul, ms_lcmp, ms_i2d, ms_ddiv, ms_dcmp, ms_dup, ms_pop, ms_dup2, ms_dup_x1, ms_aconst_null, ms_ifnull, ms_ifnonnull, ms_checkcast, ms_goto, ms_ifCond, ms_if_icmp, ms_if_acmp_eq, ms_if_acmp_ne, ms_tableswitch, ms_lookupswitch, ms_getfield, ms_putfield, ms_arraylength, ms_iaload, ms_baload, ms_laload, ms_aaload, ms_iastore, ms_bastore, ms_lastore, ms_aastore, ms_newarray, ms_new, ms_anewarray, ms_multianewarray, ms_invokevirtual, ms_invokestatic, ms_invokespecial, ms_invokeinterface, ms_invokedynamic_0, ms_invokedynamic_1, ms_invokedynamic_2, ms_invokedynamic_3, ms_invokedynamic_4, ms_invokedynamic_5, ms_invokedynamic_6, ms_invokedynamic_7, ms_invokedynamic_8, ms_ireturn, ms_lreturn, ms_dreturn, ms_areturn, ms_return_, Wp_cons, WSC_nx, WSC_cl, WSC_rt, WSC_th, WSC_if, lg, lset, lfree, wide, isRf, isRT, fitK, hgt, margs, mpad, rcv, rdF, rdN, rdI, rdQ, mC_eq, mC_ne, mC_lt, mC_ge, mC_gt, mC_le, mset, mnew, h_fst, h_snd, lt_drop0, List.drop_succ_cons, List.drop_zero, List.drop_nil, List.take_succ_cons, List.take_zero, List.reverse_cons, List.reverse_nil, List.nil_append, List.cons_append, List.append_nil, List.length_cons, List.length_nil, List.getElem?_cons_succ, List.getElem?_cons_zero, List.set_cons_succ, List.set_cons_zero, List.replicate, Option.toList, reduceIte, Bool.not_false, Bool.not_true, Nat.reduceLT, Nat.reduceLeDiff, Nat.reduceAdd, Nat.reduceSub, Nat.reduceMul, Int.reduceLT, Int.reduceLE, Int.reduceNeg, Int.reduceAdd, Int.reduceSub, Int.reduceMul, Int.reduceEq, and_self, true_and, and_true, false_and, and_false, or_false, false_or, true_or, or_true, not_true_eq_false, not_false_eq_true, Bool.false_eq_true, Bool.true_eq_false, decide_true, decide_false, decide_eq_true_eq, Nat.le_refl, Nat.zero_le, ge_iff_le, gt_iff_lt, Nat.lt_irrefl, reduceCtorEq, if_posD, if_negD, w32_id, Int.toNat_natCast, WCo_in, mUp_self, mUp_ne, ne_eq, Bool.true_and, Bool.and_true, Bool.false_and, Bool.and_false, Bool.true_or, Bool.or_true, Bool.false_or, Bool.or_false, Nat.reduceEqDiff, Int.cast_ofNat_Int, Int.reduceToNat, List.getD_cons_succ, List.getD_cons_zero, eq_self, swL, if_true, if_false, nqT, isNl, qX7_init_0, h0, Nat.add_assoc, mUp_mUp, mgrid_eq, mG_ne]
  subst hP
  refine ⟨rfl, ⟨rfl, fun a ha => ?_⟩, ?_, ?_, fun k ty m hk => ?_⟩
  · simp (disch := omega) only [mUp_ne, ne_eq, mG_ne]
  · simp (disch := omega) only [mUp_ne, mUp_self, ne_eq, mG_ne]
    rfl
  · simp (disch := omega) only [mUp_ne, mUp_self, ne_eq, mG_ne, mG_0]
    rfl
  · have hb := roT_lt hk
    rcases (by omega : k = 1 ∨ k = 2 ∨ k = 3 ∨ k = 4 ∨ k = 5 ∨ (7 ≤ k ∧ k < 17) ∨ k = 17 ∨ k = 18 ∨ k = 19 ∨ k = 20 ∨ k = 21 ∨ k = 22) with rfl | rfl | rfl | rfl | rfl | h1 | rfl | rfl | rfl | rfl | rfl | rfl
    · cases hk
      simp (disch := omega) only [mUp_ne, mUp_self, ne_eq, mG_ne]
    · cases hk
      simp (disch := omega) only [mUp_ne, mUp_self, ne_eq, mG_ne]
    · cases hk
      simp (disch := omega) only [mUp_ne, mUp_self, ne_eq, mG_ne]
    · cases hk
      simp (disch := omega) only [mUp_ne, mUp_self, ne_eq, mG_ne]
    · cases hk
      simp (disch := omega) only [mUp_ne, mUp_self, ne_eq, mG_ne]
    · have hk2 : roT k = some (.int, 10) := by
        unfold roT
        rw [if_neg (by omega), if_neg (by omega), if_neg (by omega), if_neg (by omega)]
      rw [hk2] at hk
      cases hk
      simp (disch := omega) only [mUp_ne, mUp_self, ne_eq, mG_r]
      rfl
    · cases hk
      simp (disch := omega) only [mUp_ne, mUp_self, ne_eq, mG_ne]
    · cases hk
      simp (disch := omega) only [mUp_ne, mUp_self, ne_eq, mG_ne]
    · cases hk
      simp (disch := omega) only [mUp_ne, mUp_self, ne_eq, mG_ne]
    · cases hk
      simp (disch := omega) only [mUp_ne, mUp_self, ne_eq, mG_ne]
    · cases hk
      simp (disch := omega) only [mUp_ne, mUp_self, ne_eq, mG_ne]
    · cases hk
      simp (disch := omega) only [mUp_ne, mUp_self, ne_eq, mG_ne]
end INIT
