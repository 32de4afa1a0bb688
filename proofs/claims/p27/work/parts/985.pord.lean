/-! ===== THE HAND-MADE LAND: an hour's orders ===== -/
abbrev odP (Q : Pn) : Nat → Od := Q.2.2.2.2.2.2.2.2
/-- the orders drawn mean what the plan's orders mean -/
def OzOk (Q : Pn) (oz : Nat → Nat → Int) : Prop := ∀ j, j < Q.2.2.2.1 → ZOk Q (oz j) ∧ (odP Q j).1 = (if oz j 0 = 0 then 8 else if oz j 0 = 1 then 10 else 11) ∧ (odP Q j).2.1 = (oz j 1).toNat ∧
  ∀ S, SOk Q S → HeOk Q S → HrOk S → (rpn (fct Q.1 Q.2.1 (frP Q) (toP Q) (miS S) (woS S) S.1 (heS6 S)) (odP Q j).2.2.1 = 0 ↔ ¬ hlZ Q S (oz j)) ∧ (oz j 0 = 0 → rpn (fct Q.1 Q.2.1 (frP Q) (toP Q) (miS S) (woS S) S.1 (heS6 S)) (odP Q j).2.2.2 = smZ Q S (oz j))
abbrev ohS (S : St8) (O : OS) : St8 := (S.1, O.2.2, S.2.2.1, S.2.2.2.1, O.1, S.2.2.2.2.2)
noncomputable abbrev orK (Q : Pn) (S : St8) (i : Nat) : OS := ordK Q.1 Q.2.1 Q.2.2.2.2.1 Q.2.2.2.2.2.1 S.2.2.2.1 S.1 S.2.2.2.2.2.1 Q.2.2.2.2.2.2.2.2 (S.2.2.2.2.1, fun _ => 0, S.2.1) i
section PORD
variable {L : Nat} {xs : Nat → Int} {fm : Bool} {h h3 : MH} {tg ad wa : Nat → Nat} {ev : MV} {mc : Int} {Q : Pn} {oz : Nat → Nat → Int} {S : St8} {hu : Nat → Int}
theorem crZ_ord {S : St8} {hu : Nat → Int} {ca : Int} {j : Nat} (hZ : OzOk Q oz) (hj : j < Q.2.2.2.1) (hS : SOk Q S) (hH : HeOk Q S) (hR : HrOk S) (hca : -2147483648 ≤ ca ∧ ca < 2147483648) :
    ordS Q.1 Q.2.1 (frP Q) (toP Q) (miS S) S.1 (heS6 S) (odP Q j) (woS S, hu, ca) = ((crZ Q S hu (oz j)).1, (crZ Q S hu (oz j)).2.1, w32 (ca + (crZ Q S hu (oz j)).2.2)) ∧ ((crZ Q S hu (oz j)).2.2 = 0 ∨ (crZ Q S hu (oz j)).2.2 = 1) := by
  obtain ⟨hz, k1, k2, k3⟩ := hZ j hj
  obtain ⟨k4, k5⟩ := k3 S hS hH hR
  obtain ⟨z0, -, -, -, -, -, -, -, zt, zr⟩ := hz
  have w0 : w32 (ca + 0) = ca := by rw [Int.add_zero]; exact w32_id hca.1 hca.2
  have key : ∀ x, ordC (odP Q j).1 (odP Q j).2.1 x (woS S) hu = crC (oz j) x (woS S) hu ∧ ((crC (oz j) x (woS S) hu).2.2 = 0 ∨ (crC (oz j) x (woS S) hu).2.2 = 1) := by
    intro x
    have hc : oz j 0 = 0 ∨ oz j 0 = 1 ∨ oz j 0 = 2 := by omega
    rcases hc with h9 | h9 | h9
    · obtain ⟨r, r1, r2⟩ := zr (by omega)
      obtain ⟨b1, b2, b3, b4, b5, b6, b7⟩ := hS.rb r1
      have e1 : (oz j 1).toNat = r := by rw [r2]; rfl
      have kk : (odP Q j).1 = 8 := by rw [k1, if_pos h9]
      have e2 : min 3 (woS S r + max 0 (min 3 x)) = max (woS S r) (min 3 (woS S r + min 3 x)) := by omega
      have f1 : ordC (odP Q j).1 (odP Q j).2.1 x (woS S) hu = (mUp (woS S) r (min 3 (woS S r + max 0 (min 3 x))), hu, if min 3 (woS S r + max 0 (min 3 x)) = woS S r then 0 else 1) := by rw [kk, k2, e1]; rfl
      have f2 : crC (oz j) x (woS S) hu = (mUp (woS S) r (max (woS S r) (min 3 (woS S r + min 3 x))), hu, if max (woS S r) (min 3 (woS S r + min 3 x)) = woS S r then 0 else 1) := by
        unfold crC
        rw [e1, if_neg (by omega), if_neg (by omega)]
      rw [f1, f2, e2]
      refine ⟨rfl, ?_⟩
      show (if max (woS S r) (min 3 (woS S r + min 3 x)) = woS S r then (0 : Int) else 1) = 0 ∨ (if max (woS S r) (min 3 (woS S r + min 3 x)) = woS S r then (0 : Int) else 1) = 1
      split
      · exact Or.inl rfl
      · exact Or.inr rfl
    · obtain ⟨r, r1, r2⟩ := zr (by omega)
      obtain ⟨b1, b2, b3, b4, b5, b6, b7⟩ := hS.rb r1
      have e1 : (oz j 1).toNat = r := by rw [r2]; rfl
      have kk : (odP Q j).1 = 10 := by rw [k1, if_neg (by omega), if_pos h9]
      have f1 : ordC (odP Q j).1 (odP Q j).2.1 x (woS S) hu = (if 0 < woS S r then mUp (woS S) r (woS S r - 1) else woS S, hu, if 0 < woS S r then 1 else 0) := by rw [kk, k2, e1]; rfl
      have f2 : crC (oz j) x (woS S) hu = (mUp (woS S) r (max 0 (woS S r - 1)), hu, if max 0 (woS S r - 1) = woS S r then 0 else 1) := by
        unfold crC
        rw [e1, if_neg (by omega), if_pos h9]
      rw [f1, f2]
      by_cases h0 : 0 < woS S r
      · have e2 : max 0 (woS S r - 1) = woS S r - 1 := by omega
        rw [if_pos h0, if_pos h0, e2, if_neg (by omega)]
        exact ⟨rfl, Or.inr rfl⟩
      · have e2 : max 0 (woS S r - 1) = woS S r := by omega
        rw [if_neg h0, if_neg h0, e2, if_pos rfl, mUp_same]
        exact ⟨rfl, Or.inl rfl⟩
    · have kk : (odP Q j).1 = 11 := by rw [k1, if_neg (by omega), if_neg (by omega)]
      have f1 : ordC (odP Q j).1 (odP Q j).2.1 x (woS S) hu = (woS S, mUp hu (oz j 1).toNat 1, if hu (oz j 1).toNat = 0 then 1 else 0) := by rw [kk, k2]; rfl
      have f2 : crC (oz j) x (woS S) hu = (woS S, mUp hu (oz j 1).toNat 1, if hu (oz j 1).toNat = 0 then 1 else 0) := by
        unfold crC
        rw [if_pos h9]
      rw [f1, f2]
      refine ⟨rfl, ?_⟩
      show (if hu (oz j 1).toNat = 0 then (1 : Int) else 0) = 0 ∨ (if hu (oz j 1).toNat = 0 then (1 : Int) else 0) = 1
      split
      · exact Or.inr rfl
      · exact Or.inl rfl
  unfold ordS crZ
  dsimp only
  by_cases hx : hlZ Q S (oz j)
  · generalize hq : rpn (fct Q.1 Q.2.1 (frP Q) (toP Q) (miS S) (woS S) S.1 (heS6 S)) (odP Q j).2.2.2 = q at k5 ⊢
    rw [bl_t.mpr hx, if_pos rfl, if_neg (fun e => k4.mp e hx)]
    obtain ⟨f1, f2⟩ := key q
    have f3 : crC (oz j) q (woS S) hu = crC (oz j) (smZ Q S (oz j)) (woS S) hu := by
      by_cases h0 : oz j 0 = 0
      · rw [k5 h0]
      · unfold crC
        by_cases h2 : oz j 0 = 2
        · rw [if_pos h2, if_pos h2]
        · have h1 : oz j 0 = 1 := by omega
          rw [if_neg h2, if_neg h2, if_pos h1, if_pos h1]
    rw [f3] at f1 f2
    rw [f1]
    refine ⟨?_, f2⟩
    rcases f2 with f2 | f2
    · rw [f2, if_pos rfl, w0]
    · rw [f2, if_neg (by decide)]
  · rw [if_pos (k4.mpr hx), bl_f.mpr hx, if_neg Bool.false_ne_true, w0]
    exact ⟨rfl, Or.inl rfl⟩
theorem w32_rg (x : Int) : -2147483648 ≤ w32 x ∧ w32 x < 2147483648 := by
  unfold w32
  rw [Int.bmod_def]
  split <;> omega
theorem orK_ok (hQ : PnOk Q) (hS : SOk Q S) (i : Nat) : SOk Q (ohS S (orK Q S i)) := ⟨hS.1.wup (fun r hr => ordK_wo hr i), hS.2.1, hS.2.2.1, hS.2.2.2⟩
theorem orK_ca (hca : -2147483648 ≤ S.2.1 ∧ S.2.1 < 2147483648) : ∀ i, -2147483648 ≤ (orK Q S i).2.2 ∧ (orK Q S i).2.2 < 2147483648
  | 0 => hca
  | i + 1 => by
    have ih := orK_ca hca i
    show -2147483648 ≤ (ordS _ _ _ _ _ _ _ _ (orK Q S i)).2.2 ∧ (ordS _ _ _ _ _ _ _ _ (orK Q S i)).2.2 < 2147483648
    unfold ordS
    split
    · exact ih
    · dsimp only
      split
      · exact ih
      · exact w32_rg _
/-- the orders, one after another -/
theorem sm_pord (hQ : PnOk Q) (hS : SOk Q S) (hH : HeOk Q S) (hR : HrOk S) (hZ : OzOk Q oz) (hca : -2147483648 ≤ S.2.1 ∧ S.2.1 < 2147483648) {l1 l2 l3 : MV} {P : (Option MV ⊕ Nat) → MH → Prop}
    (k : ∀ hi l7, wide l7 = false → SimA hi tg ad wa ev mc Q oz (ohS S (orK Q S Q.2.2.2.1)) (orK Q S Q.2.2.2.1).2.1 → Fx tg tg (22 * Q.2.2.2.1) (220 * Q.2.2.2.1) h hi → Wp (GG L xs fm) 6 BX10_pass (BX10_pass 5) [qR (ad 0), l1, l2, l3, qR (ad 8), qI Q.2.2.2.1, qI Q.2.2.2.1, l7] [] hi P) :
    ∀ (m i : Nat) (l7 : MV) (hi : MH), wide l7 = false → i + m = Q.2.2.2.1 → SimA hi tg ad wa ev mc Q oz (ohS S (orK Q S i)) (orK Q S i).2.1 → Fx tg tg (22 * i) (220 * i) h hi → Wp (GG L xs fm) 6 BX10_pass (BX10_pass 2) [qR (ad 0), l1, l2, l3, qR (ad 8), qI Q.2.2.2.1, qI i, l7] [] hi P := by
  obtain ⟨q1, q2, q3, q4, -⟩ := id hQ
  intro m
  induction m with
  | zero =>
    intro i l7 hi hw hm hA hF
    obtain rfl : i = Q.2.2.2.1 := by omega
    have nx := k hi l7 hw hA hF
    rw [qX10_pass_2]
    simp (disch := omega) only [ms_sipush, ms_lconst, ms_ldc2_w, ms_dconst, ms_ldc, ms_getstatic, ms_iload, ms_lload, ms_dload, ms_aload, ms_istore, ms_lstore, ms_dstore, ms_astore, ms_iinc, ms_iadd, ms_isub, ms_imul, ms_idiv, ms_irem, ms_ineg, ms_iand, ms_ior, ms_ishr, ms_ishl, ms_iushr, ms_i2b, ms_i2c, ms_i2l, ms_ladd, ms_lmul, ms_lcmp, ms_i2d, ms_ddiv, ms_dcmp, ms_dup, ms_pop, ms_dup2, ms_dup_x1, ms_aconst_null, ms_ifnull, ms_ifnonnull, ms_checkcast, ms_goto, ms_ifCond, ms_if_icmp, ms_if_acmp_eq, ms_if_acmp_ne, ms_tableswitch, ms_lookupswitch, ms_getfield, ms_putfield, ms_arraylength, ms_iaload, ms_baload, ms_laload, ms_aaload, ms_iastore, ms_bastore, ms_lastore, ms_aastore, ms_newarray, ms_new, ms_anewarray, ms_multianewarray, ms_invokevirtual, ms_invokestatic, ms_invokespecial, ms_invokeinterface, ms_invokedynamic_0, ms_invokedynamic_1, ms_invokedynamic_2, ms_invokedynamic_3, ms_invokedynamic_4, ms_invokedynamic_5, ms_invokedynamic_6, ms_invokedynamic_7, ms_invokedynamic_8, ms_ireturn, ms_lreturn, ms_dreturn, ms_areturn, ms_return_, Wp_cons, WSC_nx, WSC_cl, WSC_rt, WSC_th, WSC_if, lg, lset, lfree, wide, isRf, isRT, fitK, hgt, margs, mpad, rcv, rdF, rdN, rdI, rdQ, mC_eq, mC_ne, mC_lt, mC_ge, mC_gt, mC_le, mset, mnew, h_fst, h_snd, lt_drop0, List.drop_succ_cons, List.drop_zero, List.drop_nil, List.take_succ_cons, List.take_zero, List.reverse_cons, List.reverse_nil, List.nil_append, List.cons_append, List.append_nil, List.length_cons, List.length_nil, List.getElem?_cons_succ, List.getElem?_cons_zero, List.set_cons_succ, List.set_cons_zero, List.replicate, Option.toList, reduceIte, Bool.not_false, Bool.not_true, Nat.reduceLT, Nat.reduceLeDiff, Nat.reduceAdd, Nat.reduceSub, Nat.reduceMul, Int.reduceLT, Int.reduceLE, Int.reduceNeg, Int.reduceAdd, Int.reduceSub, Int.reduceMul, Int.reduceEq, and_self, true_and, and_true, false_and, and_false, or_false, false_or, true_or, or_true, not_true_eq_false, not_false_eq_true, Bool.false_eq_true, Bool.true_eq_false, decide_true, decide_false, decide_eq_true_eq, Nat.le_refl, Nat.zero_le, ge_iff_le, gt_iff_lt, Nat.lt_irrefl, reduceCtorEq, if_posD, if_negD, w32_id, Int.toNat_natCast, WCo_in, mUp_self, mUp_ne, ne_eq, Bool.true_and, Bool.and_true, Bool.false_and, Bool.and_false, Bool.true_or, Bool.or_true, Bool.false_or, Bool.or_false, Nat.reduceEqDiff, Int.cast_ofNat_Int, Int.reduceToNat, List.getD_cons_succ, List.getD_cons_zero, eq_self, swL, if_true, if_false, nqT, isNl, qX10_pass_2, MJx4a65c_add_9ea2d, MJx4a65c_get_915e3, MJx4a65c_remove_915e3, MJx4a65c_size_8abf5, MX10_all, MX10_carries, MX10_hears, MX10_isOpen, MX10_length, GG1]
    exact nx
  | succ m ih =>
    intro i l7 hi hw hm hA hF
    have hj : i < Q.2.2.2.1 := by omega
    have e0 := hA.1
    unfold SimO at e0
    obtain ⟨f8, g, o1, o2, o3, o4⟩ := hA.2.2.2.2.2.2.2.2.1.at hj
    have hS' := orK_ok hQ hS i
    have hca' := orK_ca (Q := Q) hca i
    obtain ⟨c1, c2⟩ := crZ_ord (hu := (orK Q S i).2.1) hZ hj hS' hH hR hca'
    have es : orK Q S (i + 1) = ((crZ Q (ohS S (orK Q S i)) (orK Q S i).2.1 (oz i)).1, (crZ Q (ohS S (orK Q S i)) (orK Q S i).2.1 (oz i)).2.1, w32 ((orK Q S i).2.2 + (crZ Q (ohS S (orK Q S i)) (orK Q S i).2.1 (oz i)).2.2)) := c1
    have ih' := ih (i + 1) (qR (ad (80 + i)))
    rw [qX10_pass_2]
    simp (disch := omega) only [ms_sipush, ms_lconst, ms_ldc2_w, ms_dconst, ms_ldc, ms_getstatic, ms_iload, ms_lload, ms_dload, ms_aload, ms_istore, ms_lstore, ms_dstore, ms_astore, ms_iinc, ms_iadd, ms_isub, ms_imul, ms_idiv, ms_irem, ms_ineg, ms_iand, ms_ior, ms_ishr, ms_ishl, ms_iushr, ms_i2b, ms_i2c, ms_i2l, ms_ladd, ms_lmul, ms_lcmp, ms_i2d, ms_ddiv, ms_dcmp, ms_dup, ms_pop, ms_dup2, ms_dup_x1, ms_aconst_null, ms_ifnull, ms_ifnonnull, ms_checkcast, ms_goto, ms_ifCond, ms_if_icmp, ms_if_acmp_eq, ms_if_acmp_ne, ms_tableswitch, ms_lookupswitch, ms_getfield, ms_putfield, ms_arraylength, ms_iaload, ms_baload, ms_laload, ms_aaload, ms_iastore, ms_bastore, ms_lastore, ms_aastore, ms_newarray, ms_new, ms_anewarray, ms_multianewarray, ms_invokevirtual, ms_invokestatic, ms_invokespecial, ms_invokeinterface, ms_invokedynamic_0, ms_invokedynamic_1, ms_invokedynamic_2, ms_invokedynamic_3, ms_invokedynamic_4, ms_invokedynamic_5, ms_invokedynamic_6, ms_invokedynamic_7, ms_invokedynamic_8, ms_ireturn, ms_lreturn, ms_dreturn, ms_areturn, ms_return_, Wp_cons, WSC_nx, WSC_cl, WSC_rt, WSC_th, WSC_if, lg, lset, lfree, wide, isRf, isRT, fitK, hgt, margs, mpad, rcv, rdF, rdN, rdI, rdQ, mC_eq, mC_ne, mC_lt, mC_ge, mC_gt, mC_le, mset, mnew, h_fst, h_snd, lt_drop0, List.drop_succ_cons, List.drop_zero, List.drop_nil, List.take_succ_cons, List.take_zero, List.reverse_cons, List.reverse_nil, List.nil_append, List.cons_append, List.append_nil, List.length_cons, List.length_nil, List.getElem?_cons_succ, List.getElem?_cons_zero, List.set_cons_succ, List.set_cons_zero, List.replicate, Option.toList, reduceIte, Bool.not_false, Bool.not_true, Nat.reduceLT, Nat.reduceLeDiff, Nat.reduceAdd, Nat.reduceSub, Nat.reduceMul, Int.reduceLT, Int.reduceLE, Int.reduceNeg, Int.reduceAdd, Int.reduceSub, Int.reduceMul, Int.reduceEq, and_self, true_and, and_true, false_and, and_false, or_false, false_or, true_or, or_true, not_true_eq_false, not_false_eq_true, Bool.false_eq_true, Bool.true_eq_false, decide_true, decide_false, decide_eq_true_eq, Nat.le_refl, Nat.zero_le, ge_iff_le, gt_iff_lt, Nat.lt_irrefl, reduceCtorEq, if_posD, if_negD, w32_id, Int.toNat_natCast, WCo_in, mUp_self, mUp_ne, ne_eq, Bool.true_and, Bool.and_true, Bool.false_and, Bool.and_false, Bool.true_or, Bool.or_true, Bool.false_or, Bool.or_false, Nat.reduceEqDiff, Int.cast_ofNat_Int, Int.reduceToNat, List.getD_cons_succ, List.getD_cons_zero, eq_self, swL, if_true, if_false, nqT, isNl, e0, o1, o2]
    refine WCl_of (sm_carries hA hQ hS' hH hR hj (hZ i hj).1) (by omega) (fun v h2 hv => ?_)
    obtain ⟨rfl, hA2, hF2⟩ := hv
    have e02 := hA2.1
    unfold SimO at e02
    have hw2 := hA2.wob hQ (hr := S.1) (ca := w32 ((orK Q S i).2.2 + (crZ Q (ohS S (orK Q S i)) (orK Q S i).2.1 (oz i)).2.2)) (lo := S.2.2.1)
    have hF3 := (hF.tr hF2).tr (Fx.st (c := (cO 10 [qI S.1, qI (w32 ((orK Q S i).2.2 + (crZ Q (ohS S (orK Q S i)) (orK Q S i).2.1 (oz i)).2.2)), qI S.2.2.1, qI Q.1, qR (ad 1), qR (ad 2), qR (ad 3), qR (ad 4), qR (ad 5), qR (ad 6), qR (ad 8)])) (hA2.tgl hQ (us8 (i := 0) (by omega) (by omega))))
    have nx := ih' _ rfl (by omega) (by rw [es]; exact hw2) (hF3.up (by omega) (by omega))
    generalize crZ Q (ohS S (orK Q S i)) (orK Q S i).2.1 (oz i) = C at *
    rcases c2 with c2 | c2
    · rw [c2, w32_id (x := (orK Q S i).2.2 + 0) (by omega) (by omega)] at nx
      simp (disch := omega) only [ms_sipush, ms_lconst, ms_ldc2_w, ms_dconst, ms_ldc, ms_getstatic, ms_iload, ms_lload, ms_dload, ms_aload, ms_istore, ms_lstore, ms_dstore, ms_astore, ms_iinc, ms_iadd, ms_isub, ms_imul, ms_idiv, ms_irem, ms_ineg, ms_iand, ms_ior, ms_ishr, ms_ishl, ms_iushr, ms_i2b, ms_i2c, ms_i2l, ms_ladd, ms_lmul, ms_lcmp, ms_i2d, ms_ddiv, ms_dcmp, ms_dup, ms_pop, ms_dup2, ms_dup_x1, ms_aconst_null, ms_ifnull, ms_ifnonnull, ms_checkcast, ms_goto, ms_ifCond, ms_if_icmp, ms_if_acmp_eq, ms_if_acmp_ne, ms_tableswitch, ms_lookupswitch, ms_getfield, ms_putfield, ms_arraylength, ms_iaload, ms_baload, ms_laload, ms_aaload, ms_iastore, ms_bastore, ms_lastore, ms_aastore, ms_newarray, ms_new, ms_anewarray, ms_multianewarray, ms_invokevirtual, ms_invokestatic, ms_invokespecial, ms_invokeinterface, ms_invokedynamic_0, ms_invokedynamic_1, ms_invokedynamic_2, ms_invokedynamic_3, ms_invokedynamic_4, ms_invokedynamic_5, ms_invokedynamic_6, ms_invokedynamic_7, ms_invokedynamic_8, ms_ireturn, ms_lreturn, ms_dreturn, ms_areturn, ms_return_, Wp_cons, WSC_nx, WSC_cl, WSC_rt, WSC_th, WSC_if, lg, lset, lfree, wide, isRf, isRT, fitK, hgt, margs, mpad, rcv, rdF, rdN, rdI, rdQ, mC_eq, mC_ne, mC_lt, mC_ge, mC_gt, mC_le, mset, mnew, h_fst, h_snd, lt_drop0, List.drop_succ_cons, List.drop_zero, List.drop_nil, List.take_succ_cons, List.take_zero, List.reverse_cons, List.reverse_nil, List.nil_append, List.cons_append, List.append_nil, List.length_cons, List.length_nil, List.getElem?_cons_succ, List.getElem?_cons_zero, List.set_cons_succ, List.set_cons_zero, List.replicate, Option.toList, reduceIte, Bool.not_false, Bool.not_true, Nat.reduceLT, Nat.reduceLeDiff, Nat.reduceAdd, Nat.reduceSub, Nat.reduceMul, Int.reduceLT, Int.reduceLE, Int.reduceNeg, Int.reduceAdd, Int.reduceSub, Int.reduceMul, Int.reduceEq, and_self, true_and, and_true, false_and, and_false, or_false, false_or, true_or, or_true, not_true_eq_false, not_false_eq_true, Bool.false_eq_true, Bool.true_eq_false, decide_true, decide_false, decide_eq_true_eq, Nat.le_refl, Nat.zero_le, ge_iff_le, gt_iff_lt, Nat.lt_irrefl, reduceCtorEq, if_posD, if_negD, w32_id, Int.toNat_natCast, WCo_in, mUp_self, mUp_ne, ne_eq, Bool.true_and, Bool.and_true, Bool.false_and, Bool.and_false, Bool.true_or, Bool.or_true, Bool.false_or, Bool.or_false, Nat.reduceEqDiff, Int.cast_ofNat_Int, Int.reduceToNat, List.getD_cons_succ, List.getD_cons_zero, eq_self, swL, if_true, if_false, nqT, isNl, qX10_pass_3, qX10_pass_4, MJx4a65c_add_9ea2d, MJx4a65c_get_915e3, MJx4a65c_remove_915e3, MJx4a65c_size_8abf5, MX10_all, MX10_carries, MX10_hears, MX10_isOpen, MX10_length, GG1, e02, c2]
      exact nx
    · rw [c2] at nx
      simp (disch := omega) only [ms_sipush, ms_lconst, ms_ldc2_w, ms_dconst, ms_ldc, ms_getstatic, ms_iload, ms_lload, ms_dload, ms_aload, ms_istore, ms_lstore, ms_dstore, ms_astore, ms_iinc, ms_iadd, ms_isub, ms_imul, ms_idiv, ms_irem, ms_ineg, ms_iand, ms_ior, ms_ishr, ms_ishl, ms_iushr, ms_i2b, ms_i2c, ms_i2l, ms_ladd, ms_lmul, ms_lcmp, ms_i2d, ms_ddiv, ms_dcmp, ms_dup, ms_pop, ms_dup2, ms_dup_x1, ms_aconst_null, ms_ifnull, ms_ifnonnull, ms_checkcast, ms_goto, ms_ifCond, ms_if_icmp, ms_if_acmp_eq, ms_if_acmp_ne, ms_tableswitch, ms_lookupswitch, ms_getfield, ms_putfield, ms_arraylength, ms_iaload, ms_baload, ms_laload, ms_aaload, ms_iastore, ms_bastore, ms_lastore, ms_aastore, ms_newarray, ms_new, ms_anewarray, ms_multianewarray, ms_invokevirtual, ms_invokestatic, ms_invokespecial, ms_invokeinterface, ms_invokedynamic_0, ms_invokedynamic_1, ms_invokedynamic_2, ms_invokedynamic_3, ms_invokedynamic_4, ms_invokedynamic_5, ms_invokedynamic_6, ms_invokedynamic_7, ms_invokedynamic_8, ms_ireturn, ms_lreturn, ms_dreturn, ms_areturn, ms_return_, Wp_cons, WSC_nx, WSC_cl, WSC_rt, WSC_th, WSC_if, lg, lset, lfree, wide, isRf, isRT, fitK, hgt, margs, mpad, rcv, rdF, rdN, rdI, rdQ, mC_eq, mC_ne, mC_lt, mC_ge, mC_gt, mC_le, mset, mnew, h_fst, h_snd, lt_drop0, List.drop_succ_cons, List.drop_zero, List.drop_nil, List.take_succ_cons, List.take_zero, List.reverse_cons, List.reverse_nil, List.nil_append, List.cons_append, List.append_nil, List.length_cons, List.length_nil, List.getElem?_cons_succ, List.getElem?_cons_zero, List.set_cons_succ, List.set_cons_zero, List.replicate, Option.toList, reduceIte, Bool.not_false, Bool.not_true, Nat.reduceLT, Nat.reduceLeDiff, Nat.reduceAdd, Nat.reduceSub, Nat.reduceMul, Int.reduceLT, Int.reduceLE, Int.reduceNeg, Int.reduceAdd, Int.reduceSub, Int.reduceMul, Int.reduceEq, and_self, true_and, and_true, false_and, and_false, or_false, false_or, true_or, or_true, not_true_eq_false, not_false_eq_true, Bool.false_eq_true, Bool.true_eq_false, decide_true, decide_false, decide_eq_true_eq, Nat.le_refl, Nat.zero_le, ge_iff_le, gt_iff_lt, Nat.lt_irrefl, reduceCtorEq, if_posD, if_negD, w32_id, Int.toNat_natCast, WCo_in, mUp_self, mUp_ne, ne_eq, Bool.true_and, Bool.and_true, Bool.false_and, Bool.and_false, Bool.true_or, Bool.or_true, Bool.false_or, Bool.or_false, Nat.reduceEqDiff, Int.cast_ofNat_Int, Int.reduceToNat, List.getD_cons_succ, List.getD_cons_zero, eq_self, swL, if_true, if_false, nqT, isNl, qX10_pass_3, qX10_pass_4, MJx4a65c_add_9ea2d, MJx4a65c_get_915e3, MJx4a65c_remove_915e3, MJx4a65c_size_8abf5, MX10_all, MX10_carries, MX10_hears, MX10_isOpen, MX10_length, GG1, e02, c2]
      exact nx
end PORD
