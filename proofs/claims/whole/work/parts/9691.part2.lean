/-! ===== THE REFERENCE: part ===== -/
def PtE (f : Nat → Int) (P : Nat → Nat) : Prop := ∀ i, i < 10 → f i = (P i : Int)
section PARTM
variable {L : Nat} {xs : Nat → Int} {fm : Bool} {hc hc' : Nat → MC} {h : MH} {sb ob n c : Nat} {fr to : Nat → Nat} {mi wo : Nat → Int} {th sz ea tk dp wk bt : Int} {oo : Nat} {T : Nat → Int} {W : Nat → Nat → Int}
theorem MoA.w1 (hO : MoA h.1 th sz ea tk dp sb wk oo bt T W) {f : Nat → Int} : MoA (mUp h.1 146 (cI .int 10 f)) th sz ea tk dp sb wk oo bt T (mUp W 1 f) := by
  obtain ⟨h1, h2, h3, h4⟩ := hO
  refine ⟨(mUp_ne (by omega)).trans h1, (mUp_ne (by omega)).trans h2, fun k hk => ?_, fun k hk hk2 => ?_⟩
  · by_cases h0 : k = 1
    · subst h0
      rw [mUp_self]
      exact mUp_self h.1 146 _
    · rw [mUp_ne (by omega), mUp_ne h0]
      exact h3 k hk
  · rw [mUp_ne (by omega), mUp_ne (by omega)]
    exact h4 k hk hk2
theorem m_part (hO : MoA h.1 th sz ea tk dp sb wk oo bt T W) (hM : MRd h.1 sb ob n c fr to mi wo) (hR : RdOk n c fr to mi wo) (hsb : sb + 16 ≤ 145 ∨ 151 ≤ sb) (hob : ob = 125 ∨ ob = 135) : Sp (GG L xs fm) 2 mX12_part [qR 107, qR ob] h (fun v h2 => v = .inl (some (qI (cnt (fun t => decide (partP (roG c fr to mi wo bt) t = t)) n : Nat))) ∧ ∃ f, h2 = (mUp h.1 146 (cI .int 10 f), h.2) ∧ ∀ t, t < n → f t = (partP (roG c fr to mi wo bt) t : Int)) := by
  have hg : GrOk (roG c fr to mi wo bt) n := hR.gr
  have hn := hR.1
  have hcc := hR.2.1
  have o0 := hO.1
  obtain ⟨od, F, hr', ca, lo, he, tn, G, a1, a2, a3, a4, a5⟩ := hM
  have hM : MRd h.1 sb ob n c fr to mi wo := ⟨od, F, hr', ca, lo, he, tn, G, a1, a2, a3, a4, a5⟩
  have e5 := a1.2 5 6 rfl
  have e7 := a1.2 7 14 rfl
  have e8 := a1.2 8 14 rfl
  have es := a1.1
  generalize hP : (fun (v : Option MV ⊕ Nat) (h2 : MH) => v = .inl (some (qI (cnt (fun t => decide (partP (roG c fr to mi wo bt) t = t)) n : Nat))) ∧ ∃ f, h2 = (mUp h.1 146 (cI .int 10 f), h.2) ∧ ∀ t, t < n → f t = (partP (roG c fr to mi wo bt) t : Int)) = Post
  -- counting
  have cl : ∀ (f : Nat → Int) (l5 : MV), (∀ t, t < n → f t = (partP (roG c fr to mi wo bt) t : Int)) → ∀ (m k : Nat), k + m = n → Wp (GG L xs fm) 2 BX12_part (BX12_part 9) [qR 107, qR ob, qI 0, qI (cnt (fun t => decide (partP (roG c fr to mi wo bt) t = t)) k : Nat), qI k, l5] [] (mUp h.1 146 (cI .int 10 f), h.2) Post := by
    intro f l5 hf m
    induction m with
    | zero =>
      intro k hk
      have hk : k = n := by omega
      subst hk
      rw [qX12_part_9]
      simp (disch := omega) only [ms_sipush, ms_lconst, ms_ldc2_w, ms_dconst, ms_ldc, ms_getstatic, ms_iload, ms_lload, ms_dload, ms_aload, ms_istore, ms_lstore, ms_dstore, ms_astore, ms_iinc, ms_iadd, ms_isub, ms_imul, ms_idiv, ms_irem, ms_ineg, ms_iand, ms_ior, ms_ishr, ms_iushr, ms_i2b, ms_i2c, ms_i2l, ms_ladd, ms_lmul, ms_lcmp, ms_i2d, ms_ddiv, ms_dcmp, ms_dup, ms_pop, ms_dup2, ms_goto, ms_ifCond, ms_if_icmp, ms_if_acmp_eq, ms_if_acmp_ne, ms_tableswitch, ms_lookupswitch, ms_getfield, ms_putfield, ms_arraylength, ms_iaload, ms_baload, ms_laload, ms_aaload, ms_iastore, ms_bastore, ms_lastore, ms_aastore, ms_newarray, ms_new, ms_anewarray, ms_multianewarray, ms_invokevirtual, ms_invokestatic, ms_invokespecial, ms_invokedynamic_0, ms_invokedynamic_1, ms_invokedynamic_2, ms_invokedynamic_3, ms_invokedynamic_4, ms_invokedynamic_5, ms_ireturn, ms_lreturn, ms_dreturn, ms_areturn, ms_return_, Wp_cons, WSC_nx, WSC_cl, WSC_rt, WSC_th, WSC_if, lg, lset, lfree, wide, isRf, isRT, fitK, hgt, margs, mpad, rcv, rdF, rdN, rdI, rdQ, mC_eq, mC_ne, mC_lt, mC_ge, mC_gt, mC_le, mset, mnew, h_fst, h_snd, lt_drop0, List.drop_succ_cons, List.drop_zero, List.drop_nil, List.take_succ_cons, List.take_zero, List.reverse_cons, List.reverse_nil, List.nil_append, List.cons_append, List.append_nil, List.length_cons, List.length_nil, List.getElem?_cons_succ, List.getElem?_cons_zero, List.set_cons_succ, List.set_cons_zero, List.replicate, Option.toList, reduceIte, Bool.not_false, Bool.not_true, Nat.reduceLT, Nat.reduceLeDiff, Nat.reduceAdd, Nat.reduceSub, Nat.reduceMul, Int.reduceLT, Int.reduceLE, Int.reduceNeg, Int.reduceAdd, Int.reduceSub, Int.reduceMul, Int.reduceEq, and_self, true_and, and_true, false_and, and_false, or_false, false_or, true_or, or_true, not_true_eq_false, not_false_eq_true, Bool.false_eq_true, Bool.true_eq_false, decide_true, decide_false, decide_eq_true_eq, Nat.le_refl, Nat.zero_le, ge_iff_le, gt_iff_lt, Nat.lt_irrefl, reduceCtorEq, if_posD, if_negD, w32_id, Int.toNat_natCast, WCo_in, mUp_self, mUp_ne, ne_eq, Bool.true_and, Bool.and_true, Bool.false_and, Bool.and_false, Bool.true_or, Bool.or_true, Bool.false_or, Bool.or_false, Nat.reduceEqDiff, Int.cast_ofNat_Int, Int.reduceToNat, List.getD_cons_succ, List.getD_cons_zero, eq_self, swL, if_true, if_false, qX12_part_12, MX12_isUsed, GG1, o0, es, e5, a3]
      subst hP
      exact ⟨rfl, f, rfl, hf⟩
    | succ m ih =>
      intro k hk
      have hfk := hf k (by omega)
      have hle := cnt_le (fun t => decide (partP (roG c fr to mi wo bt) t = t)) k
      have hc1 : cnt (fun t => decide (partP (roG c fr to mi wo bt) t = t)) (k + 1) = cnt (fun t => decide (partP (roG c fr to mi wo bt) t = t)) k + (if decide (partP (roG c fr to mi wo bt) k = k) = true then 1 else 0) := rfl
      have := ih (k + 1) (by omega)
      rw [hc1] at this
      generalize cnt (fun t => decide (partP (roG c fr to mi wo bt) t = t)) k = q at hle this ⊢
      rw [Int.natCast_add, Int.natCast_add] at this
      rw [qX12_part_9]
      by_cases hp : partP (roG c fr to mi wo bt) k = k
      · rw [if_pos (decide_eq_true hp)] at this
        rw [hp] at hfk
        simp (disch := omega) only [ms_sipush, ms_lconst, ms_ldc2_w, ms_dconst, ms_ldc, ms_getstatic, ms_iload, ms_lload, ms_dload, ms_aload, ms_istore, ms_lstore, ms_dstore, ms_astore, ms_iinc, ms_iadd, ms_isub, ms_imul, ms_idiv, ms_irem, ms_ineg, ms_iand, ms_ior, ms_ishr, ms_iushr, ms_i2b, ms_i2c, ms_i2l, ms_ladd, ms_lmul, ms_lcmp, ms_i2d, ms_ddiv, ms_dcmp, ms_dup, ms_pop, ms_dup2, ms_goto, ms_ifCond, ms_if_icmp, ms_if_acmp_eq, ms_if_acmp_ne, ms_tableswitch, ms_lookupswitch, ms_getfield, ms_putfield, ms_arraylength, ms_iaload, ms_baload, ms_laload, ms_aaload, ms_iastore, ms_bastore, ms_lastore, ms_aastore, ms_newarray, ms_new, ms_anewarray, ms_multianewarray, ms_invokevirtual, ms_invokestatic, ms_invokespecial, ms_invokedynamic_0, ms_invokedynamic_1, ms_invokedynamic_2, ms_invokedynamic_3, ms_invokedynamic_4, ms_invokedynamic_5, ms_ireturn, ms_lreturn, ms_dreturn, ms_areturn, ms_return_, Wp_cons, WSC_nx, WSC_cl, WSC_rt, WSC_th, WSC_if, lg, lset, lfree, wide, isRf, isRT, fitK, hgt, margs, mpad, rcv, rdF, rdN, rdI, rdQ, mC_eq, mC_ne, mC_lt, mC_ge, mC_gt, mC_le, mset, mnew, h_fst, h_snd, lt_drop0, List.drop_succ_cons, List.drop_zero, List.drop_nil, List.take_succ_cons, List.take_zero, List.reverse_cons, List.reverse_nil, List.nil_append, List.cons_append, List.append_nil, List.length_cons, List.length_nil, List.getElem?_cons_succ, List.getElem?_cons_zero, List.set_cons_succ, List.set_cons_zero, List.replicate, Option.toList, reduceIte, Bool.not_false, Bool.not_true, Nat.reduceLT, Nat.reduceLeDiff, Nat.reduceAdd, Nat.reduceSub, Nat.reduceMul, Int.reduceLT, Int.reduceLE, Int.reduceNeg, Int.reduceAdd, Int.reduceSub, Int.reduceMul, Int.reduceEq, and_self, true_and, and_true, false_and, and_false, or_false, false_or, true_or, or_true, not_true_eq_false, not_false_eq_true, Bool.false_eq_true, Bool.true_eq_false, decide_true, decide_false, decide_eq_true_eq, Nat.le_refl, Nat.zero_le, ge_iff_le, gt_iff_lt, Nat.lt_irrefl, reduceCtorEq, if_posD, if_negD, w32_id, Int.toNat_natCast, WCo_in, mUp_self, mUp_ne, ne_eq, Bool.true_and, Bool.and_true, Bool.false_and, Bool.and_false, Bool.true_or, Bool.or_true, Bool.false_or, Bool.or_false, Nat.reduceEqDiff, Int.cast_ofNat_Int, Int.reduceToNat, List.getD_cons_succ, List.getD_cons_zero, eq_self, swL, if_true, if_false, qX12_part_10, qX12_part_11, MX12_isUsed, GG1, o0, es, e5, a3, hfk]
        exact this
      · rw [if_neg (by rw [decide_eq_true_eq]; exact hp)] at this
        have hp2 : ¬ ((partP (roG c fr to mi wo bt) k : Nat) : Int) = (k : Int) := by omega
        rw [show ((0 : Nat) : Int) = 0 from rfl, Int.add_zero] at this
        simp (disch := omega) only [ms_sipush, ms_lconst, ms_ldc2_w, ms_dconst, ms_ldc, ms_getstatic, ms_iload, ms_lload, ms_dload, ms_aload, ms_istore, ms_lstore, ms_dstore, ms_astore, ms_iinc, ms_iadd, ms_isub, ms_imul, ms_idiv, ms_irem, ms_ineg, ms_iand, ms_ior, ms_ishr, ms_iushr, ms_i2b, ms_i2c, ms_i2l, ms_ladd, ms_lmul, ms_lcmp, ms_i2d, ms_ddiv, ms_dcmp, ms_dup, ms_pop, ms_dup2, ms_goto, ms_ifCond, ms_if_icmp, ms_if_acmp_eq, ms_if_acmp_ne, ms_tableswitch, ms_lookupswitch, ms_getfield, ms_putfield, ms_arraylength, ms_iaload, ms_baload, ms_laload, ms_aaload, ms_iastore, ms_bastore, ms_lastore, ms_aastore, ms_newarray, ms_new, ms_anewarray, ms_multianewarray, ms_invokevirtual, ms_invokestatic, ms_invokespecial, ms_invokedynamic_0, ms_invokedynamic_1, ms_invokedynamic_2, ms_invokedynamic_3, ms_invokedynamic_4, ms_invokedynamic_5, ms_ireturn, ms_lreturn, ms_dreturn, ms_areturn, ms_return_, Wp_cons, WSC_nx, WSC_cl, WSC_rt, WSC_th, WSC_if, lg, lset, lfree, wide, isRf, isRT, fitK, hgt, margs, mpad, rcv, rdF, rdN, rdI, rdQ, mC_eq, mC_ne, mC_lt, mC_ge, mC_gt, mC_le, mset, mnew, h_fst, h_snd, lt_drop0, List.drop_succ_cons, List.drop_zero, List.drop_nil, List.take_succ_cons, List.take_zero, List.reverse_cons, List.reverse_nil, List.nil_append, List.cons_append, List.append_nil, List.length_cons, List.length_nil, List.getElem?_cons_succ, List.getElem?_cons_zero, List.set_cons_succ, List.set_cons_zero, List.replicate, Option.toList, reduceIte, Bool.not_false, Bool.not_true, Nat.reduceLT, Nat.reduceLeDiff, Nat.reduceAdd, Nat.reduceSub, Nat.reduceMul, Int.reduceLT, Int.reduceLE, Int.reduceNeg, Int.reduceAdd, Int.reduceSub, Int.reduceMul, Int.reduceEq, and_self, true_and, and_true, false_and, and_false, or_false, false_or, true_or, or_true, not_true_eq_false, not_false_eq_true, Bool.false_eq_true, Bool.true_eq_false, decide_true, decide_false, decide_eq_true_eq, Nat.le_refl, Nat.zero_le, ge_iff_le, gt_iff_lt, Nat.lt_irrefl, reduceCtorEq, if_posD, if_negD, w32_id, Int.toNat_natCast, WCo_in, mUp_self, mUp_ne, ne_eq, Bool.true_and, Bool.and_true, Bool.false_and, Bool.and_false, Bool.true_or, Bool.or_true, Bool.false_or, Bool.or_false, Nat.reduceEqDiff, Int.cast_ofNat_Int, Int.reduceToNat, List.getD_cons_succ, List.getD_cons_zero, eq_self, swL, if_true, if_false, qX12_part_10, qX12_part_11, MX12_isUsed, GG1, o0, es, e5, a3, hfk, hp2, Int.add_zero]
        exact this
  have pass : ∀ (P : Nat → Nat), PI (roG c fr to mi wo bt) P → (∀ (f : Nat → Int) (l4 l5 : MV), wide l4 = false → wide l5 = false → PtE f (ptP (roG c fr to mi wo bt) P c) → Wp (GG L xs fm) 2 BX12_part (BX12_part 3) [qR 107, qR ob, qI (bI (ptF (roG c fr to mi wo bt) P c)), qI c, l4, l5] [] (mUp h.1 146 (cI .int 10 f), h.2) Post) → ∀ (m k : Nat) (f : Nat → Int) (l4 l5 : MV), k + m = c → wide l4 = false → wide l5 = false → PtE f (ptP (roG c fr to mi wo bt) P k) → Wp (GG L xs fm) 2 BX12_part (BX12_part 4) [qR 107, qR ob, qI (bI (ptF (roG c fr to mi wo bt) P k)), qI k, l4, l5] [] (mUp h.1 146 (cI .int 10 f), h.2) Post := by
    intro P hPI hend m
    induction m with
    | zero =>
      intro k f l4 l5 hk w4 w5 hE
      have hk : k = c := by omega
      subst hk
      have := hend f l4 l5 w4 w5 hE
      rw [qX12_part_4]
      simp (disch := omega) only [ms_sipush, ms_lconst, ms_ldc2_w, ms_dconst, ms_ldc, ms_getstatic, ms_iload, ms_lload, ms_dload, ms_aload, ms_istore, ms_lstore, ms_dstore, ms_astore, ms_iinc, ms_iadd, ms_isub, ms_imul, ms_idiv, ms_irem, ms_ineg, ms_iand, ms_ior, ms_ishr, ms_iushr, ms_i2b, ms_i2c, ms_i2l, ms_ladd, ms_lmul, ms_lcmp, ms_i2d, ms_ddiv, ms_dcmp, ms_dup, ms_pop, ms_dup2, ms_goto, ms_ifCond, ms_if_icmp, ms_if_acmp_eq, ms_if_acmp_ne, ms_tableswitch, ms_lookupswitch, ms_getfield, ms_putfield, ms_arraylength, ms_iaload, ms_baload, ms_laload, ms_aaload, ms_iastore, ms_bastore, ms_lastore, ms_aastore, ms_newarray, ms_new, ms_anewarray, ms_multianewarray, ms_invokevirtual, ms_invokestatic, ms_invokespecial, ms_invokedynamic_0, ms_invokedynamic_1, ms_invokedynamic_2, ms_invokedynamic_3, ms_invokedynamic_4, ms_invokedynamic_5, ms_ireturn, ms_lreturn, ms_dreturn, ms_areturn, ms_return_, Wp_cons, WSC_nx, WSC_cl, WSC_rt, WSC_th, WSC_if, lg, lset, lfree, wide, isRf, isRT, fitK, hgt, margs, mpad, rcv, rdF, rdN, rdI, rdQ, mC_eq, mC_ne, mC_lt, mC_ge, mC_gt, mC_le, mset, mnew, h_fst, h_snd, lt_drop0, List.drop_succ_cons, List.drop_zero, List.drop_nil, List.take_succ_cons, List.take_zero, List.reverse_cons, List.reverse_nil, List.nil_append, List.cons_append, List.append_nil, List.length_cons, List.length_nil, List.getElem?_cons_succ, List.getElem?_cons_zero, List.set_cons_succ, List.set_cons_zero, List.replicate, Option.toList, reduceIte, Bool.not_false, Bool.not_true, Nat.reduceLT, Nat.reduceLeDiff, Nat.reduceAdd, Nat.reduceSub, Nat.reduceMul, Int.reduceLT, Int.reduceLE, Int.reduceNeg, Int.reduceAdd, Int.reduceSub, Int.reduceMul, Int.reduceEq, and_self, true_and, and_true, false_and, and_false, or_false, false_or, true_or, or_true, not_true_eq_false, not_false_eq_true, Bool.false_eq_true, Bool.true_eq_false, decide_true, decide_false, decide_eq_true_eq, Nat.le_refl, Nat.zero_le, ge_iff_le, gt_iff_lt, Nat.lt_irrefl, reduceCtorEq, if_posD, if_negD, w32_id, Int.toNat_natCast, WCo_in, mUp_self, mUp_ne, ne_eq, Bool.true_and, Bool.and_true, Bool.false_and, Bool.and_false, Bool.true_or, Bool.or_true, Bool.false_or, Bool.or_false, Nat.reduceEqDiff, Int.cast_ofNat_Int, Int.reduceToNat, List.getD_cons_succ, List.getD_cons_zero, eq_self, swL, if_true, if_false, qX12_part_7, MX12_isUsed, GG1, o0, es, e5, a4, w4, w5]
      exact this
    | succ m ih =>
      intro k f l4 l5 hk w4 w5 hE
      have hkc : k < c := by omega
      obtain ⟨b1, b2, b3, b4⟩ := a5 k hkc
      obtain ⟨g1, g2, g3, g4, g5, g6, g7⟩ := hR.2.2 k hkc
      have hu := m_isUsed (L := L) (xs := xs) (fm := fm) (h := (mUp h.1 146 (cI .int 10 f), h.2)) hO.w1 (hM.cg (fun a h1 h2 => mUp_ne (by omega)) (fun a h1 h2 => mUp_ne (by omega))) hR hkc
      have hpp : ptP (roG c fr to mi wo bt) P (k + 1) = ptR (roG c fr to mi wo bt) (ptP (roG c fr to mi wo bt) P k) k := rfl
      have hff : ptF (roG c fr to mi wo bt) P (k + 1) = (ptF (roG c fr to mi wo bt) P k || (decide (gu (roG c fr to mi wo bt) k = true) && !decide (ptP (roG c fr to mi wo bt) P k (fr k) = ptP (roG c fr to mi wo bt) P k (to k)))) := rfl
      have hfa := hE (fr k) (by omega)
      have hfb := hE (to k) (by omega)
      have hpi := (ptP_PI hg hPI (k := k) (by show k ≤ c; omega))
      have hla := (hpi (fr k)).1
      have hlb := (hpi (to k)).1
      generalize ptF (roG c fr to mi wo bt) P k = fl at hff ⊢
      generalize ptP (roG c fr to mi wo bt) P k = R at hpp hff hfa hfb hE hla hlb
      have hrr : ptR (roG c fr to mi wo bt) R k = if gu (roG c fr to mi wo bt) k = true ∧ R (fr k) ≠ R (to k) then mUp (mUp R (fr k) (min (R (fr k)) (R (to k)))) (to k) (min (R (fr k)) (R (to k))) else R := rfl
      rw [qX12_part_4]
      by_cases hus : (k : Int) ≠ bt ∧ wo k < 3
      · rw [if_pos hus] at hu
        have gus : gu (roG c fr to mi wo bt) k = true := by
          show (decide (wo k < 3) && !decide ((k : Int) = bt)) = true
          simp [hus.1, hus.2]
        have cu : ∀ {d : Nat} {B : Nat → List MI} {ex : List Nat} {is : List MI} {ls st : List MV} {Q : (Option MV ⊕ Nat) → MH → Prop}, 1 < d → WCl (GG L xs fm) d B ex is ls 195 [qR 107, qR ob, qI k] st (mUp h.1 146 (cI .int 10 f), h.2) Q = Wp (GG L xs fm) d B is ls (qI 1 :: st) (mUp h.1 146 (cI .int 10 f), h.2) Q := fun hd => WCl_sp hu hd
        rw [decide_eq_true gus, Bool.true_and] at hff
        by_cases hab : R (fr k) = R (to k)
        · rw [if_neg (fun z => z.2 hab)] at hrr
          rw [decide_eq_true hab, Bool.not_true, Bool.or_false] at hff
          have := ih (k + 1) f (qI (fr k : Nat)) (qI (to k : Nat)) (by omega) rfl rfl (by rw [hpp, hrr]; exact hE)
          rw [Int.natCast_add, hff] at this
          rw [hab] at hfa
          simp (disch := omega) only [ms_sipush, ms_lconst, ms_ldc2_w, ms_dconst, ms_ldc, ms_getstatic, ms_iload, ms_lload, ms_dload, ms_aload, ms_istore, ms_lstore, ms_dstore, ms_astore, ms_iinc, ms_iadd, ms_isub, ms_imul, ms_idiv, ms_irem, ms_ineg, ms_iand, ms_ior, ms_ishr, ms_iushr, ms_i2b, ms_i2c, ms_i2l, ms_ladd, ms_lmul, ms_lcmp, ms_i2d, ms_ddiv, ms_dcmp, ms_dup, ms_pop, ms_dup2, ms_goto, ms_ifCond, ms_if_icmp, ms_if_acmp_eq, ms_if_acmp_ne, ms_tableswitch, ms_lookupswitch, ms_getfield, ms_putfield, ms_arraylength, ms_iaload, ms_baload, ms_laload, ms_aaload, ms_iastore, ms_bastore, ms_lastore, ms_aastore, ms_newarray, ms_new, ms_anewarray, ms_multianewarray, ms_invokevirtual, ms_invokestatic, ms_invokespecial, ms_invokedynamic_0, ms_invokedynamic_1, ms_invokedynamic_2, ms_invokedynamic_3, ms_invokedynamic_4, ms_invokedynamic_5, ms_ireturn, ms_lreturn, ms_dreturn, ms_areturn, ms_return_, Wp_cons, WSC_nx, WSC_cl, WSC_rt, WSC_th, WSC_if, lg, lset, lfree, wide, isRf, isRT, fitK, hgt, margs, mpad, rcv, rdF, rdN, rdI, rdQ, mC_eq, mC_ne, mC_lt, mC_ge, mC_gt, mC_le, mset, mnew, h_fst, h_snd, lt_drop0, List.drop_succ_cons, List.drop_zero, List.drop_nil, List.take_succ_cons, List.take_zero, List.reverse_cons, List.reverse_nil, List.nil_append, List.cons_append, List.append_nil, List.length_cons, List.length_nil, List.getElem?_cons_succ, List.getElem?_cons_zero, List.set_cons_succ, List.set_cons_zero, List.replicate, Option.toList, reduceIte, Bool.not_false, Bool.not_true, Nat.reduceLT, Nat.reduceLeDiff, Nat.reduceAdd, Nat.reduceSub, Nat.reduceMul, Int.reduceLT, Int.reduceLE, Int.reduceNeg, Int.reduceAdd, Int.reduceSub, Int.reduceMul, Int.reduceEq, and_self, true_and, and_true, false_and, and_false, or_false, false_or, true_or, or_true, not_true_eq_false, not_false_eq_true, Bool.false_eq_true, Bool.true_eq_false, decide_true, decide_false, decide_eq_true_eq, Nat.le_refl, Nat.zero_le, ge_iff_le, gt_iff_lt, Nat.lt_irrefl, reduceCtorEq, if_posD, if_negD, w32_id, Int.toNat_natCast, WCo_in, mUp_self, mUp_ne, ne_eq, Bool.true_and, Bool.and_true, Bool.false_and, Bool.and_false, Bool.true_or, Bool.or_true, Bool.false_or, Bool.or_false, Nat.reduceEqDiff, Int.cast_ofNat_Int, Int.reduceToNat, List.getD_cons_succ, List.getD_cons_zero, eq_self, swL, if_true, if_false, qX12_part_6, MX12_isUsed, GG1, o0, es, e5, e7, e8, a4, b1, b2, cu, w4, w5, hfa, hfb]
          exact this
        · rw [if_pos ⟨gus, hab⟩] at hrr
          rw [decide_eq_false hab, Bool.not_false, Bool.or_true] at hff
          have hab2 : ¬ ((R (fr k) : Nat) : Int) = ((R (to k) : Nat) : Int) := by omega
          have hmin : min ((R (fr k) : Nat) : Int) ((R (to k) : Nat) : Int) = ((min (R (fr k)) (R (to k)) : Nat) : Int) := by omega
          have := ih (k + 1) (mUp (mUp f (fr k) ((min (R (fr k)) (R (to k)) : Nat) : Int)) (to k) ((min (R (fr k)) (R (to k)) : Nat) : Int)) (qI (fr k : Nat)) (qI (to k : Nat)) (by omega) rfl rfl (by
            rw [hpp, hrr]
            intro i hi
            by_cases h1 : i = to k
            · rw [h1, mUp_self, mUp_self]
            · rw [mUp_ne h1, mUp_ne h1]
              by_cases h2 : i = fr k
              · rw [h2, mUp_self, mUp_self]
              · rw [mUp_ne h2, mUp_ne h2]
                exact hE i hi)
          rw [Int.natCast_add, hff] at this
          have hb1 : bI true = 1 := rfl
          rw [hb1] at this
          simp (disch := omega) only [ms_sipush, ms_lconst, ms_ldc2_w, ms_dconst, ms_ldc, ms_getstatic, ms_iload, ms_lload, ms_dload, ms_aload, ms_istore, ms_lstore, ms_dstore, ms_astore, ms_iinc, ms_iadd, ms_isub, ms_imul, ms_idiv, ms_irem, ms_ineg, ms_iand, ms_ior, ms_ishr, ms_iushr, ms_i2b, ms_i2c, ms_i2l, ms_ladd, ms_lmul, ms_lcmp, ms_i2d, ms_ddiv, ms_dcmp, ms_dup, ms_pop, ms_dup2, ms_goto, ms_ifCond, ms_if_icmp, ms_if_acmp_eq, ms_if_acmp_ne, ms_tableswitch, ms_lookupswitch, ms_getfield, ms_putfield, ms_arraylength, ms_iaload, ms_baload, ms_laload, ms_aaload, ms_iastore, ms_bastore, ms_lastore, ms_aastore, ms_newarray, ms_new, ms_anewarray, ms_multianewarray, ms_invokevirtual, ms_invokestatic, ms_invokespecial, ms_invokedynamic_0, ms_invokedynamic_1, ms_invokedynamic_2, ms_invokedynamic_3, ms_invokedynamic_4, ms_invokedynamic_5, ms_ireturn, ms_lreturn, ms_dreturn, ms_areturn, ms_return_, Wp_cons, WSC_nx, WSC_cl, WSC_rt, WSC_th, WSC_if, lg, lset, lfree, wide, isRf, isRT, fitK, hgt, margs, mpad, rcv, rdF, rdN, rdI, rdQ, mC_eq, mC_ne, mC_lt, mC_ge, mC_gt, mC_le, mset, mnew, h_fst, h_snd, lt_drop0, List.drop_succ_cons, List.drop_zero, List.drop_nil, List.take_succ_cons, List.take_zero, List.reverse_cons, List.reverse_nil, List.nil_append, List.cons_append, List.append_nil, List.length_cons, List.length_nil, List.getElem?_cons_succ, List.getElem?_cons_zero, List.set_cons_succ, List.set_cons_zero, List.replicate, Option.toList, reduceIte, Bool.not_false, Bool.not_true, Nat.reduceLT, Nat.reduceLeDiff, Nat.reduceAdd, Nat.reduceSub, Nat.reduceMul, Int.reduceLT, Int.reduceLE, Int.reduceNeg, Int.reduceAdd, Int.reduceSub, Int.reduceMul, Int.reduceEq, and_self, true_and, and_true, false_and, and_false, or_false, false_or, true_or, or_true, not_true_eq_false, not_false_eq_true, Bool.false_eq_true, Bool.true_eq_false, decide_true, decide_false, decide_eq_true_eq, Nat.le_refl, Nat.zero_le, ge_iff_le, gt_iff_lt, Nat.lt_irrefl, reduceCtorEq, if_posD, if_negD, w32_id, Int.toNat_natCast, WCo_in, mUp_self, mUp_ne, ne_eq, Bool.true_and, Bool.and_true, Bool.false_and, Bool.and_false, Bool.true_or, Bool.or_true, Bool.false_or, Bool.or_false, Nat.reduceEqDiff, Int.cast_ofNat_Int, Int.reduceToNat, List.getD_cons_succ, List.getD_cons_zero, eq_self, swL, if_true, if_false, qX12_part_5, qX12_part_6, MX12_isUsed, GG1, o0, es, e5, e7, e8, a4, b1, b2, cu, w4, w5, hfa, hfb, hab2, hmin, mUp_mUp]
          exact this
      · rw [if_neg hus] at hu
        have gus : ¬ gu (roG c fr to mi wo bt) k = true := by
          show ¬ (decide (wo k < 3) && !decide ((k : Int) = bt)) = true
          intro hc
          rw [Bool.and_eq_true, decide_eq_true_eq] at hc
          refine hus ⟨fun z => ?_, hc.1⟩
          have := hc.2
          rw [decide_eq_true z] at this
          cases this
        have cu : ∀ {d : Nat} {B : Nat → List MI} {ex : List Nat} {is : List MI} {ls st : List MV} {Q : (Option MV ⊕ Nat) → MH → Prop}, 1 < d → WCl (GG L xs fm) d B ex is ls 195 [qR 107, qR ob, qI k] st (mUp h.1 146 (cI .int 10 f), h.2) Q = Wp (GG L xs fm) d B is ls (qI 0 :: st) (mUp h.1 146 (cI .int 10 f), h.2) Q := fun hd => WCl_sp hu hd
        rw [if_neg (fun z => gus z.1)] at hrr
        rw [decide_eq_false gus, Bool.false_and, Bool.or_false] at hff
        have := ih (k + 1) f (qI (fr k : Nat)) (qI (to k : Nat)) (by omega) rfl rfl (by rw [hpp, hrr]; exact hE)
        rw [Int.natCast_add, hff] at this
        simp (disch := omega) only [ms_sipush, ms_lconst, ms_ldc2_w, ms_dconst, ms_ldc, ms_getstatic, ms_iload, ms_lload, ms_dload, ms_aload, ms_istore, ms_lstore, ms_dstore, ms_astore, ms_iinc, ms_iadd, ms_isub, ms_imul, ms_idiv, ms_irem, ms_ineg, ms_iand, ms_ior, ms_ishr, ms_iushr, ms_i2b, ms_i2c, ms_i2l, ms_ladd, ms_lmul, ms_lcmp, ms_i2d, ms_ddiv, ms_dcmp, ms_dup, ms_pop, ms_dup2, ms_goto, ms_ifCond, ms_if_icmp, ms_if_acmp_eq, ms_if_acmp_ne, ms_tableswitch, ms_lookupswitch, ms_getfield, ms_putfield, ms_arraylength, ms_iaload, ms_baload, ms_laload, ms_aaload, ms_iastore, ms_bastore, ms_lastore, ms_aastore, ms_newarray, ms_new, ms_anewarray, ms_multianewarray, ms_invokevirtual, ms_invokestatic, ms_invokespecial, ms_invokedynamic_0, ms_invokedynamic_1, ms_invokedynamic_2, ms_invokedynamic_3, ms_invokedynamic_4, ms_invokedynamic_5, ms_ireturn, ms_lreturn, ms_dreturn, ms_areturn, ms_return_, Wp_cons, WSC_nx, WSC_cl, WSC_rt, WSC_th, WSC_if, lg, lset, lfree, wide, isRf, isRT, fitK, hgt, margs, mpad, rcv, rdF, rdN, rdI, rdQ, mC_eq, mC_ne, mC_lt, mC_ge, mC_gt, mC_le, mset, mnew, h_fst, h_snd, lt_drop0, List.drop_succ_cons, List.drop_zero, List.drop_nil, List.take_succ_cons, List.take_zero, List.reverse_cons, List.reverse_nil, List.nil_append, List.cons_append, List.append_nil, List.length_cons, List.length_nil, List.getElem?_cons_succ, List.getElem?_cons_zero, List.set_cons_succ, List.set_cons_zero, List.replicate, Option.toList, reduceIte, Bool.not_false, Bool.not_true, Nat.reduceLT, Nat.reduceLeDiff, Nat.reduceAdd, Nat.reduceSub, Nat.reduceMul, Int.reduceLT, Int.reduceLE, Int.reduceNeg, Int.reduceAdd, Int.reduceSub, Int.reduceMul, Int.reduceEq, and_self, true_and, and_true, false_and, and_false, or_false, false_or, true_or, or_true, not_true_eq_false, not_false_eq_true, Bool.false_eq_true, Bool.true_eq_false, decide_true, decide_false, decide_eq_true_eq, Nat.le_refl, Nat.zero_le, ge_iff_le, gt_iff_lt, Nat.lt_irrefl, reduceCtorEq, if_posD, if_negD, w32_id, Int.toNat_natCast, WCo_in, mUp_self, mUp_ne, ne_eq, Bool.true_and, Bool.and_true, Bool.false_and, Bool.and_false, Bool.true_or, Bool.or_true, Bool.false_or, Bool.or_false, Nat.reduceEqDiff, Int.cast_ofNat_Int, Int.reduceToNat, List.getD_cons_succ, List.getD_cons_zero, eq_self, swL, if_true, if_false, qX12_part_6, MX12_isUsed, GG1, o0, es, e5, e7, e8, a4, b1, b2, cu, w4, w5]
        exact this
  have outer : ∀ (m : Nat) (P : Nat → Nat) (f : Nat → Int) (l3 l4 l5 : MV), wide l3 = false → wide l4 = false → wide l5 = false → PI (roG c fr to mi wo bt) P → sP P ≤ (m : Int) → PtE f P → Wp (GG L xs fm) 2 BX12_part (BX12_part 3) [qR 107, qR ob, qI 1, l3, l4, l5] [] (mUp h.1 146 (cI .int 10 f), h.2) Post := by
    intro m
    have step : ∀ (P : Nat → Nat) (f : Nat → Int) (l3 l4 l5 : MV), wide l3 = false → wide l4 = false → wide l5 = false → PI (roG c fr to mi wo bt) P → PtE f P → (ptF (roG c fr to mi wo bt) P c = true → ∀ (f : Nat → Int) (l3 l4 l5 : MV), wide l3 = false → wide l4 = false → wide l5 = false → PtE f (ptP (roG c fr to mi wo bt) P c) → Wp (GG L xs fm) 2 BX12_part (BX12_part 3) [qR 107, qR ob, qI 1, l3, l4, l5] [] (mUp h.1 146 (cI .int 10 f), h.2) Post) → Wp (GG L xs fm) 2 BX12_part (BX12_part 3) [qR 107, qR ob, qI 1, l3, l4, l5] [] (mUp h.1 146 (cI .int 10 f), h.2) Post := by
      intro P f l3 l4 l5 w3 w4 w5 hPI hE hmore
      have := pass P hPI (fun f l4 l5 w4 w5 hE => by
        by_cases hF : ptF (roG c fr to mi wo bt) P c = true
        · rw [hF]
          exact hmore hF f (qI c) l4 l5 rfl w4 w5 hE
        · have hF : ptF (roG c fr to mi wo bt) P c = false := by simpa using hF
          obtain ⟨s1, s2⟩ := ptF_f hF
          rw [s1] at hE
          have := cl f l5 (fun t ht => by
            rw [hE t (by omega), part_eq hg hPI s2 ht]) n 0 (by omega)
          rw [hF, qX12_part_3]
          simp (disch := omega) only [ms_sipush, ms_lconst, ms_ldc2_w, ms_dconst, ms_ldc, ms_getstatic, ms_iload, ms_lload, ms_dload, ms_aload, ms_istore, ms_lstore, ms_dstore, ms_astore, ms_iinc, ms_iadd, ms_isub, ms_imul, ms_idiv, ms_irem, ms_ineg, ms_iand, ms_ior, ms_ishr, ms_iushr, ms_i2b, ms_i2c, ms_i2l, ms_ladd, ms_lmul, ms_lcmp, ms_i2d, ms_ddiv, ms_dcmp, ms_dup, ms_pop, ms_dup2, ms_goto, ms_ifCond, ms_if_icmp, ms_if_acmp_eq, ms_if_acmp_ne, ms_tableswitch, ms_lookupswitch, ms_getfield, ms_putfield, ms_arraylength, ms_iaload, ms_baload, ms_laload, ms_aaload, ms_iastore, ms_bastore, ms_lastore, ms_aastore, ms_newarray, ms_new, ms_anewarray, ms_multianewarray, ms_invokevirtual, ms_invokestatic, ms_invokespecial, ms_invokedynamic_0, ms_invokedynamic_1, ms_invokedynamic_2, ms_invokedynamic_3, ms_invokedynamic_4, ms_invokedynamic_5, ms_ireturn, ms_lreturn, ms_dreturn, ms_areturn, ms_return_, Wp_cons, WSC_nx, WSC_cl, WSC_rt, WSC_th, WSC_if, lg, lset, lfree, wide, isRf, isRT, fitK, hgt, margs, mpad, rcv, rdF, rdN, rdI, rdQ, mC_eq, mC_ne, mC_lt, mC_ge, mC_gt, mC_le, mset, mnew, h_fst, h_snd, lt_drop0, List.drop_succ_cons, List.drop_zero, List.drop_nil, List.take_succ_cons, List.take_zero, List.reverse_cons, List.reverse_nil, List.nil_append, List.cons_append, List.append_nil, List.length_cons, List.length_nil, List.getElem?_cons_succ, List.getElem?_cons_zero, List.set_cons_succ, List.set_cons_zero, List.replicate, Option.toList, reduceIte, Bool.not_false, Bool.not_true, Nat.reduceLT, Nat.reduceLeDiff, Nat.reduceAdd, Nat.reduceSub, Nat.reduceMul, Int.reduceLT, Int.reduceLE, Int.reduceNeg, Int.reduceAdd, Int.reduceSub, Int.reduceMul, Int.reduceEq, and_self, true_and, and_true, false_and, and_false, or_false, false_or, true_or, or_true, not_true_eq_false, not_false_eq_true, Bool.false_eq_true, Bool.true_eq_false, decide_true, decide_false, decide_eq_true_eq, Nat.le_refl, Nat.zero_le, ge_iff_le, gt_iff_lt, Nat.lt_irrefl, reduceCtorEq, if_posD, if_negD, w32_id, Int.toNat_natCast, WCo_in, mUp_self, mUp_ne, ne_eq, Bool.true_and, Bool.and_true, Bool.false_and, Bool.and_false, Bool.true_or, Bool.or_true, Bool.false_or, Bool.or_false, Nat.reduceEqDiff, Int.cast_ofNat_Int, Int.reduceToNat, List.getD_cons_succ, List.getD_cons_zero, eq_self, swL, if_true, if_false, qX12_part_8, MX12_isUsed, GG1, bI, w4, w5]
          exact this) c 0 f l4 l5 (by omega) w4 w5 hE
      rw [qX12_part_3]
      simp (disch := omega) only [ms_sipush, ms_lconst, ms_ldc2_w, ms_dconst, ms_ldc, ms_getstatic, ms_iload, ms_lload, ms_dload, ms_aload, ms_istore, ms_lstore, ms_dstore, ms_astore, ms_iinc, ms_iadd, ms_isub, ms_imul, ms_idiv, ms_irem, ms_ineg, ms_iand, ms_ior, ms_ishr, ms_iushr, ms_i2b, ms_i2c, ms_i2l, ms_ladd, ms_lmul, ms_lcmp, ms_i2d, ms_ddiv, ms_dcmp, ms_dup, ms_pop, ms_dup2, ms_goto, ms_ifCond, ms_if_icmp, ms_if_acmp_eq, ms_if_acmp_ne, ms_tableswitch, ms_lookupswitch, ms_getfield, ms_putfield, ms_arraylength, ms_iaload, ms_baload, ms_laload, ms_aaload, ms_iastore, ms_bastore, ms_lastore, ms_aastore, ms_newarray, ms_new, ms_anewarray, ms_multianewarray, ms_invokevirtual, ms_invokestatic, ms_invokespecial, ms_invokedynamic_0, ms_invokedynamic_1, ms_invokedynamic_2, ms_invokedynamic_3, ms_invokedynamic_4, ms_invokedynamic_5, ms_ireturn, ms_lreturn, ms_dreturn, ms_areturn, ms_return_, Wp_cons, WSC_nx, WSC_cl, WSC_rt, WSC_th, WSC_if, lg, lset, lfree, wide, isRf, isRT, fitK, hgt, margs, mpad, rcv, rdF, rdN, rdI, rdQ, mC_eq, mC_ne, mC_lt, mC_ge, mC_gt, mC_le, mset, mnew, h_fst, h_snd, lt_drop0, List.drop_succ_cons, List.drop_zero, List.drop_nil, List.take_succ_cons, List.take_zero, List.reverse_cons, List.reverse_nil, List.nil_append, List.cons_append, List.append_nil, List.length_cons, List.length_nil, List.getElem?_cons_succ, List.getElem?_cons_zero, List.set_cons_succ, List.set_cons_zero, List.replicate, Option.toList, reduceIte, Bool.not_false, Bool.not_true, Nat.reduceLT, Nat.reduceLeDiff, Nat.reduceAdd, Nat.reduceSub, Nat.reduceMul, Int.reduceLT, Int.reduceLE, Int.reduceNeg, Int.reduceAdd, Int.reduceSub, Int.reduceMul, Int.reduceEq, and_self, true_and, and_true, false_and, and_false, or_false, false_or, true_or, or_true, not_true_eq_false, not_false_eq_true, Bool.false_eq_true, Bool.true_eq_false, decide_true, decide_false, decide_eq_true_eq, Nat.le_refl, Nat.zero_le, ge_iff_le, gt_iff_lt, Nat.lt_irrefl, reduceCtorEq, if_posD, if_negD, w32_id, Int.toNat_natCast, WCo_in, mUp_self, mUp_ne, ne_eq, Bool.true_and, Bool.and_true, Bool.false_and, Bool.and_false, Bool.true_or, Bool.or_true, Bool.false_or, Bool.or_false, Nat.reduceEqDiff, Int.cast_ofNat_Int, Int.reduceToNat, List.getD_cons_succ, List.getD_cons_zero, eq_self, swL, if_true, if_false, qX12_part_8, MX12_isUsed, GG1, w3, w4, w5]
      exact this
    induction m with
    | zero =>
      intro P f l3 l4 l5 w3 w4 w5 hPI hm hE
      refine step P f l3 l4 l5 w3 w4 w5 hPI hE (fun hF => ?_)
      have h1 := (ptP_sP hg hn (P := P) (k := c) (Nat.le_refl _)).2 hF
      have h2 : 0 ≤ sP (ptP (roG c fr to mi wo bt) P c) := by
        have := (sumI_bd (f := fun t => (ptP (roG c fr to mi wo bt) P c t : Int)) (a := 0) (b := 1000000) (k := 10) (fun i hi => by
          have := ((ptP_PI hg hPI (k := c) (Nat.le_refl _)) i).1
          omega)).1
        unfold sP
        omega
      omega
    | succ m ih =>
      intro P f l3 l4 l5 w3 w4 w5 hPI hm hE
      refine step P f l3 l4 l5 w3 w4 w5 hPI hE (fun hF f l3 l4 l5 w3 w4 w5 hE => ?_)
      have h1 := (ptP_sP hg hn (P := P) (k := c) (Nat.le_refl _)).2 hF
      exact ih (ptP (roG c fr to mi wo bt) P c) f l3 l4 l5 w3 w4 w5 (ptP_PI hg hPI (Nat.le_refl _)) (by omega) hE
  have l1 : ∀ (m j : Nat) (f : Nat → Int), j + m = 10 → (∀ i, i < j → f i = (i : Int)) → Wp (GG L xs fm) 2 BX12_part (BX12_part 1) [qR 107, qR ob, qI j, qU, qU, qU] [] (mUp h.1 146 (cI .int 10 f), h.2) Post := by
    intro m
    induction m with
    | zero =>
      intro j f hj hf
      have hj : j = 10 := by omega
      subst hj
      have := outer 100 (fun t => t) f qU qU qU rfl rfl rfl (fun t => ⟨Nat.le_refl _, 0, Wk.z⟩) (by decide) (fun i hi => hf i hi)
      rw [qX12_part_1]
      simp (disch := omega) only [ms_sipush, ms_lconst, ms_ldc2_w, ms_dconst, ms_ldc, ms_getstatic, ms_iload, ms_lload, ms_dload, ms_aload, ms_istore, ms_lstore, ms_dstore, ms_astore, ms_iinc, ms_iadd, ms_isub, ms_imul, ms_idiv, ms_irem, ms_ineg, ms_iand, ms_ior, ms_ishr, ms_iushr, ms_i2b, ms_i2c, ms_i2l, ms_ladd, ms_lmul, ms_lcmp, ms_i2d, ms_ddiv, ms_dcmp, ms_dup, ms_pop, ms_dup2, ms_goto, ms_ifCond, ms_if_icmp, ms_if_acmp_eq, ms_if_acmp_ne, ms_tableswitch, ms_lookupswitch, ms_getfield, ms_putfield, ms_arraylength, ms_iaload, ms_baload, ms_laload, ms_aaload, ms_iastore, ms_bastore, ms_lastore, ms_aastore, ms_newarray, ms_new, ms_anewarray, ms_multianewarray, ms_invokevirtual, ms_invokestatic, ms_invokespecial, ms_invokedynamic_0, ms_invokedynamic_1, ms_invokedynamic_2, ms_invokedynamic_3, ms_invokedynamic_4, ms_invokedynamic_5, ms_ireturn, ms_lreturn, ms_dreturn, ms_areturn, ms_return_, Wp_cons, WSC_nx, WSC_cl, WSC_rt, WSC_th, WSC_if, lg, lset, lfree, wide, isRf, isRT, fitK, hgt, margs, mpad, rcv, rdF, rdN, rdI, rdQ, mC_eq, mC_ne, mC_lt, mC_ge, mC_gt, mC_le, mset, mnew, h_fst, h_snd, lt_drop0, List.drop_succ_cons, List.drop_zero, List.drop_nil, List.take_succ_cons, List.take_zero, List.reverse_cons, List.reverse_nil, List.nil_append, List.cons_append, List.append_nil, List.length_cons, List.length_nil, List.getElem?_cons_succ, List.getElem?_cons_zero, List.set_cons_succ, List.set_cons_zero, List.replicate, Option.toList, reduceIte, Bool.not_false, Bool.not_true, Nat.reduceLT, Nat.reduceLeDiff, Nat.reduceAdd, Nat.reduceSub, Nat.reduceMul, Int.reduceLT, Int.reduceLE, Int.reduceNeg, Int.reduceAdd, Int.reduceSub, Int.reduceMul, Int.reduceEq, and_self, true_and, and_true, false_and, and_false, or_false, false_or, true_or, or_true, not_true_eq_false, not_false_eq_true, Bool.false_eq_true, Bool.true_eq_false, decide_true, decide_false, decide_eq_true_eq, Nat.le_refl, Nat.zero_le, ge_iff_le, gt_iff_lt, Nat.lt_irrefl, reduceCtorEq, if_posD, if_negD, w32_id, Int.toNat_natCast, WCo_in, mUp_self, mUp_ne, ne_eq, Bool.true_and, Bool.and_true, Bool.false_and, Bool.and_false, Bool.true_or, Bool.or_true, Bool.false_or, Bool.or_false, Nat.reduceEqDiff, Int.cast_ofNat_Int, Int.reduceToNat, List.getD_cons_succ, List.getD_cons_zero, eq_self, swL, if_true, if_false, qX12_part_2, MX12_isUsed, GG1]
      exact this
    | succ m ih =>
      intro j f hj hf
      have := ih (j + 1) (mUp f j (j : Int)) (by omega) (fun i hi => by
        by_cases hij : i = j
        · rw [hij, mUp_self]
        · rw [mUp_ne hij]
          exact hf i (by omega))
      rw [Int.natCast_add] at this
      rw [qX12_part_1]
      simp (disch := omega) only [ms_sipush, ms_lconst, ms_ldc2_w, ms_dconst, ms_ldc, ms_getstatic, ms_iload, ms_lload, ms_dload, ms_aload, ms_istore, ms_lstore, ms_dstore, ms_astore, ms_iinc, ms_iadd, ms_isub, ms_imul, ms_idiv, ms_irem, ms_ineg, ms_iand, ms_ior, ms_ishr, ms_iushr, ms_i2b, ms_i2c, ms_i2l, ms_ladd, ms_lmul, ms_lcmp, ms_i2d, ms_ddiv, ms_dcmp, ms_dup, ms_pop, ms_dup2, ms_goto, ms_ifCond, ms_if_icmp, ms_if_acmp_eq, ms_if_acmp_ne, ms_tableswitch, ms_lookupswitch, ms_getfield, ms_putfield, ms_arraylength, ms_iaload, ms_baload, ms_laload, ms_aaload, ms_iastore, ms_bastore, ms_lastore, ms_aastore, ms_newarray, ms_new, ms_anewarray, ms_multianewarray, ms_invokevirtual, ms_invokestatic, ms_invokespecial, ms_invokedynamic_0, ms_invokedynamic_1, ms_invokedynamic_2, ms_invokedynamic_3, ms_invokedynamic_4, ms_invokedynamic_5, ms_ireturn, ms_lreturn, ms_dreturn, ms_areturn, ms_return_, Wp_cons, WSC_nx, WSC_cl, WSC_rt, WSC_th, WSC_if, lg, lset, lfree, wide, isRf, isRT, fitK, hgt, margs, mpad, rcv, rdF, rdN, rdI, rdQ, mC_eq, mC_ne, mC_lt, mC_ge, mC_gt, mC_le, mset, mnew, h_fst, h_snd, lt_drop0, List.drop_succ_cons, List.drop_zero, List.drop_nil, List.take_succ_cons, List.take_zero, List.reverse_cons, List.reverse_nil, List.nil_append, List.cons_append, List.append_nil, List.length_cons, List.length_nil, List.getElem?_cons_succ, List.getElem?_cons_zero, List.set_cons_succ, List.set_cons_zero, List.replicate, Option.toList, reduceIte, Bool.not_false, Bool.not_true, Nat.reduceLT, Nat.reduceLeDiff, Nat.reduceAdd, Nat.reduceSub, Nat.reduceMul, Int.reduceLT, Int.reduceLE, Int.reduceNeg, Int.reduceAdd, Int.reduceSub, Int.reduceMul, Int.reduceEq, and_self, true_and, and_true, false_and, and_false, or_false, false_or, true_or, or_true, not_true_eq_false, not_false_eq_true, Bool.false_eq_true, Bool.true_eq_false, decide_true, decide_false, decide_eq_true_eq, Nat.le_refl, Nat.zero_le, ge_iff_le, gt_iff_lt, Nat.lt_irrefl, reduceCtorEq, if_posD, if_negD, w32_id, Int.toNat_natCast, WCo_in, mUp_self, mUp_ne, ne_eq, Bool.true_and, Bool.and_true, Bool.false_and, Bool.and_false, Bool.true_or, Bool.or_true, Bool.false_or, Bool.or_false, Nat.reduceEqDiff, Int.cast_ofNat_Int, Int.reduceToNat, List.getD_cons_succ, List.getD_cons_zero, eq_self, swL, if_true, if_false, qX12_part_2, MX12_isUsed, GG1, o0, mUp_mUp]
      exact this
  have := l1 10 0 (W 1) (by omega) (fun i hi => absurd hi (Nat.not_lt_zero _))
  have e146 : h.1 146 = cI .int 10 (W 1) := hO.2.2.1 1 (by decide)
  rw [← e146, mUp_same] at this
  refine Sp_of MX12_part ?_
  simp (disch := omega) only [ms_sipush, ms_lconst, ms_ldc2_w, ms_dconst, ms_ldc, ms_getstatic, ms_iload, ms_lload, ms_dload, ms_aload, ms_istore, ms_lstore, ms_dstore, ms_astore, ms_iinc, ms_iadd, ms_isub, ms_imul, ms_idiv, ms_irem, ms_ineg, ms_iand, ms_ior, ms_ishr, ms_iushr, ms_i2b, ms_i2c, ms_i2l, ms_ladd, ms_lmul, ms_lcmp, ms_i2d, ms_ddiv, ms_dcmp, ms_dup, ms_pop, ms_dup2, ms_goto, ms_ifCond, ms_if_icmp, ms_if_acmp_eq, ms_if_acmp_ne, ms_tableswitch, ms_lookupswitch, ms_getfield, ms_putfield, ms_arraylength, ms_iaload, ms_baload, ms_laload, ms_aaload, ms_iastore, ms_bastore, ms_lastore, ms_aastore, ms_newarray, ms_new, ms_anewarray, ms_multianewarray, ms_invokevirtual, ms_invokestatic, ms_invokespecial, ms_invokedynamic_0, ms_invokedynamic_1, ms_invokedynamic_2, ms_invokedynamic_3, ms_invokedynamic_4, ms_invokedynamic_5, ms_ireturn, ms_lreturn, ms_dreturn, ms_areturn, ms_return_, Wp_cons, WSC_nx, WSC_cl, WSC_rt, WSC_th, WSC_if, lg, lset, lfree, wide, isRf, isRT, fitK, hgt, margs, mpad, rcv, rdF, rdN, rdI, rdQ, mC_eq, mC_ne, mC_lt, mC_ge, mC_gt, mC_le, mset, mnew, h_fst, h_snd, lt_drop0, List.drop_succ_cons, List.drop_zero, List.drop_nil, List.take_succ_cons, List.take_zero, List.reverse_cons, List.reverse_nil, List.nil_append, List.cons_append, List.append_nil, List.length_cons, List.length_nil, List.getElem?_cons_succ, List.getElem?_cons_zero, List.set_cons_succ, List.set_cons_zero, List.replicate, Option.toList, reduceIte, Bool.not_false, Bool.not_true, Nat.reduceLT, Nat.reduceLeDiff, Nat.reduceAdd, Nat.reduceSub, Nat.reduceMul, Int.reduceLT, Int.reduceLE, Int.reduceNeg, Int.reduceAdd, Int.reduceSub, Int.reduceMul, Int.reduceEq, and_self, true_and, and_true, false_and, and_false, or_false, false_or, true_or, or_true, not_true_eq_false, not_false_eq_true, Bool.false_eq_true, Bool.true_eq_false, decide_true, decide_false, decide_eq_true_eq, Nat.le_refl, Nat.zero_le, ge_iff_le, gt_iff_lt, Nat.lt_irrefl, reduceCtorEq, if_posD, if_negD, w32_id, Int.toNat_natCast, WCo_in, mUp_self, mUp_ne, ne_eq, Bool.true_and, Bool.and_true, Bool.false_and, Bool.and_false, Bool.true_or, Bool.or_true, Bool.false_or, Bool.or_false, Nat.reduceEqDiff, Int.cast_ofNat_Int, Int.reduceToNat, List.getD_cons_succ, List.getD_cons_zero, eq_self, swL, if_true, if_false, qX12_part_0, MX12_isUsed, GG1]
  exact this
end PARTM
