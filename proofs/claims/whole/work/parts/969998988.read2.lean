/-- lengths of the tokens -/
def lnK (tp : Nat → Int) (len : Nat) (t : Nat) : Nat := lnM tp len (tkP tp len t)
def nvK (tp : Nat → Int) (len : Nat) (k : Nat) : Int := nmF tp (lnK tp len k) (tkP tp len k) 0
/-- the rows of a sheet whose tokens are cut -/
def FtP (tp : Nat → Int) (len tc : Nat) (F : Nat → Nat → Int) : Prop := CtP tp len tc F ∧ ∀ k, k ≠ 1 → k ≠ 2 → k ≠ 3 → F k = fun _ => 0
/-- what reading leaves -/
def ReP (h : MH) (th sz ea : Int) (sb : Nat) (T tp : Nat → Int) (len tc b : Nat) (K : Nat → Nat) (r : Bool × Nat × List Or) (v : Option MV ⊕ Nat) (h2 : MH) : Prop := h2.2 = h.2 ∧ (∀ a, a ≠ 107 → (a < b ∨ b + 16 ≤ a) → h2.1 a = h.1 a) ∧ ∃ (tk dp wk : Int) (oo : Nat) (W : Nat → Nat → Int) (ea' : Int) (F0 : Nat → Nat → Int), MoA h2.1 th sz ea' tk dp sb wk oo (-1) T W ∧ FtP tp len tc F0 ∧
  ((r.1 = false ∧ v = .inl (some (qI 1)) ∧ ea' = (tkP tp len r.2.1 : Int)) ∨ (r.1 = true ∧ ∃ R : Int × Nat × MSt, R = mAll K (eqM T (tkP tp len) (lnK tp len)) (nvK tp len) r.2.1 0 (F0, 0) ∧ v = .inl (some (qI R.1)) ∧ (R.1 = 0 → ea' = ea ∧ ShA h2.1 b R.2.2.2 R.2.2.1) ∧ (R.1 ≠ 0 → ea' = (tkP tp len R.2.1 : Int))))
section READM2
variable {L : Nat} {xs : Nat → Int} {fm : Bool} {hc hc' : Nat → MC} {h : MH} {b sb len tc n2 q : Nat} {th sz ea tk dp wk bt : Int} {oo : Nat} {T tp : Nat → Int} {W : Nat → Nat → Int} {F : Nat → Nat → Int} {od : Int} {K : Nat → Nat} {P l : Nat → Nat} {nv : Nat → Int}
theorem hP_in {n : Nat} : ((mUp h.1 107 (cO 12 [qI th, qR 108, qI sz, qI ea, qI (n : Int), qI (q : Int), qR sb, qR 125, qR 135, qI wk, qR oo, qR 145, qR 146, qR 147, qR 148, qR 149, qR 150, qI bt]), h.2) : MH) = hP h th sz ea sb wk oo bt n q := by
  refine Prod.ext ?_ rfl
  funext a
  unfold hP
  dsimp only
  by_cases h1 : a = 107
  · rw [h1, mUp_self, if_pos rfl]
  · rw [mUp_ne h1, if_neg h1]
theorem tk_bd {t : Nat} (h : tkK tp len t ≠ 45) (hl : len ≤ 2000) : tkP tp len t + lnK tp len t ≤ 2000 := by
  have h1 := (tkE_le (B := tp) (len := len) (t := t + 1)).1
  have h2 := (tkE_le (B := tp) (len := len) (t := t)).2.1
  have hE : tkE tp len (t + 1) = endT tp len (tkP tp len t) := rfl
  unfold lnK lnM
  split
  · omega
  · rename_i hn
    have hk : knT tp (tkP tp len t) (tkE tp len (t + 1)) = 45 := by
      unfold knT
      rw [if_pos (by
        rw [hE]
        unfold endT
        rw [if_pos (by omega)]
        exact Nat.le_refl _)]
    exfalso
    apply h
    unfold tkK
    rw [if_neg (fun z => z.2 hk), hk]
theorem m_read (hO : MoA h.1 th sz ea tk dp sb wk oo (-1) T W) (hsz : sz = (len : Int)) (hl : len ≤ 2000) (hT : Tp T tp len) (hS : ShA h.1 b 0 (fun _ _ => 0)) (hb : 151 ≤ b) (hK : KOk K tc) (hkt : ∀ t, t < tc → K t = tkK tp len t) {r : Bool × Nat × List Or} (hr : pLs K 6500 402 0 = some r) (hG : r.1 = true → r.2.1 ≤ tc - 1 ∧ ∀ F0, FtP tp len tc F0 → GdM tc K (tkP tp len) (lnK tp len) (eqM T (tkP tp len) (lnK tp len)) (nvK tp len) r.2.1 0 (F0, 0)) (hrt : r.2.1 < tc) : Sp (GG L xs fm) 37 mX12_read [qR 107, qR b] h (ReP h th sz ea sb T tp len tc b K r) := by
  generalize hPost : ReP h th sz ea sb T tp len tc b K r = Post
  have o0 := hO.1
  refine Sp_of MX12_read ?_
  simp (disch := omega) only [ms_sipush, ms_lconst, ms_ldc2_w, ms_dconst, ms_ldc, ms_getstatic, ms_iload, ms_lload, ms_dload, ms_aload, ms_istore, ms_lstore, ms_dstore, ms_astore, ms_iinc, ms_iadd, ms_isub, ms_imul, ms_idiv, ms_irem, ms_ineg, ms_iand, ms_ior, ms_ishr, ms_iushr, ms_i2b, ms_i2c, ms_i2l, ms_ladd, ms_lmul, ms_lcmp, ms_i2d, ms_ddiv, ms_dcmp, ms_dup, ms_pop, ms_dup2, ms_goto, ms_ifCond, ms_if_icmp, ms_if_acmp_eq, ms_if_acmp_ne, ms_tableswitch, ms_lookupswitch, ms_getfield, ms_putfield, ms_arraylength, ms_iaload, ms_baload, ms_laload, ms_aaload, ms_iastore, ms_bastore, ms_lastore, ms_aastore, ms_newarray, ms_new, ms_anewarray, ms_multianewarray, ms_invokevirtual, ms_invokestatic, ms_invokespecial, ms_invokedynamic_0, ms_invokedynamic_1, ms_invokedynamic_2, ms_invokedynamic_3, ms_invokedynamic_4, ms_invokedynamic_5, ms_ireturn, ms_lreturn, ms_dreturn, ms_areturn, ms_return_, Wp_cons, WSC_nx, WSC_cl, WSC_rt, WSC_th, WSC_if, lg, lset, lfree, wide, isRf, isRT, fitK, hgt, margs, mpad, rcv, rdF, rdN, rdI, rdQ, mC_eq, mC_ne, mC_lt, mC_ge, mC_gt, mC_le, mset, mnew, h_fst, h_snd, lt_drop0, List.drop_succ_cons, List.drop_zero, List.drop_nil, List.take_succ_cons, List.take_zero, List.reverse_cons, List.reverse_nil, List.nil_append, List.cons_append, List.append_nil, List.length_cons, List.length_nil, List.getElem?_cons_succ, List.getElem?_cons_zero, List.set_cons_succ, List.set_cons_zero, List.replicate, Option.toList, reduceIte, Bool.not_false, Bool.not_true, Nat.reduceLT, Nat.reduceLeDiff, Nat.reduceAdd, Nat.reduceSub, Nat.reduceMul, Int.reduceLT, Int.reduceLE, Int.reduceNeg, Int.reduceAdd, Int.reduceSub, Int.reduceMul, Int.reduceEq, and_self, true_and, and_true, false_and, and_false, or_false, false_or, true_or, or_true, not_true_eq_false, not_false_eq_true, Bool.false_eq_true, Bool.true_eq_false, decide_true, decide_false, decide_eq_true_eq, Nat.le_refl, Nat.zero_le, ge_iff_le, gt_iff_lt, Nat.lt_irrefl, reduceCtorEq, if_posD, if_negD, w32_id, Int.toNat_natCast, WCo_in, mUp_self, mUp_ne, ne_eq, Bool.true_and, Bool.and_true, Bool.false_and, Bool.and_false, Bool.true_or, Bool.or_true, Bool.false_or, Bool.or_false, Nat.reduceEqDiff, Int.cast_ofNat_Int, Int.reduceToNat, List.getD_cons_succ, List.getD_cons_zero, eq_self, swL, if_true, if_false, qX12_read_0, MX12_cut, MX12_errorOf, MX12_isList, GG1, o0]
  refine WCl_of (m_cut hO hsz hl hT hS hb) (by omega) (fun v h1 hv => ?_)
  obtain ⟨rfl, f1, tc', F', hS1, hC, hFr⟩ := hv
  have htc : tc' = tc := by
    obtain ⟨c1, c2, c3, c4⟩ := hC
    obtain ⟨k1, k2, k3, k4⟩ := hK
    rcases Nat.lt_trichotomy tc' tc with hlt | heq | hgt
    · have := k2 (tc' - 1) (by omega)
      rw [hkt _ (by omega)] at this
      omega
    · exact heq
    · have := c3 (tc - 1) (by omega)
      rw [← hkt _ (by omega)] at this
      omega
  subst htc
  have hO1 := hO.cg (hc' := h1.1) (fun a ha => f1.2 a (by omega))
  have o1 := hO1.1
  have hkd : KdS F' K tc' := ⟨hK.1.2, hK, fun t ht => by
    rw [hkt t ht]
    exact tkK_41, fun t ht => by
    rw [hkt t ht]
    exact (hC.2.1 t ht).1⟩
  have hL : Sp (GG L xs fm) 36 mX12_isList [qR 107, qR b] (hP h1 th sz ea sb wk oo (-1) 0 0) (LnQ h1 th sz ea sb wk oo (-1) r.1 r.2.1) := by
    refine Sp_of MX12_isList ?_
    have hh := m_isList (L := L) (xs := xs) (fm := fm) (th := th) (sz := sz) (ea := ea) (sb := sb) (wk := wk) (oo := oo) (bt := -1) hkd hS1 hb 402 0 r (by have := hK.1.1; omega) hr
    exact hh
  rw [← hP_in] at hL
  simp (disch := omega) only [ms_sipush, ms_lconst, ms_ldc2_w, ms_dconst, ms_ldc, ms_getstatic, ms_iload, ms_lload, ms_dload, ms_aload, ms_istore, ms_lstore, ms_dstore, ms_astore, ms_iinc, ms_iadd, ms_isub, ms_imul, ms_idiv, ms_irem, ms_ineg, ms_iand, ms_ior, ms_ishr, ms_iushr, ms_i2b, ms_i2c, ms_i2l, ms_ladd, ms_lmul, ms_lcmp, ms_i2d, ms_ddiv, ms_dcmp, ms_dup, ms_pop, ms_dup2, ms_goto, ms_ifCond, ms_if_icmp, ms_if_acmp_eq, ms_if_acmp_ne, ms_tableswitch, ms_lookupswitch, ms_getfield, ms_putfield, ms_arraylength, ms_iaload, ms_baload, ms_laload, ms_aaload, ms_iastore, ms_bastore, ms_lastore, ms_aastore, ms_newarray, ms_new, ms_anewarray, ms_multianewarray, ms_invokevirtual, ms_invokestatic, ms_invokespecial, ms_invokedynamic_0, ms_invokedynamic_1, ms_invokedynamic_2, ms_invokedynamic_3, ms_invokedynamic_4, ms_invokedynamic_5, ms_ireturn, ms_lreturn, ms_dreturn, ms_areturn, ms_return_, Wp_cons, WSC_nx, WSC_cl, WSC_rt, WSC_th, WSC_if, lg, lset, lfree, wide, isRf, isRT, fitK, hgt, margs, mpad, rcv, rdF, rdN, rdI, rdQ, mC_eq, mC_ne, mC_lt, mC_ge, mC_gt, mC_le, mset, mnew, h_fst, h_snd, lt_drop0, List.drop_succ_cons, List.drop_zero, List.drop_nil, List.take_succ_cons, List.take_zero, List.reverse_cons, List.reverse_nil, List.nil_append, List.cons_append, List.append_nil, List.length_cons, List.length_nil, List.getElem?_cons_succ, List.getElem?_cons_zero, List.set_cons_succ, List.set_cons_zero, List.replicate, Option.toList, reduceIte, Bool.not_false, Bool.not_true, Nat.reduceLT, Nat.reduceLeDiff, Nat.reduceAdd, Nat.reduceSub, Nat.reduceMul, Int.reduceLT, Int.reduceLE, Int.reduceNeg, Int.reduceAdd, Int.reduceSub, Int.reduceMul, Int.reduceEq, and_self, true_and, and_true, false_and, and_false, or_false, false_or, true_or, or_true, not_true_eq_false, not_false_eq_true, Bool.false_eq_true, Bool.true_eq_false, decide_true, decide_false, decide_eq_true_eq, Nat.le_refl, Nat.zero_le, ge_iff_le, gt_iff_lt, Nat.lt_irrefl, reduceCtorEq, if_posD, if_negD, w32_id, Int.toNat_natCast, WCo_in, mUp_self, mUp_ne, ne_eq, Bool.true_and, Bool.and_true, Bool.false_and, Bool.and_false, Bool.true_or, Bool.or_true, Bool.false_or, Bool.or_false, Nat.reduceEqDiff, Int.cast_ofNat_Int, Int.reduceToNat, List.getD_cons_succ, List.getD_cons_zero, eq_self, swL, if_true, if_false, qX12_read_0, MX12_cut, MX12_errorOf, MX12_isList, GG1, o1, mUp_mUp]
  refine WCl_of hL (by omega) (fun v h3 hv => ?_)
  obtain ⟨rfl, q', rfl, hq'⟩ := hv
  have hO3 : MoA (hP h1 th sz ea sb wk oo (-1) r.2.1 q').1 th sz ea r.2.1 q' sb wk oo (-1) T W := by
    rw [← hP_in]
    exact hO1.own
  have hS3 : ShA (hP h1 th sz ea sb wk oo (-1) r.2.1 q').1 b 0 F' := hS1.cg (fun a b1 b2 => hP_ne (by omega))
  have fr3 : ∀ a, a ≠ 107 → (a < b ∨ b + 16 ≤ a) → (hP h1 th sz ea sb wk oo (-1) r.2.1 q').1 a = h.1 a := fun a a1 a2 => (hP_ne a1).trans (f1.2 a a2)
  have hz3 : (hP h1 th sz ea sb wk oo (-1) r.2.1 q').2 = h.2 := f1.1
  have hFt : FtP tp len tc' F' := ⟨hC, fun k k1 k2 k3 => hFr k k1 k2 k3⟩
  generalize hP h1 th sz ea sb wk oo (-1) r.2.1 q' = h3 at hO3 hS3 fr3 hz3 ⊢
  have o3 := hO3.1
  have es3 := hS3.1
  have e2 := hS3.2 2 401 rfl
  by_cases hr1 : r.1 = true
  · obtain ⟨hle, hG⟩ := hG hr1
    have := m_readL (L := L) (xs := xs) (fm := fm) (th := th) (sz := sz) (ea := ea) (wk := wk) (oo := oo) (bt := -1) (sb := sb) (T := T) (W := W) (q := q') (P := tkP tp len) (l := lnK tp len) (nv := nvK tp len) (tp := tp) (n2 := r.2.1) hb hK hkd.2.2.1 (fun t ht => tk_bd (by rw [← hkt t (by omega)]; exact (hK.2.1 t (by omega)).2) hl) (fun k hk h43 => by
      rw [hkt k hk] at h43
      obtain ⟨u1, u2, u3, u4, u5⟩ := nu_ch hT h43
      refine ⟨fun i i1 i2 => u5 i i1 ?_, rfl⟩
      unfold lnK at i2
      omega) hle r.2.1 0 (F', 0) qU h3 (by omega) hO3 hS3 (hG F' hFt)
    have hb1 : bI r.1 = 1 := by rw [hr1]; rfl
    simp (disch := omega) only [ms_sipush, ms_lconst, ms_ldc2_w, ms_dconst, ms_ldc, ms_getstatic, ms_iload, ms_lload, ms_dload, ms_aload, ms_istore, ms_lstore, ms_dstore, ms_astore, ms_iinc, ms_iadd, ms_isub, ms_imul, ms_idiv, ms_irem, ms_ineg, ms_iand, ms_ior, ms_ishr, ms_iushr, ms_i2b, ms_i2c, ms_i2l, ms_ladd, ms_lmul, ms_lcmp, ms_i2d, ms_ddiv, ms_dcmp, ms_dup, ms_pop, ms_dup2, ms_goto, ms_ifCond, ms_if_icmp, ms_if_acmp_eq, ms_if_acmp_ne, ms_tableswitch, ms_lookupswitch, ms_getfield, ms_putfield, ms_arraylength, ms_iaload, ms_baload, ms_laload, ms_aaload, ms_iastore, ms_bastore, ms_lastore, ms_aastore, ms_newarray, ms_new, ms_anewarray, ms_multianewarray, ms_invokevirtual, ms_invokestatic, ms_invokespecial, ms_invokedynamic_0, ms_invokedynamic_1, ms_invokedynamic_2, ms_invokedynamic_3, ms_invokedynamic_4, ms_invokedynamic_5, ms_ireturn, ms_lreturn, ms_dreturn, ms_areturn, ms_return_, Wp_cons, WSC_nx, WSC_cl, WSC_rt, WSC_th, WSC_if, lg, lset, lfree, wide, isRf, isRT, fitK, hgt, margs, mpad, rcv, rdF, rdN, rdI, rdQ, mC_eq, mC_ne, mC_lt, mC_ge, mC_gt, mC_le, mset, mnew, h_fst, h_snd, lt_drop0, List.drop_succ_cons, List.drop_zero, List.drop_nil, List.take_succ_cons, List.take_zero, List.reverse_cons, List.reverse_nil, List.nil_append, List.cons_append, List.append_nil, List.length_cons, List.length_nil, List.getElem?_cons_succ, List.getElem?_cons_zero, List.set_cons_succ, List.set_cons_zero, List.replicate, Option.toList, reduceIte, Bool.not_false, Bool.not_true, Nat.reduceLT, Nat.reduceLeDiff, Nat.reduceAdd, Nat.reduceSub, Nat.reduceMul, Int.reduceLT, Int.reduceLE, Int.reduceNeg, Int.reduceAdd, Int.reduceSub, Int.reduceMul, Int.reduceEq, and_self, true_and, and_true, false_and, and_false, or_false, false_or, true_or, or_true, not_true_eq_false, not_false_eq_true, Bool.false_eq_true, Bool.true_eq_false, decide_true, decide_false, decide_eq_true_eq, Nat.le_refl, Nat.zero_le, ge_iff_le, gt_iff_lt, Nat.lt_irrefl, reduceCtorEq, if_posD, if_negD, w32_id, Int.toNat_natCast, WCo_in, mUp_self, mUp_ne, ne_eq, Bool.true_and, Bool.and_true, Bool.false_and, Bool.and_false, Bool.true_or, Bool.or_true, Bool.false_or, Bool.or_false, Nat.reduceEqDiff, Int.cast_ofNat_Int, Int.reduceToNat, List.getD_cons_succ, List.getD_cons_zero, eq_self, swL, if_true, if_false, qX12_read_0, qX12_read_1, MX12_cut, MX12_errorOf, MX12_isList, GG1, hb1]
    refine this.mono (fun v h4 hv => ?_)
    obtain ⟨a1, a2, a3, ea', a4, a5, a6⟩ := hv
    rw [← hPost]
    exact ⟨a2.trans hz3, fun a x1 x2 => (a3 a x1 x2).trans (fr3 a x1 x2), _, _, _, _, _, ea', F', a4, hFt, Or.inr ⟨hr1, _, rfl, a1, a5, a6⟩⟩
  · have hr0 : r.1 = false := by
      cases hh : r.1
      · rfl
      · exact absurd hh hr1
    have hb0 : bI r.1 = 0 := by rw [hr0]; rfl
    have hF2 : F' 2 r.2.1 = (tkP tp len r.2.1 : Int) := (hC.2.1 _ hrt).2.1
    have h400 := hK.1.2
    simp (disch := omega) only [ms_sipush, ms_lconst, ms_ldc2_w, ms_dconst, ms_ldc, ms_getstatic, ms_iload, ms_lload, ms_dload, ms_aload, ms_istore, ms_lstore, ms_dstore, ms_astore, ms_iinc, ms_iadd, ms_isub, ms_imul, ms_idiv, ms_irem, ms_ineg, ms_iand, ms_ior, ms_ishr, ms_iushr, ms_i2b, ms_i2c, ms_i2l, ms_ladd, ms_lmul, ms_lcmp, ms_i2d, ms_ddiv, ms_dcmp, ms_dup, ms_pop, ms_dup2, ms_goto, ms_ifCond, ms_if_icmp, ms_if_acmp_eq, ms_if_acmp_ne, ms_tableswitch, ms_lookupswitch, ms_getfield, ms_putfield, ms_arraylength, ms_iaload, ms_baload, ms_laload, ms_aaload, ms_iastore, ms_bastore, ms_lastore, ms_aastore, ms_newarray, ms_new, ms_anewarray, ms_multianewarray, ms_invokevirtual, ms_invokestatic, ms_invokespecial, ms_invokedynamic_0, ms_invokedynamic_1, ms_invokedynamic_2, ms_invokedynamic_3, ms_invokedynamic_4, ms_invokedynamic_5, ms_ireturn, ms_lreturn, ms_dreturn, ms_areturn, ms_return_, Wp_cons, WSC_nx, WSC_cl, WSC_rt, WSC_th, WSC_if, lg, lset, lfree, wide, isRf, isRT, fitK, hgt, margs, mpad, rcv, rdF, rdN, rdI, rdQ, mC_eq, mC_ne, mC_lt, mC_ge, mC_gt, mC_le, mset, mnew, h_fst, h_snd, lt_drop0, List.drop_succ_cons, List.drop_zero, List.drop_nil, List.take_succ_cons, List.take_zero, List.reverse_cons, List.reverse_nil, List.nil_append, List.cons_append, List.append_nil, List.length_cons, List.length_nil, List.getElem?_cons_succ, List.getElem?_cons_zero, List.set_cons_succ, List.set_cons_zero, List.replicate, Option.toList, reduceIte, Bool.not_false, Bool.not_true, Nat.reduceLT, Nat.reduceLeDiff, Nat.reduceAdd, Nat.reduceSub, Nat.reduceMul, Int.reduceLT, Int.reduceLE, Int.reduceNeg, Int.reduceAdd, Int.reduceSub, Int.reduceMul, Int.reduceEq, and_self, true_and, and_true, false_and, and_false, or_false, false_or, true_or, or_true, not_true_eq_false, not_false_eq_true, Bool.false_eq_true, Bool.true_eq_false, decide_true, decide_false, decide_eq_true_eq, Nat.le_refl, Nat.zero_le, ge_iff_le, gt_iff_lt, Nat.lt_irrefl, reduceCtorEq, if_posD, if_negD, w32_id, Int.toNat_natCast, WCo_in, mUp_self, mUp_ne, ne_eq, Bool.true_and, Bool.and_true, Bool.false_and, Bool.and_false, Bool.true_or, Bool.or_true, Bool.false_or, Bool.or_false, Nat.reduceEqDiff, Int.cast_ofNat_Int, Int.reduceToNat, List.getD_cons_succ, List.getD_cons_zero, eq_self, swL, if_true, if_false, qX12_read_0, MX12_cut, MX12_errorOf, MX12_isList, GG1, hb0, o3, es3, e2, hF2]
    rw [← hPost]
    exact ⟨hz3, fun a x1 x2 => (mUp_ne x1).trans (fr3 a x1 x2), _, _, _, _, _, _, F', hO3.own, hFt, Or.inl ⟨hr0, rfl, rfl⟩⟩
end READM2
