/-! ===== THE REFERENCE: net ===== -/
def hNt (h : MH) (J N K : Nat → Int) : MH := (fun a => if a = 147 then cI .int 10 J else if a = 148 then cI .boolean 14 N else if a = 150 then cI .boolean 14 K else h.1 a, h.2)
section NETM
variable {L : Nat} {xs : Nat → Int} {fm : Bool} {hc hc' : Nat → MC} {h : MH} {sb ob n c : Nat} {fr to : Nat → Nat} {mi wo : Nat → Int} {th sz ea tk dp wk bt : Int} {oo : Nat} {T : Nat → Int} {W : Nat → Nat → Int} {J N K : Nat → Int}
theorem hNt_147 : (hNt h J N K).1 147 = cI .int 10 J := rfl
theorem hNt_148 : (hNt h J N K).1 148 = cI .boolean 14 N := rfl
theorem hNt_150 : (hNt h J N K).1 150 = cI .boolean 14 K := rfl
theorem hNt_ne {a : Nat} (h1 : a ≠ 147) (h2 : a ≠ 148) (h3 : a ≠ 150) : (hNt h J N K).1 a = h.1 a := by
  unfold hNt
  dsimp only
  rw [if_neg h1, if_neg h2, if_neg h3]
theorem hNt_J {J' : Nat → Int} : ((mUp (hNt h J N K).1 147 (cI .int 10 J'), (hNt h J N K).2) : MH) = hNt h J' N K := by
  refine Prod.ext ?_ rfl
  funext a
  show mUp (hNt h J N K).1 147 (cI .int 10 J') a = _
  by_cases h1 : a = 147
  · subst h1
    rfl
  · rw [mUp_ne h1]
    unfold hNt
    dsimp only
    rw [if_neg h1, if_neg h1]
theorem hNt_N {N' : Nat → Int} : ((mUp (hNt h J N K).1 148 (cI .boolean 14 N'), (hNt h J N K).2) : MH) = hNt h J N' K := by
  refine Prod.ext ?_ rfl
  funext a
  show mUp (hNt h J N K).1 148 (cI .boolean 14 N') a = _
  by_cases h1 : a = 148
  · subst h1
    rfl
  · rw [mUp_ne h1]
    unfold hNt
    dsimp only
    rw [if_neg h1, if_neg h1]
theorem hNt_K {K' : Nat → Int} : ((mUp (hNt h J N K).1 150 (cI .boolean 14 K'), (hNt h J N K).2) : MH) = hNt h J N K' := by
  refine Prod.ext ?_ rfl
  funext a
  show mUp (hNt h J N K).1 150 (cI .boolean 14 K') a = _
  by_cases h1 : a = 150
  · subst h1
    rfl
  · rw [mUp_ne h1]
    unfold hNt
    dsimp only
    rw [if_neg h1, if_neg h1]
theorem hNt_self (hO : MoA h.1 th sz ea tk dp sb wk oo bt T W) : hNt h (W 2) (W 3) (W 5) = h := by
  refine Prod.ext ?_ rfl
  funext a
  by_cases h1 : a = 147
  · subst h1
    exact (hO.2.2.1 2 (by decide)).symm
  · by_cases h2 : a = 148
    · subst h2
      exact (hO.2.2.2 3 (by decide) (by decide)).symm
    · by_cases h3 : a = 150
      · subst h3
        exact (hO.2.2.2 5 (by decide) (by decide)).symm
      · exact hNt_ne h1 h2 h3
theorem MoA.nt (hO : MoA h.1 th sz ea tk dp sb wk oo bt T W) : MoA (hNt h J N K).1 th sz ea tk dp sb wk oo bt T (mUp (mUp (mUp W 2 J) 3 N) 5 K) := by
  obtain ⟨h1, h2, h3, h4⟩ := hO
  refine ⟨h1, h2, fun k hk => ?_, fun k hk hk2 => ?_⟩
  · rcases (by omega : k = 0 ∨ k = 1 ∨ k = 2) with rfl | rfl | rfl
    · exact h3 0 (by decide)
    · exact h3 1 (by decide)
    · rfl
  · rcases (by omega : k = 3 ∨ k = 4 ∨ k = 5) with rfl | rfl | rfl
    · rfl
    · exact h4 4 (by decide) (by decide)
    · rfl
theorem MRd.nt (hM : MRd h.1 sb ob n c fr to mi wo) (hsb : sb + 16 ≤ 145 ∨ 151 ≤ sb) (hob : ob = 125 ∨ ob = 135) : MRd (hNt h J N K).1 sb ob n c fr to mi wo := hM.cg (fun a h1 h2 => hNt_ne (by omega) (by omega) (by omega)) (fun a h1 h2 => hNt_ne (by omega) (by omega) (by omega))
theorem m_net (hO : MoA h.1 th sz ea tk dp sb wk oo bt T W) (hM : MRd h.1 sb ob n c fr to mi wo) (hR : RdOk n c fr to mi wo) (hsb : sb + 16 ≤ 145 ∨ 151 ≤ sb) (hob : ob = 125 ∨ ob = 135) : Sp (GG L xs fm) 3 mX12_net [qR 107, qR ob] h (fun v h2 => v = .inl (some (qI (net (roG c fr to mi wo bt)).2.2.1)) ∧ ∃ J N K, h2 = hNt h J N K ∧ ∀ r, r < 14 → N r = bI ((net (roG c fr to mi wo bt)).2.1 r)) := by
  have hg : GrOk (roG c fr to mi wo bt) n := hR.gr
  have hn := hR.1
  have hcc := hR.2.1
  have o0 := hO.1
  have os : ∀ J N K, (hNt h J N K).1 107 = _ := fun J N K => (hNt_ne (by decide) (by decide) (by decide)).trans o0
  obtain ⟨od, F, hr', ca, lo, he, tn, G, a1, a2, a3, a4, a5⟩ := hM
  have hM : MRd h.1 sb ob n c fr to mi wo := ⟨od, F, hr', ca, lo, he, tn, G, a1, a2, a3, a4, a5⟩
  have e5 : ∀ J N K, (hNt h J N K).1 (sb + 5) = cI .int 6 (F 5) := fun J N K => (hNt_ne (by omega) (by omega) (by omega)).trans (a1.2 5 6 rfl)
  have e7 : ∀ J N K, (hNt h J N K).1 (sb + 7) = cI .int 14 (F 7) := fun J N K => (hNt_ne (by omega) (by omega) (by omega)).trans (a1.2 7 14 rfl)
  have e8 : ∀ J N K, (hNt h J N K).1 (sb + 8) = cI .int 14 (F 8) := fun J N K => (hNt_ne (by omega) (by omega) (by omega)).trans (a1.2 8 14 rfl)
  have es : ∀ J N K, (hNt h J N K).1 sb = _ := fun J N K => (hNt_ne (by omega) (by omega) (by omega)).trans a1.1
  have et : ∀ J N K, (hNt h J N K).1 ob = _ := fun J N K => (hNt_ne (by omega) (by omega) (by omega)).trans a2.1
  have cl : ∀ (r : Nat) (J N K : Nat → Int) {d : Nat} {B : Nat → List MI} {ex : List Nat} {is : List MI} {ls st : List MV} {Q : (Option MV ⊕ Nat) → MH → Prop}, r < c → 0 < d → WCl (GG L xs fm) d B ex is ls 145 [qR ob, qI r] st (hNt h J N K) Q = Wp (GG L xs fm) d B is ls (qI (mi r + 2 * wo r) :: st) (hNt h J N K) Q := fun r J N K {d B ex is ls st Q} hr hd => WCl_sp (m_length (hM.nt hsb hob) hR hr) hd
  have cn : ∀ (lk : Nat → Bool) (J N K : Nat → Int), (∀ r, r < c → K r = bI (lk r)) → ∀ {d : Nat} {B : Nat → List MI} {ex : List Nat} {is : List MI} {ls st : List MV} {Q : (Option MV ⊕ Nat) → MH → Prop}, 2 < d → WCl (GG L xs fm) d B ex is ls 200 [qR 107, qR ob] st (hNt h J N K) Q = Wp (GG L xs fm) d B is ls (qI (pkN (roG c fr to mi wo bt) lk c) :: st) (hNt h J N K) Q := fun lk J N K hlk {d B ex is ls st Q} hd => WCl_sp (m_next (h := hNt h J N K) hO.nt (hM.nt hsb hob) hR (fun r hr => by
    rw [mUp_self]
    exact hlk r hr)) hd
  generalize hP : (fun (v : Option MV ⊕ Nat) (h2 : MH) => v = .inl (some (qI (net (roG c fr to mi wo bt)).2.2.1)) ∧ ∃ J N K, h2 = hNt h J N K ∧ ∀ r, r < 14 → N r = bI ((net (roG c fr to mi wo bt)).2.1 r)) = Post
  -- taverns that are joined to another
  have inner : ∀ (a b r : Nat) (s : Int) (J N K : Nat → Int) (Jf : Nat → Int), (∀ i, i < 10 → Jf i = if J i = (b : Int) then (a : Int) else J i) → (∀ J', (∀ i, i < 10 → J' i = Jf i) → Wp (GG L xs fm) 3 BX12_net (BX12_net 9) [qR 107, qR ob, qI s, qI r, qI a, qI b, qI 10] [] (hNt h J' N K) Post) → ∀ (m j : Nat) (J' : Nat → Int), j + m = 10 → (∀ i, i < j → J' i = Jf i) → (∀ i, j ≤ i → i < 10 → J' i = J i) → Wp (GG L xs fm) 3 BX12_net (BX12_net 7) [qR 107, qR ob, qI s, qI r, qI a, qI b, qI j] [] (hNt h J' N K) Post := by
    intro a b r s J N K Jf hJf hend m
    induction m with
    | zero =>
      intro j J' hj h1 h2
      have hj : j = 10 := by omega
      subst hj
      have := hend J' h1
      rw [qX12_net_7]
      simp (disch := omega) only [ms_sipush, ms_lconst, ms_ldc2_w, ms_dconst, ms_ldc, ms_getstatic, ms_iload, ms_lload, ms_dload, ms_aload, ms_istore, ms_lstore, ms_dstore, ms_astore, ms_iinc, ms_iadd, ms_isub, ms_imul, ms_idiv, ms_irem, ms_ineg, ms_iand, ms_ior, ms_ishr, ms_iushr, ms_i2b, ms_i2c, ms_i2l, ms_ladd, ms_lmul, ms_lcmp, ms_i2d, ms_ddiv, ms_dcmp, ms_dup, ms_pop, ms_dup2, ms_goto, ms_ifCond, ms_if_icmp, ms_if_acmp_eq, ms_if_acmp_ne, ms_tableswitch, ms_lookupswitch, ms_getfield, ms_putfield, ms_arraylength, ms_iaload, ms_baload, ms_laload, ms_aaload, ms_iastore, ms_bastore, ms_lastore, ms_aastore, ms_newarray, ms_new, ms_anewarray, ms_multianewarray, ms_invokevirtual, ms_invokestatic, ms_invokespecial, ms_invokedynamic_0, ms_invokedynamic_1, ms_invokedynamic_2, ms_invokedynamic_3, ms_invokedynamic_4, ms_invokedynamic_5, ms_ireturn, ms_lreturn, ms_dreturn, ms_areturn, ms_return_, Wp_cons, WSC_nx, WSC_cl, WSC_rt, WSC_th, WSC_if, lg, lset, lfree, wide, isRf, isRT, fitK, hgt, margs, mpad, rcv, rdF, rdN, rdI, rdQ, mC_eq, mC_ne, mC_lt, mC_ge, mC_gt, mC_le, mset, mnew, h_fst, h_snd, lt_drop0, List.drop_succ_cons, List.drop_zero, List.drop_nil, List.take_succ_cons, List.take_zero, List.reverse_cons, List.reverse_nil, List.nil_append, List.cons_append, List.append_nil, List.length_cons, List.length_nil, List.getElem?_cons_succ, List.getElem?_cons_zero, List.set_cons_succ, List.set_cons_zero, List.replicate, Option.toList, reduceIte, Bool.not_false, Bool.not_true, Nat.reduceLT, Nat.reduceLeDiff, Nat.reduceAdd, Nat.reduceSub, Nat.reduceMul, Int.reduceLT, Int.reduceLE, Int.reduceNeg, Int.reduceAdd, Int.reduceSub, Int.reduceMul, Int.reduceEq, and_self, true_and, and_true, false_and, and_false, or_false, false_or, true_or, or_true, not_true_eq_false, not_false_eq_true, Bool.false_eq_true, Bool.true_eq_false, decide_true, decide_false, decide_eq_true_eq, Nat.le_refl, Nat.zero_le, ge_iff_le, gt_iff_lt, Nat.lt_irrefl, reduceCtorEq, if_posD, if_negD, w32_id, Int.toNat_natCast, WCo_in, mUp_self, mUp_ne, ne_eq, Bool.true_and, Bool.and_true, Bool.false_and, Bool.and_false, Bool.true_or, Bool.or_true, Bool.false_or, Bool.or_false, Nat.reduceEqDiff, Int.cast_ofNat_Int, Int.reduceToNat, List.getD_cons_succ, List.getD_cons_zero, eq_self, swL, if_true, if_false, qX12_net_9, MX11_length, MX12_nextOfNet, GG1, os]
      rw [qX12_net_9] at this
      simp (disch := omega) only [ms_sipush, ms_lconst, ms_ldc2_w, ms_dconst, ms_ldc, ms_getstatic, ms_iload, ms_lload, ms_dload, ms_aload, ms_istore, ms_lstore, ms_dstore, ms_astore, ms_iinc, ms_iadd, ms_isub, ms_imul, ms_idiv, ms_irem, ms_ineg, ms_iand, ms_ior, ms_ishr, ms_iushr, ms_i2b, ms_i2c, ms_i2l, ms_ladd, ms_lmul, ms_lcmp, ms_i2d, ms_ddiv, ms_dcmp, ms_dup, ms_pop, ms_dup2, ms_goto, ms_ifCond, ms_if_icmp, ms_if_acmp_eq, ms_if_acmp_ne, ms_tableswitch, ms_lookupswitch, ms_getfield, ms_putfield, ms_arraylength, ms_iaload, ms_baload, ms_laload, ms_aaload, ms_iastore, ms_bastore, ms_lastore, ms_aastore, ms_newarray, ms_new, ms_anewarray, ms_multianewarray, ms_invokevirtual, ms_invokestatic, ms_invokespecial, ms_invokedynamic_0, ms_invokedynamic_1, ms_invokedynamic_2, ms_invokedynamic_3, ms_invokedynamic_4, ms_invokedynamic_5, ms_ireturn, ms_lreturn, ms_dreturn, ms_areturn, ms_return_, Wp_cons, WSC_nx, WSC_cl, WSC_rt, WSC_th, WSC_if, lg, lset, lfree, wide, isRf, isRT, fitK, hgt, margs, mpad, rcv, rdF, rdN, rdI, rdQ, mC_eq, mC_ne, mC_lt, mC_ge, mC_gt, mC_le, mset, mnew, h_fst, h_snd, lt_drop0, List.drop_succ_cons, List.drop_zero, List.drop_nil, List.take_succ_cons, List.take_zero, List.reverse_cons, List.reverse_nil, List.nil_append, List.cons_append, List.append_nil, List.length_cons, List.length_nil, List.getElem?_cons_succ, List.getElem?_cons_zero, List.set_cons_succ, List.set_cons_zero, List.replicate, Option.toList, reduceIte, Bool.not_false, Bool.not_true, Nat.reduceLT, Nat.reduceLeDiff, Nat.reduceAdd, Nat.reduceSub, Nat.reduceMul, Int.reduceLT, Int.reduceLE, Int.reduceNeg, Int.reduceAdd, Int.reduceSub, Int.reduceMul, Int.reduceEq, and_self, true_and, and_true, false_and, and_false, or_false, false_or, true_or, or_true, not_true_eq_false, not_false_eq_true, Bool.false_eq_true, Bool.true_eq_false, decide_true, decide_false, decide_eq_true_eq, Nat.le_refl, Nat.zero_le, ge_iff_le, gt_iff_lt, Nat.lt_irrefl, reduceCtorEq, if_posD, if_negD, w32_id, Int.toNat_natCast, WCo_in, mUp_self, mUp_ne, ne_eq, Bool.true_and, Bool.and_true, Bool.false_and, Bool.and_false, Bool.true_or, Bool.or_true, Bool.false_or, Bool.or_false, Nat.reduceEqDiff, Int.cast_ofNat_Int, Int.reduceToNat, List.getD_cons_succ, List.getD_cons_zero, eq_self, swL, if_true, if_false, qX12_net_9, MX11_length, MX12_nextOfNet, GG1, os] at this
      exact this
    | succ m ih =>
      intro j J' hj h1 h2
      have hJj := h2 j (Nat.le_refl _) (by omega)
      rw [qX12_net_7]
      by_cases hb : J' j = (b : Int)
      · have := ih (j + 1) (mUp J' j (a : Int)) (by omega) (fun i hi => by
          by_cases hij : i = j
          · subst hij
            rw [mUp_self, hJf i (by omega), ← hJj, if_pos hb]
          · rw [mUp_ne hij]
            exact h1 i (by omega)) (fun i hi hi2 => by
          rw [mUp_ne (by omega)]
          exact h2 i (by omega) hi2)
        rw [Int.natCast_add] at this
        simp (disch := omega) only [ms_sipush, ms_lconst, ms_ldc2_w, ms_dconst, ms_ldc, ms_getstatic, ms_iload, ms_lload, ms_dload, ms_aload, ms_istore, ms_lstore, ms_dstore, ms_astore, ms_iinc, ms_iadd, ms_isub, ms_imul, ms_idiv, ms_irem, ms_ineg, ms_iand, ms_ior, ms_ishr, ms_iushr, ms_i2b, ms_i2c, ms_i2l, ms_ladd, ms_lmul, ms_lcmp, ms_i2d, ms_ddiv, ms_dcmp, ms_dup, ms_pop, ms_dup2, ms_goto, ms_ifCond, ms_if_icmp, ms_if_acmp_eq, ms_if_acmp_ne, ms_tableswitch, ms_lookupswitch, ms_getfield, ms_putfield, ms_arraylength, ms_iaload, ms_baload, ms_laload, ms_aaload, ms_iastore, ms_bastore, ms_lastore, ms_aastore, ms_newarray, ms_new, ms_anewarray, ms_multianewarray, ms_invokevirtual, ms_invokestatic, ms_invokespecial, ms_invokedynamic_0, ms_invokedynamic_1, ms_invokedynamic_2, ms_invokedynamic_3, ms_invokedynamic_4, ms_invokedynamic_5, ms_ireturn, ms_lreturn, ms_dreturn, ms_areturn, ms_return_, Wp_cons, WSC_nx, WSC_cl, WSC_rt, WSC_th, WSC_if, lg, lset, lfree, wide, isRf, isRT, fitK, hgt, margs, mpad, rcv, rdF, rdN, rdI, rdQ, mC_eq, mC_ne, mC_lt, mC_ge, mC_gt, mC_le, mset, mnew, h_fst, h_snd, lt_drop0, List.drop_succ_cons, List.drop_zero, List.drop_nil, List.take_succ_cons, List.take_zero, List.reverse_cons, List.reverse_nil, List.nil_append, List.cons_append, List.append_nil, List.length_cons, List.length_nil, List.getElem?_cons_succ, List.getElem?_cons_zero, List.set_cons_succ, List.set_cons_zero, List.replicate, Option.toList, reduceIte, Bool.not_false, Bool.not_true, Nat.reduceLT, Nat.reduceLeDiff, Nat.reduceAdd, Nat.reduceSub, Nat.reduceMul, Int.reduceLT, Int.reduceLE, Int.reduceNeg, Int.reduceAdd, Int.reduceSub, Int.reduceMul, Int.reduceEq, and_self, true_and, and_true, false_and, and_false, or_false, false_or, true_or, or_true, not_true_eq_false, not_false_eq_true, Bool.false_eq_true, Bool.true_eq_false, decide_true, decide_false, decide_eq_true_eq, Nat.le_refl, Nat.zero_le, ge_iff_le, gt_iff_lt, Nat.lt_irrefl, reduceCtorEq, if_posD, if_negD, w32_id, Int.toNat_natCast, WCo_in, mUp_self, mUp_ne, ne_eq, Bool.true_and, Bool.and_true, Bool.false_and, Bool.and_false, Bool.true_or, Bool.or_true, Bool.false_or, Bool.or_false, Nat.reduceEqDiff, Int.cast_ofNat_Int, Int.reduceToNat, List.getD_cons_succ, List.getD_cons_zero, eq_self, swL, if_true, if_false, qX12_net_8, MX11_length, MX12_nextOfNet, GG1, os, hNt_147, hb, hNt_J]
        exact this
      · have := ih (j + 1) J' (by omega) (fun i hi => by
          by_cases hij : i = j
          · subst hij
            rw [hJf i (by omega), ← hJj, if_neg hb]
          · exact h1 i (by omega)) (fun i hi hi2 => h2 i (by omega) hi2)
        rw [Int.natCast_add] at this
        simp (disch := omega) only [ms_sipush, ms_lconst, ms_ldc2_w, ms_dconst, ms_ldc, ms_getstatic, ms_iload, ms_lload, ms_dload, ms_aload, ms_istore, ms_lstore, ms_dstore, ms_astore, ms_iinc, ms_iadd, ms_isub, ms_imul, ms_idiv, ms_irem, ms_ineg, ms_iand, ms_ior, ms_ishr, ms_iushr, ms_i2b, ms_i2c, ms_i2l, ms_ladd, ms_lmul, ms_lcmp, ms_i2d, ms_ddiv, ms_dcmp, ms_dup, ms_pop, ms_dup2, ms_goto, ms_ifCond, ms_if_icmp, ms_if_acmp_eq, ms_if_acmp_ne, ms_tableswitch, ms_lookupswitch, ms_getfield, ms_putfield, ms_arraylength, ms_iaload, ms_baload, ms_laload, ms_aaload, ms_iastore, ms_bastore, ms_lastore, ms_aastore, ms_newarray, ms_new, ms_anewarray, ms_multianewarray, ms_invokevirtual, ms_invokestatic, ms_invokespecial, ms_invokedynamic_0, ms_invokedynamic_1, ms_invokedynamic_2, ms_invokedynamic_3, ms_invokedynamic_4, ms_invokedynamic_5, ms_ireturn, ms_lreturn, ms_dreturn, ms_areturn, ms_return_, Wp_cons, WSC_nx, WSC_cl, WSC_rt, WSC_th, WSC_if, lg, lset, lfree, wide, isRf, isRT, fitK, hgt, margs, mpad, rcv, rdF, rdN, rdI, rdQ, mC_eq, mC_ne, mC_lt, mC_ge, mC_gt, mC_le, mset, mnew, h_fst, h_snd, lt_drop0, List.drop_succ_cons, List.drop_zero, List.drop_nil, List.take_succ_cons, List.take_zero, List.reverse_cons, List.reverse_nil, List.nil_append, List.cons_append, List.append_nil, List.length_cons, List.length_nil, List.getElem?_cons_succ, List.getElem?_cons_zero, List.set_cons_succ, List.set_cons_zero, List.replicate, Option.toList, reduceIte, Bool.not_false, Bool.not_true, Nat.reduceLT, Nat.reduceLeDiff, Nat.reduceAdd, Nat.reduceSub, Nat.reduceMul, Int.reduceLT, Int.reduceLE, Int.reduceNeg, Int.reduceAdd, Int.reduceSub, Int.reduceMul, Int.reduceEq, and_self, true_and, and_true, false_and, and_false, or_false, false_or, true_or, or_true, not_true_eq_false, not_false_eq_true, Bool.false_eq_true, Bool.true_eq_false, decide_true, decide_false, decide_eq_true_eq, Nat.le_refl, Nat.zero_le, ge_iff_le, gt_iff_lt, Nat.lt_irrefl, reduceCtorEq, if_posD, if_negD, w32_id, Int.toNat_natCast, WCo_in, mUp_self, mUp_ne, ne_eq, Bool.true_and, Bool.and_true, Bool.false_and, Bool.and_false, Bool.true_or, Bool.or_true, Bool.false_or, Bool.or_false, Nat.reduceEqDiff, Int.cast_ofNat_Int, Int.reduceToNat, List.getD_cons_succ, List.getD_cons_zero, eq_self, swL, if_true, if_false, qX12_net_8, MX11_length, MX12_nextOfNet, GG1, os, hNt_147, hb]
        exact this
  have main : ∀ (B A : List Nat) (J N K : Nat → Int) (l4 l5 l6 : MV), wide l4 = false → wide l5 = false → wide l6 = false → srt (roG c fr to mi wo bt) c = A ++ B → (∀ i, i < 10 → J i = ((A.foldl (ksp (roG c fr to mi wo bt)) (fun t => t, fun _ => false, 0, 0)).1 i : Int) ∧ (A.foldl (ksp (roG c fr to mi wo bt)) (fun t => t, fun _ => false, 0, 0)).1 i < 10) → (∀ r, r < 14 → N r = bI ((A.foldl (ksp (roG c fr to mi wo bt)) (fun t => t, fun _ => false, 0, 0)).2.1 r)) → (∀ r, r < 14 → K r = bI (decide (r ∈ A))) → Wp (GG L xs fm) 3 BX12_net (BX12_net 5) [qR 107, qR ob, qI (A.foldl (ksp (roG c fr to mi wo bt)) (fun t => t, fun _ => false, 0, 0)).2.2.1, qI (pkN (roG c fr to mi wo bt) (fun r => decide (r ∈ A)) c), l4, l5, l6] [] (hNt h J N K) Post := by
    intro B
    induction B with
    | nil =>
      intro A J N K l4 l5 l6 w4 w5 w6 hA hJ hN hK
      rw [List.append_nil] at hA
      have hpk : pkN (roG c fr to mi wo bt) (fun r => decide (r ∈ A)) c = -1 := pk_end (g := roG c fr to mi wo bt) (fun r hr => by
        show decide (r ∈ A) = true ↔ r ∈ srt (roG c fr to mi wo bt) c
        rw [hA, decide_eq_true_eq])
      have hnet : net (roG c fr to mi wo bt) = A.foldl (ksp (roG c fr to mi wo bt)) (fun t => t, fun _ => false, 0, 0) := by
        show (srt (roG c fr to mi wo bt) c).foldl _ _ = _
        rw [hA]
      rw [hpk, qX12_net_5]
      simp (disch := omega) only [ms_sipush, ms_lconst, ms_ldc2_w, ms_dconst, ms_ldc, ms_getstatic, ms_iload, ms_lload, ms_dload, ms_aload, ms_istore, ms_lstore, ms_dstore, ms_astore, ms_iinc, ms_iadd, ms_isub, ms_imul, ms_idiv, ms_irem, ms_ineg, ms_iand, ms_ior, ms_ishr, ms_iushr, ms_i2b, ms_i2c, ms_i2l, ms_ladd, ms_lmul, ms_lcmp, ms_i2d, ms_ddiv, ms_dcmp, ms_dup, ms_pop, ms_dup2, ms_goto, ms_ifCond, ms_if_icmp, ms_if_acmp_eq, ms_if_acmp_ne, ms_tableswitch, ms_lookupswitch, ms_getfield, ms_putfield, ms_arraylength, ms_iaload, ms_baload, ms_laload, ms_aaload, ms_iastore, ms_bastore, ms_lastore, ms_aastore, ms_newarray, ms_new, ms_anewarray, ms_multianewarray, ms_invokevirtual, ms_invokestatic, ms_invokespecial, ms_invokedynamic_0, ms_invokedynamic_1, ms_invokedynamic_2, ms_invokedynamic_3, ms_invokedynamic_4, ms_invokedynamic_5, ms_ireturn, ms_lreturn, ms_dreturn, ms_areturn, ms_return_, Wp_cons, WSC_nx, WSC_cl, WSC_rt, WSC_th, WSC_if, lg, lset, lfree, wide, isRf, isRT, fitK, hgt, margs, mpad, rcv, rdF, rdN, rdI, rdQ, mC_eq, mC_ne, mC_lt, mC_ge, mC_gt, mC_le, mset, mnew, h_fst, h_snd, lt_drop0, List.drop_succ_cons, List.drop_zero, List.drop_nil, List.take_succ_cons, List.take_zero, List.reverse_cons, List.reverse_nil, List.nil_append, List.cons_append, List.append_nil, List.length_cons, List.length_nil, List.getElem?_cons_succ, List.getElem?_cons_zero, List.set_cons_succ, List.set_cons_zero, List.replicate, Option.toList, reduceIte, Bool.not_false, Bool.not_true, Nat.reduceLT, Nat.reduceLeDiff, Nat.reduceAdd, Nat.reduceSub, Nat.reduceMul, Int.reduceLT, Int.reduceLE, Int.reduceNeg, Int.reduceAdd, Int.reduceSub, Int.reduceMul, Int.reduceEq, and_self, true_and, and_true, false_and, and_false, or_false, false_or, true_or, or_true, not_true_eq_false, not_false_eq_true, Bool.false_eq_true, Bool.true_eq_false, decide_true, decide_false, decide_eq_true_eq, Nat.le_refl, Nat.zero_le, ge_iff_le, gt_iff_lt, Nat.lt_irrefl, reduceCtorEq, if_posD, if_negD, w32_id, Int.toNat_natCast, WCo_in, mUp_self, mUp_ne, ne_eq, Bool.true_and, Bool.and_true, Bool.false_and, Bool.and_false, Bool.true_or, Bool.or_true, Bool.false_or, Bool.or_false, Nat.reduceEqDiff, Int.cast_ofNat_Int, Int.reduceToNat, List.getD_cons_succ, List.getD_cons_zero, eq_self, swL, if_true, if_false, qX12_net_10, MX11_length, MX12_nextOfNet, GG1, w4, w5, w6]
      subst hP
      rw [hnet]
      exact ⟨rfl, J, N, K, rfl, hN⟩
    | cons x B ih =>
      intro A J N K l4 l5 l6 w4 w5 w6 hA hJ hN hK
      have hpk : pkN (roG c fr to mi wo bt) (fun r => decide (r ∈ A)) c = (x : Int) := pk_srt (g := roG c fr to mi wo bt) hA (fun r hr => by rw [decide_eq_true_eq])
      have hxm : x ∈ srt (roG c fr to mi wo bt) c := by
        rw [hA]
        exact List.mem_append_right _ List.mem_cons_self
      have hxc : x < c := (mem_srt.mp hxm).1
      obtain ⟨b1, b2, b3, b4⟩ := a5 x hxc
      obtain ⟨g1, g2, g3, g4, g5, g6, g7⟩ := hR.2.2 x hxc
      have hlen : (srt (roG c fr to mi wo bt) c).length ≤ c := len_srt
      have hAl : A.length ≤ 14 := by
        rw [hA, List.length_append] at hlen
        omega
      have hAm : ∀ y, y ∈ A → y < c := fun y hy => ((mem_srt (g := roG c fr to mi wo bt) (k := c)).mp (by rw [hA]; exact List.mem_append_left _ hy)).1
      have hbd := ksp_bd hg (l := A) (S := (fun t => t, fun _ => false, 0, 0)) hAm (fun v hv => hv) (Int.le_refl _)
      have hih := ih (A ++ [x])
      rw [List.foldl_append] at hih
      have hK' : ∀ r, r < 14 → mUp K x 1 r = bI (decide (r ∈ A ++ [x])) := fun r hr => by
        by_cases hrx : r = x
        · rw [hrx, mUp_self, decide_eq_true (List.mem_append_right _ List.mem_cons_self)]
          rfl
        · rw [mUp_ne hrx, hK r hr]
          have hiff : decide (r ∈ A) = decide (r ∈ A ++ [x]) := decide_eq_decide.mpr ⟨fun z => List.mem_append_left _ z, fun z => by
            rcases List.mem_append.mp z with z | z
            · exact z
            · exact absurd (List.mem_singleton.mp z) hrx⟩
          rw [hiff]
      have happ : srt (roG c fr to mi wo bt) c = (A ++ [x]) ++ B := by rw [hA, List.append_assoc]; rfl
      generalize hS : A.foldl (ksp (roG c fr to mi wo bt)) (fun t => t, fun _ => false, 0, 0) = S at hJ hN hbd hih ⊢
      obtain ⟨-, s0, s1, -⟩ := hbd
      have s0 : 0 ≤ S.2.2.1 := s0
      have s1 : S.2.2.1 ≤ 0 + 36 * (A.length : Int) := s1
      obtain ⟨ja, ja2⟩ := hJ (fr x) (by omega)
      obtain ⟨jb, jb2⟩ := hJ (to x) (by omega)
      have hks : [x].foldl (ksp (roG c fr to mi wo bt)) S = ksp (roG c fr to mi wo bt) S x := rfl
      rw [hks] at hih
      have hkd : ksp (roG c fr to mi wo bt) S x = if S.1 (fr x) = S.1 (to x) then S else (fun t => if S.1 t = S.1 (to x) then S.1 (fr x) else S.1 t, mUp S.2.1 x true, S.2.2.1 + (mi x + 2 * wo x), S.2.2.2 + 1) := rfl
      have hlkd : ∀ r, r < c → mUp K x 1 r = bI (decide (r ∈ A ++ [x])) := fun r hr => hK' r (by omega)
      rw [hpk, qX12_net_5]
      by_cases hab : S.1 (fr x) = S.1 (to x)
      · rw [if_pos hab] at hkd
        rw [hkd] at hih
        have := hih J N (mUp K x 1) (qI (S.1 (fr x) : Nat)) (qI (S.1 (to x) : Nat)) l6 rfl rfl w6 happ hJ hN hK'
        simp (disch := omega) only [ms_sipush, ms_lconst, ms_ldc2_w, ms_dconst, ms_ldc, ms_getstatic, ms_iload, ms_lload, ms_dload, ms_aload, ms_istore, ms_lstore, ms_dstore, ms_astore, ms_iinc, ms_iadd, ms_isub, ms_imul, ms_idiv, ms_irem, ms_ineg, ms_iand, ms_ior, ms_ishr, ms_iushr, ms_i2b, ms_i2c, ms_i2l, ms_ladd, ms_lmul, ms_lcmp, ms_i2d, ms_ddiv, ms_dcmp, ms_dup, ms_pop, ms_dup2, ms_goto, ms_ifCond, ms_if_icmp, ms_if_acmp_eq, ms_if_acmp_ne, ms_tableswitch, ms_lookupswitch, ms_getfield, ms_putfield, ms_arraylength, ms_iaload, ms_baload, ms_laload, ms_aaload, ms_iastore, ms_bastore, ms_lastore, ms_aastore, ms_newarray, ms_new, ms_anewarray, ms_multianewarray, ms_invokevirtual, ms_invokestatic, ms_invokespecial, ms_invokedynamic_0, ms_invokedynamic_1, ms_invokedynamic_2, ms_invokedynamic_3, ms_invokedynamic_4, ms_invokedynamic_5, ms_ireturn, ms_lreturn, ms_dreturn, ms_areturn, ms_return_, Wp_cons, WSC_nx, WSC_cl, WSC_rt, WSC_th, WSC_if, lg, lset, lfree, wide, isRf, isRT, fitK, hgt, margs, mpad, rcv, rdF, rdN, rdI, rdQ, mC_eq, mC_ne, mC_lt, mC_ge, mC_gt, mC_le, mset, mnew, h_fst, h_snd, lt_drop0, List.drop_succ_cons, List.drop_zero, List.drop_nil, List.take_succ_cons, List.take_zero, List.reverse_cons, List.reverse_nil, List.nil_append, List.cons_append, List.append_nil, List.length_cons, List.length_nil, List.getElem?_cons_succ, List.getElem?_cons_zero, List.set_cons_succ, List.set_cons_zero, List.replicate, Option.toList, reduceIte, Bool.not_false, Bool.not_true, Nat.reduceLT, Nat.reduceLeDiff, Nat.reduceAdd, Nat.reduceSub, Nat.reduceMul, Int.reduceLT, Int.reduceLE, Int.reduceNeg, Int.reduceAdd, Int.reduceSub, Int.reduceMul, Int.reduceEq, and_self, true_and, and_true, false_and, and_false, or_false, false_or, true_or, or_true, not_true_eq_false, not_false_eq_true, Bool.false_eq_true, Bool.true_eq_false, decide_true, decide_false, decide_eq_true_eq, Nat.le_refl, Nat.zero_le, ge_iff_le, gt_iff_lt, Nat.lt_irrefl, reduceCtorEq, if_posD, if_negD, w32_id, Int.toNat_natCast, WCo_in, mUp_self, mUp_ne, ne_eq, Bool.true_and, Bool.and_true, Bool.false_and, Bool.and_false, Bool.true_or, Bool.or_true, Bool.false_or, Bool.or_false, Nat.reduceEqDiff, Int.cast_ofNat_Int, Int.reduceToNat, List.getD_cons_succ, List.getD_cons_zero, eq_self, swL, if_true, if_false, qX12_net_9, MX11_length, MX12_nextOfNet, GG1, os, es, e7, e8, b1, b2, hNt_147, hNt_150, hNt_K, ja, jb, hab, w4, w5, w6, cn _ _ _ _ hlkd]
        rw [hab] at this
        exact this
      · rw [if_neg hab] at hkd
        rw [hkd] at hih
        have hab2 : ¬ ((S.1 (fr x) : Nat) : Int) = ((S.1 (to x) : Nat) : Int) := by omega
        have hin := inner (S.1 (fr x)) (S.1 (to x)) x (S.2.2.1 + (mi x + 2 * wo x)) J (mUp N x 1) (mUp K x 1) (fun i => if J i = ((S.1 (to x) : Nat) : Int) then ((S.1 (fr x) : Nat) : Int) else J i) (fun _ _ => rfl) (fun J' hJ' => by
          have := hih J' (mUp N x 1) (mUp K x 1) (qI (S.1 (fr x) : Nat)) (qI (S.1 (to x) : Nat)) (qI 10) rfl rfl rfl happ (fun i hi => by
            rw [hJ' i hi, (hJ i hi).1]
            dsimp only
            by_cases hi2 : S.1 i = S.1 (to x)
            · rw [if_pos (by rw [hi2]), if_pos hi2]
              exact ⟨rfl, ja2⟩
            · rw [if_neg (by omega), if_neg hi2]
              exact ⟨rfl, (hJ i hi).2⟩) (fun r hr => by
            dsimp only
            by_cases hrx : r = x
            · rw [hrx, mUp_self, mUp_self]
              rfl
            · rw [mUp_ne hrx, mUp_ne hrx]
              exact hN r hr) hK'
          rw [qX12_net_9]
          simp (disch := omega) only [ms_sipush, ms_lconst, ms_ldc2_w, ms_dconst, ms_ldc, ms_getstatic, ms_iload, ms_lload, ms_dload, ms_aload, ms_istore, ms_lstore, ms_dstore, ms_astore, ms_iinc, ms_iadd, ms_isub, ms_imul, ms_idiv, ms_irem, ms_ineg, ms_iand, ms_ior, ms_ishr, ms_iushr, ms_i2b, ms_i2c, ms_i2l, ms_ladd, ms_lmul, ms_lcmp, ms_i2d, ms_ddiv, ms_dcmp, ms_dup, ms_pop, ms_dup2, ms_goto, ms_ifCond, ms_if_icmp, ms_if_acmp_eq, ms_if_acmp_ne, ms_tableswitch, ms_lookupswitch, ms_getfield, ms_putfield, ms_arraylength, ms_iaload, ms_baload, ms_laload, ms_aaload, ms_iastore, ms_bastore, ms_lastore, ms_aastore, ms_newarray, ms_new, ms_anewarray, ms_multianewarray, ms_invokevirtual, ms_invokestatic, ms_invokespecial, ms_invokedynamic_0, ms_invokedynamic_1, ms_invokedynamic_2, ms_invokedynamic_3, ms_invokedynamic_4, ms_invokedynamic_5, ms_ireturn, ms_lreturn, ms_dreturn, ms_areturn, ms_return_, Wp_cons, WSC_nx, WSC_cl, WSC_rt, WSC_th, WSC_if, lg, lset, lfree, wide, isRf, isRT, fitK, hgt, margs, mpad, rcv, rdF, rdN, rdI, rdQ, mC_eq, mC_ne, mC_lt, mC_ge, mC_gt, mC_le, mset, mnew, h_fst, h_snd, lt_drop0, List.drop_succ_cons, List.drop_zero, List.drop_nil, List.take_succ_cons, List.take_zero, List.reverse_cons, List.reverse_nil, List.nil_append, List.cons_append, List.append_nil, List.length_cons, List.length_nil, List.getElem?_cons_succ, List.getElem?_cons_zero, List.set_cons_succ, List.set_cons_zero, List.replicate, Option.toList, reduceIte, Bool.not_false, Bool.not_true, Nat.reduceLT, Nat.reduceLeDiff, Nat.reduceAdd, Nat.reduceSub, Nat.reduceMul, Int.reduceLT, Int.reduceLE, Int.reduceNeg, Int.reduceAdd, Int.reduceSub, Int.reduceMul, Int.reduceEq, and_self, true_and, and_true, false_and, and_false, or_false, false_or, true_or, or_true, not_true_eq_false, not_false_eq_true, Bool.false_eq_true, Bool.true_eq_false, decide_true, decide_false, decide_eq_true_eq, Nat.le_refl, Nat.zero_le, ge_iff_le, gt_iff_lt, Nat.lt_irrefl, reduceCtorEq, if_posD, if_negD, w32_id, Int.toNat_natCast, WCo_in, mUp_self, mUp_ne, ne_eq, Bool.true_and, Bool.and_true, Bool.false_and, Bool.and_false, Bool.true_or, Bool.or_true, Bool.false_or, Bool.or_false, Nat.reduceEqDiff, Int.cast_ofNat_Int, Int.reduceToNat, List.getD_cons_succ, List.getD_cons_zero, eq_self, swL, if_true, if_false, qX12_net_9, MX11_length, MX12_nextOfNet, GG1, os, cn _ _ _ _ hlkd]
          exact this) 10 0 J (by omega) (fun i hi => absurd hi (Nat.not_lt_zero _)) (fun _ _ _ => rfl)
        simp (disch := omega) only [ms_sipush, ms_lconst, ms_ldc2_w, ms_dconst, ms_ldc, ms_getstatic, ms_iload, ms_lload, ms_dload, ms_aload, ms_istore, ms_lstore, ms_dstore, ms_astore, ms_iinc, ms_iadd, ms_isub, ms_imul, ms_idiv, ms_irem, ms_ineg, ms_iand, ms_ior, ms_ishr, ms_iushr, ms_i2b, ms_i2c, ms_i2l, ms_ladd, ms_lmul, ms_lcmp, ms_i2d, ms_ddiv, ms_dcmp, ms_dup, ms_pop, ms_dup2, ms_goto, ms_ifCond, ms_if_icmp, ms_if_acmp_eq, ms_if_acmp_ne, ms_tableswitch, ms_lookupswitch, ms_getfield, ms_putfield, ms_arraylength, ms_iaload, ms_baload, ms_laload, ms_aaload, ms_iastore, ms_bastore, ms_lastore, ms_aastore, ms_newarray, ms_new, ms_anewarray, ms_multianewarray, ms_invokevirtual, ms_invokestatic, ms_invokespecial, ms_invokedynamic_0, ms_invokedynamic_1, ms_invokedynamic_2, ms_invokedynamic_3, ms_invokedynamic_4, ms_invokedynamic_5, ms_ireturn, ms_lreturn, ms_dreturn, ms_areturn, ms_return_, Wp_cons, WSC_nx, WSC_cl, WSC_rt, WSC_th, WSC_if, lg, lset, lfree, wide, isRf, isRT, fitK, hgt, margs, mpad, rcv, rdF, rdN, rdI, rdQ, mC_eq, mC_ne, mC_lt, mC_ge, mC_gt, mC_le, mset, mnew, h_fst, h_snd, lt_drop0, List.drop_succ_cons, List.drop_zero, List.drop_nil, List.take_succ_cons, List.take_zero, List.reverse_cons, List.reverse_nil, List.nil_append, List.cons_append, List.append_nil, List.length_cons, List.length_nil, List.getElem?_cons_succ, List.getElem?_cons_zero, List.set_cons_succ, List.set_cons_zero, List.replicate, Option.toList, reduceIte, Bool.not_false, Bool.not_true, Nat.reduceLT, Nat.reduceLeDiff, Nat.reduceAdd, Nat.reduceSub, Nat.reduceMul, Int.reduceLT, Int.reduceLE, Int.reduceNeg, Int.reduceAdd, Int.reduceSub, Int.reduceMul, Int.reduceEq, and_self, true_and, and_true, false_and, and_false, or_false, false_or, true_or, or_true, not_true_eq_false, not_false_eq_true, Bool.false_eq_true, Bool.true_eq_false, decide_true, decide_false, decide_eq_true_eq, Nat.le_refl, Nat.zero_le, ge_iff_le, gt_iff_lt, Nat.lt_irrefl, reduceCtorEq, if_posD, if_negD, w32_id, Int.toNat_natCast, WCo_in, mUp_self, mUp_ne, ne_eq, Bool.true_and, Bool.and_true, Bool.false_and, Bool.and_false, Bool.true_or, Bool.or_true, Bool.false_or, Bool.or_false, Nat.reduceEqDiff, Int.cast_ofNat_Int, Int.reduceToNat, List.getD_cons_succ, List.getD_cons_zero, eq_self, swL, if_true, if_false, qX12_net_6, MX11_length, MX12_nextOfNet, GG1, os, es, e7, e8, b1, b2, hNt_147, hNt_148, hNt_150, hNt_K, hNt_N, ja, jb, hab2, w4, w5, w6, cl x, et]
        exact hin
  have b2 : ∀ (N K : Nat → Int) (J : Nat → Int), (∀ i, i < 10 → J i = (i : Int)) → (∀ r, r < 14 → N r = 0 ∧ K r = 0) → Wp (GG L xs fm) 3 BX12_net (BX12_net 4) [qR 107, qR ob, qI 0, qI 14, qU, qU, qU] [] (hNt h J N K) Post := by
    intro N K J hJ hNK
    have := main (srt (roG c fr to mi wo bt) c) [] J N K qU qU qU rfl rfl rfl rfl (fun i hi => ⟨hJ i hi, hi⟩) (fun r hr => (hNK r hr).1) (fun r hr => by
      rw [(hNK r hr).2]
      rfl)
    have hl0 : ∀ r, r < c → K r = bI (decide (r ∈ ([] : List Nat))) := fun r hr => by
      rw [(hNK r (by omega)).2]
      rfl
    simp (disch := omega) only [ms_sipush, ms_lconst, ms_ldc2_w, ms_dconst, ms_ldc, ms_getstatic, ms_iload, ms_lload, ms_dload, ms_aload, ms_istore, ms_lstore, ms_dstore, ms_astore, ms_iinc, ms_iadd, ms_isub, ms_imul, ms_idiv, ms_irem, ms_ineg, ms_iand, ms_ior, ms_ishr, ms_iushr, ms_i2b, ms_i2c, ms_i2l, ms_ladd, ms_lmul, ms_lcmp, ms_i2d, ms_ddiv, ms_dcmp, ms_dup, ms_pop, ms_dup2, ms_goto, ms_ifCond, ms_if_icmp, ms_if_acmp_eq, ms_if_acmp_ne, ms_tableswitch, ms_lookupswitch, ms_getfield, ms_putfield, ms_arraylength, ms_iaload, ms_baload, ms_laload, ms_aaload, ms_iastore, ms_bastore, ms_lastore, ms_aastore, ms_newarray, ms_new, ms_anewarray, ms_multianewarray, ms_invokevirtual, ms_invokestatic, ms_invokespecial, ms_invokedynamic_0, ms_invokedynamic_1, ms_invokedynamic_2, ms_invokedynamic_3, ms_invokedynamic_4, ms_invokedynamic_5, ms_ireturn, ms_lreturn, ms_dreturn, ms_areturn, ms_return_, Wp_cons, WSC_nx, WSC_cl, WSC_rt, WSC_th, WSC_if, lg, lset, lfree, wide, isRf, isRT, fitK, hgt, margs, mpad, rcv, rdF, rdN, rdI, rdQ, mC_eq, mC_ne, mC_lt, mC_ge, mC_gt, mC_le, mset, mnew, h_fst, h_snd, lt_drop0, List.drop_succ_cons, List.drop_zero, List.drop_nil, List.take_succ_cons, List.take_zero, List.reverse_cons, List.reverse_nil, List.nil_append, List.cons_append, List.append_nil, List.length_cons, List.length_nil, List.getElem?_cons_succ, List.getElem?_cons_zero, List.set_cons_succ, List.set_cons_zero, List.replicate, Option.toList, reduceIte, Bool.not_false, Bool.not_true, Nat.reduceLT, Nat.reduceLeDiff, Nat.reduceAdd, Nat.reduceSub, Nat.reduceMul, Int.reduceLT, Int.reduceLE, Int.reduceNeg, Int.reduceAdd, Int.reduceSub, Int.reduceMul, Int.reduceEq, and_self, true_and, and_true, false_and, and_false, or_false, false_or, true_or, or_true, not_true_eq_false, not_false_eq_true, Bool.false_eq_true, Bool.true_eq_false, decide_true, decide_false, decide_eq_true_eq, Nat.le_refl, Nat.zero_le, ge_iff_le, gt_iff_lt, Nat.lt_irrefl, reduceCtorEq, if_posD, if_negD, w32_id, Int.toNat_natCast, WCo_in, mUp_self, mUp_ne, ne_eq, Bool.true_and, Bool.and_true, Bool.false_and, Bool.and_false, Bool.true_or, Bool.or_true, Bool.false_or, Bool.or_false, Nat.reduceEqDiff, Int.cast_ofNat_Int, Int.reduceToNat, List.getD_cons_succ, List.getD_cons_zero, eq_self, swL, if_true, if_false, qX12_net_4, MX11_length, MX12_nextOfNet, GG1, os, cn _ _ _ _ hl0]
    exact this
  have l3 : ∀ (m j : Nat) (J N K : Nat → Int), j + m = 14 → (∀ i, i < 10 → J i = (i : Int)) → (∀ r, r < j → N r = 0 ∧ K r = 0) → Wp (GG L xs fm) 3 BX12_net (BX12_net 3) [qR 107, qR ob, qI 0, qI j, qU, qU, qU] [] (hNt h J N K) Post := by
    intro m
    induction m with
    | zero =>
      intro j J N K hj hJ hNK
      have hj : j = 14 := by omega
      subst hj
      have := b2 N K J hJ hNK
      rw [qX12_net_3]
      simp (disch := omega) only [ms_sipush, ms_lconst, ms_ldc2_w, ms_dconst, ms_ldc, ms_getstatic, ms_iload, ms_lload, ms_dload, ms_aload, ms_istore, ms_lstore, ms_dstore, ms_astore, ms_iinc, ms_iadd, ms_isub, ms_imul, ms_idiv, ms_irem, ms_ineg, ms_iand, ms_ior, ms_ishr, ms_iushr, ms_i2b, ms_i2c, ms_i2l, ms_ladd, ms_lmul, ms_lcmp, ms_i2d, ms_ddiv, ms_dcmp, ms_dup, ms_pop, ms_dup2, ms_goto, ms_ifCond, ms_if_icmp, ms_if_acmp_eq, ms_if_acmp_ne, ms_tableswitch, ms_lookupswitch, ms_getfield, ms_putfield, ms_arraylength, ms_iaload, ms_baload, ms_laload, ms_aaload, ms_iastore, ms_bastore, ms_lastore, ms_aastore, ms_newarray, ms_new, ms_anewarray, ms_multianewarray, ms_invokevirtual, ms_invokestatic, ms_invokespecial, ms_invokedynamic_0, ms_invokedynamic_1, ms_invokedynamic_2, ms_invokedynamic_3, ms_invokedynamic_4, ms_invokedynamic_5, ms_ireturn, ms_lreturn, ms_dreturn, ms_areturn, ms_return_, Wp_cons, WSC_nx, WSC_cl, WSC_rt, WSC_th, WSC_if, lg, lset, lfree, wide, isRf, isRT, fitK, hgt, margs, mpad, rcv, rdF, rdN, rdI, rdQ, mC_eq, mC_ne, mC_lt, mC_ge, mC_gt, mC_le, mset, mnew, h_fst, h_snd, lt_drop0, List.drop_succ_cons, List.drop_zero, List.drop_nil, List.take_succ_cons, List.take_zero, List.reverse_cons, List.reverse_nil, List.nil_append, List.cons_append, List.append_nil, List.length_cons, List.length_nil, List.getElem?_cons_succ, List.getElem?_cons_zero, List.set_cons_succ, List.set_cons_zero, List.replicate, Option.toList, reduceIte, Bool.not_false, Bool.not_true, Nat.reduceLT, Nat.reduceLeDiff, Nat.reduceAdd, Nat.reduceSub, Nat.reduceMul, Int.reduceLT, Int.reduceLE, Int.reduceNeg, Int.reduceAdd, Int.reduceSub, Int.reduceMul, Int.reduceEq, and_self, true_and, and_true, false_and, and_false, or_false, false_or, true_or, or_true, not_true_eq_false, not_false_eq_true, Bool.false_eq_true, Bool.true_eq_false, decide_true, decide_false, decide_eq_true_eq, Nat.le_refl, Nat.zero_le, ge_iff_le, gt_iff_lt, Nat.lt_irrefl, reduceCtorEq, if_posD, if_negD, w32_id, Int.toNat_natCast, WCo_in, mUp_self, mUp_ne, ne_eq, Bool.true_and, Bool.and_true, Bool.false_and, Bool.and_false, Bool.true_or, Bool.or_true, Bool.false_or, Bool.or_false, Nat.reduceEqDiff, Int.cast_ofNat_Int, Int.reduceToNat, List.getD_cons_succ, List.getD_cons_zero, eq_self, swL, if_true, if_false, qX12_net_0, MX11_length, MX12_nextOfNet, GG1]
      exact this
    | succ m ih =>
      intro j J N K hj hJ hNK
      have := ih (j + 1) J (mUp N j 0) (mUp K j 0) (by omega) hJ (fun r hr => by
        by_cases hrj : r = j
        · rw [hrj, mUp_self, mUp_self]
          exact ⟨rfl, rfl⟩
        · rw [mUp_ne hrj, mUp_ne hrj]
          exact hNK r (by omega))
      rw [Int.natCast_add] at this
      rw [qX12_net_3]
      simp (disch := omega) only [ms_sipush, ms_lconst, ms_ldc2_w, ms_dconst, ms_ldc, ms_getstatic, ms_iload, ms_lload, ms_dload, ms_aload, ms_istore, ms_lstore, ms_dstore, ms_astore, ms_iinc, ms_iadd, ms_isub, ms_imul, ms_idiv, ms_irem, ms_ineg, ms_iand, ms_ior, ms_ishr, ms_iushr, ms_i2b, ms_i2c, ms_i2l, ms_ladd, ms_lmul, ms_lcmp, ms_i2d, ms_ddiv, ms_dcmp, ms_dup, ms_pop, ms_dup2, ms_goto, ms_ifCond, ms_if_icmp, ms_if_acmp_eq, ms_if_acmp_ne, ms_tableswitch, ms_lookupswitch, ms_getfield, ms_putfield, ms_arraylength, ms_iaload, ms_baload, ms_laload, ms_aaload, ms_iastore, ms_bastore, ms_lastore, ms_aastore, ms_newarray, ms_new, ms_anewarray, ms_multianewarray, ms_invokevirtual, ms_invokestatic, ms_invokespecial, ms_invokedynamic_0, ms_invokedynamic_1, ms_invokedynamic_2, ms_invokedynamic_3, ms_invokedynamic_4, ms_invokedynamic_5, ms_ireturn, ms_lreturn, ms_dreturn, ms_areturn, ms_return_, Wp_cons, WSC_nx, WSC_cl, WSC_rt, WSC_th, WSC_if, lg, lset, lfree, wide, isRf, isRT, fitK, hgt, margs, mpad, rcv, rdF, rdN, rdI, rdQ, mC_eq, mC_ne, mC_lt, mC_ge, mC_gt, mC_le, mset, mnew, h_fst, h_snd, lt_drop0, List.drop_succ_cons, List.drop_zero, List.drop_nil, List.take_succ_cons, List.take_zero, List.reverse_cons, List.reverse_nil, List.nil_append, List.cons_append, List.append_nil, List.length_cons, List.length_nil, List.getElem?_cons_succ, List.getElem?_cons_zero, List.set_cons_succ, List.set_cons_zero, List.replicate, Option.toList, reduceIte, Bool.not_false, Bool.not_true, Nat.reduceLT, Nat.reduceLeDiff, Nat.reduceAdd, Nat.reduceSub, Nat.reduceMul, Int.reduceLT, Int.reduceLE, Int.reduceNeg, Int.reduceAdd, Int.reduceSub, Int.reduceMul, Int.reduceEq, and_self, true_and, and_true, false_and, and_false, or_false, false_or, true_or, or_true, not_true_eq_false, not_false_eq_true, Bool.false_eq_true, Bool.true_eq_false, decide_true, decide_false, decide_eq_true_eq, Nat.le_refl, Nat.zero_le, ge_iff_le, gt_iff_lt, Nat.lt_irrefl, reduceCtorEq, if_posD, if_negD, w32_id, Int.toNat_natCast, WCo_in, mUp_self, mUp_ne, ne_eq, Bool.true_and, Bool.and_true, Bool.false_and, Bool.and_false, Bool.true_or, Bool.or_true, Bool.false_or, Bool.or_false, Nat.reduceEqDiff, Int.cast_ofNat_Int, Int.reduceToNat, List.getD_cons_succ, List.getD_cons_zero, eq_self, swL, if_true, if_false, qX12_net_0, MX11_length, MX12_nextOfNet, GG1, os, hNt_148, hNt_150, hNt_N, hNt_K]
      exact this
  have l1 : ∀ (m j : Nat) (J N K : Nat → Int), j + m = 10 → (∀ i, i < j → J i = (i : Int)) → Wp (GG L xs fm) 3 BX12_net (BX12_net 1) [qR 107, qR ob, qI 0, qI j, qU, qU, qU] [] (hNt h J N K) Post := by
    intro m
    induction m with
    | zero =>
      intro j J N K hj hJ
      have hj : j = 10 := by omega
      subst hj
      have := l3 14 0 J N K (by omega) hJ (fun r hr => absurd hr (Nat.not_lt_zero _))
      rw [qX12_net_1]
      simp (disch := omega) only [ms_sipush, ms_lconst, ms_ldc2_w, ms_dconst, ms_ldc, ms_getstatic, ms_iload, ms_lload, ms_dload, ms_aload, ms_istore, ms_lstore, ms_dstore, ms_astore, ms_iinc, ms_iadd, ms_isub, ms_imul, ms_idiv, ms_irem, ms_ineg, ms_iand, ms_ior, ms_ishr, ms_iushr, ms_i2b, ms_i2c, ms_i2l, ms_ladd, ms_lmul, ms_lcmp, ms_i2d, ms_ddiv, ms_dcmp, ms_dup, ms_pop, ms_dup2, ms_goto, ms_ifCond, ms_if_icmp, ms_if_acmp_eq, ms_if_acmp_ne, ms_tableswitch, ms_lookupswitch, ms_getfield, ms_putfield, ms_arraylength, ms_iaload, ms_baload, ms_laload, ms_aaload, ms_iastore, ms_bastore, ms_lastore, ms_aastore, ms_newarray, ms_new, ms_anewarray, ms_multianewarray, ms_invokevirtual, ms_invokestatic, ms_invokespecial, ms_invokedynamic_0, ms_invokedynamic_1, ms_invokedynamic_2, ms_invokedynamic_3, ms_invokedynamic_4, ms_invokedynamic_5, ms_ireturn, ms_lreturn, ms_dreturn, ms_areturn, ms_return_, Wp_cons, WSC_nx, WSC_cl, WSC_rt, WSC_th, WSC_if, lg, lset, lfree, wide, isRf, isRT, fitK, hgt, margs, mpad, rcv, rdF, rdN, rdI, rdQ, mC_eq, mC_ne, mC_lt, mC_ge, mC_gt, mC_le, mset, mnew, h_fst, h_snd, lt_drop0, List.drop_succ_cons, List.drop_zero, List.drop_nil, List.take_succ_cons, List.take_zero, List.reverse_cons, List.reverse_nil, List.nil_append, List.cons_append, List.append_nil, List.length_cons, List.length_nil, List.getElem?_cons_succ, List.getElem?_cons_zero, List.set_cons_succ, List.set_cons_zero, List.replicate, Option.toList, reduceIte, Bool.not_false, Bool.not_true, Nat.reduceLT, Nat.reduceLeDiff, Nat.reduceAdd, Nat.reduceSub, Nat.reduceMul, Int.reduceLT, Int.reduceLE, Int.reduceNeg, Int.reduceAdd, Int.reduceSub, Int.reduceMul, Int.reduceEq, and_self, true_and, and_true, false_and, and_false, or_false, false_or, true_or, or_true, not_true_eq_false, not_false_eq_true, Bool.false_eq_true, Bool.true_eq_false, decide_true, decide_false, decide_eq_true_eq, Nat.le_refl, Nat.zero_le, ge_iff_le, gt_iff_lt, Nat.lt_irrefl, reduceCtorEq, if_posD, if_negD, w32_id, Int.toNat_natCast, WCo_in, mUp_self, mUp_ne, ne_eq, Bool.true_and, Bool.and_true, Bool.false_and, Bool.and_false, Bool.true_or, Bool.or_true, Bool.false_or, Bool.or_false, Nat.reduceEqDiff, Int.cast_ofNat_Int, Int.reduceToNat, List.getD_cons_succ, List.getD_cons_zero, eq_self, swL, if_true, if_false, qX12_net_2, MX11_length, MX12_nextOfNet, GG1]
      exact this
    | succ m ih =>
      intro j J N K hj hJ
      have := ih (j + 1) (mUp J j (j : Int)) N K (by omega) (fun i hi => by
        by_cases hij : i = j
        · rw [hij, mUp_self]
        · rw [mUp_ne hij]
          exact hJ i (by omega))
      rw [Int.natCast_add] at this
      rw [qX12_net_1]
      simp (disch := omega) only [ms_sipush, ms_lconst, ms_ldc2_w, ms_dconst, ms_ldc, ms_getstatic, ms_iload, ms_lload, ms_dload, ms_aload, ms_istore, ms_lstore, ms_dstore, ms_astore, ms_iinc, ms_iadd, ms_isub, ms_imul, ms_idiv, ms_irem, ms_ineg, ms_iand, ms_ior, ms_ishr, ms_iushr, ms_i2b, ms_i2c, ms_i2l, ms_ladd, ms_lmul, ms_lcmp, ms_i2d, ms_ddiv, ms_dcmp, ms_dup, ms_pop, ms_dup2, ms_goto, ms_ifCond, ms_if_icmp, ms_if_acmp_eq, ms_if_acmp_ne, ms_tableswitch, ms_lookupswitch, ms_getfield, ms_putfield, ms_arraylength, ms_iaload, ms_baload, ms_laload, ms_aaload, ms_iastore, ms_bastore, ms_lastore, ms_aastore, ms_newarray, ms_new, ms_anewarray, ms_multianewarray, ms_invokevirtual, ms_invokestatic, ms_invokespecial, ms_invokedynamic_0, ms_invokedynamic_1, ms_invokedynamic_2, ms_invokedynamic_3, ms_invokedynamic_4, ms_invokedynamic_5, ms_ireturn, ms_lreturn, ms_dreturn, ms_areturn, ms_return_, Wp_cons, WSC_nx, WSC_cl, WSC_rt, WSC_th, WSC_if, lg, lset, lfree, wide, isRf, isRT, fitK, hgt, margs, mpad, rcv, rdF, rdN, rdI, rdQ, mC_eq, mC_ne, mC_lt, mC_ge, mC_gt, mC_le, mset, mnew, h_fst, h_snd, lt_drop0, List.drop_succ_cons, List.drop_zero, List.drop_nil, List.take_succ_cons, List.take_zero, List.reverse_cons, List.reverse_nil, List.nil_append, List.cons_append, List.append_nil, List.length_cons, List.length_nil, List.getElem?_cons_succ, List.getElem?_cons_zero, List.set_cons_succ, List.set_cons_zero, List.replicate, Option.toList, reduceIte, Bool.not_false, Bool.not_true, Nat.reduceLT, Nat.reduceLeDiff, Nat.reduceAdd, Nat.reduceSub, Nat.reduceMul, Int.reduceLT, Int.reduceLE, Int.reduceNeg, Int.reduceAdd, Int.reduceSub, Int.reduceMul, Int.reduceEq, and_self, true_and, and_true, false_and, and_false, or_false, false_or, true_or, or_true, not_true_eq_false, not_false_eq_true, Bool.false_eq_true, Bool.true_eq_false, decide_true, decide_false, decide_eq_true_eq, Nat.le_refl, Nat.zero_le, ge_iff_le, gt_iff_lt, Nat.lt_irrefl, reduceCtorEq, if_posD, if_negD, w32_id, Int.toNat_natCast, WCo_in, mUp_self, mUp_ne, ne_eq, Bool.true_and, Bool.and_true, Bool.false_and, Bool.and_false, Bool.true_or, Bool.or_true, Bool.false_or, Bool.or_false, Nat.reduceEqDiff, Int.cast_ofNat_Int, Int.reduceToNat, List.getD_cons_succ, List.getD_cons_zero, eq_self, swL, if_true, if_false, qX12_net_2, MX11_length, MX12_nextOfNet, GG1, os, hNt_147, hNt_J]
      exact this
  have := l1 10 0 (W 2) (W 3) (W 5) (by omega) (fun i hi => absurd hi (Nat.not_lt_zero _))
  rw [hNt_self hO] at this
  refine Sp_of MX12_net ?_
  simp (disch := omega) only [ms_sipush, ms_lconst, ms_ldc2_w, ms_dconst, ms_ldc, ms_getstatic, ms_iload, ms_lload, ms_dload, ms_aload, ms_istore, ms_lstore, ms_dstore, ms_astore, ms_iinc, ms_iadd, ms_isub, ms_imul, ms_idiv, ms_irem, ms_ineg, ms_iand, ms_ior, ms_ishr, ms_iushr, ms_i2b, ms_i2c, ms_i2l, ms_ladd, ms_lmul, ms_lcmp, ms_i2d, ms_ddiv, ms_dcmp, ms_dup, ms_pop, ms_dup2, ms_goto, ms_ifCond, ms_if_icmp, ms_if_acmp_eq, ms_if_acmp_ne, ms_tableswitch, ms_lookupswitch, ms_getfield, ms_putfield, ms_arraylength, ms_iaload, ms_baload, ms_laload, ms_aaload, ms_iastore, ms_bastore, ms_lastore, ms_aastore, ms_newarray, ms_new, ms_anewarray, ms_multianewarray, ms_invokevirtual, ms_invokestatic, ms_invokespecial, ms_invokedynamic_0, ms_invokedynamic_1, ms_invokedynamic_2, ms_invokedynamic_3, ms_invokedynamic_4, ms_invokedynamic_5, ms_ireturn, ms_lreturn, ms_dreturn, ms_areturn, ms_return_, Wp_cons, WSC_nx, WSC_cl, WSC_rt, WSC_th, WSC_if, lg, lset, lfree, wide, isRf, isRT, fitK, hgt, margs, mpad, rcv, rdF, rdN, rdI, rdQ, mC_eq, mC_ne, mC_lt, mC_ge, mC_gt, mC_le, mset, mnew, h_fst, h_snd, lt_drop0, List.drop_succ_cons, List.drop_zero, List.drop_nil, List.take_succ_cons, List.take_zero, List.reverse_cons, List.reverse_nil, List.nil_append, List.cons_append, List.append_nil, List.length_cons, List.length_nil, List.getElem?_cons_succ, List.getElem?_cons_zero, List.set_cons_succ, List.set_cons_zero, List.replicate, Option.toList, reduceIte, Bool.not_false, Bool.not_true, Nat.reduceLT, Nat.reduceLeDiff, Nat.reduceAdd, Nat.reduceSub, Nat.reduceMul, Int.reduceLT, Int.reduceLE, Int.reduceNeg, Int.reduceAdd, Int.reduceSub, Int.reduceMul, Int.reduceEq, and_self, true_and, and_true, false_and, and_false, or_false, false_or, true_or, or_true, not_true_eq_false, not_false_eq_true, Bool.false_eq_true, Bool.true_eq_false, decide_true, decide_false, decide_eq_true_eq, Nat.le_refl, Nat.zero_le, ge_iff_le, gt_iff_lt, Nat.lt_irrefl, reduceCtorEq, if_posD, if_negD, w32_id, Int.toNat_natCast, WCo_in, mUp_self, mUp_ne, ne_eq, Bool.true_and, Bool.and_true, Bool.false_and, Bool.and_false, Bool.true_or, Bool.or_true, Bool.false_or, Bool.or_false, Nat.reduceEqDiff, Int.cast_ofNat_Int, Int.reduceToNat, List.getD_cons_succ, List.getD_cons_zero, eq_self, swL, if_true, if_false, qX12_net_0, MX11_length, MX12_nextOfNet, GG1]
  exact this
end NETM
