/-! ===== THE REFERENCE: what is told of taverns, roads, rumours ===== -/
section TOLDM
variable {L : Nat} {xs : Nat → Int} {fm : Bool} {hc hc' : Nat → MC} {h h1 h2 : MH} {sb ob n c u : Nat} {fr to : Nat → Nat} {mi wo hv : Nat → Int} {th sz ea tk dp wk bt : Int} {oo : Nat} {T : Nat → Int} {W : Nat → Nat → Int} {hr ca lo he od : Int} {tn : Nat} {F G : Nat → Nat → Int} {ws : List Wr}
/-- what is left of a way by the roads up to k -/
theorem nx_rng {g : Gr} {a b : Nat} (hg : GrOk g n) (hn : n ≤ 10) : ∀ {k : Nat}, k ≤ gc g → -1 ≤ nxK g a b k ∧ nxK g a b k < 10
  | 0, _ => ⟨Int.le_refl _, by
    show (-1 : Int) < 10
    decide⟩
  | k + 1, hk => by
    obtain ⟨h1, h2⟩ := nx_rng hg hn (a := a) (b := b) (k := k) (by omega)
    obtain ⟨g1, g2, -⟩ := hg k (by omega)
    unfold nxK
    split
    · unfold othE
      split <;> omega
    · exact ⟨h1, h2⟩
theorem nx_up {g : Gr} {a b k : Nat} (h : nxK g a b k ≠ -1) : ∀ m, nxK g a b (k + m) ≠ -1
  | 0 => h
  | m + 1 => by
    have ih := nx_up h m
    show nxK g a b (k + m + 1) ≠ -1
    unfold nxK
    split
    · intro z
      omega
    · exact ih
theorem nx_is {g : Gr} {a b : Nat} (hg : GrOk g n) (ha : a < n) (hb : b < n) (hab : a ≠ b) (hd : dst g a b ≠ -1) : nxK g a b (gc g) ≠ -1 := by
  rcases dst_sp hg ha hb with ⟨h1, -⟩ | ⟨h1, h2, h3⟩
  · exact absurd h1 hd
  rcases h2.sym.last with ⟨h4, -⟩ | ⟨r, x, hr, hu, hx, hc⟩
  · exact absurd h4 hab
  have key : ∀ o : Nat, o < n → othE g a r = o → (gf g r = a ∨ gt g r = a) → Wk g b o x → Wk g a o (0 + gl g r) → nxK g a b (gc g) ≠ -1 := by
    intro o ho hoe hft hw hao
    have hdo : dst g o b = x := by
      rcases dst_sp hg ho hb with ⟨q1, q2⟩ | ⟨q1, q2, q3⟩
      · exact absurd hw.sym (q2 x)
      · have := q3 x hw.sym
        have := h3 _ (hao.tr q2)
        omega
    have hx0 := hw.nn hg
    have h1 : nxK g a b (r + 1) ≠ -1 := by
      by_cases hk : nxK g a b r = -1
      · have hc5 : gu g r = true ∧ (gf g r = a ∨ gt g r = a) ∧ dst g (othE g a r) b ≠ -1 ∧ gl g r + dst g (othE g a r) b = dst g a b ∧ (nxK g a b r = -1 ∨ (othE g a r : Int) < nxK g a b r) := by
          rw [hoe, hdo]
          exact ⟨hu, hft, by omega, by omega, Or.inl hk⟩
        show (if _ then ((othE g a r : Nat) : Int) else nxK g a b r) ≠ -1
        rw [if_pos hc5]
        omega
      · exact nx_up hk 1
    have := nx_up h1 (gc g - (r + 1))
    rw [show r + 1 + (gc g - (r + 1)) = gc g by omega] at this
    exact this
  obtain ⟨g1, g2, g3, -⟩ := hg r hr
  rcases hc with ⟨hw, rfl⟩ | ⟨hw, rfl⟩
  · exact key (gf g r) g1 (by unfold othE; rw [if_neg g3]) (Or.inr rfl) hw (Wk.s2 Wk.z hr hu)
  · exact key (gt g r) g2 (by unfold othE; rw [if_pos rfl]) (Or.inl rfl) hw (Wk.s1 Wk.z hr hu)
theorem m_step (hO : MoA h.1 th sz ea tk dp sb wk oo (-1) T W) (hM : MRd h.1 sb 125 n c fr to mi wo) (hR : RdOk n c fr to mi wo) (hsb : sb = 109 ∨ 151 ≤ sb) {a b : Nat} (ha : a < n) (hb : b < n) : Sp (GG L xs fm) 3 mX12_stepTold [qR 107, qI a, qI b] h (fun v h2 => v = .inl (some (qI (nextT (roG c fr to mi wo (-1)) a b))) ∧ Ro th sz ea tk dp sb wk oo (-1) T h h2) := by
  have hg : GrOk (roG c fr to mi wo (-1)) n := hR.gr
  have hn := hR.1
  have hcc := hR.2.1
  have o0 := hO.1
  refine Sp_of MX12_stepTold ?_
  by_cases hab : a = b
  · subst hab
    unfold nextT
    rw [if_pos rfl]
    simp (disch := omega) only [ms_sipush, ms_lconst, ms_ldc2_w, ms_dconst, ms_ldc, ms_getstatic, ms_iload, ms_lload, ms_dload, ms_aload, ms_istore, ms_lstore, ms_dstore, ms_astore, ms_iinc, ms_iadd, ms_isub, ms_imul, ms_idiv, ms_irem, ms_ineg, ms_iand, ms_ior, ms_ishr, ms_iushr, ms_i2b, ms_i2c, ms_i2l, ms_ladd, ms_lmul, ms_lcmp, ms_i2d, ms_ddiv, ms_dcmp, ms_dup, ms_pop, ms_dup2, ms_goto, ms_ifCond, ms_if_icmp, ms_if_acmp_eq, ms_if_acmp_ne, ms_tableswitch, ms_lookupswitch, ms_getfield, ms_putfield, ms_arraylength, ms_iaload, ms_baload, ms_laload, ms_aaload, ms_iastore, ms_bastore, ms_lastore, ms_aastore, ms_newarray, ms_new, ms_anewarray, ms_multianewarray, ms_invokevirtual, ms_invokestatic, ms_invokespecial, ms_invokedynamic_0, ms_invokedynamic_1, ms_invokedynamic_2, ms_invokedynamic_3, ms_invokedynamic_4, ms_invokedynamic_5, ms_ireturn, ms_lreturn, ms_dreturn, ms_areturn, ms_return_, Wp_cons, WSC_nx, WSC_cl, WSC_rt, WSC_th, WSC_if, lg, lset, lfree, wide, isRf, isRT, fitK, hgt, margs, mpad, rcv, rdF, rdN, rdI, rdQ, mC_eq, mC_ne, mC_lt, mC_ge, mC_gt, mC_le, mset, mnew, h_fst, h_snd, lt_drop0, List.drop_succ_cons, List.drop_zero, List.drop_nil, List.take_succ_cons, List.take_zero, List.reverse_cons, List.reverse_nil, List.nil_append, List.cons_append, List.append_nil, List.length_cons, List.length_nil, List.getElem?_cons_succ, List.getElem?_cons_zero, List.set_cons_succ, List.set_cons_zero, List.replicate, Option.toList, reduceIte, Bool.not_false, Bool.not_true, Nat.reduceLT, Nat.reduceLeDiff, Nat.reduceAdd, Nat.reduceSub, Nat.reduceMul, Int.reduceLT, Int.reduceLE, Int.reduceNeg, Int.reduceAdd, Int.reduceSub, Int.reduceMul, Int.reduceEq, and_self, true_and, and_true, false_and, and_false, or_false, false_or, true_or, or_true, not_true_eq_false, not_false_eq_true, Bool.false_eq_true, Bool.true_eq_false, decide_true, decide_false, decide_eq_true_eq, Nat.le_refl, Nat.zero_le, ge_iff_le, gt_iff_lt, Nat.lt_irrefl, reduceCtorEq, if_posD, if_negD, w32_id, Int.toNat_natCast, WCo_in, mUp_self, mUp_ne, ne_eq, Bool.true_and, Bool.and_true, Bool.false_and, Bool.and_false, Bool.true_or, Bool.or_true, Bool.false_or, Bool.or_false, Nat.reduceEqDiff, Int.cast_ofNat_Int, Int.reduceToNat, List.getD_cons_succ, List.getD_cons_zero, eq_self, swL, if_true, if_false, qX12_stepTold_0, MX11_isOpen, MX11_length, MX12_look, GG1]
    exact Ro.rf hO
  have hnx : nextT (roG c fr to mi wo (-1)) a b = if dst (roG c fr to mi wo (-1)) a b = -1 then -1 else nxK (roG c fr to mi wo (-1)) a b c := by
    unfold nextT
    rw [if_neg hab]
    rfl
  rw [hnx]
  have hab2 : ¬ ((a : Nat) : Int) = (b : Int) := by omega
  simp (disch := omega) only [ms_sipush, ms_lconst, ms_ldc2_w, ms_dconst, ms_ldc, ms_getstatic, ms_iload, ms_lload, ms_dload, ms_aload, ms_istore, ms_lstore, ms_dstore, ms_astore, ms_iinc, ms_iadd, ms_isub, ms_imul, ms_idiv, ms_irem, ms_ineg, ms_iand, ms_ior, ms_ishr, ms_iushr, ms_i2b, ms_i2c, ms_i2l, ms_ladd, ms_lmul, ms_lcmp, ms_i2d, ms_ddiv, ms_dcmp, ms_dup, ms_pop, ms_dup2, ms_goto, ms_ifCond, ms_if_icmp, ms_if_acmp_eq, ms_if_acmp_ne, ms_tableswitch, ms_lookupswitch, ms_getfield, ms_putfield, ms_arraylength, ms_iaload, ms_baload, ms_laload, ms_aaload, ms_iastore, ms_bastore, ms_lastore, ms_aastore, ms_newarray, ms_new, ms_anewarray, ms_multianewarray, ms_invokevirtual, ms_invokestatic, ms_invokespecial, ms_invokedynamic_0, ms_invokedynamic_1, ms_invokedynamic_2, ms_invokedynamic_3, ms_invokedynamic_4, ms_invokedynamic_5, ms_ireturn, ms_lreturn, ms_dreturn, ms_areturn, ms_return_, Wp_cons, WSC_nx, WSC_cl, WSC_rt, WSC_th, WSC_if, lg, lset, lfree, wide, isRf, isRT, fitK, hgt, margs, mpad, rcv, rdF, rdN, rdI, rdQ, mC_eq, mC_ne, mC_lt, mC_ge, mC_gt, mC_le, mset, mnew, h_fst, h_snd, lt_drop0, List.drop_succ_cons, List.drop_zero, List.drop_nil, List.take_succ_cons, List.take_zero, List.reverse_cons, List.reverse_nil, List.nil_append, List.cons_append, List.append_nil, List.length_cons, List.length_nil, List.getElem?_cons_succ, List.getElem?_cons_zero, List.set_cons_succ, List.set_cons_zero, List.replicate, Option.toList, reduceIte, Bool.not_false, Bool.not_true, Nat.reduceLT, Nat.reduceLeDiff, Nat.reduceAdd, Nat.reduceSub, Nat.reduceMul, Int.reduceLT, Int.reduceLE, Int.reduceNeg, Int.reduceAdd, Int.reduceSub, Int.reduceMul, Int.reduceEq, and_self, true_and, and_true, false_and, and_false, or_false, false_or, true_or, or_true, not_true_eq_false, not_false_eq_true, Bool.false_eq_true, Bool.true_eq_false, decide_true, decide_false, decide_eq_true_eq, Nat.le_refl, Nat.zero_le, ge_iff_le, gt_iff_lt, Nat.lt_irrefl, reduceCtorEq, if_posD, if_negD, w32_id, Int.toNat_natCast, WCo_in, mUp_self, mUp_ne, ne_eq, Bool.true_and, Bool.and_true, Bool.false_and, Bool.and_false, Bool.true_or, Bool.or_true, Bool.false_or, Bool.or_false, Nat.reduceEqDiff, Int.cast_ofNat_Int, Int.reduceToNat, List.getD_cons_succ, List.getD_cons_zero, eq_self, swL, if_true, if_false, qX12_stepTold_0, qX12_stepTold_1, MX11_isOpen, MX11_length, MX12_look, GG1, o0, hab2]
  refine WCl_of (m_look hO hM hR (by omega) (Or.inl rfl) hb) (by omega) (fun v h2 hv => ?_)
  obtain ⟨rfl, f, rfl, hf⟩ := hv
  have hfa : f a = dst (roG c fr to mi wo (-1)) a b := by
    rw [hf a ha]
    exact dst_sy hg hb ha
  have hO2 := hO.w (f := f)
  have hM2 : MRd (mUp h.1 145 (cI .int 10 f)) sb 125 n c fr to mi wo := hM.w (by omega) (by omega)
  have o2 : mUp h.1 145 (cI .int 10 f) 107 = _ := hO2.1
  by_cases hd : dst (roG c fr to mi wo (-1)) a b = -1
  · rw [if_pos hd]
    rw [hd] at hfa
    simp (disch := omega) only [ms_sipush, ms_lconst, ms_ldc2_w, ms_dconst, ms_ldc, ms_getstatic, ms_iload, ms_lload, ms_dload, ms_aload, ms_istore, ms_lstore, ms_dstore, ms_astore, ms_iinc, ms_iadd, ms_isub, ms_imul, ms_idiv, ms_irem, ms_ineg, ms_iand, ms_ior, ms_ishr, ms_iushr, ms_i2b, ms_i2c, ms_i2l, ms_ladd, ms_lmul, ms_lcmp, ms_i2d, ms_ddiv, ms_dcmp, ms_dup, ms_pop, ms_dup2, ms_goto, ms_ifCond, ms_if_icmp, ms_if_acmp_eq, ms_if_acmp_ne, ms_tableswitch, ms_lookupswitch, ms_getfield, ms_putfield, ms_arraylength, ms_iaload, ms_baload, ms_laload, ms_aaload, ms_iastore, ms_bastore, ms_lastore, ms_aastore, ms_newarray, ms_new, ms_anewarray, ms_multianewarray, ms_invokevirtual, ms_invokestatic, ms_invokespecial, ms_invokedynamic_0, ms_invokedynamic_1, ms_invokedynamic_2, ms_invokedynamic_3, ms_invokedynamic_4, ms_invokedynamic_5, ms_ireturn, ms_lreturn, ms_dreturn, ms_areturn, ms_return_, Wp_cons, WSC_nx, WSC_cl, WSC_rt, WSC_th, WSC_if, lg, lset, lfree, wide, isRf, isRT, fitK, hgt, margs, mpad, rcv, rdF, rdN, rdI, rdQ, mC_eq, mC_ne, mC_lt, mC_ge, mC_gt, mC_le, mset, mnew, h_fst, h_snd, lt_drop0, List.drop_succ_cons, List.drop_zero, List.drop_nil, List.take_succ_cons, List.take_zero, List.reverse_cons, List.reverse_nil, List.nil_append, List.cons_append, List.append_nil, List.length_cons, List.length_nil, List.getElem?_cons_succ, List.getElem?_cons_zero, List.set_cons_succ, List.set_cons_zero, List.replicate, Option.toList, reduceIte, Bool.not_false, Bool.not_true, Nat.reduceLT, Nat.reduceLeDiff, Nat.reduceAdd, Nat.reduceSub, Nat.reduceMul, Int.reduceLT, Int.reduceLE, Int.reduceNeg, Int.reduceAdd, Int.reduceSub, Int.reduceMul, Int.reduceEq, and_self, true_and, and_true, false_and, and_false, or_false, false_or, true_or, or_true, not_true_eq_false, not_false_eq_true, Bool.false_eq_true, Bool.true_eq_false, decide_true, decide_false, decide_eq_true_eq, Nat.le_refl, Nat.zero_le, ge_iff_le, gt_iff_lt, Nat.lt_irrefl, reduceCtorEq, if_posD, if_negD, w32_id, Int.toNat_natCast, WCo_in, mUp_self, mUp_ne, ne_eq, Bool.true_and, Bool.and_true, Bool.false_and, Bool.and_false, Bool.true_or, Bool.or_true, Bool.false_or, Bool.or_false, Nat.reduceEqDiff, Int.cast_ofNat_Int, Int.reduceToNat, List.getD_cons_succ, List.getD_cons_zero, eq_self, swL, if_true, if_false, qX12_stepTold_1, MX11_isOpen, MX11_length, MX12_look, GG1, o0, hfa]
    exact Ro.w hO
  have hne : nxK (roG c fr to mi wo (-1)) a b c ≠ -1 := nx_is hg ha hb hab hd
  rw [if_neg hd]
  have hMx := hM2
  obtain ⟨od, F, hr', ca, lo, he, tn, G, a1, a2, a3, a4, a5⟩ := hMx
  have es := a1.1
  have e5 := a1.2 5 6 rfl
  have e7 := a1.2 7 14 rfl
  have e8 := a1.2 8 14 rfl
  have et := a2.1
  have e145 : mUp h.1 145 (cI .int 10 f) 145 = cI .int 10 f := mUp_self _ _ _
  have co : ∀ (r : Nat) {d : Nat} {B : Nat → List MI} {ex : List Nat} {is : List MI} {ls st : List MV} {Q : (Option MV ⊕ Nat) → MH → Prop}, r < c → wo r < 3 → 0 < d → WCl (GG L xs fm) d B ex is ls 144 [qR 125, qI r] st (mUp h.1 145 (cI .int 10 f), h.2) Q = Wp (GG L xs fm) d B is ls (qI 1 :: st) (mUp h.1 145 (cI .int 10 f), h.2) Q := fun r {d B ex is ls st Q} hr hw hd => WCl_sp (by
    have := m_isOpen (L := L) (xs := xs) (fm := fm) (h := (mUp h.1 145 (cI .int 10 f), h.2)) hM2 hR hr
    rw [if_pos hw] at this
    exact this) hd
  have cn : ∀ (r : Nat) {d : Nat} {B : Nat → List MI} {ex : List Nat} {is : List MI} {ls st : List MV} {Q : (Option MV ⊕ Nat) → MH → Prop}, r < c → ¬ wo r < 3 → 0 < d → WCl (GG L xs fm) d B ex is ls 144 [qR 125, qI r] st (mUp h.1 145 (cI .int 10 f), h.2) Q = Wp (GG L xs fm) d B is ls (qI 0 :: st) (mUp h.1 145 (cI .int 10 f), h.2) Q := fun r {d B ex is ls st Q} hr hw hd => WCl_sp (by
    have := m_isOpen (L := L) (xs := xs) (fm := fm) (h := (mUp h.1 145 (cI .int 10 f), h.2)) hM2 hR hr
    rw [if_neg hw] at this
    exact this) hd
  have cl : ∀ (r : Nat) {d : Nat} {B : Nat → List MI} {ex : List Nat} {is : List MI} {ls st : List MV} {Q : (Option MV ⊕ Nat) → MH → Prop}, r < c → 0 < d → WCl (GG L xs fm) d B ex is ls 145 [qR 125, qI r] st (mUp h.1 145 (cI .int 10 f), h.2) Q = Wp (GG L xs fm) d B is ls (qI (mi r + 2 * wo r) :: st) (mUp h.1 145 (cI .int 10 f), h.2) Q := fun r {d B ex is ls st Q} hr hd => WCl_sp (m_length (h := (mUp h.1 145 (cI .int 10 f), h.2)) hM2 hR hr) hd
  generalize hH : ((mUp h.1 145 (cI .int 10 f), h.2) : MH) = H at *
  have e1 : mUp h.1 145 (cI .int 10 f) = H.1 := by rw [← hH]
  rw [e1] at o2 es e5 e7 e8 et e145
  have hro : Ro th sz ea tk dp sb wk oo (-1) T h H := by
    rw [← hH]
    exact Ro.w hO
  -- the best so far: ten where the class has none
  have loop : ∀ (m j : Nat) (l5 : MV), wide l5 = false → j + m = c → Wp (GG L xs fm) 3 BX12_stepTold (BX12_stepTold 3) [qR 107, qI a, qI b, qI (if nxK (roG c fr to mi wo (-1)) a b j = -1 then 10 else nxK (roG c fr to mi wo (-1)) a b j), qI j, l5] [] H (fun (v : Option MV ⊕ Nat) (h2 : MH) => v = .inl (some (qI (nxK (roG c fr to mi wo (-1)) a b c))) ∧ Ro th sz ea tk dp sb wk oo (-1) T h h2) := by
    intro m
    induction m with
    | zero =>
      intro j l5 w5 hj
      obtain rfl : j = c := by omega
      rw [if_neg hne, qX12_stepTold_3]
      simp (disch := omega) only [ms_sipush, ms_lconst, ms_ldc2_w, ms_dconst, ms_ldc, ms_getstatic, ms_iload, ms_lload, ms_dload, ms_aload, ms_istore, ms_lstore, ms_dstore, ms_astore, ms_iinc, ms_iadd, ms_isub, ms_imul, ms_idiv, ms_irem, ms_ineg, ms_iand, ms_ior, ms_ishr, ms_iushr, ms_i2b, ms_i2c, ms_i2l, ms_ladd, ms_lmul, ms_lcmp, ms_i2d, ms_ddiv, ms_dcmp, ms_dup, ms_pop, ms_dup2, ms_goto, ms_ifCond, ms_if_icmp, ms_if_acmp_eq, ms_if_acmp_ne, ms_tableswitch, ms_lookupswitch, ms_getfield, ms_putfield, ms_arraylength, ms_iaload, ms_baload, ms_laload, ms_aaload, ms_iastore, ms_bastore, ms_lastore, ms_aastore, ms_newarray, ms_new, ms_anewarray, ms_multianewarray, ms_invokevirtual, ms_invokestatic, ms_invokespecial, ms_invokedynamic_0, ms_invokedynamic_1, ms_invokedynamic_2, ms_invokedynamic_3, ms_invokedynamic_4, ms_invokedynamic_5, ms_ireturn, ms_lreturn, ms_dreturn, ms_areturn, ms_return_, Wp_cons, WSC_nx, WSC_cl, WSC_rt, WSC_th, WSC_if, lg, lset, lfree, wide, isRf, isRT, fitK, hgt, margs, mpad, rcv, rdF, rdN, rdI, rdQ, mC_eq, mC_ne, mC_lt, mC_ge, mC_gt, mC_le, mset, mnew, h_fst, h_snd, lt_drop0, List.drop_succ_cons, List.drop_zero, List.drop_nil, List.take_succ_cons, List.take_zero, List.reverse_cons, List.reverse_nil, List.nil_append, List.cons_append, List.append_nil, List.length_cons, List.length_nil, List.getElem?_cons_succ, List.getElem?_cons_zero, List.set_cons_succ, List.set_cons_zero, List.replicate, Option.toList, reduceIte, Bool.not_false, Bool.not_true, Nat.reduceLT, Nat.reduceLeDiff, Nat.reduceAdd, Nat.reduceSub, Nat.reduceMul, Int.reduceLT, Int.reduceLE, Int.reduceNeg, Int.reduceAdd, Int.reduceSub, Int.reduceMul, Int.reduceEq, and_self, true_and, and_true, false_and, and_false, or_false, false_or, true_or, or_true, not_true_eq_false, not_false_eq_true, Bool.false_eq_true, Bool.true_eq_false, decide_true, decide_false, decide_eq_true_eq, Nat.le_refl, Nat.zero_le, ge_iff_le, gt_iff_lt, Nat.lt_irrefl, reduceCtorEq, if_posD, if_negD, w32_id, Int.toNat_natCast, WCo_in, mUp_self, mUp_ne, ne_eq, Bool.true_and, Bool.and_true, Bool.false_and, Bool.and_false, Bool.true_or, Bool.or_true, Bool.false_or, Bool.or_false, Nat.reduceEqDiff, Int.cast_ofNat_Int, Int.reduceToNat, List.getD_cons_succ, List.getD_cons_zero, eq_self, swL, if_true, if_false, qX12_stepTold_8, MX11_isOpen, MX11_length, MX12_look, GG1, o2, es, e5, a4, w5]
      exact hro
    | succ m ih =>
      intro j l5 w5 hj
      have hjc : j < c := by omega
      obtain ⟨b1, b2, b3, b4⟩ := a5 j hjc
      obtain ⟨g1, g2, g3, g4, g5, g6, g7⟩ := hR.2.2 j hjc
      have hrg := nx_rng hg hn (a := a) (b := b) (k := j) (by show j ≤ c; omega)
      have ih := ih (j + 1)
      have hnk : nxK (roG c fr to mi wo (-1)) a b (j + 1) = if gu (roG c fr to mi wo (-1)) j = true ∧ (fr j = a ∨ to j = a) ∧ dst (roG c fr to mi wo (-1)) (othE (roG c fr to mi wo (-1)) a j) b ≠ -1 ∧ (mi j + 2 * wo j) + dst (roG c fr to mi wo (-1)) (othE (roG c fr to mi wo (-1)) a j) b = dst (roG c fr to mi wo (-1)) a b ∧ (nxK (roG c fr to mi wo (-1)) a b j = -1 ∨ (othE (roG c fr to mi wo (-1)) a j : Int) < nxK (roG c fr to mi wo (-1)) a b j) then (othE (roG c fr to mi wo (-1)) a j : Int) else nxK (roG c fr to mi wo (-1)) a b j := rfl
      have hgu : gu (roG c fr to mi wo (-1)) j = true ↔ wo j < 3 := by
        show (decide (wo j < 3) && !decide ((j : Int) = -1)) = true ↔ _
        have : ¬ ((j : Int) = -1) := by omega
        simp [this]
      rw [hnk, Int.natCast_add] at ih
      generalize nxK (roG c fr to mi wo (-1)) a b j = q at ih hrg ⊢
      have hbest : ∀ q : Int, -1 ≤ q ∧ q < 10 → -1 ≤ (if q = -1 then (10 : Int) else q) ∧ (if q = -1 then (10 : Int) else q) ≤ 10 := fun q hq => by
        split <;> omega
      have hb1 := hbest q hrg
      -- a road that leads on from here
      have on : ∀ o : Nat, o < n → othE (roG c fr to mi wo (-1)) a j = o → (fr j = a ∨ to j = a) → Wp (GG L xs fm) 3 BX12_stepTold (BX12_stepTold 6) [qR 107, qI a, qI b, qI (if q = -1 then 10 else q), qI j, l5] [qI o] H (fun (v : Option MV ⊕ Nat) (h2 : MH) => v = .inl (some (qI (nxK (roG c fr to mi wo (-1)) a b c))) ∧ Ro th sz ea tk dp sb wk oo (-1) T h h2) := by
        intro o ho hoe hft
        have hfo : f o = dst (roG c fr to mi wo (-1)) o b := by
          rw [hf o ho]
          exact dst_sy hg hb ho
        have hdo := dst_rng hg hn ho hb
        have hda := dst_rng hg hn ha hb
        have ho1 : ¬ ((o : Nat) : Int) = -1 := by omega
        have hx0 : wo j < 3 → dst (roG c fr to mi wo (-1)) o b ≠ -1 := fun hw => by
          have hu := hgu.mpr hw
          obtain ⟨d1, hd1⟩ := (dst_cn hg ha hb).mp hd
          refine (dst_cn hg ho hb).mpr ?_
          have hoa : ∃ d2, Wk (roG c fr to mi wo (-1)) o a d2 := by
            unfold othE at hoe
            by_cases h7 : gf (roG c fr to mi wo (-1)) j = a
            · rw [if_pos h7] at hoe
              have := Wk.s2 (g := roG c fr to mi wo (-1)) (s := gt (roG c fr to mi wo (-1)) j) Wk.z hjc hu
              rw [hoe, h7] at this
              exact ⟨_, this⟩
            · rw [if_neg h7] at hoe
              have h8 : gt (roG c fr to mi wo (-1)) j = a := hft.resolve_left h7
              have := Wk.s1 (g := roG c fr to mi wo (-1)) (s := gf (roG c fr to mi wo (-1)) j) Wk.z hjc hu
              rw [hoe, h8] at this
              exact ⟨_, this⟩
          obtain ⟨d2, hd2⟩ := hoa
          exact ⟨_, hd2.tr hd1⟩
        rw [hoe] at ih
        have ih := ih (qI o) rfl (by omega)
        generalize dst (roG c fr to mi wo (-1)) o b = x at *
        generalize dst (roG c fr to mi wo (-1)) a b = y at *
        rw [qX12_stepTold_6]
        by_cases hw : wo j < 3
        · by_cases hxy : x + (mi j + 2 * wo j) = y
          · have hx1 := hx0 hw
            have hb2 : (if (if gu (roG c fr to mi wo (-1)) j = true ∧ (fr j = a ∨ to j = a) ∧ x ≠ -1 ∧ mi j + 2 * wo j + x = y ∧ (q = -1 ∨ ((o : Nat) : Int) < q) then ((o : Nat) : Int) else q) = -1 then (10 : Int) else (if gu (roG c fr to mi wo (-1)) j = true ∧ (fr j = a ∨ to j = a) ∧ x ≠ -1 ∧ mi j + 2 * wo j + x = y ∧ (q = -1 ∨ ((o : Nat) : Int) < q) then ((o : Nat) : Int) else q)) = min (if q = -1 then 10 else q) ((o : Nat) : Int) := by
              by_cases hq1 : q = -1
              · have hin : (if gu (roG c fr to mi wo (-1)) j = true ∧ (fr j = a ∨ to j = a) ∧ x ≠ -1 ∧ mi j + 2 * wo j + x = y ∧ (q = -1 ∨ ((o : Nat) : Int) < q) then ((o : Nat) : Int) else q) = ((o : Nat) : Int) := if_pos ⟨hgu.mpr hw, hft, hx1, by omega, Or.inl hq1⟩
                rw [hin, if_neg ho1, if_pos hq1]
                omega
              · rw [if_neg hq1]
                by_cases hoq : ((o : Nat) : Int) < q
                · have hin : (if gu (roG c fr to mi wo (-1)) j = true ∧ (fr j = a ∨ to j = a) ∧ x ≠ -1 ∧ mi j + 2 * wo j + x = y ∧ (q = -1 ∨ ((o : Nat) : Int) < q) then ((o : Nat) : Int) else q) = ((o : Nat) : Int) := if_pos ⟨hgu.mpr hw, hft, hx1, by omega, Or.inr hoq⟩
                  rw [hin, if_neg ho1]
                  omega
                · have hin : (if gu (roG c fr to mi wo (-1)) j = true ∧ (fr j = a ∨ to j = a) ∧ x ≠ -1 ∧ mi j + 2 * wo j + x = y ∧ (q = -1 ∨ ((o : Nat) : Int) < q) then ((o : Nat) : Int) else q) = q := if_neg (fun z => by have := z.2.2.2.2; omega)
                  rw [hin, if_neg hq1]
                  omega
            rw [hb2] at ih
            simp (disch := omega) only [ms_sipush, ms_lconst, ms_ldc2_w, ms_dconst, ms_ldc, ms_getstatic, ms_iload, ms_lload, ms_dload, ms_aload, ms_istore, ms_lstore, ms_dstore, ms_astore, ms_iinc, ms_iadd, ms_isub, ms_imul, ms_idiv, ms_irem, ms_ineg, ms_iand, ms_ior, ms_ishr, ms_iushr, ms_i2b, ms_i2c, ms_i2l, ms_ladd, ms_lmul, ms_lcmp, ms_i2d, ms_ddiv, ms_dcmp, ms_dup, ms_pop, ms_dup2, ms_goto, ms_ifCond, ms_if_icmp, ms_if_acmp_eq, ms_if_acmp_ne, ms_tableswitch, ms_lookupswitch, ms_getfield, ms_putfield, ms_arraylength, ms_iaload, ms_baload, ms_laload, ms_aaload, ms_iastore, ms_bastore, ms_lastore, ms_aastore, ms_newarray, ms_new, ms_anewarray, ms_multianewarray, ms_invokevirtual, ms_invokestatic, ms_invokespecial, ms_invokedynamic_0, ms_invokedynamic_1, ms_invokedynamic_2, ms_invokedynamic_3, ms_invokedynamic_4, ms_invokedynamic_5, ms_ireturn, ms_lreturn, ms_dreturn, ms_areturn, ms_return_, Wp_cons, WSC_nx, WSC_cl, WSC_rt, WSC_th, WSC_if, lg, lset, lfree, wide, isRf, isRT, fitK, hgt, margs, mpad, rcv, rdF, rdN, rdI, rdQ, mC_eq, mC_ne, mC_lt, mC_ge, mC_gt, mC_le, mset, mnew, h_fst, h_snd, lt_drop0, List.drop_succ_cons, List.drop_zero, List.drop_nil, List.take_succ_cons, List.take_zero, List.reverse_cons, List.reverse_nil, List.nil_append, List.cons_append, List.append_nil, List.length_cons, List.length_nil, List.getElem?_cons_succ, List.getElem?_cons_zero, List.set_cons_succ, List.set_cons_zero, List.replicate, Option.toList, reduceIte, Bool.not_false, Bool.not_true, Nat.reduceLT, Nat.reduceLeDiff, Nat.reduceAdd, Nat.reduceSub, Nat.reduceMul, Int.reduceLT, Int.reduceLE, Int.reduceNeg, Int.reduceAdd, Int.reduceSub, Int.reduceMul, Int.reduceEq, and_self, true_and, and_true, false_and, and_false, or_false, false_or, true_or, or_true, not_true_eq_false, not_false_eq_true, Bool.false_eq_true, Bool.true_eq_false, decide_true, decide_false, decide_eq_true_eq, Nat.le_refl, Nat.zero_le, ge_iff_le, gt_iff_lt, Nat.lt_irrefl, reduceCtorEq, if_posD, if_negD, w32_id, Int.toNat_natCast, WCo_in, mUp_self, mUp_ne, ne_eq, Bool.true_and, Bool.and_true, Bool.false_and, Bool.and_false, Bool.true_or, Bool.or_true, Bool.false_or, Bool.or_false, Nat.reduceEqDiff, Int.cast_ofNat_Int, Int.reduceToNat, List.getD_cons_succ, List.getD_cons_zero, eq_self, swL, if_true, if_false, qX12_stepTold_7, MX11_isOpen, MX11_length, MX12_look, GG1, o2, e145, hfo, hfa, et, ho1, co, cl, hxy, w5]
            exact ih
          · have hb2 : (if gu (roG c fr to mi wo (-1)) j = true ∧ (fr j = a ∨ to j = a) ∧ x ≠ -1 ∧ mi j + 2 * wo j + x = y ∧ (q = -1 ∨ ((o : Nat) : Int) < q) then ((o : Nat) : Int) else q) = q := if_neg (fun z => hxy (by have := z.2.2.2.1; omega))
            rw [hb2] at ih
            simp (disch := omega) only [ms_sipush, ms_lconst, ms_ldc2_w, ms_dconst, ms_ldc, ms_getstatic, ms_iload, ms_lload, ms_dload, ms_aload, ms_istore, ms_lstore, ms_dstore, ms_astore, ms_iinc, ms_iadd, ms_isub, ms_imul, ms_idiv, ms_irem, ms_ineg, ms_iand, ms_ior, ms_ishr, ms_iushr, ms_i2b, ms_i2c, ms_i2l, ms_ladd, ms_lmul, ms_lcmp, ms_i2d, ms_ddiv, ms_dcmp, ms_dup, ms_pop, ms_dup2, ms_goto, ms_ifCond, ms_if_icmp, ms_if_acmp_eq, ms_if_acmp_ne, ms_tableswitch, ms_lookupswitch, ms_getfield, ms_putfield, ms_arraylength, ms_iaload, ms_baload, ms_laload, ms_aaload, ms_iastore, ms_bastore, ms_lastore, ms_aastore, ms_newarray, ms_new, ms_anewarray, ms_multianewarray, ms_invokevirtual, ms_invokestatic, ms_invokespecial, ms_invokedynamic_0, ms_invokedynamic_1, ms_invokedynamic_2, ms_invokedynamic_3, ms_invokedynamic_4, ms_invokedynamic_5, ms_ireturn, ms_lreturn, ms_dreturn, ms_areturn, ms_return_, Wp_cons, WSC_nx, WSC_cl, WSC_rt, WSC_th, WSC_if, lg, lset, lfree, wide, isRf, isRT, fitK, hgt, margs, mpad, rcv, rdF, rdN, rdI, rdQ, mC_eq, mC_ne, mC_lt, mC_ge, mC_gt, mC_le, mset, mnew, h_fst, h_snd, lt_drop0, List.drop_succ_cons, List.drop_zero, List.drop_nil, List.take_succ_cons, List.take_zero, List.reverse_cons, List.reverse_nil, List.nil_append, List.cons_append, List.append_nil, List.length_cons, List.length_nil, List.getElem?_cons_succ, List.getElem?_cons_zero, List.set_cons_succ, List.set_cons_zero, List.replicate, Option.toList, reduceIte, Bool.not_false, Bool.not_true, Nat.reduceLT, Nat.reduceLeDiff, Nat.reduceAdd, Nat.reduceSub, Nat.reduceMul, Int.reduceLT, Int.reduceLE, Int.reduceNeg, Int.reduceAdd, Int.reduceSub, Int.reduceMul, Int.reduceEq, and_self, true_and, and_true, false_and, and_false, or_false, false_or, true_or, or_true, not_true_eq_false, not_false_eq_true, Bool.false_eq_true, Bool.true_eq_false, decide_true, decide_false, decide_eq_true_eq, Nat.le_refl, Nat.zero_le, ge_iff_le, gt_iff_lt, Nat.lt_irrefl, reduceCtorEq, if_posD, if_negD, w32_id, Int.toNat_natCast, WCo_in, mUp_self, mUp_ne, ne_eq, Bool.true_and, Bool.and_true, Bool.false_and, Bool.and_false, Bool.true_or, Bool.or_true, Bool.false_or, Bool.or_false, Nat.reduceEqDiff, Int.cast_ofNat_Int, Int.reduceToNat, List.getD_cons_succ, List.getD_cons_zero, eq_self, swL, if_true, if_false, qX12_stepTold_7, MX11_isOpen, MX11_length, MX12_look, GG1, o2, e145, hfo, hfa, et, ho1, co, cl, hxy, w5]
            exact ih
        · have hb2 : (if gu (roG c fr to mi wo (-1)) j = true ∧ (fr j = a ∨ to j = a) ∧ x ≠ -1 ∧ mi j + 2 * wo j + x = y ∧ (q = -1 ∨ ((o : Nat) : Int) < q) then ((o : Nat) : Int) else q) = q := if_neg (fun z => hw (hgu.mp z.1))
          rw [hb2] at ih
          simp (disch := omega) only [ms_sipush, ms_lconst, ms_ldc2_w, ms_dconst, ms_ldc, ms_getstatic, ms_iload, ms_lload, ms_dload, ms_aload, ms_istore, ms_lstore, ms_dstore, ms_astore, ms_iinc, ms_iadd, ms_isub, ms_imul, ms_idiv, ms_irem, ms_ineg, ms_iand, ms_ior, ms_ishr, ms_iushr, ms_i2b, ms_i2c, ms_i2l, ms_ladd, ms_lmul, ms_lcmp, ms_i2d, ms_ddiv, ms_dcmp, ms_dup, ms_pop, ms_dup2, ms_goto, ms_ifCond, ms_if_icmp, ms_if_acmp_eq, ms_if_acmp_ne, ms_tableswitch, ms_lookupswitch, ms_getfield, ms_putfield, ms_arraylength, ms_iaload, ms_baload, ms_laload, ms_aaload, ms_iastore, ms_bastore, ms_lastore, ms_aastore, ms_newarray, ms_new, ms_anewarray, ms_multianewarray, ms_invokevirtual, ms_invokestatic, ms_invokespecial, ms_invokedynamic_0, ms_invokedynamic_1, ms_invokedynamic_2, ms_invokedynamic_3, ms_invokedynamic_4, ms_invokedynamic_5, ms_ireturn, ms_lreturn, ms_dreturn, ms_areturn, ms_return_, Wp_cons, WSC_nx, WSC_cl, WSC_rt, WSC_th, WSC_if, lg, lset, lfree, wide, isRf, isRT, fitK, hgt, margs, mpad, rcv, rdF, rdN, rdI, rdQ, mC_eq, mC_ne, mC_lt, mC_ge, mC_gt, mC_le, mset, mnew, h_fst, h_snd, lt_drop0, List.drop_succ_cons, List.drop_zero, List.drop_nil, List.take_succ_cons, List.take_zero, List.reverse_cons, List.reverse_nil, List.nil_append, List.cons_append, List.append_nil, List.length_cons, List.length_nil, List.getElem?_cons_succ, List.getElem?_cons_zero, List.set_cons_succ, List.set_cons_zero, List.replicate, Option.toList, reduceIte, Bool.not_false, Bool.not_true, Nat.reduceLT, Nat.reduceLeDiff, Nat.reduceAdd, Nat.reduceSub, Nat.reduceMul, Int.reduceLT, Int.reduceLE, Int.reduceNeg, Int.reduceAdd, Int.reduceSub, Int.reduceMul, Int.reduceEq, and_self, true_and, and_true, false_and, and_false, or_false, false_or, true_or, or_true, not_true_eq_false, not_false_eq_true, Bool.false_eq_true, Bool.true_eq_false, decide_true, decide_false, decide_eq_true_eq, Nat.le_refl, Nat.zero_le, ge_iff_le, gt_iff_lt, Nat.lt_irrefl, reduceCtorEq, if_posD, if_negD, w32_id, Int.toNat_natCast, WCo_in, mUp_self, mUp_ne, ne_eq, Bool.true_and, Bool.and_true, Bool.false_and, Bool.and_false, Bool.true_or, Bool.or_true, Bool.false_or, Bool.or_false, Nat.reduceEqDiff, Int.cast_ofNat_Int, Int.reduceToNat, List.getD_cons_succ, List.getD_cons_zero, eq_self, swL, if_true, if_false, qX12_stepTold_7, MX11_isOpen, MX11_length, MX12_look, GG1, o2, ho1, et, cn, w5]
          exact ih
      by_cases hfa2 : fr j = a
      · have := on (to j) g2 (by
          unfold othE
          rw [if_pos (show gf (roG c fr to mi wo (-1)) j = a from hfa2)]
          rfl) (Or.inl hfa2)
        have hf7 : F 7 j = (a : Int) := by rw [b1, hfa2]
        rw [qX12_stepTold_3]
        simp (disch := omega) only [ms_sipush, ms_lconst, ms_ldc2_w, ms_dconst, ms_ldc, ms_getstatic, ms_iload, ms_lload, ms_dload, ms_aload, ms_istore, ms_lstore, ms_dstore, ms_astore, ms_iinc, ms_iadd, ms_isub, ms_imul, ms_idiv, ms_irem, ms_ineg, ms_iand, ms_ior, ms_ishr, ms_iushr, ms_i2b, ms_i2c, ms_i2l, ms_ladd, ms_lmul, ms_lcmp, ms_i2d, ms_ddiv, ms_dcmp, ms_dup, ms_pop, ms_dup2, ms_goto, ms_ifCond, ms_if_icmp, ms_if_acmp_eq, ms_if_acmp_ne, ms_tableswitch, ms_lookupswitch, ms_getfield, ms_putfield, ms_arraylength, ms_iaload, ms_baload, ms_laload, ms_aaload, ms_iastore, ms_bastore, ms_lastore, ms_aastore, ms_newarray, ms_new, ms_anewarray, ms_multianewarray, ms_invokevirtual, ms_invokestatic, ms_invokespecial, ms_invokedynamic_0, ms_invokedynamic_1, ms_invokedynamic_2, ms_invokedynamic_3, ms_invokedynamic_4, ms_invokedynamic_5, ms_ireturn, ms_lreturn, ms_dreturn, ms_areturn, ms_return_, Wp_cons, WSC_nx, WSC_cl, WSC_rt, WSC_th, WSC_if, lg, lset, lfree, wide, isRf, isRT, fitK, hgt, margs, mpad, rcv, rdF, rdN, rdI, rdQ, mC_eq, mC_ne, mC_lt, mC_ge, mC_gt, mC_le, mset, mnew, h_fst, h_snd, lt_drop0, List.drop_succ_cons, List.drop_zero, List.drop_nil, List.take_succ_cons, List.take_zero, List.reverse_cons, List.reverse_nil, List.nil_append, List.cons_append, List.append_nil, List.length_cons, List.length_nil, List.getElem?_cons_succ, List.getElem?_cons_zero, List.set_cons_succ, List.set_cons_zero, List.replicate, Option.toList, reduceIte, Bool.not_false, Bool.not_true, Nat.reduceLT, Nat.reduceLeDiff, Nat.reduceAdd, Nat.reduceSub, Nat.reduceMul, Int.reduceLT, Int.reduceLE, Int.reduceNeg, Int.reduceAdd, Int.reduceSub, Int.reduceMul, Int.reduceEq, and_self, true_and, and_true, false_and, and_false, or_false, false_or, true_or, or_true, not_true_eq_false, not_false_eq_true, Bool.false_eq_true, Bool.true_eq_false, decide_true, decide_false, decide_eq_true_eq, Nat.le_refl, Nat.zero_le, ge_iff_le, gt_iff_lt, Nat.lt_irrefl, reduceCtorEq, if_posD, if_negD, w32_id, Int.toNat_natCast, WCo_in, mUp_self, mUp_ne, ne_eq, Bool.true_and, Bool.and_true, Bool.false_and, Bool.and_false, Bool.true_or, Bool.or_true, Bool.false_or, Bool.or_false, Nat.reduceEqDiff, Int.cast_ofNat_Int, Int.reduceToNat, List.getD_cons_succ, List.getD_cons_zero, eq_self, swL, if_true, if_false, qX12_stepTold_4, MX11_isOpen, MX11_length, MX12_look, GG1, o2, es, e5, e7, e8, a4, hf7, b2, w5]
        exact this
      · have n1 : ¬ ((fr j : Nat) : Int) = (a : Int) := by omega
        by_cases hta : to j = a
        · have := on (fr j) g1 (by
            unfold othE
            rw [if_neg (show ¬ gf (roG c fr to mi wo (-1)) j = a from hfa2)]
            rfl) (Or.inr hta)
          have hf8 : F 8 j = (a : Int) := by rw [b2, hta]
          rw [qX12_stepTold_3]
          simp (disch := omega) only [ms_sipush, ms_lconst, ms_ldc2_w, ms_dconst, ms_ldc, ms_getstatic, ms_iload, ms_lload, ms_dload, ms_aload, ms_istore, ms_lstore, ms_dstore, ms_astore, ms_iinc, ms_iadd, ms_isub, ms_imul, ms_idiv, ms_irem, ms_ineg, ms_iand, ms_ior, ms_ishr, ms_iushr, ms_i2b, ms_i2c, ms_i2l, ms_ladd, ms_lmul, ms_lcmp, ms_i2d, ms_ddiv, ms_dcmp, ms_dup, ms_pop, ms_dup2, ms_goto, ms_ifCond, ms_if_icmp, ms_if_acmp_eq, ms_if_acmp_ne, ms_tableswitch, ms_lookupswitch, ms_getfield, ms_putfield, ms_arraylength, ms_iaload, ms_baload, ms_laload, ms_aaload, ms_iastore, ms_bastore, ms_lastore, ms_aastore, ms_newarray, ms_new, ms_anewarray, ms_multianewarray, ms_invokevirtual, ms_invokestatic, ms_invokespecial, ms_invokedynamic_0, ms_invokedynamic_1, ms_invokedynamic_2, ms_invokedynamic_3, ms_invokedynamic_4, ms_invokedynamic_5, ms_ireturn, ms_lreturn, ms_dreturn, ms_areturn, ms_return_, Wp_cons, WSC_nx, WSC_cl, WSC_rt, WSC_th, WSC_if, lg, lset, lfree, wide, isRf, isRT, fitK, hgt, margs, mpad, rcv, rdF, rdN, rdI, rdQ, mC_eq, mC_ne, mC_lt, mC_ge, mC_gt, mC_le, mset, mnew, h_fst, h_snd, lt_drop0, List.drop_succ_cons, List.drop_zero, List.drop_nil, List.take_succ_cons, List.take_zero, List.reverse_cons, List.reverse_nil, List.nil_append, List.cons_append, List.append_nil, List.length_cons, List.length_nil, List.getElem?_cons_succ, List.getElem?_cons_zero, List.set_cons_succ, List.set_cons_zero, List.replicate, Option.toList, reduceIte, Bool.not_false, Bool.not_true, Nat.reduceLT, Nat.reduceLeDiff, Nat.reduceAdd, Nat.reduceSub, Nat.reduceMul, Int.reduceLT, Int.reduceLE, Int.reduceNeg, Int.reduceAdd, Int.reduceSub, Int.reduceMul, Int.reduceEq, and_self, true_and, and_true, false_and, and_false, or_false, false_or, true_or, or_true, not_true_eq_false, not_false_eq_true, Bool.false_eq_true, Bool.true_eq_false, decide_true, decide_false, decide_eq_true_eq, Nat.le_refl, Nat.zero_le, ge_iff_le, gt_iff_lt, Nat.lt_irrefl, reduceCtorEq, if_posD, if_negD, w32_id, Int.toNat_natCast, WCo_in, mUp_self, mUp_ne, ne_eq, Bool.true_and, Bool.and_true, Bool.false_and, Bool.and_false, Bool.true_or, Bool.or_true, Bool.false_or, Bool.or_false, Nat.reduceEqDiff, Int.cast_ofNat_Int, Int.reduceToNat, List.getD_cons_succ, List.getD_cons_zero, eq_self, swL, if_true, if_false, qX12_stepTold_4, MX11_isOpen, MX11_length, MX12_look, GG1, o2, es, e5, e7, e8, a4, hf8, b1, n1, w5]
          exact this
        · have n2 : ¬ ((to j : Nat) : Int) = (a : Int) := by omega
          have ih := ih (qI (-1)) rfl (by omega)
          have hb2 : (if gu (roG c fr to mi wo (-1)) j = true ∧ (fr j = a ∨ to j = a) ∧ dst (roG c fr to mi wo (-1)) (othE (roG c fr to mi wo (-1)) a j) b ≠ -1 ∧ mi j + 2 * wo j + dst (roG c fr to mi wo (-1)) (othE (roG c fr to mi wo (-1)) a j) b = dst (roG c fr to mi wo (-1)) a b ∧ (q = -1 ∨ (othE (roG c fr to mi wo (-1)) a j : Int) < q) then (othE (roG c fr to mi wo (-1)) a j : Int) else q) = q := if_neg (fun z => by have := z.2.1; omega)
          rw [hb2] at ih
          rw [qX12_stepTold_3]
          simp (disch := omega) only [ms_sipush, ms_lconst, ms_ldc2_w, ms_dconst, ms_ldc, ms_getstatic, ms_iload, ms_lload, ms_dload, ms_aload, ms_istore, ms_lstore, ms_dstore, ms_astore, ms_iinc, ms_iadd, ms_isub, ms_imul, ms_idiv, ms_irem, ms_ineg, ms_iand, ms_ior, ms_ishr, ms_iushr, ms_i2b, ms_i2c, ms_i2l, ms_ladd, ms_lmul, ms_lcmp, ms_i2d, ms_ddiv, ms_dcmp, ms_dup, ms_pop, ms_dup2, ms_goto, ms_ifCond, ms_if_icmp, ms_if_acmp_eq, ms_if_acmp_ne, ms_tableswitch, ms_lookupswitch, ms_getfield, ms_putfield, ms_arraylength, ms_iaload, ms_baload, ms_laload, ms_aaload, ms_iastore, ms_bastore, ms_lastore, ms_aastore, ms_newarray, ms_new, ms_anewarray, ms_multianewarray, ms_invokevirtual, ms_invokestatic, ms_invokespecial, ms_invokedynamic_0, ms_invokedynamic_1, ms_invokedynamic_2, ms_invokedynamic_3, ms_invokedynamic_4, ms_invokedynamic_5, ms_ireturn, ms_lreturn, ms_dreturn, ms_areturn, ms_return_, Wp_cons, WSC_nx, WSC_cl, WSC_rt, WSC_th, WSC_if, lg, lset, lfree, wide, isRf, isRT, fitK, hgt, margs, mpad, rcv, rdF, rdN, rdI, rdQ, mC_eq, mC_ne, mC_lt, mC_ge, mC_gt, mC_le, mset, mnew, h_fst, h_snd, lt_drop0, List.drop_succ_cons, List.drop_zero, List.drop_nil, List.take_succ_cons, List.take_zero, List.reverse_cons, List.reverse_nil, List.nil_append, List.cons_append, List.append_nil, List.length_cons, List.length_nil, List.getElem?_cons_succ, List.getElem?_cons_zero, List.set_cons_succ, List.set_cons_zero, List.replicate, Option.toList, reduceIte, Bool.not_false, Bool.not_true, Nat.reduceLT, Nat.reduceLeDiff, Nat.reduceAdd, Nat.reduceSub, Nat.reduceMul, Int.reduceLT, Int.reduceLE, Int.reduceNeg, Int.reduceAdd, Int.reduceSub, Int.reduceMul, Int.reduceEq, and_self, true_and, and_true, false_and, and_false, or_false, false_or, true_or, or_true, not_true_eq_false, not_false_eq_true, Bool.false_eq_true, Bool.true_eq_false, decide_true, decide_false, decide_eq_true_eq, Nat.le_refl, Nat.zero_le, ge_iff_le, gt_iff_lt, Nat.lt_irrefl, reduceCtorEq, if_posD, if_negD, w32_id, Int.toNat_natCast, WCo_in, mUp_self, mUp_ne, ne_eq, Bool.true_and, Bool.and_true, Bool.false_and, Bool.and_false, Bool.true_or, Bool.or_true, Bool.false_or, Bool.or_false, Nat.reduceEqDiff, Int.cast_ofNat_Int, Int.reduceToNat, List.getD_cons_succ, List.getD_cons_zero, eq_self, swL, if_true, if_false, qX12_stepTold_4, qX12_stepTold_5, qX12_stepTold_6, qX12_stepTold_7, MX11_isOpen, MX11_length, MX12_look, GG1, o2, es, e5, e7, e8, a4, b1, b2, n1, n2, w5]
          exact ih
  have := loop c 0 qU rfl (by omega)
  simp (disch := omega) only [ms_sipush, ms_lconst, ms_ldc2_w, ms_dconst, ms_ldc, ms_getstatic, ms_iload, ms_lload, ms_dload, ms_aload, ms_istore, ms_lstore, ms_dstore, ms_astore, ms_iinc, ms_iadd, ms_isub, ms_imul, ms_idiv, ms_irem, ms_ineg, ms_iand, ms_ior, ms_ishr, ms_iushr, ms_i2b, ms_i2c, ms_i2l, ms_ladd, ms_lmul, ms_lcmp, ms_i2d, ms_ddiv, ms_dcmp, ms_dup, ms_pop, ms_dup2, ms_goto, ms_ifCond, ms_if_icmp, ms_if_acmp_eq, ms_if_acmp_ne, ms_tableswitch, ms_lookupswitch, ms_getfield, ms_putfield, ms_arraylength, ms_iaload, ms_baload, ms_laload, ms_aaload, ms_iastore, ms_bastore, ms_lastore, ms_aastore, ms_newarray, ms_new, ms_anewarray, ms_multianewarray, ms_invokevirtual, ms_invokestatic, ms_invokespecial, ms_invokedynamic_0, ms_invokedynamic_1, ms_invokedynamic_2, ms_invokedynamic_3, ms_invokedynamic_4, ms_invokedynamic_5, ms_ireturn, ms_lreturn, ms_dreturn, ms_areturn, ms_return_, Wp_cons, WSC_nx, WSC_cl, WSC_rt, WSC_th, WSC_if, lg, lset, lfree, wide, isRf, isRT, fitK, hgt, margs, mpad, rcv, rdF, rdN, rdI, rdQ, mC_eq, mC_ne, mC_lt, mC_ge, mC_gt, mC_le, mset, mnew, h_fst, h_snd, lt_drop0, List.drop_succ_cons, List.drop_zero, List.drop_nil, List.take_succ_cons, List.take_zero, List.reverse_cons, List.reverse_nil, List.nil_append, List.cons_append, List.append_nil, List.length_cons, List.length_nil, List.getElem?_cons_succ, List.getElem?_cons_zero, List.set_cons_succ, List.set_cons_zero, List.replicate, Option.toList, reduceIte, Bool.not_false, Bool.not_true, Nat.reduceLT, Nat.reduceLeDiff, Nat.reduceAdd, Nat.reduceSub, Nat.reduceMul, Int.reduceLT, Int.reduceLE, Int.reduceNeg, Int.reduceAdd, Int.reduceSub, Int.reduceMul, Int.reduceEq, and_self, true_and, and_true, false_and, and_false, or_false, false_or, true_or, or_true, not_true_eq_false, not_false_eq_true, Bool.false_eq_true, Bool.true_eq_false, decide_true, decide_false, decide_eq_true_eq, Nat.le_refl, Nat.zero_le, ge_iff_le, gt_iff_lt, Nat.lt_irrefl, reduceCtorEq, if_posD, if_negD, w32_id, Int.toNat_natCast, WCo_in, mUp_self, mUp_ne, ne_eq, Bool.true_and, Bool.and_true, Bool.false_and, Bool.and_false, Bool.true_or, Bool.or_true, Bool.false_or, Bool.or_false, Nat.reduceEqDiff, Int.cast_ofNat_Int, Int.reduceToNat, List.getD_cons_succ, List.getD_cons_zero, eq_self, swL, if_true, if_false, qX12_stepTold_1, qX12_stepTold_2, MX11_isOpen, MX11_length, MX12_look, GG1, o2, e145, hfa, hd]
  exact this
end TOLDM
