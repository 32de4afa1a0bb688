/-! ===== THE REFERENCE RECKONS: values; all levels ===== -/
section EVALV
variable {L : Nat} {xs : Nat → Int} {fm : Bool} {hc hc' : Nat → MC} {h : MH} {sb ob n c u tc : Nat} {fr to : Nat → Nat} {mi wo : Nat → Int} {th sz ea tk dp wk : Int} {oo : Nat} {T : Nat → Int} {W : Nat → Nat → Int} {hr ca lo he od : Int} {tn : Nat} {F G : Nat → Nat → Int} {K : Nat → Nat} {va hv : Nat → Int} {fu q m m' : Nat} {Ls : List (Nat × Nat)}
theorem ev_vl (hM : EvM L xs fm h th sz ea tk dp sb ob n c u tc K va (fct n c fr to mi wo hr hv) fu) (hk : KdS F K tc) (hO : MoA h.1 th sz ea tk dp sb wk oo (-1) T W) (hH : ShA h.1 sb od F) (hMd : MRd h.1 sb ob n c fr to mi wo) (hR : RdOk n c fr to mi wo) (hS : StA h.1 ob hr ca lo he tn G) (hn0 : F 5 0 = (n : Int)) (hGw : ∀ r, r < c → G 2 r = wo r) (hE : EqN (6 * n) (G 3) hv) (hu6 : u ≤ 6) (hva : ∀ t, t < tc → K t = 42 ∨ K t = 43 → F 4 t = va t) (hsb : sb = 109 ∨ 151 ≤ sb) (hob : ob = 125 ∨ ob = 135) (hq : q ≤ 8) (hm : m < tc) (hp : pValue K (pG K fu) q m = some (true, m', Ls)) (hx : ∀ x, x ∈ Ls → TkOk n c u (tvV tc va x)) : ∃ val, (∀ st : List Int, st.length + eN 6 q ≤ 64 → (Ls.map (tvV tc va)).foldl (rpn1 (fct n c fr to mi wo hr hv)) st = val :: st) ∧ ∀ f, Sp (GG L xs fm) (eD 6 q) 194 [qR 107] (hV h th sz ea tk dp sb ob m f) (EvQ h th sz ea tk dp sb ob m' val) := by
  have hK := hk.2.1
  have htc := hk.1
  have hes := hH.1
  have hes1 := hH.2 1 401 rfl
  have hes4 := hH.2 4 401 rfl
  have hss := hS.1
  have hss5 := hS.2 2 14 rfl
  have hcc := hR.2.1
  have es : ∀ w f, (hV h th sz ea tk dp sb ob w f).1 sb = _ := fun w f => (hV_ne (by omega) (by omega)).trans hes
  have es1 : ∀ w f, (hV h th sz ea tk dp sb ob w f).1 (sb + 1) = _ := fun w f => (hV_ne (by omega) (by omega)).trans hes1
  have es4 : ∀ w f, (hV h th sz ea tk dp sb ob w f).1 (sb + 4) = _ := fun w f => (hV_ne (by omega) (by omega)).trans hes4
  have et : ∀ w f, (hV h th sz ea tk dp sb ob w f).1 ob = _ := fun w f => (hV_ne (by omega) (by omega)).trans hss
  have et2 : ∀ w f, (hV h th sz ea tk dp sb ob w f).1 (ob + 2) = _ := fun w f => (hV_ne (by omega) (by omega)).trans hss5
  have hMv : ∀ w f, MRd (hV h th sz ea tk dp sb ob w f).1 sb ob n c fr to mi wo := fun w f => hMd.cg (fun a h1 h2 => hV_ne (by omega) (by omega)) (fun a h1 h2 => hV_ne (by omega) (by omega))
  have hSv : ∀ w f, StA (hV h th sz ea tk dp sb ob w f).1 ob hr ca lo he tn G := fun w f => hS.cg (fun a h1 h2 => hV_ne (by omega) (by omega))
  have hHv : ∀ w f, ShA (hV h th sz ea tk dp sb ob w f).1 sb od F := fun w f => hH.cg (fun a h1 h2 => hV_ne (by omega) (by omega))
  have gy : ∀ (w : Nat) (x : Int) (f : Nat → Int) {d : Nat} {B : Nat → List MI} {ex : List Nat} {is : List MI} {ls st : List MV} {Q : (Option MV ⊕ Nat) → MH → Prop}, w < tc → F 1 w = x → 0 < d → WCl (GG L xs fm) d B ex is ls 187 [qR 107, qI x] st (hV h th sz ea tk dp sb ob w f) Q = Wp (GG L xs fm) d B is ls (qI 1 :: st) (hV h th sz ea tk dp sb ob (w + 1) f) Q := fun w x f {d B ex is ls st Q} hw hx hd => WCl_sp (by
    have := m_goesBy (L := L) (xs := xs) (fm := fm) (h := h) (th := th) (sz := sz) (ea := ea) (tk := tk) (dp := dp) (ob := ob) hes hes1 hsb (w := w) (by omega) (f := f) (x := x)
    simp only [if_pos hx] at this
    exact this) hd
  have gn : ∀ (w : Nat) (x : Int) (f : Nat → Int) {d : Nat} {B : Nat → List MI} {ex : List Nat} {is : List MI} {ls st : List MV} {Q : (Option MV ⊕ Nat) → MH → Prop}, w < tc → F 1 w ≠ x → 0 < d → WCl (GG L xs fm) d B ex is ls 187 [qR 107, qI x] st (hV h th sz ea tk dp sb ob w f) Q = Wp (GG L xs fm) d B is ls (qI 0 :: st) (hV h th sz ea tk dp sb ob w f) Q := fun w x f {d B ex is ls st Q} hw hx hd => WCl_sp (by
    have := m_goesBy (L := L) (xs := xs) (fm := fm) (h := h) (th := th) (sz := sz) (ea := ea) (tk := tk) (dp := dp) (ob := ob) hes hes1 hsb (w := w) (by omega) (f := f) (x := x)
    simp only [if_neg hx] at this
    exact this) hd
  have cn : ∀ (w : Nat) (f : Nat → Int) {d : Nat} {B : Nat → List MI} {ex : List Nat} {is : List MI} {ls st : List MV} {Q : (Option MV ⊕ Nat) → MH → Prop}, w < tc → 0 < d → WCl (GG L xs fm) d B ex is ls 190 [qR 107] st (hV h th sz ea tk dp sb ob w f) Q = Wp (GG L xs fm) d B is ls (qI (F 4 w) :: st) (hV h th sz ea tk dp sb ob (w + 1) f) Q := fun w f {d B ex is ls st Q} hw hd => WCl_sp (m_named hes hes4 hsb (by omega)) hd
  have v1 : m + 1 < tc → vlO tc va ((m : Int) + 1) = va (m + 1) := fun z => by
    unfold vlO
    rw [if_pos ⟨by omega, by omega⟩, show ((m : Int) + 1).toNat = m + 1 by omega]
  have v2 : m + 2 < tc → vlO tc va ((m : Int) + 2) = va (m + 1 + 1) := fun z => by
    unfold vlO
    rw [if_pos ⟨by omega, by omega⟩, show ((m : Int) + 2).toNat = m + 1 + 1 by omega]
  have hd0 : 4 < eD 6 q := by
    rw [eD_6]
    omega
  have v0 : vlO tc va (m : Int) = va m := by
    unfold vlO
    rw [if_pos ⟨by omega, by omega⟩, Int.toNat_natCast]
  have hidx : (((m + 1 : Nat) : Int) - 1).toNat = m := by omega
  unfold pValue at hp
  by_cases k26 : K m = 26
  · rw [if_pos k26] at hp
    have hm1 := hK.nx hm k26 (by decide)
    have hkm : F 1 m = 40 := hk.y hm k26
    by_cases hq8 : q < 8
    · rw [if_pos hq8] at hp
      rcases pB_some hp with ⟨n1, L1, e1, hp⟩ | ⟨_, _, _, hp⟩
      · by_cases k29 : K n1 = 27
        · rw [if_pos k29] at hp
          cases hp
          have hn1 : n1 < tc := (pG_ok hK _ _ _ _ _ hm1 e1).1
          obtain ⟨a, ha, sa, ra⟩ := (hM _ _ _ _ _ (by omega) hm1 e1 hx).1 (by decide)
          refine ⟨a, fun st hst => sa st (by rw [eN_6] at hst; rw [eN_3]; omega), fun f => ?_⟩
          refine Sp_of MX12_value ?_
          simp (disch := omega) only [ms_sipush, ms_lconst, ms_ldc2_w, ms_dconst, ms_ldc, ms_getstatic, ms_iload, ms_lload, ms_dload, ms_aload, ms_istore, ms_lstore, ms_dstore, ms_astore, ms_iinc, ms_iadd, ms_isub, ms_imul, ms_idiv, ms_irem, ms_ineg, ms_iand, ms_ior, ms_ishr, ms_iushr, ms_i2b, ms_i2c, ms_i2l, ms_ladd, ms_lmul, ms_lcmp, ms_i2d, ms_ddiv, ms_dcmp, ms_dup, ms_pop, ms_dup2, ms_goto, ms_ifCond, ms_if_icmp, ms_if_acmp_eq, ms_if_acmp_ne, ms_tableswitch, ms_lookupswitch, ms_getfield, ms_putfield, ms_arraylength, ms_iaload, ms_baload, ms_laload, ms_aaload, ms_iastore, ms_bastore, ms_lastore, ms_aastore, ms_newarray, ms_new, ms_anewarray, ms_multianewarray, ms_invokevirtual, ms_invokestatic, ms_invokespecial, ms_invokedynamic_0, ms_invokedynamic_1, ms_invokedynamic_2, ms_invokedynamic_3, ms_invokedynamic_4, ms_invokedynamic_5, ms_ireturn, ms_lreturn, ms_dreturn, ms_areturn, ms_return_, Wp_cons, WSC_nx, WSC_cl, WSC_rt, WSC_th, WSC_if, lg, lset, lfree, wide, isRf, isRT, fitK, hgt, margs, mpad, rcv, rdF, rdN, rdI, rdQ, mC_eq, mC_ne, mC_lt, mC_ge, mC_gt, mC_le, mset, mnew, h_fst, h_snd, lt_drop0, List.drop_succ_cons, List.drop_zero, List.drop_nil, List.take_succ_cons, List.take_zero, List.reverse_cons, List.reverse_nil, List.nil_append, List.cons_append, List.append_nil, List.length_cons, List.length_nil, List.getElem?_cons_succ, List.getElem?_cons_zero, List.set_cons_succ, List.set_cons_zero, List.replicate, Option.toList, reduceIte, Bool.not_false, Bool.not_true, Nat.reduceLT, Nat.reduceLeDiff, Nat.reduceAdd, Nat.reduceSub, Nat.reduceMul, Int.reduceLT, Int.reduceLE, Int.reduceNeg, Int.reduceAdd, Int.reduceSub, Int.reduceMul, Int.reduceEq, and_self, true_and, and_true, false_and, and_false, or_false, false_or, true_or, or_true, not_true_eq_false, not_false_eq_true, Bool.false_eq_true, Bool.true_eq_false, decide_true, decide_false, decide_eq_true_eq, Nat.le_refl, Nat.zero_le, ge_iff_le, gt_iff_lt, Nat.lt_irrefl, reduceCtorEq, if_posD, if_negD, w32_id, Int.toNat_natCast, WCo_in, mUp_self, mUp_ne, ne_eq, Bool.true_and, Bool.and_true, Bool.false_and, Bool.and_false, Bool.true_or, Bool.or_true, Bool.false_or, Bool.or_false, Nat.reduceEqDiff, Int.cast_ofNat_Int, Int.reduceToNat, List.getD_cons_succ, List.getD_cons_zero, eq_self, swL, if_true, if_false, qX12_value_0, qX12_value_8, MX11_length, MX12_far, MX12_heard, MX12_named, MX12_sum, MX12_value, GG1, hV_107, es, es1, lkL, hkm, hV_up]
          refine WCl_of (ra f) (by
            show eD 3 (q + 1) < eD 6 q
            rw [eD_3, eD_6]
            omega) (fun v h2 hv2 => ?_)
          obtain ⟨rfl, f', rfl⟩ := hv2
          simp (disch := omega) only [ms_sipush, ms_lconst, ms_ldc2_w, ms_dconst, ms_ldc, ms_getstatic, ms_iload, ms_lload, ms_dload, ms_aload, ms_istore, ms_lstore, ms_dstore, ms_astore, ms_iinc, ms_iadd, ms_isub, ms_imul, ms_idiv, ms_irem, ms_ineg, ms_iand, ms_ior, ms_ishr, ms_iushr, ms_i2b, ms_i2c, ms_i2l, ms_ladd, ms_lmul, ms_lcmp, ms_i2d, ms_ddiv, ms_dcmp, ms_dup, ms_pop, ms_dup2, ms_goto, ms_ifCond, ms_if_icmp, ms_if_acmp_eq, ms_if_acmp_ne, ms_tableswitch, ms_lookupswitch, ms_getfield, ms_putfield, ms_arraylength, ms_iaload, ms_baload, ms_laload, ms_aaload, ms_iastore, ms_bastore, ms_lastore, ms_aastore, ms_newarray, ms_new, ms_anewarray, ms_multianewarray, ms_invokevirtual, ms_invokestatic, ms_invokespecial, ms_invokedynamic_0, ms_invokedynamic_1, ms_invokedynamic_2, ms_invokedynamic_3, ms_invokedynamic_4, ms_invokedynamic_5, ms_ireturn, ms_lreturn, ms_dreturn, ms_areturn, ms_return_, Wp_cons, WSC_nx, WSC_cl, WSC_rt, WSC_th, WSC_if, lg, lset, lfree, wide, isRf, isRT, fitK, hgt, margs, mpad, rcv, rdF, rdN, rdI, rdQ, mC_eq, mC_ne, mC_lt, mC_ge, mC_gt, mC_le, mset, mnew, h_fst, h_snd, lt_drop0, List.drop_succ_cons, List.drop_zero, List.drop_nil, List.take_succ_cons, List.take_zero, List.reverse_cons, List.reverse_nil, List.nil_append, List.cons_append, List.append_nil, List.length_cons, List.length_nil, List.getElem?_cons_succ, List.getElem?_cons_zero, List.set_cons_succ, List.set_cons_zero, List.replicate, Option.toList, reduceIte, Bool.not_false, Bool.not_true, Nat.reduceLT, Nat.reduceLeDiff, Nat.reduceAdd, Nat.reduceSub, Nat.reduceMul, Int.reduceLT, Int.reduceLE, Int.reduceNeg, Int.reduceAdd, Int.reduceSub, Int.reduceMul, Int.reduceEq, and_self, true_and, and_true, false_and, and_false, or_false, false_or, true_or, or_true, not_true_eq_false, not_false_eq_true, Bool.false_eq_true, Bool.true_eq_false, decide_true, decide_false, decide_eq_true_eq, Nat.le_refl, Nat.zero_le, ge_iff_le, gt_iff_lt, Nat.lt_irrefl, reduceCtorEq, if_posD, if_negD, w32_id, Int.toNat_natCast, WCo_in, mUp_self, mUp_ne, ne_eq, Bool.true_and, Bool.and_true, Bool.false_and, Bool.and_false, Bool.true_or, Bool.or_true, Bool.false_or, Bool.or_false, Nat.reduceEqDiff, Int.cast_ofNat_Int, Int.reduceToNat, List.getD_cons_succ, List.getD_cons_zero, eq_self, swL, if_true, if_false, qX12_value_0, qX12_value_8, MX11_length, MX12_far, MX12_heard, MX12_named, MX12_sum, MX12_value, GG1, hV_107, hV_up]
          exact ⟨rfl, f', rfl⟩
        · rw [if_neg k29] at hp
          cases hp
      · cases hp
    · rw [if_neg hq8] at hp
      cases hp
  rw [if_neg k26] at hp
  by_cases k33 : K m = 33
  · rw [if_pos k33] at hp
    have hm1 := hK.nx hm k33 (by decide)
    have hkm : F 1 m = 47 := hk.y hm k33
    by_cases hq8 : q < 8
    · rw [if_pos hq8] at hp
      rcases pB_some hp with ⟨n1, L1, e1, hp⟩ | ⟨_, _, _, hp⟩
      · cases hp
        obtain ⟨a, ha, sa, ra⟩ := (hM _ _ _ _ _ (by omega) hm1 e1 (fun x hx1 => hx x (List.mem_append_left _ hx1))).1 (by decide)
        refine ⟨w32 (-a), fun st hst => ?_, fun f => ?_⟩
        · rw [eN_6] at hst
          rw [List.map_append, List.foldl_append, sa st (by rw [eN_6]; omega)]
          show rpn1 (fct n c fr to mi wo hr hv) (a :: st) (tvV tc va (m, 41)) = _
          rw [rpn_1 (by decide) (by omega), if_pos rfl]
        · refine Sp_of MX12_value ?_
          simp (disch := omega) only [ms_sipush, ms_lconst, ms_ldc2_w, ms_dconst, ms_ldc, ms_getstatic, ms_iload, ms_lload, ms_dload, ms_aload, ms_istore, ms_lstore, ms_dstore, ms_astore, ms_iinc, ms_iadd, ms_isub, ms_imul, ms_idiv, ms_irem, ms_ineg, ms_iand, ms_ior, ms_ishr, ms_iushr, ms_i2b, ms_i2c, ms_i2l, ms_ladd, ms_lmul, ms_lcmp, ms_i2d, ms_ddiv, ms_dcmp, ms_dup, ms_pop, ms_dup2, ms_goto, ms_ifCond, ms_if_icmp, ms_if_acmp_eq, ms_if_acmp_ne, ms_tableswitch, ms_lookupswitch, ms_getfield, ms_putfield, ms_arraylength, ms_iaload, ms_baload, ms_laload, ms_aaload, ms_iastore, ms_bastore, ms_lastore, ms_aastore, ms_newarray, ms_new, ms_anewarray, ms_multianewarray, ms_invokevirtual, ms_invokestatic, ms_invokespecial, ms_invokedynamic_0, ms_invokedynamic_1, ms_invokedynamic_2, ms_invokedynamic_3, ms_invokedynamic_4, ms_invokedynamic_5, ms_ireturn, ms_lreturn, ms_dreturn, ms_areturn, ms_return_, Wp_cons, WSC_nx, WSC_cl, WSC_rt, WSC_th, WSC_if, lg, lset, lfree, wide, isRf, isRT, fitK, hgt, margs, mpad, rcv, rdF, rdN, rdI, rdQ, mC_eq, mC_ne, mC_lt, mC_ge, mC_gt, mC_le, mset, mnew, h_fst, h_snd, lt_drop0, List.drop_succ_cons, List.drop_zero, List.drop_nil, List.take_succ_cons, List.take_zero, List.reverse_cons, List.reverse_nil, List.nil_append, List.cons_append, List.append_nil, List.length_cons, List.length_nil, List.getElem?_cons_succ, List.getElem?_cons_zero, List.set_cons_succ, List.set_cons_zero, List.replicate, Option.toList, reduceIte, Bool.not_false, Bool.not_true, Nat.reduceLT, Nat.reduceLeDiff, Nat.reduceAdd, Nat.reduceSub, Nat.reduceMul, Int.reduceLT, Int.reduceLE, Int.reduceNeg, Int.reduceAdd, Int.reduceSub, Int.reduceMul, Int.reduceEq, and_self, true_and, and_true, false_and, and_false, or_false, false_or, true_or, or_true, not_true_eq_false, not_false_eq_true, Bool.false_eq_true, Bool.true_eq_false, decide_true, decide_false, decide_eq_true_eq, Nat.le_refl, Nat.zero_le, ge_iff_le, gt_iff_lt, Nat.lt_irrefl, reduceCtorEq, if_posD, if_negD, w32_id, Int.toNat_natCast, WCo_in, mUp_self, mUp_ne, ne_eq, Bool.true_and, Bool.and_true, Bool.false_and, Bool.and_false, Bool.true_or, Bool.or_true, Bool.false_or, Bool.or_false, Nat.reduceEqDiff, Int.cast_ofNat_Int, Int.reduceToNat, List.getD_cons_succ, List.getD_cons_zero, eq_self, swL, if_true, if_false, qX12_value_0, qX12_value_7, MX11_length, MX12_far, MX12_heard, MX12_named, MX12_sum, MX12_value, GG1, hV_107, es, es1, lkL, hkm, hV_up]
          refine WCl_of (ra f) (by
            show eD 6 (q + 1) < eD 6 q
            rw [eD_6, eD_6]
            omega) (fun v h2 hv2 => ?_)
          obtain ⟨rfl, f', rfl⟩ := hv2
          simp (disch := omega) only [ms_sipush, ms_lconst, ms_ldc2_w, ms_dconst, ms_ldc, ms_getstatic, ms_iload, ms_lload, ms_dload, ms_aload, ms_istore, ms_lstore, ms_dstore, ms_astore, ms_iinc, ms_iadd, ms_isub, ms_imul, ms_idiv, ms_irem, ms_ineg, ms_iand, ms_ior, ms_ishr, ms_iushr, ms_i2b, ms_i2c, ms_i2l, ms_ladd, ms_lmul, ms_lcmp, ms_i2d, ms_ddiv, ms_dcmp, ms_dup, ms_pop, ms_dup2, ms_goto, ms_ifCond, ms_if_icmp, ms_if_acmp_eq, ms_if_acmp_ne, ms_tableswitch, ms_lookupswitch, ms_getfield, ms_putfield, ms_arraylength, ms_iaload, ms_baload, ms_laload, ms_aaload, ms_iastore, ms_bastore, ms_lastore, ms_aastore, ms_newarray, ms_new, ms_anewarray, ms_multianewarray, ms_invokevirtual, ms_invokestatic, ms_invokespecial, ms_invokedynamic_0, ms_invokedynamic_1, ms_invokedynamic_2, ms_invokedynamic_3, ms_invokedynamic_4, ms_invokedynamic_5, ms_ireturn, ms_lreturn, ms_dreturn, ms_areturn, ms_return_, Wp_cons, WSC_nx, WSC_cl, WSC_rt, WSC_th, WSC_if, lg, lset, lfree, wide, isRf, isRT, fitK, hgt, margs, mpad, rcv, rdF, rdN, rdI, rdQ, mC_eq, mC_ne, mC_lt, mC_ge, mC_gt, mC_le, mset, mnew, h_fst, h_snd, lt_drop0, List.drop_succ_cons, List.drop_zero, List.drop_nil, List.take_succ_cons, List.take_zero, List.reverse_cons, List.reverse_nil, List.nil_append, List.cons_append, List.append_nil, List.length_cons, List.length_nil, List.getElem?_cons_succ, List.getElem?_cons_zero, List.set_cons_succ, List.set_cons_zero, List.replicate, Option.toList, reduceIte, Bool.not_false, Bool.not_true, Nat.reduceLT, Nat.reduceLeDiff, Nat.reduceAdd, Nat.reduceSub, Nat.reduceMul, Int.reduceLT, Int.reduceLE, Int.reduceNeg, Int.reduceAdd, Int.reduceSub, Int.reduceMul, Int.reduceEq, and_self, true_and, and_true, false_and, and_false, or_false, false_or, true_or, or_true, not_true_eq_false, not_false_eq_true, Bool.false_eq_true, Bool.true_eq_false, decide_true, decide_false, decide_eq_true_eq, Nat.le_refl, Nat.zero_le, ge_iff_le, gt_iff_lt, Nat.lt_irrefl, reduceCtorEq, if_posD, if_negD, w32_id, Int.toNat_natCast, WCo_in, mUp_self, mUp_ne, ne_eq, Bool.true_and, Bool.and_true, Bool.false_and, Bool.and_false, Bool.true_or, Bool.or_true, Bool.false_or, Bool.or_false, Nat.reduceEqDiff, Int.cast_ofNat_Int, Int.reduceToNat, List.getD_cons_succ, List.getD_cons_zero, eq_self, swL, if_true, if_false, qX12_value_0, qX12_value_7, MX11_length, MX12_far, MX12_heard, MX12_named, MX12_sum, MX12_value, GG1, hV_107]
          exact ⟨rfl, f', rfl⟩
      · cases hp
    · rw [if_neg hq8] at hp
      cases hp
  rw [if_neg k33] at hp
  by_cases kn : K m = 43 ∨ K m = 13
  · rw [if_pos kn] at hp
    cases hp
    rcases kn with k | k
    · have hkm : F 1 m = 37 := hk.y hm k
      have hf4 := hva m hm (Or.inr k)
      have hfc : fct n c fr to mi wo hr hv (tvV tc va (m, 43)) = va m := by
        rw [fct_43 rfl]
        exact v0
      refine ⟨va m, fun st hst => ?_, fun f => ?_⟩
      · rw [eN_6] at hst
        rw [k]
        show rpn1 (fct n c fr to mi wo hr hv) st (tvV tc va (m, 43)) = _
        rw [rpn_0 rfl (by omega), hfc]
      · refine Sp_of MX12_value ?_
        simp (disch := omega) only [ms_sipush, ms_lconst, ms_ldc2_w, ms_dconst, ms_ldc, ms_getstatic, ms_iload, ms_lload, ms_dload, ms_aload, ms_istore, ms_lstore, ms_dstore, ms_astore, ms_iinc, ms_iadd, ms_isub, ms_imul, ms_idiv, ms_irem, ms_ineg, ms_iand, ms_ior, ms_ishr, ms_iushr, ms_i2b, ms_i2c, ms_i2l, ms_ladd, ms_lmul, ms_lcmp, ms_i2d, ms_ddiv, ms_dcmp, ms_dup, ms_pop, ms_dup2, ms_goto, ms_ifCond, ms_if_icmp, ms_if_acmp_eq, ms_if_acmp_ne, ms_tableswitch, ms_lookupswitch, ms_getfield, ms_putfield, ms_arraylength, ms_iaload, ms_baload, ms_laload, ms_aaload, ms_iastore, ms_bastore, ms_lastore, ms_aastore, ms_newarray, ms_new, ms_anewarray, ms_multianewarray, ms_invokevirtual, ms_invokestatic, ms_invokespecial, ms_invokedynamic_0, ms_invokedynamic_1, ms_invokedynamic_2, ms_invokedynamic_3, ms_invokedynamic_4, ms_invokedynamic_5, ms_ireturn, ms_lreturn, ms_dreturn, ms_areturn, ms_return_, Wp_cons, WSC_nx, WSC_cl, WSC_rt, WSC_th, WSC_if, lg, lset, lfree, wide, isRf, isRT, fitK, hgt, margs, mpad, rcv, rdF, rdN, rdI, rdQ, mC_eq, mC_ne, mC_lt, mC_ge, mC_gt, mC_le, mset, mnew, h_fst, h_snd, lt_drop0, List.drop_succ_cons, List.drop_zero, List.drop_nil, List.take_succ_cons, List.take_zero, List.reverse_cons, List.reverse_nil, List.nil_append, List.cons_append, List.append_nil, List.length_cons, List.length_nil, List.getElem?_cons_succ, List.getElem?_cons_zero, List.set_cons_succ, List.set_cons_zero, List.replicate, Option.toList, reduceIte, Bool.not_false, Bool.not_true, Nat.reduceLT, Nat.reduceLeDiff, Nat.reduceAdd, Nat.reduceSub, Nat.reduceMul, Int.reduceLT, Int.reduceLE, Int.reduceNeg, Int.reduceAdd, Int.reduceSub, Int.reduceMul, Int.reduceEq, and_self, true_and, and_true, false_and, and_false, or_false, false_or, true_or, or_true, not_true_eq_false, not_false_eq_true, Bool.false_eq_true, Bool.true_eq_false, decide_true, decide_false, decide_eq_true_eq, Nat.le_refl, Nat.zero_le, ge_iff_le, gt_iff_lt, Nat.lt_irrefl, reduceCtorEq, if_posD, if_negD, w32_id, Int.toNat_natCast, WCo_in, mUp_self, mUp_ne, ne_eq, Bool.true_and, Bool.and_true, Bool.false_and, Bool.and_false, Bool.true_or, Bool.or_true, Bool.false_or, Bool.or_false, Nat.reduceEqDiff, Int.cast_ofNat_Int, Int.reduceToNat, List.getD_cons_succ, List.getD_cons_zero, eq_self, swL, if_true, if_false, qX12_value_0, qX12_value_1, MX11_length, MX12_far, MX12_heard, MX12_named, MX12_sum, MX12_value, GG1, hV_107, es, es1, es4, lkL, hkm, hV_up, hidx, hf4]
        exact ⟨rfl, f, rfl⟩
    · have hkm : F 1 m = 13 := hk.y hm k
      have hfc : fct n c fr to mi wo hr hv (tvV tc va (m, 13)) = hr := fct_13 rfl
      refine ⟨hr, fun st hst => ?_, fun f => ?_⟩
      · rw [eN_6] at hst
        rw [k]
        show rpn1 (fct n c fr to mi wo hr hv) st (tvV tc va (m, 13)) = _
        rw [rpn_0 rfl (by omega), hfc]
      · refine Sp_of MX12_value ?_
        simp (disch := omega) only [ms_sipush, ms_lconst, ms_ldc2_w, ms_dconst, ms_ldc, ms_getstatic, ms_iload, ms_lload, ms_dload, ms_aload, ms_istore, ms_lstore, ms_dstore, ms_astore, ms_iinc, ms_iadd, ms_isub, ms_imul, ms_idiv, ms_irem, ms_ineg, ms_iand, ms_ior, ms_ishr, ms_iushr, ms_i2b, ms_i2c, ms_i2l, ms_ladd, ms_lmul, ms_lcmp, ms_i2d, ms_ddiv, ms_dcmp, ms_dup, ms_pop, ms_dup2, ms_goto, ms_ifCond, ms_if_icmp, ms_if_acmp_eq, ms_if_acmp_ne, ms_tableswitch, ms_lookupswitch, ms_getfield, ms_putfield, ms_arraylength, ms_iaload, ms_baload, ms_laload, ms_aaload, ms_iastore, ms_bastore, ms_lastore, ms_aastore, ms_newarray, ms_new, ms_anewarray, ms_multianewarray, ms_invokevirtual, ms_invokestatic, ms_invokespecial, ms_invokedynamic_0, ms_invokedynamic_1, ms_invokedynamic_2, ms_invokedynamic_3, ms_invokedynamic_4, ms_invokedynamic_5, ms_ireturn, ms_lreturn, ms_dreturn, ms_areturn, ms_return_, Wp_cons, WSC_nx, WSC_cl, WSC_rt, WSC_th, WSC_if, lg, lset, lfree, wide, isRf, isRT, fitK, hgt, margs, mpad, rcv, rdF, rdN, rdI, rdQ, mC_eq, mC_ne, mC_lt, mC_ge, mC_gt, mC_le, mset, mnew, h_fst, h_snd, lt_drop0, List.drop_succ_cons, List.drop_zero, List.drop_nil, List.take_succ_cons, List.take_zero, List.reverse_cons, List.reverse_nil, List.nil_append, List.cons_append, List.append_nil, List.length_cons, List.length_nil, List.getElem?_cons_succ, List.getElem?_cons_zero, List.set_cons_succ, List.set_cons_zero, List.replicate, Option.toList, reduceIte, Bool.not_false, Bool.not_true, Nat.reduceLT, Nat.reduceLeDiff, Nat.reduceAdd, Nat.reduceSub, Nat.reduceMul, Int.reduceLT, Int.reduceLE, Int.reduceNeg, Int.reduceAdd, Int.reduceSub, Int.reduceMul, Int.reduceEq, and_self, true_and, and_true, false_and, and_false, or_false, false_or, true_or, or_true, not_true_eq_false, not_false_eq_true, Bool.false_eq_true, Bool.true_eq_false, decide_true, decide_false, decide_eq_true_eq, Nat.le_refl, Nat.zero_le, ge_iff_le, gt_iff_lt, Nat.lt_irrefl, reduceCtorEq, if_posD, if_negD, w32_id, Int.toNat_natCast, WCo_in, mUp_self, mUp_ne, ne_eq, Bool.true_and, Bool.and_true, Bool.false_and, Bool.and_false, Bool.true_or, Bool.or_true, Bool.false_or, Bool.or_false, Nat.reduceEqDiff, Int.cast_ofNat_Int, Int.reduceToNat, List.getD_cons_succ, List.getD_cons_zero, eq_self, swL, if_true, if_false, qX12_value_0, qX12_value_2, MX11_length, MX12_far, MX12_heard, MX12_named, MX12_sum, MX12_value, GG1, hV_107, es, es1, et, lkL, hkm, hV_up]
        exact ⟨rfl, f, rfl⟩
  rw [if_neg kn] at hp
  by_cases kr : K m = 14 ∨ K m = 15 ∨ K m = 17
  · rw [if_pos kr] at hp
    have hm1 : m + 1 < tc := by
      rcases kr with k | k | k
      · exact hK.nx hm k (by decide)
      · exact hK.nx hm k (by decide)
      · exact hK.nx hm k (by decide)
    by_cases k42 : K (m + 1) = 42
    · rw [if_pos k42] at hp
      cases hp
      have hf4 := hva (m + 1) hm1 (Or.inl k42)
      have hx1 := hx (m, K m) (by simp)
      rcases kr with k | k | k
      · have hkm : F 1 m = 14 := hk.y hm k
        rw [k] at hx1 ⊢
        obtain ⟨r, hr1, hr2⟩ := hx1.r (Or.inl rfl)
        have hr2 : vlO tc va ((m : Int) + 1) = (r : Int) := hr2
        have hfc : fct n c fr to mi wo hr hv (tvV tc va (m, 14)) = mi r + 2 * wo r := by
          rw [fct_14 rfl]
          show mi (vlO tc va ((m : Int) + 1)).toNat + 2 * wo (vlO tc va ((m : Int) + 1)).toNat = _
          rw [hr2, Int.toNat_natCast]
        rw [v1 hm1] at hr2
        rw [hr2] at hf4
        refine ⟨mi r + 2 * wo r, fun st hst => ?_, fun f => ?_⟩
        · rw [eN_6] at hst
          show rpn1 (fct n c fr to mi wo hr hv) st (tvV tc va (m, 14)) = _
          rw [rpn_0 rfl (by omega), hfc]
        · have co : ∀ w f {d : Nat} {B : Nat → List MI} {ex : List Nat} {is : List MI} {ls st : List MV} {Q : (Option MV ⊕ Nat) → MH → Prop}, 0 < d → WCl (GG L xs fm) d B ex is ls 145 [qR ob, qI r] st (hV h th sz ea tk dp sb ob w f) Q = Wp (GG L xs fm) d B is ls (qI (mi r + 2 * wo r) :: st) (hV h th sz ea tk dp sb ob w f) Q := fun w f {d B ex is ls st Q} hd => WCl_sp (m_length (hMv w f) hR hr1) hd
          refine Sp_of MX12_value ?_
          simp (disch := omega) only [ms_sipush, ms_lconst, ms_ldc2_w, ms_dconst, ms_ldc, ms_getstatic, ms_iload, ms_lload, ms_dload, ms_aload, ms_istore, ms_lstore, ms_dstore, ms_astore, ms_iinc, ms_iadd, ms_isub, ms_imul, ms_idiv, ms_irem, ms_ineg, ms_iand, ms_ior, ms_ishr, ms_iushr, ms_i2b, ms_i2c, ms_i2l, ms_ladd, ms_lmul, ms_lcmp, ms_i2d, ms_ddiv, ms_dcmp, ms_dup, ms_pop, ms_dup2, ms_goto, ms_ifCond, ms_if_icmp, ms_if_acmp_eq, ms_if_acmp_ne, ms_tableswitch, ms_lookupswitch, ms_getfield, ms_putfield, ms_arraylength, ms_iaload, ms_baload, ms_laload, ms_aaload, ms_iastore, ms_bastore, ms_lastore, ms_aastore, ms_newarray, ms_new, ms_anewarray, ms_multianewarray, ms_invokevirtual, ms_invokestatic, ms_invokespecial, ms_invokedynamic_0, ms_invokedynamic_1, ms_invokedynamic_2, ms_invokedynamic_3, ms_invokedynamic_4, ms_invokedynamic_5, ms_ireturn, ms_lreturn, ms_dreturn, ms_areturn, ms_return_, Wp_cons, WSC_nx, WSC_cl, WSC_rt, WSC_th, WSC_if, lg, lset, lfree, wide, isRf, isRT, fitK, hgt, margs, mpad, rcv, rdF, rdN, rdI, rdQ, mC_eq, mC_ne, mC_lt, mC_ge, mC_gt, mC_le, mset, mnew, h_fst, h_snd, lt_drop0, List.drop_succ_cons, List.drop_zero, List.drop_nil, List.take_succ_cons, List.take_zero, List.reverse_cons, List.reverse_nil, List.nil_append, List.cons_append, List.append_nil, List.length_cons, List.length_nil, List.getElem?_cons_succ, List.getElem?_cons_zero, List.set_cons_succ, List.set_cons_zero, List.replicate, Option.toList, reduceIte, Bool.not_false, Bool.not_true, Nat.reduceLT, Nat.reduceLeDiff, Nat.reduceAdd, Nat.reduceSub, Nat.reduceMul, Int.reduceLT, Int.reduceLE, Int.reduceNeg, Int.reduceAdd, Int.reduceSub, Int.reduceMul, Int.reduceEq, and_self, true_and, and_true, false_and, and_false, or_false, false_or, true_or, or_true, not_true_eq_false, not_false_eq_true, Bool.false_eq_true, Bool.true_eq_false, decide_true, decide_false, decide_eq_true_eq, Nat.le_refl, Nat.zero_le, ge_iff_le, gt_iff_lt, Nat.lt_irrefl, reduceCtorEq, if_posD, if_negD, w32_id, Int.toNat_natCast, WCo_in, mUp_self, mUp_ne, ne_eq, Bool.true_and, Bool.and_true, Bool.false_and, Bool.and_false, Bool.true_or, Bool.or_true, Bool.false_or, Bool.or_false, Nat.reduceEqDiff, Int.cast_ofNat_Int, Int.reduceToNat, List.getD_cons_succ, List.getD_cons_zero, eq_self, swL, if_true, if_false, qX12_value_0, qX12_value_3, MX11_length, MX12_far, MX12_heard, MX12_named, MX12_sum, MX12_value, GG1, hV_107, es, es1, et, lkL, hkm, hV_up, cn, hf4, co]
          exact ⟨rfl, f, rfl⟩
      · have hkm : F 1 m = 15 := hk.y hm k
        rw [k] at hx1 ⊢
        obtain ⟨r, hr1, hr2⟩ := hx1.r (Or.inr (Or.inl rfl))
        have hr2 : vlO tc va ((m : Int) + 1) = (r : Int) := hr2
        have hfc : fct n c fr to mi wo hr hv (tvV tc va (m, 15)) = wo r := by
          rw [fct_15 rfl]
          show wo (vlO tc va ((m : Int) + 1)).toNat = _
          rw [hr2, Int.toNat_natCast]
        rw [v1 hm1] at hr2
        rw [hr2] at hf4
        have hg := hGw r hr1
        refine ⟨wo r, fun st hst => ?_, fun f => ?_⟩
        · rw [eN_6] at hst
          show rpn1 (fct n c fr to mi wo hr hv) st (tvV tc va (m, 15)) = _
          rw [rpn_0 rfl (by omega), hfc]
        · refine Sp_of MX12_value ?_
          simp (disch := omega) only [ms_sipush, ms_lconst, ms_ldc2_w, ms_dconst, ms_ldc, ms_getstatic, ms_iload, ms_lload, ms_dload, ms_aload, ms_istore, ms_lstore, ms_dstore, ms_astore, ms_iinc, ms_iadd, ms_isub, ms_imul, ms_idiv, ms_irem, ms_ineg, ms_iand, ms_ior, ms_ishr, ms_iushr, ms_i2b, ms_i2c, ms_i2l, ms_ladd, ms_lmul, ms_lcmp, ms_i2d, ms_ddiv, ms_dcmp, ms_dup, ms_pop, ms_dup2, ms_goto, ms_ifCond, ms_if_icmp, ms_if_acmp_eq, ms_if_acmp_ne, ms_tableswitch, ms_lookupswitch, ms_getfield, ms_putfield, ms_arraylength, ms_iaload, ms_baload, ms_laload, ms_aaload, ms_iastore, ms_bastore, ms_lastore, ms_aastore, ms_newarray, ms_new, ms_anewarray, ms_multianewarray, ms_invokevirtual, ms_invokestatic, ms_invokespecial, ms_invokedynamic_0, ms_invokedynamic_1, ms_invokedynamic_2, ms_invokedynamic_3, ms_invokedynamic_4, ms_invokedynamic_5, ms_ireturn, ms_lreturn, ms_dreturn, ms_areturn, ms_return_, Wp_cons, WSC_nx, WSC_cl, WSC_rt, WSC_th, WSC_if, lg, lset, lfree, wide, isRf, isRT, fitK, hgt, margs, mpad, rcv, rdF, rdN, rdI, rdQ, mC_eq, mC_ne, mC_lt, mC_ge, mC_gt, mC_le, mset, mnew, h_fst, h_snd, lt_drop0, List.drop_succ_cons, List.drop_zero, List.drop_nil, List.take_succ_cons, List.take_zero, List.reverse_cons, List.reverse_nil, List.nil_append, List.cons_append, List.append_nil, List.length_cons, List.length_nil, List.getElem?_cons_succ, List.getElem?_cons_zero, List.set_cons_succ, List.set_cons_zero, List.replicate, Option.toList, reduceIte, Bool.not_false, Bool.not_true, Nat.reduceLT, Nat.reduceLeDiff, Nat.reduceAdd, Nat.reduceSub, Nat.reduceMul, Int.reduceLT, Int.reduceLE, Int.reduceNeg, Int.reduceAdd, Int.reduceSub, Int.reduceMul, Int.reduceEq, and_self, true_and, and_true, false_and, and_false, or_false, false_or, true_or, or_true, not_true_eq_false, not_false_eq_true, Bool.false_eq_true, Bool.true_eq_false, decide_true, decide_false, decide_eq_true_eq, Nat.le_refl, Nat.zero_le, ge_iff_le, gt_iff_lt, Nat.lt_irrefl, reduceCtorEq, if_posD, if_negD, w32_id, Int.toNat_natCast, WCo_in, mUp_self, mUp_ne, ne_eq, Bool.true_and, Bool.and_true, Bool.false_and, Bool.and_false, Bool.true_or, Bool.or_true, Bool.false_or, Bool.or_false, Nat.reduceEqDiff, Int.cast_ofNat_Int, Int.reduceToNat, List.getD_cons_succ, List.getD_cons_zero, eq_self, swL, if_true, if_false, qX12_value_0, qX12_value_4, MX11_length, MX12_far, MX12_heard, MX12_named, MX12_sum, MX12_value, GG1, hV_107, es, es1, et, et2, lkL, hkm, hV_up, cn, hf4, hg]
          exact ⟨rfl, f, rfl⟩
      · have hkm : F 1 m = 17 := hk.y hm k
        rw [k] at hx1 ⊢
        obtain ⟨r, hr1, hr2⟩ := hx1.k rfl
        have hr2 : vlO tc va ((m : Int) + 1) = (r : Int) := hr2
        have hfc : fct n c fr to mi wo hr hv (tvV tc va (m, 17)) = knw hv n r := by
          rw [fct_17 rfl]
          show knw hv n (vlO tc va ((m : Int) + 1)).toNat = _
          rw [hr2, Int.toNat_natCast]
        rw [v1 hm1] at hr2
        rw [hr2] at hf4
        have hkn : knw (G 3) n r = knw hv n r := knw_cg hE (by omega)
        refine ⟨knw hv n r, fun st hst => ?_, fun f => ?_⟩
        · rw [eN_6] at hst
          show rpn1 (fct n c fr to mi wo hr hv) st (tvV tc va (m, 17)) = _
          rw [rpn_0 rfl (by omega), hfc]
        · have co : ∀ w f {d : Nat} {B : Nat → List MI} {ex : List Nat} {is : List MI} {ls st : List MV} {Q : (Option MV ⊕ Nat) → MH → Prop}, 1 < d → WCl (GG L xs fm) d B ex is ls 205 [qR 107, qR ob, qI r] st (hV h th sz ea tk dp sb ob w f) Q = Wp (GG L xs fm) d B is ls (qI (knw hv n r) :: st) (hV h th sz ea tk dp sb ob w f) Q := fun w f {d B ex is ls st Q} hd => WCl_sp (by
            have := m_heard (L := L) (xs := xs) (fm := fm) (hO.v (ob := ob) (w := w) (f := f)) (hHv w f) hn0 hR.1 (hSv w f) (k := r) (by omega)
            rw [hkn] at this
            exact this) hd
          refine Sp_of MX12_value ?_
          simp (disch := omega) only [ms_sipush, ms_lconst, ms_ldc2_w, ms_dconst, ms_ldc, ms_getstatic, ms_iload, ms_lload, ms_dload, ms_aload, ms_istore, ms_lstore, ms_dstore, ms_astore, ms_iinc, ms_iadd, ms_isub, ms_imul, ms_idiv, ms_irem, ms_ineg, ms_iand, ms_ior, ms_ishr, ms_iushr, ms_i2b, ms_i2c, ms_i2l, ms_ladd, ms_lmul, ms_lcmp, ms_i2d, ms_ddiv, ms_dcmp, ms_dup, ms_pop, ms_dup2, ms_goto, ms_ifCond, ms_if_icmp, ms_if_acmp_eq, ms_if_acmp_ne, ms_tableswitch, ms_lookupswitch, ms_getfield, ms_putfield, ms_arraylength, ms_iaload, ms_baload, ms_laload, ms_aaload, ms_iastore, ms_bastore, ms_lastore, ms_aastore, ms_newarray, ms_new, ms_anewarray, ms_multianewarray, ms_invokevirtual, ms_invokestatic, ms_invokespecial, ms_invokedynamic_0, ms_invokedynamic_1, ms_invokedynamic_2, ms_invokedynamic_3, ms_invokedynamic_4, ms_invokedynamic_5, ms_ireturn, ms_lreturn, ms_dreturn, ms_areturn, ms_return_, Wp_cons, WSC_nx, WSC_cl, WSC_rt, WSC_th, WSC_if, lg, lset, lfree, wide, isRf, isRT, fitK, hgt, margs, mpad, rcv, rdF, rdN, rdI, rdQ, mC_eq, mC_ne, mC_lt, mC_ge, mC_gt, mC_le, mset, mnew, h_fst, h_snd, lt_drop0, List.drop_succ_cons, List.drop_zero, List.drop_nil, List.take_succ_cons, List.take_zero, List.reverse_cons, List.reverse_nil, List.nil_append, List.cons_append, List.append_nil, List.length_cons, List.length_nil, List.getElem?_cons_succ, List.getElem?_cons_zero, List.set_cons_succ, List.set_cons_zero, List.replicate, Option.toList, reduceIte, Bool.not_false, Bool.not_true, Nat.reduceLT, Nat.reduceLeDiff, Nat.reduceAdd, Nat.reduceSub, Nat.reduceMul, Int.reduceLT, Int.reduceLE, Int.reduceNeg, Int.reduceAdd, Int.reduceSub, Int.reduceMul, Int.reduceEq, and_self, true_and, and_true, false_and, and_false, or_false, false_or, true_or, or_true, not_true_eq_false, not_false_eq_true, Bool.false_eq_true, Bool.true_eq_false, decide_true, decide_false, decide_eq_true_eq, Nat.le_refl, Nat.zero_le, ge_iff_le, gt_iff_lt, Nat.lt_irrefl, reduceCtorEq, if_posD, if_negD, w32_id, Int.toNat_natCast, WCo_in, mUp_self, mUp_ne, ne_eq, Bool.true_and, Bool.and_true, Bool.false_and, Bool.and_false, Bool.true_or, Bool.or_true, Bool.false_or, Bool.or_false, Nat.reduceEqDiff, Int.cast_ofNat_Int, Int.reduceToNat, List.getD_cons_succ, List.getD_cons_zero, eq_self, swL, if_true, if_false, qX12_value_0, qX12_value_5, MX11_length, MX12_far, MX12_heard, MX12_named, MX12_sum, MX12_value, GG1, hV_107, es, es1, et, lkL, hkm, hV_up, cn, hf4, co]
          exact ⟨rfl, f, rfl⟩
    · rw [if_neg k42] at hp
      cases hp
  rw [if_neg kr] at hp
  by_cases k16 : K m = 16
  · rw [if_pos k16] at hp
    have hm1 := hK.nx hm k16 (by decide)
    have hkm : F 1 m = 16 := hk.y hm k16
    by_cases k42 : K (m + 1) = 42
    · rw [if_pos k42] at hp
      have hm2 := hK.nx hm1 k42 (by decide)
      by_cases k43 : K (m + 2) = 42
      · rw [if_pos k43] at hp
        cases hp
        have hf4 := hva (m + 1) hm1 (Or.inl k42)
        have hf5 := hva (m + 1 + 1) hm2 (Or.inl k43)
        have hx1 := hx (m, 16) (by simp)
        obtain ⟨t, ht1, ht2, t2, ht3, ht4⟩ := hx1.tt (Or.inl rfl)
        have ht2 : vlO tc va ((m : Int) + 1) = (t : Int) := ht2
        have ht4 : vlO tc va ((m : Int) + 2) = (t2 : Int) := ht4
        have hfc : fct n c fr to mi wo hr hv (tvV tc va (m, 16)) = dst (roG c fr to mi wo (-1)) t t2 := by
          rw [fct_16 rfl]
          show dst (roG c fr to mi wo (-1)) (vlO tc va ((m : Int) + 1)).toNat (vlO tc va ((m : Int) + 2)).toNat = _
          rw [ht2, ht4, Int.toNat_natCast, Int.toNat_natCast]
        rw [v1 hm1] at ht2
        rw [v2 hm2] at ht4
        rw [ht2] at hf4
        rw [ht4] at hf5
        refine ⟨dst (roG c fr to mi wo (-1)) t t2, fun st hst => ?_, fun f => ?_⟩
        · rw [eN_6] at hst
          show rpn1 (fct n c fr to mi wo hr hv) st (tvV tc va (m, 16)) = _
          rw [rpn_0 rfl (by omega), hfc]
        · refine Sp_of MX12_value ?_
          simp (disch := omega) only [ms_sipush, ms_lconst, ms_ldc2_w, ms_dconst, ms_ldc, ms_getstatic, ms_iload, ms_lload, ms_dload, ms_aload, ms_istore, ms_lstore, ms_dstore, ms_astore, ms_iinc, ms_iadd, ms_isub, ms_imul, ms_idiv, ms_irem, ms_ineg, ms_iand, ms_ior, ms_ishr, ms_iushr, ms_i2b, ms_i2c, ms_i2l, ms_ladd, ms_lmul, ms_lcmp, ms_i2d, ms_ddiv, ms_dcmp, ms_dup, ms_pop, ms_dup2, ms_goto, ms_ifCond, ms_if_icmp, ms_if_acmp_eq, ms_if_acmp_ne, ms_tableswitch, ms_lookupswitch, ms_getfield, ms_putfield, ms_arraylength, ms_iaload, ms_baload, ms_laload, ms_aaload, ms_iastore, ms_bastore, ms_lastore, ms_aastore, ms_newarray, ms_new, ms_anewarray, ms_multianewarray, ms_invokevirtual, ms_invokestatic, ms_invokespecial, ms_invokedynamic_0, ms_invokedynamic_1, ms_invokedynamic_2, ms_invokedynamic_3, ms_invokedynamic_4, ms_invokedynamic_5, ms_ireturn, ms_lreturn, ms_dreturn, ms_areturn, ms_return_, Wp_cons, WSC_nx, WSC_cl, WSC_rt, WSC_th, WSC_if, lg, lset, lfree, wide, isRf, isRT, fitK, hgt, margs, mpad, rcv, rdF, rdN, rdI, rdQ, mC_eq, mC_ne, mC_lt, mC_ge, mC_gt, mC_le, mset, mnew, h_fst, h_snd, lt_drop0, List.drop_succ_cons, List.drop_zero, List.drop_nil, List.take_succ_cons, List.take_zero, List.reverse_cons, List.reverse_nil, List.nil_append, List.cons_append, List.append_nil, List.length_cons, List.length_nil, List.getElem?_cons_succ, List.getElem?_cons_zero, List.set_cons_succ, List.set_cons_zero, List.replicate, Option.toList, reduceIte, Bool.not_false, Bool.not_true, Nat.reduceLT, Nat.reduceLeDiff, Nat.reduceAdd, Nat.reduceSub, Nat.reduceMul, Int.reduceLT, Int.reduceLE, Int.reduceNeg, Int.reduceAdd, Int.reduceSub, Int.reduceMul, Int.reduceEq, and_self, true_and, and_true, false_and, and_false, or_false, false_or, true_or, or_true, not_true_eq_false, not_false_eq_true, Bool.false_eq_true, Bool.true_eq_false, decide_true, decide_false, decide_eq_true_eq, Nat.le_refl, Nat.zero_le, ge_iff_le, gt_iff_lt, Nat.lt_irrefl, reduceCtorEq, if_posD, if_negD, w32_id, Int.toNat_natCast, WCo_in, mUp_self, mUp_ne, ne_eq, Bool.true_and, Bool.and_true, Bool.false_and, Bool.and_false, Bool.true_or, Bool.or_true, Bool.false_or, Bool.or_false, Nat.reduceEqDiff, Int.cast_ofNat_Int, Int.reduceToNat, List.getD_cons_succ, List.getD_cons_zero, eq_self, swL, if_true, if_false, qX12_value_0, qX12_value_6, MX11_length, MX12_far, MX12_heard, MX12_named, MX12_sum, MX12_value, GG1, hV_107, es, es1, et, lkL, hkm, hV_up, cn, hf4, hf5]
          refine WCl_of (m_far hO.v (hMv _ _) hR (by omega) hob ht1 ht3) (by omega) (fun v h2 hv2 => ?_)
          obtain ⟨rfl, f', rfl, -⟩ := hv2
          rw [hV_w]
          simp (disch := omega) only [ms_sipush, ms_lconst, ms_ldc2_w, ms_dconst, ms_ldc, ms_getstatic, ms_iload, ms_lload, ms_dload, ms_aload, ms_istore, ms_lstore, ms_dstore, ms_astore, ms_iinc, ms_iadd, ms_isub, ms_imul, ms_idiv, ms_irem, ms_ineg, ms_iand, ms_ior, ms_ishr, ms_iushr, ms_i2b, ms_i2c, ms_i2l, ms_ladd, ms_lmul, ms_lcmp, ms_i2d, ms_ddiv, ms_dcmp, ms_dup, ms_pop, ms_dup2, ms_goto, ms_ifCond, ms_if_icmp, ms_if_acmp_eq, ms_if_acmp_ne, ms_tableswitch, ms_lookupswitch, ms_getfield, ms_putfield, ms_arraylength, ms_iaload, ms_baload, ms_laload, ms_aaload, ms_iastore, ms_bastore, ms_lastore, ms_aastore, ms_newarray, ms_new, ms_anewarray, ms_multianewarray, ms_invokevirtual, ms_invokestatic, ms_invokespecial, ms_invokedynamic_0, ms_invokedynamic_1, ms_invokedynamic_2, ms_invokedynamic_3, ms_invokedynamic_4, ms_invokedynamic_5, ms_ireturn, ms_lreturn, ms_dreturn, ms_areturn, ms_return_, Wp_cons, WSC_nx, WSC_cl, WSC_rt, WSC_th, WSC_if, lg, lset, lfree, wide, isRf, isRT, fitK, hgt, margs, mpad, rcv, rdF, rdN, rdI, rdQ, mC_eq, mC_ne, mC_lt, mC_ge, mC_gt, mC_le, mset, mnew, h_fst, h_snd, lt_drop0, List.drop_succ_cons, List.drop_zero, List.drop_nil, List.take_succ_cons, List.take_zero, List.reverse_cons, List.reverse_nil, List.nil_append, List.cons_append, List.append_nil, List.length_cons, List.length_nil, List.getElem?_cons_succ, List.getElem?_cons_zero, List.set_cons_succ, List.set_cons_zero, List.replicate, Option.toList, reduceIte, Bool.not_false, Bool.not_true, Nat.reduceLT, Nat.reduceLeDiff, Nat.reduceAdd, Nat.reduceSub, Nat.reduceMul, Int.reduceLT, Int.reduceLE, Int.reduceNeg, Int.reduceAdd, Int.reduceSub, Int.reduceMul, Int.reduceEq, and_self, true_and, and_true, false_and, and_false, or_false, false_or, true_or, or_true, not_true_eq_false, not_false_eq_true, Bool.false_eq_true, Bool.true_eq_false, decide_true, decide_false, decide_eq_true_eq, Nat.le_refl, Nat.zero_le, ge_iff_le, gt_iff_lt, Nat.lt_irrefl, reduceCtorEq, if_posD, if_negD, w32_id, Int.toNat_natCast, WCo_in, mUp_self, mUp_ne, ne_eq, Bool.true_and, Bool.and_true, Bool.false_and, Bool.and_false, Bool.true_or, Bool.or_true, Bool.false_or, Bool.or_false, Nat.reduceEqDiff, Int.cast_ofNat_Int, Int.reduceToNat, List.getD_cons_succ, List.getD_cons_zero, eq_self, swL, if_true, if_false, qX12_value_0, qX12_value_6, MX11_length, MX12_far, MX12_heard, MX12_named, MX12_sum, MX12_value, GG1, hV_107]
          exact ⟨rfl, f', rfl⟩
      · rw [if_neg k43] at hp
        cases hp
    · rw [if_neg k42] at hp
      cases hp
  rw [if_neg k16] at hp
  by_cases kx : K m = 24 ∨ K m = 25
  · rw [if_pos kx] at hp
    by_cases hq8 : q < 8 ∧ K (m + 1) = 26
    · rw [if_pos hq8] at hp
      have hm1 : m + 1 < tc := by
        rcases kx with k | k
        · exact hK.nx hm k (by decide)
        · exact hK.nx hm k (by decide)
      have hm2 : m + 1 + 1 < tc := hK.nx hm1 hq8.2 (by decide)
      rcases pB_some hp with ⟨n1, L1, e1, hp⟩ | ⟨_, _, _, hp⟩
      · have hn1 : n1 < tc := (pG_ok hK _ _ _ _ _ hm2 e1).1
        by_cases k31 : K n1 = 31
        · rw [if_pos k31] at hp
          have hn2 := hK.nx hn1 k31 (by decide)
          rcases pB_some hp with ⟨n2, L2, e2, hp⟩ | ⟨_, _, _, hp⟩
          · have hn3 : n2 < tc := (pG_ok hK _ _ _ _ _ hn2 e2).1
            by_cases k27 : K n2 = 27
            · rw [if_pos k27] at hp
              cases hp
              obtain ⟨a, -, sa, ra⟩ := (hM _ _ _ _ _ (by omega) hm2 e1 (fun x hx1 => hx x (List.mem_append_left _ (List.mem_append_left _ hx1)))).1 (by decide)
              obtain ⟨b, -, sb', rb⟩ := (hM _ _ _ _ _ (by omega) hn2 e2 (fun x hx1 => hx x (List.mem_append_left _ (List.mem_append_right _ hx1)))).1 (by decide)
              refine ⟨joK (K m) a b, fun st hst => ?_, fun f => ?_⟩
              · rw [eN_6] at hst
                rw [List.map_append, List.map_append, List.foldl_append, List.foldl_append, sa st (by rw [eN_3]; omega), sb' (a :: st) (by rw [eN_3, List.length_cons]; omega)]
                show rpn1 (fct n c fr to mi wo hr hv) (b :: a :: st) (tvV tc va (m, K m)) = _
                rw [rpn_2 (by
                  rcases kx with k | k <;> rw [k] <;> decide) (by omega)]
              · refine Sp_of MX12_value ?_
                rcases kx with k | k
                · have hkm : F 1 m = 24 := hk.y hm k
                  have hj : joK (K m) a b = min a b := by
                    rw [k]
                    rfl
                  rw [hj]
                  simp (disch := omega) only [ms_sipush, ms_lconst, ms_ldc2_w, ms_dconst, ms_ldc, ms_getstatic, ms_iload, ms_lload, ms_dload, ms_aload, ms_istore, ms_lstore, ms_dstore, ms_astore, ms_iinc, ms_iadd, ms_isub, ms_imul, ms_idiv, ms_irem, ms_ineg, ms_iand, ms_ior, ms_ishr, ms_iushr, ms_i2b, ms_i2c, ms_i2l, ms_ladd, ms_lmul, ms_lcmp, ms_i2d, ms_ddiv, ms_dcmp, ms_dup, ms_pop, ms_dup2, ms_goto, ms_ifCond, ms_if_icmp, ms_if_acmp_eq, ms_if_acmp_ne, ms_tableswitch, ms_lookupswitch, ms_getfield, ms_putfield, ms_arraylength, ms_iaload, ms_baload, ms_laload, ms_aaload, ms_iastore, ms_bastore, ms_lastore, ms_aastore, ms_newarray, ms_new, ms_anewarray, ms_multianewarray, ms_invokevirtual, ms_invokestatic, ms_invokespecial, ms_invokedynamic_0, ms_invokedynamic_1, ms_invokedynamic_2, ms_invokedynamic_3, ms_invokedynamic_4, ms_invokedynamic_5, ms_ireturn, ms_lreturn, ms_dreturn, ms_areturn, ms_return_, Wp_cons, WSC_nx, WSC_cl, WSC_rt, WSC_th, WSC_if, lg, lset, lfree, wide, isRf, isRT, fitK, hgt, margs, mpad, rcv, rdF, rdN, rdI, rdQ, mC_eq, mC_ne, mC_lt, mC_ge, mC_gt, mC_le, mset, mnew, h_fst, h_snd, lt_drop0, List.drop_succ_cons, List.drop_zero, List.drop_nil, List.take_succ_cons, List.take_zero, List.reverse_cons, List.reverse_nil, List.nil_append, List.cons_append, List.append_nil, List.length_cons, List.length_nil, List.getElem?_cons_succ, List.getElem?_cons_zero, List.set_cons_succ, List.set_cons_zero, List.replicate, Option.toList, reduceIte, Bool.not_false, Bool.not_true, Nat.reduceLT, Nat.reduceLeDiff, Nat.reduceAdd, Nat.reduceSub, Nat.reduceMul, Int.reduceLT, Int.reduceLE, Int.reduceNeg, Int.reduceAdd, Int.reduceSub, Int.reduceMul, Int.reduceEq, and_self, true_and, and_true, false_and, and_false, or_false, false_or, true_or, or_true, not_true_eq_false, not_false_eq_true, Bool.false_eq_true, Bool.true_eq_false, decide_true, decide_false, decide_eq_true_eq, Nat.le_refl, Nat.zero_le, ge_iff_le, gt_iff_lt, Nat.lt_irrefl, reduceCtorEq, if_posD, if_negD, w32_id, Int.toNat_natCast, WCo_in, mUp_self, mUp_ne, ne_eq, Bool.true_and, Bool.and_true, Bool.false_and, Bool.and_false, Bool.true_or, Bool.or_true, Bool.false_or, Bool.or_false, Nat.reduceEqDiff, Int.cast_ofNat_Int, Int.reduceToNat, List.getD_cons_succ, List.getD_cons_zero, eq_self, swL, if_true, if_false, qX12_value_0, qX12_value_9, MX11_length, MX12_far, MX12_heard, MX12_named, MX12_sum, MX12_value, GG1, hV_107, es, es1, lkL, hkm, hV_up]
                  refine WCl_of (ra f) (by
                    show eD 3 (q + 1) < eD 6 q
                    rw [eD_3, eD_6]
                    omega) (fun v h2 hv2 => ?_)
                  obtain ⟨rfl, f', rfl⟩ := hv2
                  simp (disch := omega) only [ms_sipush, ms_lconst, ms_ldc2_w, ms_dconst, ms_ldc, ms_getstatic, ms_iload, ms_lload, ms_dload, ms_aload, ms_istore, ms_lstore, ms_dstore, ms_astore, ms_iinc, ms_iadd, ms_isub, ms_imul, ms_idiv, ms_irem, ms_ineg, ms_iand, ms_ior, ms_ishr, ms_iushr, ms_i2b, ms_i2c, ms_i2l, ms_ladd, ms_lmul, ms_lcmp, ms_i2d, ms_ddiv, ms_dcmp, ms_dup, ms_pop, ms_dup2, ms_goto, ms_ifCond, ms_if_icmp, ms_if_acmp_eq, ms_if_acmp_ne, ms_tableswitch, ms_lookupswitch, ms_getfield, ms_putfield, ms_arraylength, ms_iaload, ms_baload, ms_laload, ms_aaload, ms_iastore, ms_bastore, ms_lastore, ms_aastore, ms_newarray, ms_new, ms_anewarray, ms_multianewarray, ms_invokevirtual, ms_invokestatic, ms_invokespecial, ms_invokedynamic_0, ms_invokedynamic_1, ms_invokedynamic_2, ms_invokedynamic_3, ms_invokedynamic_4, ms_invokedynamic_5, ms_ireturn, ms_lreturn, ms_dreturn, ms_areturn, ms_return_, Wp_cons, WSC_nx, WSC_cl, WSC_rt, WSC_th, WSC_if, lg, lset, lfree, wide, isRf, isRT, fitK, hgt, margs, mpad, rcv, rdF, rdN, rdI, rdQ, mC_eq, mC_ne, mC_lt, mC_ge, mC_gt, mC_le, mset, mnew, h_fst, h_snd, lt_drop0, List.drop_succ_cons, List.drop_zero, List.drop_nil, List.take_succ_cons, List.take_zero, List.reverse_cons, List.reverse_nil, List.nil_append, List.cons_append, List.append_nil, List.length_cons, List.length_nil, List.getElem?_cons_succ, List.getElem?_cons_zero, List.set_cons_succ, List.set_cons_zero, List.replicate, Option.toList, reduceIte, Bool.not_false, Bool.not_true, Nat.reduceLT, Nat.reduceLeDiff, Nat.reduceAdd, Nat.reduceSub, Nat.reduceMul, Int.reduceLT, Int.reduceLE, Int.reduceNeg, Int.reduceAdd, Int.reduceSub, Int.reduceMul, Int.reduceEq, and_self, true_and, and_true, false_and, and_false, or_false, false_or, true_or, or_true, not_true_eq_false, not_false_eq_true, Bool.false_eq_true, Bool.true_eq_false, decide_true, decide_false, decide_eq_true_eq, Nat.le_refl, Nat.zero_le, ge_iff_le, gt_iff_lt, Nat.lt_irrefl, reduceCtorEq, if_posD, if_negD, w32_id, Int.toNat_natCast, WCo_in, mUp_self, mUp_ne, ne_eq, Bool.true_and, Bool.and_true, Bool.false_and, Bool.and_false, Bool.true_or, Bool.or_true, Bool.false_or, Bool.or_false, Nat.reduceEqDiff, Int.cast_ofNat_Int, Int.reduceToNat, List.getD_cons_succ, List.getD_cons_zero, eq_self, swL, if_true, if_false, qX12_value_0, qX12_value_9, MX11_length, MX12_far, MX12_heard, MX12_named, MX12_sum, MX12_value, GG1, hV_107, hV_up]
                  refine WCl_of (rb f') (by
                    show eD 3 (q + 1) < eD 6 q
                    rw [eD_3, eD_6]
                    omega) (fun v h2 hv2 => ?_)
                  obtain ⟨rfl, f'', rfl⟩ := hv2
                  simp (disch := omega) only [ms_sipush, ms_lconst, ms_ldc2_w, ms_dconst, ms_ldc, ms_getstatic, ms_iload, ms_lload, ms_dload, ms_aload, ms_istore, ms_lstore, ms_dstore, ms_astore, ms_iinc, ms_iadd, ms_isub, ms_imul, ms_idiv, ms_irem, ms_ineg, ms_iand, ms_ior, ms_ishr, ms_iushr, ms_i2b, ms_i2c, ms_i2l, ms_ladd, ms_lmul, ms_lcmp, ms_i2d, ms_ddiv, ms_dcmp, ms_dup, ms_pop, ms_dup2, ms_goto, ms_ifCond, ms_if_icmp, ms_if_acmp_eq, ms_if_acmp_ne, ms_tableswitch, ms_lookupswitch, ms_getfield, ms_putfield, ms_arraylength, ms_iaload, ms_baload, ms_laload, ms_aaload, ms_iastore, ms_bastore, ms_lastore, ms_aastore, ms_newarray, ms_new, ms_anewarray, ms_multianewarray, ms_invokevirtual, ms_invokestatic, ms_invokespecial, ms_invokedynamic_0, ms_invokedynamic_1, ms_invokedynamic_2, ms_invokedynamic_3, ms_invokedynamic_4, ms_invokedynamic_5, ms_ireturn, ms_lreturn, ms_dreturn, ms_areturn, ms_return_, Wp_cons, WSC_nx, WSC_cl, WSC_rt, WSC_th, WSC_if, lg, lset, lfree, wide, isRf, isRT, fitK, hgt, margs, mpad, rcv, rdF, rdN, rdI, rdQ, mC_eq, mC_ne, mC_lt, mC_ge, mC_gt, mC_le, mset, mnew, h_fst, h_snd, lt_drop0, List.drop_succ_cons, List.drop_zero, List.drop_nil, List.take_succ_cons, List.take_zero, List.reverse_cons, List.reverse_nil, List.nil_append, List.cons_append, List.append_nil, List.length_cons, List.length_nil, List.getElem?_cons_succ, List.getElem?_cons_zero, List.set_cons_succ, List.set_cons_zero, List.replicate, Option.toList, reduceIte, Bool.not_false, Bool.not_true, Nat.reduceLT, Nat.reduceLeDiff, Nat.reduceAdd, Nat.reduceSub, Nat.reduceMul, Int.reduceLT, Int.reduceLE, Int.reduceNeg, Int.reduceAdd, Int.reduceSub, Int.reduceMul, Int.reduceEq, and_self, true_and, and_true, false_and, and_false, or_false, false_or, true_or, or_true, not_true_eq_false, not_false_eq_true, Bool.false_eq_true, Bool.true_eq_false, decide_true, decide_false, decide_eq_true_eq, Nat.le_refl, Nat.zero_le, ge_iff_le, gt_iff_lt, Nat.lt_irrefl, reduceCtorEq, if_posD, if_negD, w32_id, Int.toNat_natCast, WCo_in, mUp_self, mUp_ne, ne_eq, Bool.true_and, Bool.and_true, Bool.false_and, Bool.and_false, Bool.true_or, Bool.or_true, Bool.false_or, Bool.or_false, Nat.reduceEqDiff, Int.cast_ofNat_Int, Int.reduceToNat, List.getD_cons_succ, List.getD_cons_zero, eq_self, swL, if_true, if_false, qX12_value_0, qX12_value_9, qX12_value_10, qX12_value_11, MX11_length, MX12_far, MX12_heard, MX12_named, MX12_sum, MX12_value, GG1, hV_107, hV_up]
                  exact ⟨rfl, f'', rfl⟩
                · have hkm : F 1 m = 25 := hk.y hm k
                  have hj : joK (K m) a b = max a b := by
                    rw [k]
                    rfl
                  rw [hj]
                  simp (disch := omega) only [ms_sipush, ms_lconst, ms_ldc2_w, ms_dconst, ms_ldc, ms_getstatic, ms_iload, ms_lload, ms_dload, ms_aload, ms_istore, ms_lstore, ms_dstore, ms_astore, ms_iinc, ms_iadd, ms_isub, ms_imul, ms_idiv, ms_irem, ms_ineg, ms_iand, ms_ior, ms_ishr, ms_iushr, ms_i2b, ms_i2c, ms_i2l, ms_ladd, ms_lmul, ms_lcmp, ms_i2d, ms_ddiv, ms_dcmp, ms_dup, ms_pop, ms_dup2, ms_goto, ms_ifCond, ms_if_icmp, ms_if_acmp_eq, ms_if_acmp_ne, ms_tableswitch, ms_lookupswitch, ms_getfield, ms_putfield, ms_arraylength, ms_iaload, ms_baload, ms_laload, ms_aaload, ms_iastore, ms_bastore, ms_lastore, ms_aastore, ms_newarray, ms_new, ms_anewarray, ms_multianewarray, ms_invokevirtual, ms_invokestatic, ms_invokespecial, ms_invokedynamic_0, ms_invokedynamic_1, ms_invokedynamic_2, ms_invokedynamic_3, ms_invokedynamic_4, ms_invokedynamic_5, ms_ireturn, ms_lreturn, ms_dreturn, ms_areturn, ms_return_, Wp_cons, WSC_nx, WSC_cl, WSC_rt, WSC_th, WSC_if, lg, lset, lfree, wide, isRf, isRT, fitK, hgt, margs, mpad, rcv, rdF, rdN, rdI, rdQ, mC_eq, mC_ne, mC_lt, mC_ge, mC_gt, mC_le, mset, mnew, h_fst, h_snd, lt_drop0, List.drop_succ_cons, List.drop_zero, List.drop_nil, List.take_succ_cons, List.take_zero, List.reverse_cons, List.reverse_nil, List.nil_append, List.cons_append, List.append_nil, List.length_cons, List.length_nil, List.getElem?_cons_succ, List.getElem?_cons_zero, List.set_cons_succ, List.set_cons_zero, List.replicate, Option.toList, reduceIte, Bool.not_false, Bool.not_true, Nat.reduceLT, Nat.reduceLeDiff, Nat.reduceAdd, Nat.reduceSub, Nat.reduceMul, Int.reduceLT, Int.reduceLE, Int.reduceNeg, Int.reduceAdd, Int.reduceSub, Int.reduceMul, Int.reduceEq, and_self, true_and, and_true, false_and, and_false, or_false, false_or, true_or, or_true, not_true_eq_false, not_false_eq_true, Bool.false_eq_true, Bool.true_eq_false, decide_true, decide_false, decide_eq_true_eq, Nat.le_refl, Nat.zero_le, ge_iff_le, gt_iff_lt, Nat.lt_irrefl, reduceCtorEq, if_posD, if_negD, w32_id, Int.toNat_natCast, WCo_in, mUp_self, mUp_ne, ne_eq, Bool.true_and, Bool.and_true, Bool.false_and, Bool.and_false, Bool.true_or, Bool.or_true, Bool.false_or, Bool.or_false, Nat.reduceEqDiff, Int.cast_ofNat_Int, Int.reduceToNat, List.getD_cons_succ, List.getD_cons_zero, eq_self, swL, if_true, if_false, qX12_value_0, qX12_value_9, MX11_length, MX12_far, MX12_heard, MX12_named, MX12_sum, MX12_value, GG1, hV_107, es, es1, lkL, hkm, hV_up]
                  refine WCl_of (ra f) (by
                    show eD 3 (q + 1) < eD 6 q
                    rw [eD_3, eD_6]
                    omega) (fun v h2 hv2 => ?_)
                  obtain ⟨rfl, f', rfl⟩ := hv2
                  simp (disch := omega) only [ms_sipush, ms_lconst, ms_ldc2_w, ms_dconst, ms_ldc, ms_getstatic, ms_iload, ms_lload, ms_dload, ms_aload, ms_istore, ms_lstore, ms_dstore, ms_astore, ms_iinc, ms_iadd, ms_isub, ms_imul, ms_idiv, ms_irem, ms_ineg, ms_iand, ms_ior, ms_ishr, ms_iushr, ms_i2b, ms_i2c, ms_i2l, ms_ladd, ms_lmul, ms_lcmp, ms_i2d, ms_ddiv, ms_dcmp, ms_dup, ms_pop, ms_dup2, ms_goto, ms_ifCond, ms_if_icmp, ms_if_acmp_eq, ms_if_acmp_ne, ms_tableswitch, ms_lookupswitch, ms_getfield, ms_putfield, ms_arraylength, ms_iaload, ms_baload, ms_laload, ms_aaload, ms_iastore, ms_bastore, ms_lastore, ms_aastore, ms_newarray, ms_new, ms_anewarray, ms_multianewarray, ms_invokevirtual, ms_invokestatic, ms_invokespecial, ms_invokedynamic_0, ms_invokedynamic_1, ms_invokedynamic_2, ms_invokedynamic_3, ms_invokedynamic_4, ms_invokedynamic_5, ms_ireturn, ms_lreturn, ms_dreturn, ms_areturn, ms_return_, Wp_cons, WSC_nx, WSC_cl, WSC_rt, WSC_th, WSC_if, lg, lset, lfree, wide, isRf, isRT, fitK, hgt, margs, mpad, rcv, rdF, rdN, rdI, rdQ, mC_eq, mC_ne, mC_lt, mC_ge, mC_gt, mC_le, mset, mnew, h_fst, h_snd, lt_drop0, List.drop_succ_cons, List.drop_zero, List.drop_nil, List.take_succ_cons, List.take_zero, List.reverse_cons, List.reverse_nil, List.nil_append, List.cons_append, List.append_nil, List.length_cons, List.length_nil, List.getElem?_cons_succ, List.getElem?_cons_zero, List.set_cons_succ, List.set_cons_zero, List.replicate, Option.toList, reduceIte, Bool.not_false, Bool.not_true, Nat.reduceLT, Nat.reduceLeDiff, Nat.reduceAdd, Nat.reduceSub, Nat.reduceMul, Int.reduceLT, Int.reduceLE, Int.reduceNeg, Int.reduceAdd, Int.reduceSub, Int.reduceMul, Int.reduceEq, and_self, true_and, and_true, false_and, and_false, or_false, false_or, true_or, or_true, not_true_eq_false, not_false_eq_true, Bool.false_eq_true, Bool.true_eq_false, decide_true, decide_false, decide_eq_true_eq, Nat.le_refl, Nat.zero_le, ge_iff_le, gt_iff_lt, Nat.lt_irrefl, reduceCtorEq, if_posD, if_negD, w32_id, Int.toNat_natCast, WCo_in, mUp_self, mUp_ne, ne_eq, Bool.true_and, Bool.and_true, Bool.false_and, Bool.and_false, Bool.true_or, Bool.or_true, Bool.false_or, Bool.or_false, Nat.reduceEqDiff, Int.cast_ofNat_Int, Int.reduceToNat, List.getD_cons_succ, List.getD_cons_zero, eq_self, swL, if_true, if_false, qX12_value_0, qX12_value_9, MX11_length, MX12_far, MX12_heard, MX12_named, MX12_sum, MX12_value, GG1, hV_107, hV_up]
                  refine WCl_of (rb f') (by
                    show eD 3 (q + 1) < eD 6 q
                    rw [eD_3, eD_6]
                    omega) (fun v h2 hv2 => ?_)
                  obtain ⟨rfl, f'', rfl⟩ := hv2
                  simp (disch := omega) only [ms_sipush, ms_lconst, ms_ldc2_w, ms_dconst, ms_ldc, ms_getstatic, ms_iload, ms_lload, ms_dload, ms_aload, ms_istore, ms_lstore, ms_dstore, ms_astore, ms_iinc, ms_iadd, ms_isub, ms_imul, ms_idiv, ms_irem, ms_ineg, ms_iand, ms_ior, ms_ishr, ms_iushr, ms_i2b, ms_i2c, ms_i2l, ms_ladd, ms_lmul, ms_lcmp, ms_i2d, ms_ddiv, ms_dcmp, ms_dup, ms_pop, ms_dup2, ms_goto, ms_ifCond, ms_if_icmp, ms_if_acmp_eq, ms_if_acmp_ne, ms_tableswitch, ms_lookupswitch, ms_getfield, ms_putfield, ms_arraylength, ms_iaload, ms_baload, ms_laload, ms_aaload, ms_iastore, ms_bastore, ms_lastore, ms_aastore, ms_newarray, ms_new, ms_anewarray, ms_multianewarray, ms_invokevirtual, ms_invokestatic, ms_invokespecial, ms_invokedynamic_0, ms_invokedynamic_1, ms_invokedynamic_2, ms_invokedynamic_3, ms_invokedynamic_4, ms_invokedynamic_5, ms_ireturn, ms_lreturn, ms_dreturn, ms_areturn, ms_return_, Wp_cons, WSC_nx, WSC_cl, WSC_rt, WSC_th, WSC_if, lg, lset, lfree, wide, isRf, isRT, fitK, hgt, margs, mpad, rcv, rdF, rdN, rdI, rdQ, mC_eq, mC_ne, mC_lt, mC_ge, mC_gt, mC_le, mset, mnew, h_fst, h_snd, lt_drop0, List.drop_succ_cons, List.drop_zero, List.drop_nil, List.take_succ_cons, List.take_zero, List.reverse_cons, List.reverse_nil, List.nil_append, List.cons_append, List.append_nil, List.length_cons, List.length_nil, List.getElem?_cons_succ, List.getElem?_cons_zero, List.set_cons_succ, List.set_cons_zero, List.replicate, Option.toList, reduceIte, Bool.not_false, Bool.not_true, Nat.reduceLT, Nat.reduceLeDiff, Nat.reduceAdd, Nat.reduceSub, Nat.reduceMul, Int.reduceLT, Int.reduceLE, Int.reduceNeg, Int.reduceAdd, Int.reduceSub, Int.reduceMul, Int.reduceEq, and_self, true_and, and_true, false_and, and_false, or_false, false_or, true_or, or_true, not_true_eq_false, not_false_eq_true, Bool.false_eq_true, Bool.true_eq_false, decide_true, decide_false, decide_eq_true_eq, Nat.le_refl, Nat.zero_le, ge_iff_le, gt_iff_lt, Nat.lt_irrefl, reduceCtorEq, if_posD, if_negD, w32_id, Int.toNat_natCast, WCo_in, mUp_self, mUp_ne, ne_eq, Bool.true_and, Bool.and_true, Bool.false_and, Bool.and_false, Bool.true_or, Bool.or_true, Bool.false_or, Bool.or_false, Nat.reduceEqDiff, Int.cast_ofNat_Int, Int.reduceToNat, List.getD_cons_succ, List.getD_cons_zero, eq_self, swL, if_true, if_false, qX12_value_0, qX12_value_9, qX12_value_10, qX12_value_11, MX11_length, MX12_far, MX12_heard, MX12_named, MX12_sum, MX12_value, GG1, hV_107, hV_up]
                  exact ⟨rfl, f'', rfl⟩
            · rw [if_neg k27] at hp
              cases hp
          · cases hp
        · rw [if_neg k31] at hp
          cases hp
      · cases hp
    · rw [if_neg hq8] at hp
      cases hp
  rw [if_neg kx] at hp
  cases hp
theorem ev_all (hk : KdS F K tc) (hO : MoA h.1 th sz ea tk dp sb wk oo (-1) T W) (hH : ShA h.1 sb od F) (hMd : MRd h.1 sb ob n c fr to mi wo) (hR : RdOk n c fr to mi wo) (hS : StA h.1 ob hr ca lo he tn G) (hn0 : F 5 0 = (n : Int)) (hGw : ∀ r, r < c → G 2 r = wo r) (hE : EqN (6 * n) (G 3) hv) (hu6 : u ≤ 6) (hva : ∀ t, t < tc → K t = 42 ∨ K t = 43 → F 4 t = va t) (hsb : sb = 109 ∨ 151 ≤ sb) (hob : ob = 125 ∨ ob = 135) : ∀ fu, EvM L xs fm h th sz ea tk dp sb ob n c u tc K va (fct n c fr to mi wo hr hv) fu := by
  intro fu
  induction fu with
  | zero =>
    intro lvl q m m' Ls hq hm hp hx
    cases hp
  | succ fu ih =>
    intro lvl q m m' Ls hq hm hp hx
    refine ⟨fun hl => ?_, fun hl a ha => ?_⟩
    · unfold pG at hp
      rw [if_neg (by omega)] at hp
      by_cases h5 : lvl = 5
      · subst h5
        rw [if_pos rfl] at hp
        obtain ⟨val, a1, a2, a3⟩ := ev_sg ih hk hO hH hMd hR hS hn0 hGw hE hu6 hva hsb hob hq hm hp hx
        exact ⟨val, fun _ => a1, a2, a3⟩
      rw [if_neg h5] at hp
      by_cases h6 : lvl = 6
      · subst h6
        rw [if_pos rfl] at hp
        obtain ⟨val, a2, a3⟩ := ev_vl ih hk hO hH hMd hR hS hn0 hGw hE hu6 hva hsb hob hq hm hp hx
        exact ⟨val, fun z => absurd z (by decide), a2, a3⟩
      rw [if_neg h6] at hp
      rcases (by omega : lvl = 0 ∨ lvl = 1 ∨ lvl = 3 ∨ lvl = 4) with rfl | rfl | rfl | rfl
      · exact ev_ch0 ih hk.2.1 hq hm hp hx
      · exact ev_ch1 ih hk.2.1 hq hm hp hx
      · exact ev_ch3 ih hk.2.1 hq hm hp hx
      · exact ev_ch4 ih hk.2.1 hq hm hp hx
    · unfold pG at hp
      rw [if_pos (by omega)] at hp
      rcases hl with rfl | rfl | rfl | rfl
      · obtain ⟨val, a1, a2, a3⟩ := ev_tl0 ih hk hH hsb hq hm hp hx (ha (by decide))
        exact ⟨val, fun _ => a1, a2, fun _ => a3, fun z => absurd z (by decide), fun z => absurd z (by decide), fun z => absurd z (by decide)⟩
      · obtain ⟨val, a1, a2, a3⟩ := ev_tl1 ih hk hH hsb hq hm hp hx (ha (by decide))
        exact ⟨val, fun _ => a1, a2, fun z => absurd z (by decide), fun _ => a3, fun z => absurd z (by decide), fun z => absurd z (by decide)⟩
      · obtain ⟨val, a2, a3⟩ := ev_tl3 ih hk hH hsb hq hm hp hx (a := a)
        exact ⟨val, fun z => absurd z (by decide), a2, fun z => absurd z (by decide), fun z => absurd z (by decide), fun _ => a3, fun z => absurd z (by decide)⟩
      · obtain ⟨val, a2, a3⟩ := ev_tl4 ih hk hH hsb hq hm hp hx (a := a)
        exact ⟨val, fun z => absurd z (by decide), a2, fun z => absurd z (by decide), fun z => absurd z (by decide), fun z => absurd z (by decide), fun _ => a3⟩
end EVALV
