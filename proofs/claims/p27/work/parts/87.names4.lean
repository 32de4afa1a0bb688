/-! ===== NAMES: a whole list ===== -/
theorem oc_note {n t : Int} {s : NSt} : (nNote n t s).2.2.1 = s.2.2.1 := by
  unfold nNote
  split <;> rfl
theorem oc_set {tc : Nat} {t v : Int} {s : NSt} : (nSet tc t v s).2.2.1 = s.2.2.1 := by
  unfold nSet
  split <;> rfl
theorem oc_find {tc k : Nat} {sp : Nat → Int} {t : Int} {s : NSt} : (nFind tc sp k t s).2.2.1 = s.2.2.1 := by
  unfold nFind
  rw [oc_set]
  split
  · exact oc_note
  · rfl
theorem oc_tell {tc k : Nat} {sp : Nat → Int} {t : Int} {s : NSt} : (nTell tc sp k t s).2.2.1 = s.2.2.1 := by
  unfold nTell
  split
  · split
    · exact oc_note
    · rfl
  · exact oc_note
theorem oc_num {tc : Nat} {t a b : Int} {s : NSt} : (nNum tc t a b s).2.2.1 = s.2.2.1 := by
  unfold nNum
  split
  · rfl
  · exact oc_note
theorem oc_road {f t m : Int} {s : NSt} : (nRoad f t m s).2.2.1 = s.2.2.1 := by
  unfold nRoad
  split <;> rfl
theorem oc_rum {f t : Int} {s : NSt} : (nRum f t s).2.2.1 = s.2.2.1 := by
  unfold nRum
  split <;> rfl
theorem oc_ord {t : Int} {s : NSt} : (nOrd t s).2.2.1 = s.2.2.1 + 1 := by
  unfold nOrd
  split
  · rfl
  · exact oc_note
theorem oc_at {tc : Nat} {kd : Nat → Nat} {sp : Nat → Int} {t : Nat} {s : NSt} : (nAt tc kd sp t s).2.2.1 = s.2.2.1 ∨ (nAt tc kd sp t s).2.2.1 = s.2.2.1 + 1 := by
  unfold nAt
  split
  · exact Or.inl oc_tell
  · split
    · refine Or.inl ?_
      unfold nRoadAt
      dsimp only
      split <;> (split <;> simp only [oc_road, oc_num, oc_note, oc_find, oc_tell])
    · split
      · refine Or.inl ?_
        unfold nRumAt
        dsimp only
        split
        · rw [oc_rum, oc_num, oc_find, oc_tell]
        · rw [oc_num, oc_find, oc_tell]
      · split
        · exact Or.inr (by rw [oc_find, oc_ord])
        · split
          · exact Or.inr (by rw [oc_find, oc_ord])
          · split
            · exact Or.inl oc_find
            · split
              · exact Or.inl oc_find
              · split
                · exact Or.inl (by rw [oc_find, oc_find])
                · split
                  · exact Or.inl (by rw [oc_find, oc_find])
                  · exact Or.inl rfl
theorem NOk.ite {c : Prop} [Decidable c] {a b : NSt} (ha : NOk a) (hb : NOk b) : NOk (if c then a else b) := by
  split
  · exact ha
  · exact hb
theorem NOk.at {tc : Nat} {kd : Nat → Nat} {sp : Nat → Int} {t : Nat} {s : NSt} (hN : NOk s) : NOk (nAt tc kd sp t s) := by
  unfold nAt
  split
  · exact hN.tell (by decide)
  · split
    · unfold nRoadAt
      dsimp only
      have h3 := (hN.tell (tc := tc) (sp := sp) (t := (t : Int) + 1) (k := 1) (by decide)).find (tc := tc) (sp := sp) (t := (t : Int) + 3) (k := 0)
      have h4 := h3.find (tc := tc) (sp := sp) (t := (t : Int) + 5) (k := 0)
      exact NOk.ite (NOk.road (NOk.num (NOk.ite h4.note h4))) (NOk.num (NOk.ite h4.note h4))
    · split
      · unfold nRumAt
        dsimp only
        split
        · exact ((hN.tell (by decide)).find.num).rum
        · exact (hN.tell (by decide)).find.num
      · split
        · exact hN.ord.find
        · split
          · exact hN.ord.find
          · split
            · exact hN.find
            · split
              · exact hN.find
              · split
                · exact hN.find.find
                · split
                  · exact hN.find.find
                  · exact hN
section NAMES4
variable {L : Nat} {xs : Nat → Int} {fm : Bool} {h h' : MH} {pd cl tv od tc rd ru tv' : Nat} {kd : Nat → Nat} {sp : Nat → Int} {P0 : Nat → Nat → Int} {s s' : NSt}
theorem cn_tell (hB : NB h pd cl od tc kd sp P0) (hN : NOk s) {k : Nat} (hk : k < 3) {t : Int} {d : Nat} {B : Nat → List MI} {ex : List Nat} {is : List MI} {ls st : List MV} {Q : (Option MV ⊕ Nat) → MH → Prop} (hd : 2 < d) : WCl (GG L xs fm) d B ex is ls 38 [qR 35, qI k, qI t] st (hS h pd cl tv od s) Q = Wp (GG L xs fm) d B is ls st (hS h pd cl tv od (nTell tc sp k t s)) Q := WCl_sp (n_tell hB hN hk) hd
theorem cn_find (hB : NB h pd cl od tc kd sp P0) (hN : NOk s) {k : Nat} (hk : k < 3) {t : Int} {d : Nat} {B : Nat → List MI} {ex : List Nat} {is : List MI} {ls st : List MV} {Q : (Option MV ⊕ Nat) → MH → Prop} (hd : 2 < d) : WCl (GG L xs fm) d B ex is ls 39 [qR 35, qI k, qI t] st (hS h pd cl tv od s) Q = Wp (GG L xs fm) d B is ls (qI (nIx (spO tc sp t) k s) :: st) (hS h pd cl tv od (nFind tc sp k t s)) Q := WCl_sp (n_find hB hN hk) hd
theorem cn_num (hB : NB h pd cl od tc kd sp P0) {t a b : Int} {d : Nat} {B : Nat → List MI} {ex : List Nat} {is : List MI} {ls st : List MV} {Q : (Option MV ⊕ Nat) → MH → Prop} (hd : 2 < d) : WCl (GG L xs fm) d B ex is ls 41 [qR 35, qI t, qI a, qI b] st (hS h pd cl tv od s) Q = Wp (GG L xs fm) d B is ls (qI (vlO tc (s.2.2.2.2.2.2.2 4) t) :: st) (hS h pd cl tv od (nNum tc t a b s)) Q := WCl_sp (n_num hB) hd
theorem cn_note {n t : Int} {d : Nat} {B : Nat → List MI} {ex : List Nat} {is : List MI} {ls st : List MV} {Q : (Option MV ⊕ Nat) → MH → Prop} (hd : 0 < d) : WCl (GG L xs fm) d B ex is ls 37 [qR 35, qI n, qI t] st (hS h pd cl tv od s) Q = Wp (GG L xs fm) d B is ls st (hS h pd cl tv od (nNote n t s)) Q := WCl_sp n_note hd
theorem cn_aroad (hB : NB h pd cl od tc kd sp P0) {a b c : Int} {d : Nat} {B : Nat → List MI} {ex : List Nat} {is : List MI} {ls st : List MV} {Q : (Option MV ⊕ Nat) → MH → Prop} (hd : 0 < d) : WCl (GG L xs fm) d B ex is ls 46 [qR pd, qI a, qI b, qI c] st (hS h pd cl tv od s) Q = Wp (GG L xs fm) d B is ls st (hS h pd cl tv od (nRoad a b c s)) Q := WCl_sp (n_addRoad hB) hd
theorem cn_arum (hB : NB h pd cl od tc kd sp P0) {a b : Int} {d : Nat} {B : Nat → List MI} {ex : List Nat} {is : List MI} {ls st : List MV} {Q : (Option MV ⊕ Nat) → MH → Prop} (hd : 0 < d) : WCl (GG L xs fm) d B ex is ls 47 [qR pd, qI a, qI b] st (hS h pd cl tv od s) Q = Wp (GG L xs fm) d B is ls st (hS h pd cl tv od (nRum a b s)) Q := WCl_sp (n_addRum hB) hd
theorem cn_ord {t : Int} (hc : 0 ≤ s.2.2.1 ∧ s.2.2.1 ≤ 401) {d : Nat} {B : Nat → List MI} {ex : List Nat} {is : List MI} {ls st : List MV} {Q : (Option MV ⊕ Nat) → MH → Prop} (hd : 1 < d) : WCl (GG L xs fm) d B ex is ls 36 [qR 35, qI t] st (hS h pd cl tv od s) Q = Wp (GG L xs fm) d B is ls st (hS h pd cl tv od (nOrd t s)) Q := WCl_sp (n_order hc) hd
theorem n_road (hB : NB h pd cl od tc kd sp P0) (hN : NOk s) {t : Nat} (ht : t ≤ 401) : Sp (GG L xs fm) 3 mX4_lookAtRoad [qR 35, qI t] (hS h pd cl tv od s) (fun r h2 => r = .inl none ∧ h2 = hS h pd cl tv od (nRoadAt tc sp t s)) := by
  have hpd := hB.1
  have n1 := hN.tell (tc := tc) (sp := sp) (t := (t : Int) + 1) (k := 1) (by decide)
  have t1 : ∀ {d : Nat} {B : Nat → List MI} {ex : List Nat} {is : List MI} {ls st : List MV} {Q : (Option MV ⊕ Nat) → MH → Prop}, 2 < d → WCl (GG L xs fm) d B ex is ls 38 [qR 35, qI 1, qI ((t : Int) + 1)] st (hS h pd cl tv od s) Q = Wp (GG L xs fm) d B is ls st (hS h pd cl tv od (nTell tc sp 1 ((t : Int) + 1) s)) Q := fun hd => cn_tell (k := 1) hB hN (by decide) hd
  unfold nRoadAt
  dsimp only
  generalize nTell tc sp 1 (↑t + 1) s = s1 at n1 t1 ⊢
  have n2 := n1.find (tc := tc) (sp := sp) (t := (t : Int) + 3) (k := 0)
  have t2 : ∀ {d : Nat} {B : Nat → List MI} {ex : List Nat} {is : List MI} {ls st : List MV} {Q : (Option MV ⊕ Nat) → MH → Prop}, 2 < d → WCl (GG L xs fm) d B ex is ls 39 [qR 35, qI 0, qI ((t : Int) + 3)] st (hS h pd cl tv od s1) Q = Wp (GG L xs fm) d B is ls (qI (nIx (spO tc sp ((t : Int) + 3)) 0 s1) :: st) (hS h pd cl tv od (nFind tc sp 0 ((t : Int) + 3) s1)) Q := fun hd => cn_find (k := 0) hB n1 (by decide) hd
  have b1 := nIx_bd (x := spO tc sp (↑t + 3)) n1 (k := 0) (by decide)
  generalize nFind tc sp 0 (↑t + 3) s1 = s2 at n2 t2 ⊢
  generalize nIx (spO tc sp (↑t + 3)) 0 s1 = f at t2 b1 ⊢
  have n3 := n2.find (tc := tc) (sp := sp) (t := (t : Int) + 5) (k := 0)
  have t3 : ∀ {d : Nat} {B : Nat → List MI} {ex : List Nat} {is : List MI} {ls st : List MV} {Q : (Option MV ⊕ Nat) → MH → Prop}, 2 < d → WCl (GG L xs fm) d B ex is ls 39 [qR 35, qI 0, qI ((t : Int) + 5)] st (hS h pd cl tv od s2) Q = Wp (GG L xs fm) d B is ls (qI (nIx (spO tc sp ((t : Int) + 5)) 0 s2) :: st) (hS h pd cl tv od (nFind tc sp 0 ((t : Int) + 5) s2)) Q := fun hd => cn_find (k := 0) hB n2 (by decide) hd
  have b2 := nIx_bd (x := spO tc sp (↑t + 5)) n2 (k := 0) (by decide)
  generalize nFind tc sp 0 (↑t + 5) s2 = s3 at n3 t3 ⊢
  generalize nIx (spO tc sp (↑t + 5)) 0 s2 = g at t3 b2 ⊢
  have tail : ∀ s4 : NSt, Wp (GG L xs fm) 3 BX4_lookAtRoad (BX4_lookAtRoad 1) [qR 35, qI t, qI f, qI g, qU] [] (hS h pd cl tv od s4) (fun r h2 => r = .inl none ∧ h2 = hS h pd cl tv od (if (nNum tc (↑t + 7) 1 30 s4).1 = 0 then nRoad f g (vlO tc (s4.2.2.2.2.2.2.2 4) (↑t + 7)) (nNum tc (↑t + 7) 1 30 s4) else nNum tc (↑t + 7) 1 30 s4)) := by
    intro s4
    have t4 : ∀ {d : Nat} {B : Nat → List MI} {ex : List Nat} {is : List MI} {ls st : List MV} {Q : (Option MV ⊕ Nat) → MH → Prop}, 2 < d → WCl (GG L xs fm) d B ex is ls 41 [qR 35, qI ((t : Int) + 7), qI 1, qI 30] st (hS h pd cl tv od s4) Q = Wp (GG L xs fm) d B is ls (qI (vlO tc (s4.2.2.2.2.2.2.2 4) ((t : Int) + 7)) :: st) (hS h pd cl tv od (nNum tc ((t : Int) + 7) 1 30 s4)) Q := fun hd => cn_num hB hd
    generalize nNum tc (↑t + 7) 1 30 s4 = s5 at t4 ⊢
    generalize vlO tc (s4.2.2.2.2.2.2.2 4) (↑t + 7) = m at t4 ⊢
    have t5 : ∀ {d : Nat} {B : Nat → List MI} {ex : List Nat} {is : List MI} {ls st : List MV} {Q : (Option MV ⊕ Nat) → MH → Prop}, 0 < d → WCl (GG L xs fm) d B ex is ls 46 [qR pd, qI f, qI g, qI m] st (hS h pd cl tv od s5) Q = Wp (GG L xs fm) d B is ls st (hS h pd cl tv od (nRoad f g m s5)) Q := fun hd => cn_aroad hB hd
    by_cases h1 : s5.1 = 0
    · rw [if_pos h1]
      simp (disch := omega) only [ms_sipush, ms_lconst, ms_ldc2_w, ms_dconst, ms_ldc, ms_getstatic, ms_iload, ms_lload, ms_dload, ms_aload, ms_istore, ms_lstore, ms_dstore, ms_astore, ms_iinc, ms_iadd, ms_isub, ms_imul, ms_idiv, ms_irem, ms_ineg, ms_iand, ms_ior, ms_ishr, ms_ishl, ms_iushr, ms_i2b, ms_i2c, ms_i2l, ms_ladd, ms_lmul, ms_lcmp, ms_i2d, ms_ddiv, ms_dcmp, ms_dup, ms_pop, ms_dup2, ms_dup_x1, ms_aconst_null, ms_ifnull, ms_ifnonnull, ms_checkcast, ms_goto, ms_ifCond, ms_if_icmp, ms_if_acmp_eq, ms_if_acmp_ne, ms_tableswitch, ms_lookupswitch, ms_getfield, ms_putfield, ms_arraylength, ms_iaload, ms_baload, ms_laload, ms_aaload, ms_iastore, ms_bastore, ms_lastore, ms_aastore, ms_newarray, ms_new, ms_anewarray, ms_multianewarray, ms_invokevirtual, ms_invokestatic, ms_invokespecial, ms_invokeinterface, ms_invokedynamic_0, ms_invokedynamic_1, ms_invokedynamic_2, ms_invokedynamic_3, ms_invokedynamic_4, ms_invokedynamic_5, ms_invokedynamic_6, ms_invokedynamic_7, ms_invokedynamic_8, ms_ireturn, ms_lreturn, ms_dreturn, ms_areturn, ms_return_, Wp_cons, WSC_nx, WSC_cl, WSC_rt, WSC_th, WSC_if, lg, lset, lfree, wide, isRf, isRT, fitK, hgt, margs, mpad, rcv, rdF, rdN, rdI, rdQ, mC_eq, mC_ne, mC_lt, mC_ge, mC_gt, mC_le, mset, mnew, h_fst, h_snd, lt_drop0, List.drop_succ_cons, List.drop_zero, List.drop_nil, List.take_succ_cons, List.take_zero, List.reverse_cons, List.reverse_nil, List.nil_append, List.cons_append, List.append_nil, List.length_cons, List.length_nil, List.getElem?_cons_succ, List.getElem?_cons_zero, List.set_cons_succ, List.set_cons_zero, List.replicate, Option.toList, reduceIte, Bool.not_false, Bool.not_true, Nat.reduceLT, Nat.reduceLeDiff, Nat.reduceAdd, Nat.reduceSub, Nat.reduceMul, Int.reduceLT, Int.reduceLE, Int.reduceNeg, Int.reduceAdd, Int.reduceSub, Int.reduceMul, Int.reduceEq, and_self, true_and, and_true, false_and, and_false, or_false, false_or, true_or, or_true, not_true_eq_false, not_false_eq_true, Bool.false_eq_true, Bool.true_eq_false, decide_true, decide_false, decide_eq_true_eq, Nat.le_refl, Nat.zero_le, ge_iff_le, gt_iff_lt, Nat.lt_irrefl, reduceCtorEq, if_posD, if_negD, w32_id, Int.toNat_natCast, WCo_in, mUp_self, mUp_ne, ne_eq, Bool.true_and, Bool.and_true, Bool.false_and, Bool.and_false, Bool.true_or, Bool.or_true, Bool.false_or, Bool.or_false, Nat.reduceEqDiff, Int.cast_ofNat_Int, Int.reduceToNat, List.getD_cons_succ, List.getD_cons_zero, eq_self, swL, if_true, if_false, nqT, isNl, qX4_lookAtRoad_1, qX4_lookAtRoad_2, MX4_find, MX4_note, MX4_numberOf, MX4_tellNew, MX5_addRoad, GG1, t4, hS_35, hS_0 hpd, h1, t5]
    · rw [if_neg h1]
      simp (disch := omega) only [ms_sipush, ms_lconst, ms_ldc2_w, ms_dconst, ms_ldc, ms_getstatic, ms_iload, ms_lload, ms_dload, ms_aload, ms_istore, ms_lstore, ms_dstore, ms_astore, ms_iinc, ms_iadd, ms_isub, ms_imul, ms_idiv, ms_irem, ms_ineg, ms_iand, ms_ior, ms_ishr, ms_ishl, ms_iushr, ms_i2b, ms_i2c, ms_i2l, ms_ladd, ms_lmul, ms_lcmp, ms_i2d, ms_ddiv, ms_dcmp, ms_dup, ms_pop, ms_dup2, ms_dup_x1, ms_aconst_null, ms_ifnull, ms_ifnonnull, ms_checkcast, ms_goto, ms_ifCond, ms_if_icmp, ms_if_acmp_eq, ms_if_acmp_ne, ms_tableswitch, ms_lookupswitch, ms_getfield, ms_putfield, ms_arraylength, ms_iaload, ms_baload, ms_laload, ms_aaload, ms_iastore, ms_bastore, ms_lastore, ms_aastore, ms_newarray, ms_new, ms_anewarray, ms_multianewarray, ms_invokevirtual, ms_invokestatic, ms_invokespecial, ms_invokeinterface, ms_invokedynamic_0, ms_invokedynamic_1, ms_invokedynamic_2, ms_invokedynamic_3, ms_invokedynamic_4, ms_invokedynamic_5, ms_invokedynamic_6, ms_invokedynamic_7, ms_invokedynamic_8, ms_ireturn, ms_lreturn, ms_dreturn, ms_areturn, ms_return_, Wp_cons, WSC_nx, WSC_cl, WSC_rt, WSC_th, WSC_if, lg, lset, lfree, wide, isRf, isRT, fitK, hgt, margs, mpad, rcv, rdF, rdN, rdI, rdQ, mC_eq, mC_ne, mC_lt, mC_ge, mC_gt, mC_le, mset, mnew, h_fst, h_snd, lt_drop0, List.drop_succ_cons, List.drop_zero, List.drop_nil, List.take_succ_cons, List.take_zero, List.reverse_cons, List.reverse_nil, List.nil_append, List.cons_append, List.append_nil, List.length_cons, List.length_nil, List.getElem?_cons_succ, List.getElem?_cons_zero, List.set_cons_succ, List.set_cons_zero, List.replicate, Option.toList, reduceIte, Bool.not_false, Bool.not_true, Nat.reduceLT, Nat.reduceLeDiff, Nat.reduceAdd, Nat.reduceSub, Nat.reduceMul, Int.reduceLT, Int.reduceLE, Int.reduceNeg, Int.reduceAdd, Int.reduceSub, Int.reduceMul, Int.reduceEq, and_self, true_and, and_true, false_and, and_false, or_false, false_or, true_or, or_true, not_true_eq_false, not_false_eq_true, Bool.false_eq_true, Bool.true_eq_false, decide_true, decide_false, decide_eq_true_eq, Nat.le_refl, Nat.zero_le, ge_iff_le, gt_iff_lt, Nat.lt_irrefl, reduceCtorEq, if_posD, if_negD, w32_id, Int.toNat_natCast, WCo_in, mUp_self, mUp_ne, ne_eq, Bool.true_and, Bool.and_true, Bool.false_and, Bool.and_false, Bool.true_or, Bool.or_true, Bool.false_or, Bool.or_false, Nat.reduceEqDiff, Int.cast_ofNat_Int, Int.reduceToNat, List.getD_cons_succ, List.getD_cons_zero, eq_self, swL, if_true, if_false, nqT, isNl, qX4_lookAtRoad_1, qX4_lookAtRoad_2, MX4_find, MX4_note, MX4_numberOf, MX4_tellNew, MX5_addRoad, GG1, t4, hS_35, h1]
  refine Sp_of MX4_lookAtRoad ?_
  by_cases h1 : f = g
  · have := tail (nNote 3 (t + 5) s3)
    rw [if_pos h1]
    subst h1
    simp (disch := omega) only [ms_sipush, ms_lconst, ms_ldc2_w, ms_dconst, ms_ldc, ms_getstatic, ms_iload, ms_lload, ms_dload, ms_aload, ms_istore, ms_lstore, ms_dstore, ms_astore, ms_iinc, ms_iadd, ms_isub, ms_imul, ms_idiv, ms_irem, ms_ineg, ms_iand, ms_ior, ms_ishr, ms_ishl, ms_iushr, ms_i2b, ms_i2c, ms_i2l, ms_ladd, ms_lmul, ms_lcmp, ms_i2d, ms_ddiv, ms_dcmp, ms_dup, ms_pop, ms_dup2, ms_dup_x1, ms_aconst_null, ms_ifnull, ms_ifnonnull, ms_checkcast, ms_goto, ms_ifCond, ms_if_icmp, ms_if_acmp_eq, ms_if_acmp_ne, ms_tableswitch, ms_lookupswitch, ms_getfield, ms_putfield, ms_arraylength, ms_iaload, ms_baload, ms_laload, ms_aaload, ms_iastore, ms_bastore, ms_lastore, ms_aastore, ms_newarray, ms_new, ms_anewarray, ms_multianewarray, ms_invokevirtual, ms_invokestatic, ms_invokespecial, ms_invokeinterface, ms_invokedynamic_0, ms_invokedynamic_1, ms_invokedynamic_2, ms_invokedynamic_3, ms_invokedynamic_4, ms_invokedynamic_5, ms_invokedynamic_6, ms_invokedynamic_7, ms_invokedynamic_8, ms_ireturn, ms_lreturn, ms_dreturn, ms_areturn, ms_return_, Wp_cons, WSC_nx, WSC_cl, WSC_rt, WSC_th, WSC_if, lg, lset, lfree, wide, isRf, isRT, fitK, hgt, margs, mpad, rcv, rdF, rdN, rdI, rdQ, mC_eq, mC_ne, mC_lt, mC_ge, mC_gt, mC_le, mset, mnew, h_fst, h_snd, lt_drop0, List.drop_succ_cons, List.drop_zero, List.drop_nil, List.take_succ_cons, List.take_zero, List.reverse_cons, List.reverse_nil, List.nil_append, List.cons_append, List.append_nil, List.length_cons, List.length_nil, List.getElem?_cons_succ, List.getElem?_cons_zero, List.set_cons_succ, List.set_cons_zero, List.replicate, Option.toList, reduceIte, Bool.not_false, Bool.not_true, Nat.reduceLT, Nat.reduceLeDiff, Nat.reduceAdd, Nat.reduceSub, Nat.reduceMul, Int.reduceLT, Int.reduceLE, Int.reduceNeg, Int.reduceAdd, Int.reduceSub, Int.reduceMul, Int.reduceEq, and_self, true_and, and_true, false_and, and_false, or_false, false_or, true_or, or_true, not_true_eq_false, not_false_eq_true, Bool.false_eq_true, Bool.true_eq_false, decide_true, decide_false, decide_eq_true_eq, Nat.le_refl, Nat.zero_le, ge_iff_le, gt_iff_lt, Nat.lt_irrefl, reduceCtorEq, if_posD, if_negD, w32_id, Int.toNat_natCast, WCo_in, mUp_self, mUp_ne, ne_eq, Bool.true_and, Bool.and_true, Bool.false_and, Bool.and_false, Bool.true_or, Bool.or_true, Bool.false_or, Bool.or_false, Nat.reduceEqDiff, Int.cast_ofNat_Int, Int.reduceToNat, List.getD_cons_succ, List.getD_cons_zero, eq_self, swL, if_true, if_false, nqT, isNl, qX4_lookAtRoad_0, MX4_find, MX4_note, MX4_numberOf, MX4_tellNew, MX5_addRoad, GG1, t1, t2, t3, cn_note]
    exact this
  · have := tail s3
    rw [if_neg h1]
    simp (disch := omega) only [ms_sipush, ms_lconst, ms_ldc2_w, ms_dconst, ms_ldc, ms_getstatic, ms_iload, ms_lload, ms_dload, ms_aload, ms_istore, ms_lstore, ms_dstore, ms_astore, ms_iinc, ms_iadd, ms_isub, ms_imul, ms_idiv, ms_irem, ms_ineg, ms_iand, ms_ior, ms_ishr, ms_ishl, ms_iushr, ms_i2b, ms_i2c, ms_i2l, ms_ladd, ms_lmul, ms_lcmp, ms_i2d, ms_ddiv, ms_dcmp, ms_dup, ms_pop, ms_dup2, ms_dup_x1, ms_aconst_null, ms_ifnull, ms_ifnonnull, ms_checkcast, ms_goto, ms_ifCond, ms_if_icmp, ms_if_acmp_eq, ms_if_acmp_ne, ms_tableswitch, ms_lookupswitch, ms_getfield, ms_putfield, ms_arraylength, ms_iaload, ms_baload, ms_laload, ms_aaload, ms_iastore, ms_bastore, ms_lastore, ms_aastore, ms_newarray, ms_new, ms_anewarray, ms_multianewarray, ms_invokevirtual, ms_invokestatic, ms_invokespecial, ms_invokeinterface, ms_invokedynamic_0, ms_invokedynamic_1, ms_invokedynamic_2, ms_invokedynamic_3, ms_invokedynamic_4, ms_invokedynamic_5, ms_invokedynamic_6, ms_invokedynamic_7, ms_invokedynamic_8, ms_ireturn, ms_lreturn, ms_dreturn, ms_areturn, ms_return_, Wp_cons, WSC_nx, WSC_cl, WSC_rt, WSC_th, WSC_if, lg, lset, lfree, wide, isRf, isRT, fitK, hgt, margs, mpad, rcv, rdF, rdN, rdI, rdQ, mC_eq, mC_ne, mC_lt, mC_ge, mC_gt, mC_le, mset, mnew, h_fst, h_snd, lt_drop0, List.drop_succ_cons, List.drop_zero, List.drop_nil, List.take_succ_cons, List.take_zero, List.reverse_cons, List.reverse_nil, List.nil_append, List.cons_append, List.append_nil, List.length_cons, List.length_nil, List.getElem?_cons_succ, List.getElem?_cons_zero, List.set_cons_succ, List.set_cons_zero, List.replicate, Option.toList, reduceIte, Bool.not_false, Bool.not_true, Nat.reduceLT, Nat.reduceLeDiff, Nat.reduceAdd, Nat.reduceSub, Nat.reduceMul, Int.reduceLT, Int.reduceLE, Int.reduceNeg, Int.reduceAdd, Int.reduceSub, Int.reduceMul, Int.reduceEq, and_self, true_and, and_true, false_and, and_false, or_false, false_or, true_or, or_true, not_true_eq_false, not_false_eq_true, Bool.false_eq_true, Bool.true_eq_false, decide_true, decide_false, decide_eq_true_eq, Nat.le_refl, Nat.zero_le, ge_iff_le, gt_iff_lt, Nat.lt_irrefl, reduceCtorEq, if_posD, if_negD, w32_id, Int.toNat_natCast, WCo_in, mUp_self, mUp_ne, ne_eq, Bool.true_and, Bool.and_true, Bool.false_and, Bool.and_false, Bool.true_or, Bool.or_true, Bool.false_or, Bool.or_false, Nat.reduceEqDiff, Int.cast_ofNat_Int, Int.reduceToNat, List.getD_cons_succ, List.getD_cons_zero, eq_self, swL, if_true, if_false, nqT, isNl, qX4_lookAtRoad_0, MX4_find, MX4_note, MX4_numberOf, MX4_tellNew, MX5_addRoad, GG1, t1, t2, t3, h1]
    exact this
theorem n_rumour (hB : NB h pd cl od tc kd sp P0) (hN : NOk s) {t : Nat} (ht : t ≤ 401) : Sp (GG L xs fm) 3 mX4_lookAtRumour [qR 35, qI t] (hS h pd cl tv od s) (fun r h2 => r = .inl none ∧ h2 = hS h pd cl tv od (nRumAt tc sp t s)) := by
  have hpd := hB.1
  have n1 := hN.tell (tc := tc) (sp := sp) (t := (t : Int) + 1) (k := 2) (by decide)
  have t1 : ∀ {d : Nat} {B : Nat → List MI} {ex : List Nat} {is : List MI} {ls st : List MV} {Q : (Option MV ⊕ Nat) → MH → Prop}, 2 < d → WCl (GG L xs fm) d B ex is ls 38 [qR 35, qI 2, qI ((t : Int) + 1)] st (hS h pd cl tv od s) Q = Wp (GG L xs fm) d B is ls st (hS h pd cl tv od (nTell tc sp 2 ((t : Int) + 1) s)) Q := fun hd => cn_tell (k := 2) hB hN (by decide) hd
  unfold nRumAt
  dsimp only
  generalize nTell tc sp 2 (↑t + 1) s = s1 at n1 t1 ⊢
  have n2 := n1.find (tc := tc) (sp := sp) (t := (t : Int) + 3) (k := 0)
  have t2 : ∀ {d : Nat} {B : Nat → List MI} {ex : List Nat} {is : List MI} {ls st : List MV} {Q : (Option MV ⊕ Nat) → MH → Prop}, 2 < d → WCl (GG L xs fm) d B ex is ls 39 [qR 35, qI 0, qI ((t : Int) + 3)] st (hS h pd cl tv od s1) Q = Wp (GG L xs fm) d B is ls (qI (nIx (spO tc sp ((t : Int) + 3)) 0 s1) :: st) (hS h pd cl tv od (nFind tc sp 0 ((t : Int) + 3) s1)) Q := fun hd => cn_find (k := 0) hB n1 (by decide) hd
  generalize nFind tc sp 0 (↑t + 3) s1 = s2 at n2 t2 ⊢
  generalize nIx (spO tc sp (↑t + 3)) 0 s1 = f at t2 ⊢
  have t4 : ∀ {d : Nat} {B : Nat → List MI} {ex : List Nat} {is : List MI} {ls st : List MV} {Q : (Option MV ⊕ Nat) → MH → Prop}, 2 < d → WCl (GG L xs fm) d B ex is ls 41 [qR 35, qI ((t : Int) + 5), qI 0, qI 99] st (hS h pd cl tv od s2) Q = Wp (GG L xs fm) d B is ls (qI (vlO tc (s2.2.2.2.2.2.2.2 4) ((t : Int) + 5)) :: st) (hS h pd cl tv od (nNum tc ((t : Int) + 5) 0 99 s2)) Q := fun hd => cn_num hB hd
  generalize nNum tc (↑t + 5) 0 99 s2 = s5 at t4 ⊢
  generalize vlO tc (s2.2.2.2.2.2.2.2 4) (↑t + 5) = m at t4 ⊢
  have t5 : ∀ {d : Nat} {B : Nat → List MI} {ex : List Nat} {is : List MI} {ls st : List MV} {Q : (Option MV ⊕ Nat) → MH → Prop}, 0 < d → WCl (GG L xs fm) d B ex is ls 47 [qR pd, qI f, qI m] st (hS h pd cl tv od s5) Q = Wp (GG L xs fm) d B is ls st (hS h pd cl tv od (nRum f m s5)) Q := fun hd => cn_arum hB hd
  refine Sp_of MX4_lookAtRumour ?_
  by_cases h1 : s5.1 = 0
  · rw [if_pos h1]
    simp (disch := omega) only [ms_sipush, ms_lconst, ms_ldc2_w, ms_dconst, ms_ldc, ms_getstatic, ms_iload, ms_lload, ms_dload, ms_aload, ms_istore, ms_lstore, ms_dstore, ms_astore, ms_iinc, ms_iadd, ms_isub, ms_imul, ms_idiv, ms_irem, ms_ineg, ms_iand, ms_ior, ms_ishr, ms_ishl, ms_iushr, ms_i2b, ms_i2c, ms_i2l, ms_ladd, ms_lmul, ms_lcmp, ms_i2d, ms_ddiv, ms_dcmp, ms_dup, ms_pop, ms_dup2, ms_dup_x1, ms_aconst_null, ms_ifnull, ms_ifnonnull, ms_checkcast, ms_goto, ms_ifCond, ms_if_icmp, ms_if_acmp_eq, ms_if_acmp_ne, ms_tableswitch, ms_lookupswitch, ms_getfield, ms_putfield, ms_arraylength, ms_iaload, ms_baload, ms_laload, ms_aaload, ms_iastore, ms_bastore, ms_lastore, ms_aastore, ms_newarray, ms_new, ms_anewarray, ms_multianewarray, ms_invokevirtual, ms_invokestatic, ms_invokespecial, ms_invokeinterface, ms_invokedynamic_0, ms_invokedynamic_1, ms_invokedynamic_2, ms_invokedynamic_3, ms_invokedynamic_4, ms_invokedynamic_5, ms_invokedynamic_6, ms_invokedynamic_7, ms_invokedynamic_8, ms_ireturn, ms_lreturn, ms_dreturn, ms_areturn, ms_return_, Wp_cons, WSC_nx, WSC_cl, WSC_rt, WSC_th, WSC_if, lg, lset, lfree, wide, isRf, isRT, fitK, hgt, margs, mpad, rcv, rdF, rdN, rdI, rdQ, mC_eq, mC_ne, mC_lt, mC_ge, mC_gt, mC_le, mset, mnew, h_fst, h_snd, lt_drop0, List.drop_succ_cons, List.drop_zero, List.drop_nil, List.take_succ_cons, List.take_zero, List.reverse_cons, List.reverse_nil, List.nil_append, List.cons_append, List.append_nil, List.length_cons, List.length_nil, List.getElem?_cons_succ, List.getElem?_cons_zero, List.set_cons_succ, List.set_cons_zero, List.replicate, Option.toList, reduceIte, Bool.not_false, Bool.not_true, Nat.reduceLT, Nat.reduceLeDiff, Nat.reduceAdd, Nat.reduceSub, Nat.reduceMul, Int.reduceLT, Int.reduceLE, Int.reduceNeg, Int.reduceAdd, Int.reduceSub, Int.reduceMul, Int.reduceEq, and_self, true_and, and_true, false_and, and_false, or_false, false_or, true_or, or_true, not_true_eq_false, not_false_eq_true, Bool.false_eq_true, Bool.true_eq_false, decide_true, decide_false, decide_eq_true_eq, Nat.le_refl, Nat.zero_le, ge_iff_le, gt_iff_lt, Nat.lt_irrefl, reduceCtorEq, if_posD, if_negD, w32_id, Int.toNat_natCast, WCo_in, mUp_self, mUp_ne, ne_eq, Bool.true_and, Bool.and_true, Bool.false_and, Bool.and_false, Bool.true_or, Bool.or_true, Bool.false_or, Bool.or_false, Nat.reduceEqDiff, Int.cast_ofNat_Int, Int.reduceToNat, List.getD_cons_succ, List.getD_cons_zero, eq_self, swL, if_true, if_false, nqT, isNl, qX4_lookAtRumour_0, qX4_lookAtRumour_1, MX4_find, MX4_numberOf, MX4_tellNew, MX5_addRumour, GG1, t1, t2, t4, hS_35, hS_0 hpd, h1, t5]
  · rw [if_neg h1]
    simp (disch := omega) only [ms_sipush, ms_lconst, ms_ldc2_w, ms_dconst, ms_ldc, ms_getstatic, ms_iload, ms_lload, ms_dload, ms_aload, ms_istore, ms_lstore, ms_dstore, ms_astore, ms_iinc, ms_iadd, ms_isub, ms_imul, ms_idiv, ms_irem, ms_ineg, ms_iand, ms_ior, ms_ishr, ms_ishl, ms_iushr, ms_i2b, ms_i2c, ms_i2l, ms_ladd, ms_lmul, ms_lcmp, ms_i2d, ms_ddiv, ms_dcmp, ms_dup, ms_pop, ms_dup2, ms_dup_x1, ms_aconst_null, ms_ifnull, ms_ifnonnull, ms_checkcast, ms_goto, ms_ifCond, ms_if_icmp, ms_if_acmp_eq, ms_if_acmp_ne, ms_tableswitch, ms_lookupswitch, ms_getfield, ms_putfield, ms_arraylength, ms_iaload, ms_baload, ms_laload, ms_aaload, ms_iastore, ms_bastore, ms_lastore, ms_aastore, ms_newarray, ms_new, ms_anewarray, ms_multianewarray, ms_invokevirtual, ms_invokestatic, ms_invokespecial, ms_invokeinterface, ms_invokedynamic_0, ms_invokedynamic_1, ms_invokedynamic_2, ms_invokedynamic_3, ms_invokedynamic_4, ms_invokedynamic_5, ms_invokedynamic_6, ms_invokedynamic_7, ms_invokedynamic_8, ms_ireturn, ms_lreturn, ms_dreturn, ms_areturn, ms_return_, Wp_cons, WSC_nx, WSC_cl, WSC_rt, WSC_th, WSC_if, lg, lset, lfree, wide, isRf, isRT, fitK, hgt, margs, mpad, rcv, rdF, rdN, rdI, rdQ, mC_eq, mC_ne, mC_lt, mC_ge, mC_gt, mC_le, mset, mnew, h_fst, h_snd, lt_drop0, List.drop_succ_cons, List.drop_zero, List.drop_nil, List.take_succ_cons, List.take_zero, List.reverse_cons, List.reverse_nil, List.nil_append, List.cons_append, List.append_nil, List.length_cons, List.length_nil, List.getElem?_cons_succ, List.getElem?_cons_zero, List.set_cons_succ, List.set_cons_zero, List.replicate, Option.toList, reduceIte, Bool.not_false, Bool.not_true, Nat.reduceLT, Nat.reduceLeDiff, Nat.reduceAdd, Nat.reduceSub, Nat.reduceMul, Int.reduceLT, Int.reduceLE, Int.reduceNeg, Int.reduceAdd, Int.reduceSub, Int.reduceMul, Int.reduceEq, and_self, true_and, and_true, false_and, and_false, or_false, false_or, true_or, or_true, not_true_eq_false, not_false_eq_true, Bool.false_eq_true, Bool.true_eq_false, decide_true, decide_false, decide_eq_true_eq, Nat.le_refl, Nat.zero_le, ge_iff_le, gt_iff_lt, Nat.lt_irrefl, reduceCtorEq, if_posD, if_negD, w32_id, Int.toNat_natCast, WCo_in, mUp_self, mUp_ne, ne_eq, Bool.true_and, Bool.and_true, Bool.false_and, Bool.and_false, Bool.true_or, Bool.or_true, Bool.false_or, Bool.or_false, Nat.reduceEqDiff, Int.cast_ofNat_Int, Int.reduceToNat, List.getD_cons_succ, List.getD_cons_zero, eq_self, swL, if_true, if_false, nqT, isNl, qX4_lookAtRumour_0, qX4_lookAtRumour_1, MX4_find, MX4_numberOf, MX4_tellNew, MX5_addRumour, GG1, t1, t2, t4, hS_35, h1]
end NAMES4
