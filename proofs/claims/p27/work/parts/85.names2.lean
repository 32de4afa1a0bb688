/-! ===== NAMES: a token looked at ===== -/
theorem NOk.note {n t : Int} {s : NSt} (hN : NOk s) : NOk (nNote n t s) := by
  unfold nNote
  split
  · exact hN
  · exact hN
theorem NOk.set {tc : Nat} {t v : Int} {s : NSt} (hN : NOk s) : NOk (nSet tc t v s) := by
  unfold nSet
  split
  · exact hN
  · exact hN
theorem NOk.find {tc k : Nat} {sp : Nat → Int} {t : Int} {s : NSt} (hN : NOk s) : NOk (nFind tc sp k t s) := by
  unfold nFind
  split
  · exact hN.note.set
  · exact hN.set
theorem NOk.tell {tc k : Nat} {sp : Nat → Int} {t : Int} {s : NSt} (hN : NOk s) (hk : k < 3) : NOk (nTell tc sp k t s) := by
  unfold nTell
  split
  · split
    · exact hN.note
    · rename_i h1
      intro j hj
      show 0 ≤ mUp s.2.2.2.1 k (s.2.2.2.1 k + 1) j ∧ mUp s.2.2.2.1 k (s.2.2.2.1 k + 1) j ≤ 14
      by_cases hjk : j = k
      · subst hjk
        rw [mUp_self]
        have := hN j hj
        have hl : liV.getD j 0 ≤ 14 := by
          rcases (by omega : j = 0 ∨ j = 1 ∨ j = 2) with rfl | rfl | rfl <;> decide
        omega
      · rw [mUp_ne hjk]
        exact hN j hj
  · exact hN.note
theorem NOk.ord {t : Int} {s : NSt} (hN : NOk s) : NOk (nOrd t s) := by
  unfold nOrd
  split
  · exact hN
  · exact NOk.note (s := (s.1, s.2.1, s.2.2.1 + 1, s.2.2.2)) hN
theorem NOk.num {tc : Nat} {t a b : Int} {s : NSt} (hN : NOk s) : NOk (nNum tc t a b s) := by
  unfold nNum
  split
  · exact hN
  · exact hN.note
theorem NOk.road {f t m : Int} {s : NSt} (hN : NOk s) : NOk (nRoad f t m s) := by
  unfold nRoad
  split
  · exact hN
  · exact hN
theorem NOk.rum {a b : Int} {s : NSt} (hN : NOk s) : NOk (nRum a b s) := by
  unfold nRum
  split
  · exact hN
  · exact hN
theorem ixF_bd {r : Nat → Int} {x : Int} : ∀ {m j : Nat}, -1 ≤ ixF r x m j ∧ ixF r x m j < (j : Int) + m
  | 0, j => by
    unfold ixF
    omega
  | m + 1, j => by
    unfold ixF
    split
    · omega
    · have := ixF_bd (r := r) (x := x) (m := m) (j := j + 1)
      omega
theorem nIx_bd {x : Int} {k : Nat} {s : NSt} (hN : NOk s) (hk : k < 3) : -1 ≤ nIx x k s ∧ nIx x k s < 14 := by
  have h1 := ixF_bd (r := s.2.2.2.2.1 k) (x := x) (m := (s.2.2.2.1 k).toNat) (j := 0)
  have := hN k hk
  unfold nIx
  omega
def nRoadAt (tc : Nat) (sp : Nat → Int) (t : Int) (s : NSt) : NSt :=
  let s1 := nTell tc sp 1 (t + 1) s
  let f := nIx (spO tc sp (t + 3)) 0 s1
  let s2 := nFind tc sp 0 (t + 3) s1
  let g := nIx (spO tc sp (t + 5)) 0 s2
  let s3 := nFind tc sp 0 (t + 5) s2
  let s4 := if f = g then nNote 3 (t + 5) s3 else s3
  let s5 := nNum tc (t + 7) 1 30 s4
  if s5.1 = 0 then nRoad f g (vlO tc (s4.2.2.2.2.2.2.2 4) (t + 7)) s5 else s5
def nRumAt (tc : Nat) (sp : Nat → Int) (t : Int) (s : NSt) : NSt :=
  let s1 := nTell tc sp 2 (t + 1) s
  let f := nIx (spO tc sp (t + 3)) 0 s1
  let s2 := nFind tc sp 0 (t + 3) s1
  let s3 := nNum tc (t + 5) 0 99 s2
  if s3.1 = 0 then nRum f (vlO tc (s2.2.2.2.2.2.2.2 4) (t + 5)) s3 else s3
def nAt (tc : Nat) (kd : Nat → Nat) (sp : Nat → Int) (t : Nat) (s : NSt) : NSt :=
  if kd t = 0 then nTell tc sp 0 ((t : Int) + 1) s
  else if kd t = 1 then nRoadAt tc sp t s
  else if kd t = 5 then nRumAt tc sp t s
  else if kd t = 8 ∨ kd t = 10 then nFind tc sp 1 ((t : Int) + 1) (nOrd t s)
  else if kd t = 11 then nFind tc sp 0 ((t : Int) + 1) (nOrd t s)
  else if kd t = 18 ∨ kd t = 14 ∨ kd t = 15 then nFind tc sp 1 ((t : Int) + 1) s
  else if kd t = 17 then nFind tc sp 2 ((t : Int) + 1) s
  else if kd t = 16 ∨ kd t = 20 then nFind tc sp 0 ((t : Int) + 2) (nFind tc sp 0 ((t : Int) + 1) s)
  else if kd t = 19 then nFind tc sp 2 ((t : Int) + 2) (nFind tc sp 0 ((t : Int) + 1) s)
  else s
def nAll (tc : Nat) (kd : Nat → Nat) (sp : Nat → Int) : Nat → Nat → NSt → NSt
  | 0, _, s => s
  | m + 1, t, s => if s.1 = 0 then nAll tc kd sp m (t + 1) (nAt tc kd sp t s) else s
section NAMES2
variable {L : Nat} {xs : Nat → Int} {fm : Bool} {h h' : MH} {pd cl tv od tc rd ru tv' : Nat} {kd : Nat → Nat} {sp : Nat → Int} {P0 : Nat → Nat → Int} {s s' : NSt}
/-- where the names are told: the plan that is read at pd -/
def NB (h : MH) (pd cl od tc : Nat) (kd : Nat → Nat) (sp : Nat → Int) (P0 : Nat → Nat → Int) : Prop := (pd = 2 ∨ pd = 18) ∧ tc ≤ 401 ∧ h.1 36 = cQ (.array .long) 3 (fun j => if j < 3 then qR (37 + j) else qN) ∧ ∃ tv' rd ru, PlA h.1 pd cl tv' rd ru od tc kd sp P0
theorem n_find (hB : NB h pd cl od tc kd sp P0) (hN : NOk s) {k : Nat} (hk : k < 3) {t : Int} : Sp (GG L xs fm) 2 mX4_find [qR 35, qI k, qI t] (hS h pd cl tv od s) (fun r h2 => r = .inl (some (qI (nIx (spO tc sp t) k s))) ∧ h2 = hS h pd cl tv od (nFind tc sp k t s)) := by
  obtain ⟨hpd, htc, hg, tv', rd, ru, hP⟩ := hB
  have e0 := hS_35 (h := h) (pd := pd) (cl := cl) (tv := tv) (od := od) (s := s)
  have ep := hS_0 (h := h) (cl := cl) (tv := tv) (od := od) (s := s) hpd
  have hP1 := hS_pl (s := s) (tv := tv) hpd hP
  have e1 := hP1.2.1
  have c1 : ∀ {d : Nat} {B : Nat → List MI} {ex : List Nat} {is : List MI} {ls st : List MV} {Q : (Option MV ⊕ Nat) → MH → Prop}, d > 1 → WCl (GG L xs fm) d B ex is ls 91 [qR (pd + 1), qI t] st (hS h pd cl tv od s) Q = Wp (GG L xs fm) d B is ls (qL (spO tc sp t) :: st) (hS h pd cl tv od s) Q := fun hd => WCl_sp (pl_spell hP1 rfl htc) hd
  have c2 : ∀ {d : Nat} {B : Nat → List MI} {ex : List Nat} {is : List MI} {ls st : List MV} {Q : (Option MV ⊕ Nat) → MH → Prop}, d > 0 → WCl (GG L xs fm) d B ex is ls 40 [qR 35, qI k, qL (spO tc sp t)] st (hS h pd cl tv od s) Q = Wp (GG L xs fm) d B is ls (qI (nIx (spO tc sp t) k s) :: st) (hS h pd cl tv od s) Q := fun hd => WCl_sp (n_index hg hN hpd hk) hd
  have c3 : ∀ {d : Nat} {B : Nat → List MI} {ex : List Nat} {is : List MI} {ls st : List MV} {Q : (Option MV ⊕ Nat) → MH → Prop}, d > 0 → WCl (GG L xs fm) d B ex is ls 37 [qR 35, qI 3, qI t] st (hS h pd cl tv od s) Q = Wp (GG L xs fm) d B is ls st (hS h pd cl tv od (nNote 3 t s)) Q := fun hd => WCl_sp n_note hd
  have c4 : ∀ (s : NSt) (v : Int) {d : Nat} {B : Nat → List MI} {ex : List Nat} {is : List MI} {ls st : List MV} {Q : (Option MV ⊕ Nat) → MH → Prop}, d > 1 → WCl (GG L xs fm) d B ex is ls 92 [qR (pd + 1), qI t, qI v] st (hS h pd cl tv od s) Q = Wp (GG L xs fm) d B is ls st (hS h pd cl tv od (nSet tc t v s)) Q := fun s v {d B ex is ls st Q} hd => WCl_sp (n_setV hpd hP htc) hd
  have hb := nIx_bd (x := spO tc sp t) hN hk
  refine Sp_of MX4_find ?_
  unfold nFind
  by_cases h1 : nIx (spO tc sp t) k s = -1
  · rw [if_pos h1]
    have e0' := hS_35 (h := h) (pd := pd) (cl := cl) (tv := tv) (od := od) (s := nNote 3 t s)
    have ep' := hS_0 (h := h) (cl := cl) (tv := tv) (od := od) (s := nNote 3 t s) hpd
    have e1' := (hS_pl (s := nNote 3 t s) (tv := tv) hpd hP).2.1
    simp (disch := omega) only [ms_sipush, ms_lconst, ms_ldc2_w, ms_dconst, ms_ldc, ms_getstatic, ms_iload, ms_lload, ms_dload, ms_aload, ms_istore, ms_lstore, ms_dstore, ms_astore, ms_iinc, ms_iadd, ms_isub, ms_imul, ms_idiv, ms_irem, ms_ineg, ms_iand, ms_ior, ms_ishr, ms_ishl, ms_iushr, ms_i2b, ms_i2c, ms_i2l, ms_ladd, ms_lmul, ms_lcmp, ms_i2d, ms_ddiv, ms_dcmp, ms_dup, ms_pop, ms_dup2, ms_dup_x1, ms_aconst_null, ms_ifnull, ms_ifnonnull, ms_checkcast, ms_goto, ms_ifCond, ms_if_icmp, ms_if_acmp_eq, ms_if_acmp_ne, ms_tableswitch, ms_lookupswitch, ms_getfield, ms_putfield, ms_arraylength, ms_iaload, ms_baload, ms_laload, ms_aaload, ms_iastore, ms_bastore, ms_lastore, ms_aastore, ms_newarray, ms_new, ms_anewarray, ms_multianewarray, ms_invokevirtual, ms_invokestatic, ms_invokespecial, ms_invokeinterface, ms_invokedynamic_0, ms_invokedynamic_1, ms_invokedynamic_2, ms_invokedynamic_3, ms_invokedynamic_4, ms_invokedynamic_5, ms_invokedynamic_6, ms_invokedynamic_7, ms_invokedynamic_8, ms_ireturn, ms_lreturn, ms_dreturn, ms_areturn, ms_return_, Wp_cons, WSC_nx, WSC_cl, WSC_rt, WSC_th, WSC_if, lg, lset, lfree, wide, isRf, isRT, fitK, hgt, margs, mpad, rcv, rdF, rdN, rdI, rdQ, mC_eq, mC_ne, mC_lt, mC_ge, mC_gt, mC_le, mset, mnew, h_fst, h_snd, lt_drop0, List.drop_succ_cons, List.drop_zero, List.drop_nil, List.take_succ_cons, List.take_zero, List.reverse_cons, List.reverse_nil, List.nil_append, List.cons_append, List.append_nil, List.length_cons, List.length_nil, List.getElem?_cons_succ, List.getElem?_cons_zero, List.set_cons_succ, List.set_cons_zero, List.replicate, Option.toList, reduceIte, Bool.not_false, Bool.not_true, Nat.reduceLT, Nat.reduceLeDiff, Nat.reduceAdd, Nat.reduceSub, Nat.reduceMul, Int.reduceLT, Int.reduceLE, Int.reduceNeg, Int.reduceAdd, Int.reduceSub, Int.reduceMul, Int.reduceEq, and_self, true_and, and_true, false_and, and_false, or_false, false_or, true_or, or_true, not_true_eq_false, not_false_eq_true, Bool.false_eq_true, Bool.true_eq_false, decide_true, decide_false, decide_eq_true_eq, Nat.le_refl, Nat.zero_le, ge_iff_le, gt_iff_lt, Nat.lt_irrefl, reduceCtorEq, if_posD, if_negD, w32_id, Int.toNat_natCast, WCo_in, mUp_self, mUp_ne, ne_eq, Bool.true_and, Bool.and_true, Bool.false_and, Bool.and_false, Bool.true_or, Bool.or_true, Bool.false_or, Bool.or_false, Nat.reduceEqDiff, Int.cast_ofNat_Int, Int.reduceToNat, List.getD_cons_succ, List.getD_cons_zero, eq_self, swL, if_true, if_false, nqT, isNl, qX4_find_0, qX4_find_1, MX4_indexOf, MX4_note, MX8_setValue, MX8_spellingOf, GG1, e0, ep, e1, c1, c2, h1, c3, c4, e0', ep', e1']
  · rw [if_neg h1]
    simp (disch := omega) only [ms_sipush, ms_lconst, ms_ldc2_w, ms_dconst, ms_ldc, ms_getstatic, ms_iload, ms_lload, ms_dload, ms_aload, ms_istore, ms_lstore, ms_dstore, ms_astore, ms_iinc, ms_iadd, ms_isub, ms_imul, ms_idiv, ms_irem, ms_ineg, ms_iand, ms_ior, ms_ishr, ms_ishl, ms_iushr, ms_i2b, ms_i2c, ms_i2l, ms_ladd, ms_lmul, ms_lcmp, ms_i2d, ms_ddiv, ms_dcmp, ms_dup, ms_pop, ms_dup2, ms_dup_x1, ms_aconst_null, ms_ifnull, ms_ifnonnull, ms_checkcast, ms_goto, ms_ifCond, ms_if_icmp, ms_if_acmp_eq, ms_if_acmp_ne, ms_tableswitch, ms_lookupswitch, ms_getfield, ms_putfield, ms_arraylength, ms_iaload, ms_baload, ms_laload, ms_aaload, ms_iastore, ms_bastore, ms_lastore, ms_aastore, ms_newarray, ms_new, ms_anewarray, ms_multianewarray, ms_invokevirtual, ms_invokestatic, ms_invokespecial, ms_invokeinterface, ms_invokedynamic_0, ms_invokedynamic_1, ms_invokedynamic_2, ms_invokedynamic_3, ms_invokedynamic_4, ms_invokedynamic_5, ms_invokedynamic_6, ms_invokedynamic_7, ms_invokedynamic_8, ms_ireturn, ms_lreturn, ms_dreturn, ms_areturn, ms_return_, Wp_cons, WSC_nx, WSC_cl, WSC_rt, WSC_th, WSC_if, lg, lset, lfree, wide, isRf, isRT, fitK, hgt, margs, mpad, rcv, rdF, rdN, rdI, rdQ, mC_eq, mC_ne, mC_lt, mC_ge, mC_gt, mC_le, mset, mnew, h_fst, h_snd, lt_drop0, List.drop_succ_cons, List.drop_zero, List.drop_nil, List.take_succ_cons, List.take_zero, List.reverse_cons, List.reverse_nil, List.nil_append, List.cons_append, List.append_nil, List.length_cons, List.length_nil, List.getElem?_cons_succ, List.getElem?_cons_zero, List.set_cons_succ, List.set_cons_zero, List.replicate, Option.toList, reduceIte, Bool.not_false, Bool.not_true, Nat.reduceLT, Nat.reduceLeDiff, Nat.reduceAdd, Nat.reduceSub, Nat.reduceMul, Int.reduceLT, Int.reduceLE, Int.reduceNeg, Int.reduceAdd, Int.reduceSub, Int.reduceMul, Int.reduceEq, and_self, true_and, and_true, false_and, and_false, or_false, false_or, true_or, or_true, not_true_eq_false, not_false_eq_true, Bool.false_eq_true, Bool.true_eq_false, decide_true, decide_false, decide_eq_true_eq, Nat.le_refl, Nat.zero_le, ge_iff_le, gt_iff_lt, Nat.lt_irrefl, reduceCtorEq, if_posD, if_negD, w32_id, Int.toNat_natCast, WCo_in, mUp_self, mUp_ne, ne_eq, Bool.true_and, Bool.and_true, Bool.false_and, Bool.and_false, Bool.true_or, Bool.or_true, Bool.false_or, Bool.or_false, Nat.reduceEqDiff, Int.cast_ofNat_Int, Int.reduceToNat, List.getD_cons_succ, List.getD_cons_zero, eq_self, swL, if_true, if_false, nqT, isNl, qX4_find_0, qX4_find_1, MX4_indexOf, MX4_note, MX8_setValue, MX8_spellingOf, GG1, e0, ep, e1, c1, c2, h1, c3, c4]
theorem hS_tell (hN : NOk s) {k : Nat} (hk : k < 3) (hpd : pd = 2 ∨ pd = 18) {x : Int} {f : Nat → Int} {g : Nat → Int} : ((mUp (mUp (hS h pd cl tv od s).1 (37 + k) (cL 14 g)) 40 (cI .int 3 f), (hS h pd cl tv od s).2) : MH) = hS h pd cl tv od (s.1, s.2.1, s.2.2.1, f, mUp s.2.2.2.2.1 k g, s.2.2.2.2.2) := by
  have u1 : ((mUp (hS h pd cl tv od s).1 (37 + k) (cL 14 g), (hS h pd cl tv od s).2) : MH) = hS h pd cl tv od (s.1, s.2.1, s.2.2.1, s.2.2.2.1, mUp s.2.2.2.2.1 k g, s.2.2.2.2.2) := by
    rcases (by omega : k = 0 ∨ k = 1 ∨ k = 2) with rfl | rfl | rfl <;> refine hS_of (fun _ _ => rfl) (by simp [spc]) (fun a ha => ?_) <;> (rcases hpd with rfl | rfl <;> (simp only [spc, List.mem_cons, List.not_mem_nil, or_false] at ha; rcases ha with rfl | rfl | rfl | rfl | rfl | rfl | rfl | rfl | rfl | rfl | rfl | rfl <;> rfl))
  have u2 : ((mUp (hS h pd cl tv od (s.1, s.2.1, s.2.2.1, s.2.2.2.1, mUp s.2.2.2.2.1 k g, s.2.2.2.2.2)).1 40 (cI .int 3 f), (hS h pd cl tv od (s.1, s.2.1, s.2.2.1, s.2.2.2.1, mUp s.2.2.2.2.1 k g, s.2.2.2.2.2)).2) : MH) = hS h pd cl tv od (s.1, s.2.1, s.2.2.1, f, mUp s.2.2.2.2.1 k g, s.2.2.2.2.2) := by
    refine hS_of (fun _ _ => rfl) (by simp [spc]) (fun a ha => ?_)
    rcases hpd with rfl | rfl <;> (simp only [spc, List.mem_cons, List.not_mem_nil, or_false] at ha; rcases ha with rfl | rfl | rfl | rfl | rfl | rfl | rfl | rfl | rfl | rfl | rfl | rfl <;> rfl)
  rw [← u1] at u2
  rw [u1] at u2
  rw [← u2, ← u1]
theorem n_tell (hB : NB h pd cl od tc kd sp P0) (hN : NOk s) {k : Nat} (hk : k < 3) {t : Int} : Sp (GG L xs fm) 2 mX4_tellNew [qR 35, qI k, qI t] (hS h pd cl tv od s) (fun r h2 => r = .inl none ∧ h2 = hS h pd cl tv od (nTell tc sp k t s)) := by
  obtain ⟨hpd, htc, hg, tv', rd, ru, hP⟩ := hB
  have e0 := hS_35 (h := h) (pd := pd) (cl := cl) (tv := tv) (od := od) (s := s)
  have e40 := hS_40 (h := h) (pd := pd) (cl := cl) (tv := tv) (od := od) (s := s)
  have eg := hS_g (h := h) (pd := pd) (cl := cl) (tv := tv) (od := od) (s := s) hk
  have e36 : (hS h pd cl tv od s).1 36 = cQ (.array .long) 3 (fun j => if j < 3 then qR (37 + j) else qN) := by
    rw [hS_ne (by simp only [spc, List.mem_cons, List.not_mem_nil, not_or, or_false]; omega)]
    exact hg
  have ep := hS_0 (h := h) (cl := cl) (tv := tv) (od := od) (s := s) hpd
  have hP1 := hS_pl (s := s) (tv := tv) hpd hP
  have e1 := hP1.2.1
  have c1 : ∀ {d : Nat} {B : Nat → List MI} {ex : List Nat} {is : List MI} {ls st : List MV} {Q : (Option MV ⊕ Nat) → MH → Prop}, d > 1 → WCl (GG L xs fm) d B ex is ls 91 [qR (pd + 1), qI t] st (hS h pd cl tv od s) Q = Wp (GG L xs fm) d B is ls (qL (spO tc sp t) :: st) (hS h pd cl tv od s) Q := fun hd => WCl_sp (pl_spell hP1 rfl htc) hd
  have c2 : ∀ {d : Nat} {B : Nat → List MI} {ex : List Nat} {is : List MI} {ls st : List MV} {Q : (Option MV ⊕ Nat) → MH → Prop}, d > 0 → WCl (GG L xs fm) d B ex is ls 40 [qR 35, qI k, qL (spO tc sp t)] st (hS h pd cl tv od s) Q = Wp (GG L xs fm) d B is ls (qI (nIx (spO tc sp t) k s) :: st) (hS h pd cl tv od s) Q := fun hd => WCl_sp (n_index hg hN hpd hk) hd
  have c3 : ∀ (n : Int) {d : Nat} {B : Nat → List MI} {ex : List Nat} {is : List MI} {ls st : List MV} {Q : (Option MV ⊕ Nat) → MH → Prop}, d > 0 → WCl (GG L xs fm) d B ex is ls 37 [qR 35, qI n, qI t] st (hS h pd cl tv od s) Q = Wp (GG L xs fm) d B is ls st (hS h pd cl tv od (nNote n t s)) Q := fun n {d B ex is ls st Q} hd => WCl_sp n_note hd
  have hk0 := hN k hk
  have hsa : SAr L xs 302 = some (.int, 3, fun j => qI ((liV.getD j 0 : Nat) : Int)) := rfl
  refine Sp_of MX4_tellNew ?_
  unfold nTell
  by_cases h1 : nIx (spO tc sp t) k s = -1
  · rw [if_pos h1]
    by_cases h2 : ((liV.getD k 0 : Nat) : Int) ≤ s.2.2.2.1 k
    · rw [if_pos h2]
      simp (disch := omega) only [ms_sipush, ms_lconst, ms_ldc2_w, ms_dconst, ms_ldc, ms_getstatic, ms_iload, ms_lload, ms_dload, ms_aload, ms_istore, ms_lstore, ms_dstore, ms_astore, ms_iinc, ms_iadd, ms_isub, ms_imul, ms_idiv, ms_irem, ms_ineg, ms_iand, ms_ior, ms_ishr, ms_ishl, ms_iushr, ms_i2b, ms_i2c, ms_i2l, ms_ladd, ms_lmul, ms_lcmp, ms_i2d, ms_ddiv, ms_dcmp, ms_dup, ms_pop, ms_dup2, ms_dup_x1, ms_aconst_null, ms_ifnull, ms_ifnonnull, ms_checkcast, ms_goto, ms_ifCond, ms_if_icmp, ms_if_acmp_eq, ms_if_acmp_ne, ms_tableswitch, ms_lookupswitch, ms_getfield, ms_putfield, ms_arraylength, ms_iaload, ms_baload, ms_laload, ms_aaload, ms_iastore, ms_bastore, ms_lastore, ms_aastore, ms_newarray, ms_new, ms_anewarray, ms_multianewarray, ms_invokevirtual, ms_invokestatic, ms_invokespecial, ms_invokeinterface, ms_invokedynamic_0, ms_invokedynamic_1, ms_invokedynamic_2, ms_invokedynamic_3, ms_invokedynamic_4, ms_invokedynamic_5, ms_invokedynamic_6, ms_invokedynamic_7, ms_invokedynamic_8, ms_ireturn, ms_lreturn, ms_dreturn, ms_areturn, ms_return_, Wp_cons, WSC_nx, WSC_cl, WSC_rt, WSC_th, WSC_if, lg, lset, lfree, wide, isRf, isRT, fitK, hgt, margs, mpad, rcv, rdF, rdN, rdI, rdQ, mC_eq, mC_ne, mC_lt, mC_ge, mC_gt, mC_le, mset, mnew, h_fst, h_snd, lt_drop0, List.drop_succ_cons, List.drop_zero, List.drop_nil, List.take_succ_cons, List.take_zero, List.reverse_cons, List.reverse_nil, List.nil_append, List.cons_append, List.append_nil, List.length_cons, List.length_nil, List.getElem?_cons_succ, List.getElem?_cons_zero, List.set_cons_succ, List.set_cons_zero, List.replicate, Option.toList, reduceIte, Bool.not_false, Bool.not_true, Nat.reduceLT, Nat.reduceLeDiff, Nat.reduceAdd, Nat.reduceSub, Nat.reduceMul, Int.reduceLT, Int.reduceLE, Int.reduceNeg, Int.reduceAdd, Int.reduceSub, Int.reduceMul, Int.reduceEq, and_self, true_and, and_true, false_and, and_false, or_false, false_or, true_or, or_true, not_true_eq_false, not_false_eq_true, Bool.false_eq_true, Bool.true_eq_false, decide_true, decide_false, decide_eq_true_eq, Nat.le_refl, Nat.zero_le, ge_iff_le, gt_iff_lt, Nat.lt_irrefl, reduceCtorEq, if_posD, if_negD, w32_id, Int.toNat_natCast, WCo_in, mUp_self, mUp_ne, ne_eq, Bool.true_and, Bool.and_true, Bool.false_and, Bool.and_false, Bool.true_or, Bool.or_true, Bool.false_or, Bool.or_false, Nat.reduceEqDiff, Int.cast_ofNat_Int, Int.reduceToNat, List.getD_cons_succ, List.getD_cons_zero, eq_self, swL, if_true, if_false, nqT, isNl, qX4_tellNew_0, qX4_tellNew_1, qX4_tellNew_3, MX4_indexOf, MX4_note, MX8_spellingOf, GG1, e0, ep, e1, c1, c2, h1, c3, e40, GG3, hsa, h2]
    · rw [if_neg h2]
      have hl : liV.getD k 0 ≤ 14 := by
        rcases (by omega : k = 0 ∨ k = 1 ∨ k = 2) with rfl | rfl | rfl <;> decide
      have hu := hS_tell (h := h) (cl := cl) (tv := tv) (od := od) (x := 0) (f := mUp s.2.2.2.1 k (s.2.2.2.1 k + 1)) (g := mUp (s.2.2.2.2.1 k) (s.2.2.2.1 k).toNat (spO tc sp t)) hN hk hpd
      have hk40 : ¬ 40 = 37 + k := by omega
      simp (disch := omega) only [ms_sipush, ms_lconst, ms_ldc2_w, ms_dconst, ms_ldc, ms_getstatic, ms_iload, ms_lload, ms_dload, ms_aload, ms_istore, ms_lstore, ms_dstore, ms_astore, ms_iinc, ms_iadd, ms_isub, ms_imul, ms_idiv, ms_irem, ms_ineg, ms_iand, ms_ior, ms_ishr, ms_ishl, ms_iushr, ms_i2b, ms_i2c, ms_i2l, ms_ladd, ms_lmul, ms_lcmp, ms_i2d, ms_ddiv, ms_dcmp, ms_dup, ms_pop, ms_dup2, ms_dup_x1, ms_aconst_null, ms_ifnull, ms_ifnonnull, ms_checkcast, ms_goto, ms_ifCond, ms_if_icmp, ms_if_acmp_eq, ms_if_acmp_ne, ms_tableswitch, ms_lookupswitch, ms_getfield, ms_putfield, ms_arraylength, ms_iaload, ms_baload, ms_laload, ms_aaload, ms_iastore, ms_bastore, ms_lastore, ms_aastore, ms_newarray, ms_new, ms_anewarray, ms_multianewarray, ms_invokevirtual, ms_invokestatic, ms_invokespecial, ms_invokeinterface, ms_invokedynamic_0, ms_invokedynamic_1, ms_invokedynamic_2, ms_invokedynamic_3, ms_invokedynamic_4, ms_invokedynamic_5, ms_invokedynamic_6, ms_invokedynamic_7, ms_invokedynamic_8, ms_ireturn, ms_lreturn, ms_dreturn, ms_areturn, ms_return_, Wp_cons, WSC_nx, WSC_cl, WSC_rt, WSC_th, WSC_if, lg, lset, lfree, wide, isRf, isRT, fitK, hgt, margs, mpad, rcv, rdF, rdN, rdI, rdQ, mC_eq, mC_ne, mC_lt, mC_ge, mC_gt, mC_le, mset, mnew, h_fst, h_snd, lt_drop0, List.drop_succ_cons, List.drop_zero, List.drop_nil, List.take_succ_cons, List.take_zero, List.reverse_cons, List.reverse_nil, List.nil_append, List.cons_append, List.append_nil, List.length_cons, List.length_nil, List.getElem?_cons_succ, List.getElem?_cons_zero, List.set_cons_succ, List.set_cons_zero, List.replicate, Option.toList, reduceIte, Bool.not_false, Bool.not_true, Nat.reduceLT, Nat.reduceLeDiff, Nat.reduceAdd, Nat.reduceSub, Nat.reduceMul, Int.reduceLT, Int.reduceLE, Int.reduceNeg, Int.reduceAdd, Int.reduceSub, Int.reduceMul, Int.reduceEq, and_self, true_and, and_true, false_and, and_false, or_false, false_or, true_or, or_true, not_true_eq_false, not_false_eq_true, Bool.false_eq_true, Bool.true_eq_false, decide_true, decide_false, decide_eq_true_eq, Nat.le_refl, Nat.zero_le, ge_iff_le, gt_iff_lt, Nat.lt_irrefl, reduceCtorEq, if_posD, if_negD, w32_id, Int.toNat_natCast, WCo_in, mUp_self, mUp_ne, ne_eq, Bool.true_and, Bool.and_true, Bool.false_and, Bool.and_false, Bool.true_or, Bool.or_true, Bool.false_or, Bool.or_false, Nat.reduceEqDiff, Int.cast_ofNat_Int, Int.reduceToNat, List.getD_cons_succ, List.getD_cons_zero, eq_self, swL, if_true, if_false, nqT, isNl, qX4_tellNew_0, qX4_tellNew_1, qX4_tellNew_2, qX4_tellNew_3, MX4_indexOf, MX4_note, MX8_spellingOf, GG1, e0, ep, e1, c1, c2, h1, c3, e40, GG3, hsa, h2, e36, eg]
      exact hu
  · rw [if_neg h1]
    simp (disch := omega) only [ms_sipush, ms_lconst, ms_ldc2_w, ms_dconst, ms_ldc, ms_getstatic, ms_iload, ms_lload, ms_dload, ms_aload, ms_istore, ms_lstore, ms_dstore, ms_astore, ms_iinc, ms_iadd, ms_isub, ms_imul, ms_idiv, ms_irem, ms_ineg, ms_iand, ms_ior, ms_ishr, ms_ishl, ms_iushr, ms_i2b, ms_i2c, ms_i2l, ms_ladd, ms_lmul, ms_lcmp, ms_i2d, ms_ddiv, ms_dcmp, ms_dup, ms_pop, ms_dup2, ms_dup_x1, ms_aconst_null, ms_ifnull, ms_ifnonnull, ms_checkcast, ms_goto, ms_ifCond, ms_if_icmp, ms_if_acmp_eq, ms_if_acmp_ne, ms_tableswitch, ms_lookupswitch, ms_getfield, ms_putfield, ms_arraylength, ms_iaload, ms_baload, ms_laload, ms_aaload, ms_iastore, ms_bastore, ms_lastore, ms_aastore, ms_newarray, ms_new, ms_anewarray, ms_multianewarray, ms_invokevirtual, ms_invokestatic, ms_invokespecial, ms_invokeinterface, ms_invokedynamic_0, ms_invokedynamic_1, ms_invokedynamic_2, ms_invokedynamic_3, ms_invokedynamic_4, ms_invokedynamic_5, ms_invokedynamic_6, ms_invokedynamic_7, ms_invokedynamic_8, ms_ireturn, ms_lreturn, ms_dreturn, ms_areturn, ms_return_, Wp_cons, WSC_nx, WSC_cl, WSC_rt, WSC_th, WSC_if, lg, lset, lfree, wide, isRf, isRT, fitK, hgt, margs, mpad, rcv, rdF, rdN, rdI, rdQ, mC_eq, mC_ne, mC_lt, mC_ge, mC_gt, mC_le, mset, mnew, h_fst, h_snd, lt_drop0, List.drop_succ_cons, List.drop_zero, List.drop_nil, List.take_succ_cons, List.take_zero, List.reverse_cons, List.reverse_nil, List.nil_append, List.cons_append, List.append_nil, List.length_cons, List.length_nil, List.getElem?_cons_succ, List.getElem?_cons_zero, List.set_cons_succ, List.set_cons_zero, List.replicate, Option.toList, reduceIte, Bool.not_false, Bool.not_true, Nat.reduceLT, Nat.reduceLeDiff, Nat.reduceAdd, Nat.reduceSub, Nat.reduceMul, Int.reduceLT, Int.reduceLE, Int.reduceNeg, Int.reduceAdd, Int.reduceSub, Int.reduceMul, Int.reduceEq, and_self, true_and, and_true, false_and, and_false, or_false, false_or, true_or, or_true, not_true_eq_false, not_false_eq_true, Bool.false_eq_true, Bool.true_eq_false, decide_true, decide_false, decide_eq_true_eq, Nat.le_refl, Nat.zero_le, ge_iff_le, gt_iff_lt, Nat.lt_irrefl, reduceCtorEq, if_posD, if_negD, w32_id, Int.toNat_natCast, WCo_in, mUp_self, mUp_ne, ne_eq, Bool.true_and, Bool.and_true, Bool.false_and, Bool.and_false, Bool.true_or, Bool.or_true, Bool.false_or, Bool.or_false, Nat.reduceEqDiff, Int.cast_ofNat_Int, Int.reduceToNat, List.getD_cons_succ, List.getD_cons_zero, eq_self, swL, if_true, if_false, nqT, isNl, qX4_tellNew_0, qX4_tellNew_3, MX4_indexOf, MX4_note, MX8_spellingOf, GG1, e0, ep, e1, c1, c2, h1, c3]
end NAMES2
