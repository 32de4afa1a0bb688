/-! ===== THE REFERENCE: orders ===== -/
/-- what a road is hurt by stands from a token on -/
def OdS (F : Nat → Nat → Int) (K : Nat → Nat) (tc : Nat) (va : Nat → Int) (i : Nat) (q : Od) : Prop := ∃ (fu b b' : Nat) (Ls : List (Nat × Nat)), F 14 i = (b : Int) ∧ b < tc ∧ pG K fu 3 0 b = some (true, b', Ls) ∧ q.2.2.2 = Ls.map (tvV tc va)
def OdM (F : Nat → Nat → Int) (K : Nat → Nat) (tc : Nat) (va : Nat → Int) (o : Nat) (od : Nat → Od) : Prop := ∀ i, i < o → F 12 i = ((od i).1 : Int) ∧ F 13 i = ((od i).2.1 : Int) ∧ (∃ (fu b b' : Nat) (Ls : List (Nat × Nat)), F 15 i = (b : Int) ∧ b < tc ∧ pG K fu 0 0 b = some (true, b', Ls) ∧ (od i).2.2.1 = Ls.map (tvV tc va)) ∧ ((od i).1 = 8 → OdS F K tc va i (od i))
/-- a sheet that says a plan -/
def ShP (hc : Nat → MC) (sb : Nat) (F : Nat → Nat → Int) (K : Nat → Nat) (tc : Nat) (va : Nat → Int) (Q : Pn) : Prop := ShQ hc sb (Q.2.2.2.1 : Int) F Q.1 Q.2.1 Q.2.2.1 Q.2.2.2.2.1 Q.2.2.2.2.2.1 ∧ (∀ k, k < Q.2.2.1 → F 10 k = (Q.2.2.2.2.2.2.1 k : Int) ∧ F 11 k = Q.2.2.2.2.2.2.2.1 k) ∧ (0 < Q.2.2.2.1 → KdS F K tc ∧ (∀ t, t < tc → K t = 42 ∨ K t = 43 → F 4 t = va t) ∧ OdM F K tc va Q.2.2.2.1 Q.2.2.2.2.2.2.2.2)
/-- what may change: the reference itself, its ways, a state -/
def Fq (ob : Nat) (h h2 : MH) : Prop := h2.2 = h.2 ∧ ∀ a, a ≠ 107 → a ≠ 145 → (a < ob ∨ ob + 10 ≤ a) → h2.1 a = h.1 a
section CARRY
variable {L : Nat} {xs : Nat → Int} {fm : Bool} {hc hc' : Nat → MC} {h h1 h2 : MH} {sb ob n c u tc : Nat} {hr ca lo he od : Int} {tn : Nat} {F G : Nat → Nat → Int} {fr to : Nat → Nat} {mi wo hv se hu : Nat → Int} {ws : List Wr} {th sz ea tk dp wk bt : Int} {oo : Nat} {T : Nat → Int} {W : Nat → Nat → Int} {K : Nat → Nat} {va : Nat → Int} {Q : Pn} {S : St8}
theorem Fq.rf : Fq ob h h := ⟨rfl, fun _ _ _ _ => rfl⟩
theorem Fq.tr (f1 : Fq ob h h1) (f2 : Fq ob h1 h2) : Fq ob h h2 := ⟨f2.1.trans f1.1, fun a a1 a2 a3 => (f2.2 a a1 a2 a3).trans (f1.2 a a1 a2 a3)⟩
theorem Fm.q (f : Fm ob 10 h h2) : Fq ob h h2 := ⟨f.1, fun a _ _ a3 => f.2 a a3⟩
theorem Fq.at {a : Nat} {x : MC} (f : Fq ob h h1) (ha : a = 107 ∨ a = 145 ∨ (ob ≤ a ∧ a < ob + 10)) : Fq ob h (mUp h1.1 a x, h1.2) := ⟨f.1, fun b b1 b2 b3 => by
  show mUp h1.1 a x b = _
  rw [mUp_ne (by omega)]
  exact f.2 b b1 b2 b3⟩
theorem hV_q {w : Nat} {f : Nat → Int} : Fq ob h (hV h th sz ea tk dp sb ob w f) := ⟨rfl, fun a a1 a2 _ => hV_ne a1 a2⟩
theorem MoA.cg (hO : MoA hc th sz ea tk dp sb wk oo bt T W) (hf : ∀ a, (107 ≤ a ∧ a < 109) ∨ (145 ≤ a ∧ a < 151) → hc' a = hc a) : MoA hc' th sz ea tk dp sb wk oo bt T W := by
  obtain ⟨h1, h2, h3, h4⟩ := hO
  refine ⟨by rw [hf 107 (by omega)]; exact h1, by rw [hf 108 (by omega)]; exact h2, fun k hk => ?_, fun k hk hk2 => ?_⟩
  · rw [hf _ (by omega)]
    exact h3 k hk
  · rw [hf _ (by omega)]
    exact h4 k hk hk2
theorem hV_in {w : Nat} {x : Int} (hO : MoA h.1 th sz ea tk dp sb wk oo (-1) T W) (hx : x = (w : Int)) : ((mUp h.1 107 (cO 12 [qI th, qR 108, qI sz, qI ea, qI tk, qI dp, qR sb, qR 125, qR 135, qI x, qR ob, qR 145, qR 146, qR 147, qR 148, qR 149, qR 150, qI (-1)]), h.2) : MH) = hV h th sz ea tk dp sb ob w (W 0) := by
  subst hx
  refine Prod.ext ?_ rfl
  funext a
  dsimp only
  by_cases h1 : a = 107
  · subst h1
    rw [mUp_self]
    rfl
  · rw [mUp_ne h1]
    by_cases h2 : a = 145
    · subst h2
      exact hO.2.2.1 0 (by decide)
    · exact (hV_ne h1 h2).symm
theorem ShP.cg (hP : ShP hc sb F K tc va Q) (hf : ∀ a, sb ≤ a → a < sb + 16 → hc' a = hc a) : ShP hc' sb F K tc va Q := ⟨hP.1.cg hf, hP.2⟩
/-- what an order leaves -/
def CaPost (h : MH) (th sz ea tk dp : Int) (sb ob c : Nat) (T : Nat → Int) (W : Nat → Nat → Int) (hr ca lo he : Int) (tn : Nat) (G : Nat → Nat → Int) (mi : Nat → Int) (S S2 : OS) (v : Option MV ⊕ Nat) (h2 : MH) : Prop := ∃ x : Int, v = .inl (some (qI x)) ∧ (x = 0 ∨ x = 1) ∧ S2.2.2 = (if x = 0 then S.2.2 else w32 (S.2.2 + 1)) ∧ Fq ob h h2 ∧ (∃ wk f, MoA h2.1 th sz ea tk dp sb wk ob (-1) T (mUp W 0 f)) ∧ ∃ G', StA h2.1 ob hr ca lo he tn G' ∧ (∀ r, r < c → G' 1 r = mi r ∧ G' 2 r = S2.1 r) ∧ EqN 10 (G' 5) S2.2.1 ∧ ∀ k, k ≠ 2 → k ≠ 5 → G' k = G k
theorem m_carry (hO : MoA h.1 th sz ea tk dp sb wk ob (-1) T W) (hP : ShP h.1 sb F K tc va Q) (hsb : sb = 109 ∨ 151 ≤ sb) (hob : ob = 125 ∨ ob = 135) (hQ : PnOk Q) {S0 : OS} (hR : RdOk Q.1 Q.2.1 Q.2.2.2.2.1 Q.2.2.2.2.2.1 mi S0.1) (hS : StA h.1 ob hr ca lo he tn G) (hg : ∀ r, r < Q.2.1 → G 1 r = mi r ∧ G 2 r = S0.1 r) (hE : EqN (6 * Q.1) (G 3) hv) (hH : EqN 10 (G 5) S0.2.1) {i : Nat} (hi : i < Q.2.2.2.1) : Sp (GG L xs fm) 35 mX12_isCarriedOut [qR 107, qR ob, qI i] h (CaPost h th sz ea tk dp sb ob Q.2.1 T W hr ca lo he tn G mi S0 (ordS Q.1 Q.2.1 Q.2.2.2.2.1 Q.2.2.2.2.2.1 mi hr hv (Q.2.2.2.2.2.2.2.2 i) S0)) := by
  obtain ⟨hq, hrum, hcond⟩ := hP
  obtain ⟨hk, hva, hod⟩ := hcond (by omega)
  have hi20 : i < 20 := by
    have := hQ.2.2.2.1
    omega
  obtain ⟨o12, o13, ⟨fu, b, b', Ls, o15, hb, hp, hl⟩, o8⟩ := hod i hi
  have hok := hQ.2.2.2.2.2.2 i hi
  have hH0 := hq.1
  have htc := hk.1
  have hMd : MRd h.1 sb ob Q.1 Q.2.1 Q.2.2.2.2.1 Q.2.2.2.2.2.1 mi S0.1 := MRd.of hq hS hg
  have hev := fun fu => ev_all (L := L) (xs := xs) (fm := fm) (va := va) hk hO hH0 hMd hR hS hq.2.1 (fun r hr => (hg r hr).2) hE hQ.2.2.1 hva hsb hob fu
  have o0 := hO.1
  have es := hH0.1
  have e12 := hH0.2 12 20 rfl
  have e13 := hH0.2 13 20 rfl
  have e14 := hH0.2 14 20 rfl
  have e15 := hH0.2 15 20 rfl
  obtain ⟨val, h01, hst, hrun⟩ := (hev fu 0 0 b b' Ls (by omega) hb hp (fun x hx => hok.2.1 _ (by rw [hl]; exact List.mem_map_of_mem hx))).1 (Or.inl rfl)
  have h01 := h01 (Or.inl rfl)
  have hval : rpn (fct Q.1 Q.2.1 Q.2.2.2.2.1 Q.2.2.2.2.2.1 mi S0.1 hr hv) (Q.2.2.2.2.2.2.2.2 i).2.2.1 = val := by
    rw [hl]
    unfold rpn
    rw [hst [] (by rw [eN_0]; show 0 + _ ≤ 64; omega)]
    rfl
  have esv : ∀ w f, (hV h th sz ea tk dp sb ob w f).1 sb = _ := fun w f => (hV_ne (by omega) (by omega)).trans es
  have e12v : ∀ w f, (hV h th sz ea tk dp sb ob w f).1 (sb + 12) = _ := fun w f => (hV_ne (by omega) (by omega)).trans e12
  have e13v : ∀ w f, (hV h th sz ea tk dp sb ob w f).1 (sb + 13) = _ := fun w f => (hV_ne (by omega) (by omega)).trans e13
  have e14v : ∀ w f, (hV h th sz ea tk dp sb ob w f).1 (sb + 14) = _ := fun w f => (hV_ne (by omega) (by omega)).trans e14
  have hSv : ∀ w f, StA (hV h th sz ea tk dp sb ob w f).1 ob hr ca lo he tn G := fun w f => hS.cg (fun a h1 h2 => hV_ne (by omega) (by omega))
  refine Sp_of MX12_isCarriedOut ?_
  simp (disch := omega) only [ms_sipush, ms_lconst, ms_ldc2_w, ms_dconst, ms_ldc, ms_getstatic, ms_iload, ms_lload, ms_dload, ms_aload, ms_istore, ms_lstore, ms_dstore, ms_astore, ms_iinc, ms_iadd, ms_isub, ms_imul, ms_idiv, ms_irem, ms_ineg, ms_iand, ms_ior, ms_ishr, ms_iushr, ms_i2b, ms_i2c, ms_i2l, ms_ladd, ms_lmul, ms_lcmp, ms_i2d, ms_ddiv, ms_dcmp, ms_dup, ms_pop, ms_dup2, ms_goto, ms_ifCond, ms_if_icmp, ms_if_acmp_eq, ms_if_acmp_ne, ms_tableswitch, ms_lookupswitch, ms_getfield, ms_putfield, ms_arraylength, ms_iaload, ms_baload, ms_laload, ms_aaload, ms_iastore, ms_bastore, ms_lastore, ms_aastore, ms_newarray, ms_new, ms_anewarray, ms_multianewarray, ms_invokevirtual, ms_invokestatic, ms_invokespecial, ms_invokedynamic_0, ms_invokedynamic_1, ms_invokedynamic_2, ms_invokedynamic_3, ms_invokedynamic_4, ms_invokedynamic_5, ms_ireturn, ms_lreturn, ms_dreturn, ms_areturn, ms_return_, Wp_cons, WSC_nx, WSC_cl, WSC_rt, WSC_th, WSC_if, lg, lset, lfree, wide, isRf, isRT, fitK, hgt, margs, mpad, rcv, rdF, rdN, rdI, rdQ, mC_eq, mC_ne, mC_lt, mC_ge, mC_gt, mC_le, mset, mnew, h_fst, h_snd, lt_drop0, List.drop_succ_cons, List.drop_zero, List.drop_nil, List.take_succ_cons, List.take_zero, List.reverse_cons, List.reverse_nil, List.nil_append, List.cons_append, List.append_nil, List.length_cons, List.length_nil, List.getElem?_cons_succ, List.getElem?_cons_zero, List.set_cons_succ, List.set_cons_zero, List.replicate, Option.toList, reduceIte, Bool.not_false, Bool.not_true, Nat.reduceLT, Nat.reduceLeDiff, Nat.reduceAdd, Nat.reduceSub, Nat.reduceMul, Int.reduceLT, Int.reduceLE, Int.reduceNeg, Int.reduceAdd, Int.reduceSub, Int.reduceMul, Int.reduceEq, and_self, true_and, and_true, false_and, and_false, or_false, false_or, true_or, or_true, not_true_eq_false, not_false_eq_true, Bool.false_eq_true, Bool.true_eq_false, decide_true, decide_false, decide_eq_true_eq, Nat.le_refl, Nat.zero_le, ge_iff_le, gt_iff_lt, Nat.lt_irrefl, reduceCtorEq, if_posD, if_negD, w32_id, Int.toNat_natCast, WCo_in, mUp_self, mUp_ne, ne_eq, Bool.true_and, Bool.and_true, Bool.false_and, Bool.and_false, Bool.true_or, Bool.or_true, Bool.false_or, Bool.or_false, Nat.reduceEqDiff, Int.cast_ofNat_Int, Int.reduceToNat, List.getD_cons_succ, List.getD_cons_zero, eq_self, swL, if_true, if_false, qX12_isCarriedOut_0, MX12_hurtBy, MX12_hushed, MX12_mended, MX12_sum, MX12_test, GG1, o0, es, e15, o15, hV_in hO rfl]
  refine WCl_of (hrun (W 0)) (by
    show eD 0 0 < 35
    rw [eD_0]
    omega) (fun v h2 hv2 => ?_)
  obtain ⟨rfl, f', rfl⟩ := hv2
  rcases h01 with rfl | rfl
  · simp (disch := omega) only [ms_sipush, ms_lconst, ms_ldc2_w, ms_dconst, ms_ldc, ms_getstatic, ms_iload, ms_lload, ms_dload, ms_aload, ms_istore, ms_lstore, ms_dstore, ms_astore, ms_iinc, ms_iadd, ms_isub, ms_imul, ms_idiv, ms_irem, ms_ineg, ms_iand, ms_ior, ms_ishr, ms_iushr, ms_i2b, ms_i2c, ms_i2l, ms_ladd, ms_lmul, ms_lcmp, ms_i2d, ms_ddiv, ms_dcmp, ms_dup, ms_pop, ms_dup2, ms_goto, ms_ifCond, ms_if_icmp, ms_if_acmp_eq, ms_if_acmp_ne, ms_tableswitch, ms_lookupswitch, ms_getfield, ms_putfield, ms_arraylength, ms_iaload, ms_baload, ms_laload, ms_aaload, ms_iastore, ms_bastore, ms_lastore, ms_aastore, ms_newarray, ms_new, ms_anewarray, ms_multianewarray, ms_invokevirtual, ms_invokestatic, ms_invokespecial, ms_invokedynamic_0, ms_invokedynamic_1, ms_invokedynamic_2, ms_invokedynamic_3, ms_invokedynamic_4, ms_invokedynamic_5, ms_ireturn, ms_lreturn, ms_dreturn, ms_areturn, ms_return_, Wp_cons, WSC_nx, WSC_cl, WSC_rt, WSC_th, WSC_if, lg, lset, lfree, wide, isRf, isRT, fitK, hgt, margs, mpad, rcv, rdF, rdN, rdI, rdQ, mC_eq, mC_ne, mC_lt, mC_ge, mC_gt, mC_le, mset, mnew, h_fst, h_snd, lt_drop0, List.drop_succ_cons, List.drop_zero, List.drop_nil, List.take_succ_cons, List.take_zero, List.reverse_cons, List.reverse_nil, List.nil_append, List.cons_append, List.append_nil, List.length_cons, List.length_nil, List.getElem?_cons_succ, List.getElem?_cons_zero, List.set_cons_succ, List.set_cons_zero, List.replicate, Option.toList, reduceIte, Bool.not_false, Bool.not_true, Nat.reduceLT, Nat.reduceLeDiff, Nat.reduceAdd, Nat.reduceSub, Nat.reduceMul, Int.reduceLT, Int.reduceLE, Int.reduceNeg, Int.reduceAdd, Int.reduceSub, Int.reduceMul, Int.reduceEq, and_self, true_and, and_true, false_and, and_false, or_false, false_or, true_or, or_true, not_true_eq_false, not_false_eq_true, Bool.false_eq_true, Bool.true_eq_false, decide_true, decide_false, decide_eq_true_eq, Nat.le_refl, Nat.zero_le, ge_iff_le, gt_iff_lt, Nat.lt_irrefl, reduceCtorEq, if_posD, if_negD, w32_id, Int.toNat_natCast, WCo_in, mUp_self, mUp_ne, ne_eq, Bool.true_and, Bool.and_true, Bool.false_and, Bool.and_false, Bool.true_or, Bool.or_true, Bool.false_or, Bool.or_false, Nat.reduceEqDiff, Int.cast_ofNat_Int, Int.reduceToNat, List.getD_cons_succ, List.getD_cons_zero, eq_self, swL, if_true, if_false, qX12_isCarriedOut_0, MX12_hurtBy, MX12_hushed, MX12_mended, MX12_sum, MX12_test, GG1, hV_107]
    refine ⟨0, rfl, Or.inl rfl, ?_, hV_q, ⟨_, f', hO.v⟩, G, hSv _ _, ?_⟩
    · unfold ordS
      rw [if_pos hval]
      rfl
    · unfold ordS
      rw [if_pos hval]
      exact ⟨hg, hH, fun _ _ _ => rfl⟩
  · have hord : ordS Q.1 Q.2.1 Q.2.2.2.2.1 Q.2.2.2.2.2.1 mi hr hv (Q.2.2.2.2.2.2.2.2 i) S0 = ((ordC (Q.2.2.2.2.2.2.2.2 i).1 (Q.2.2.2.2.2.2.2.2 i).2.1 (rpn (fct Q.1 Q.2.1 Q.2.2.2.2.1 Q.2.2.2.2.2.1 mi S0.1 hr hv) (Q.2.2.2.2.2.2.2.2 i).2.2.2) S0.1 S0.2.1).1, (ordC (Q.2.2.2.2.2.2.2.2 i).1 (Q.2.2.2.2.2.2.2.2 i).2.1 (rpn (fct Q.1 Q.2.1 Q.2.2.2.2.1 Q.2.2.2.2.2.1 mi S0.1 hr hv) (Q.2.2.2.2.2.2.2.2 i).2.2.2) S0.1 S0.2.1).2.1, if (ordC (Q.2.2.2.2.2.2.2.2 i).1 (Q.2.2.2.2.2.2.2.2 i).2.1 (rpn (fct Q.1 Q.2.1 Q.2.2.2.2.1 Q.2.2.2.2.2.1 mi S0.1 hr hv) (Q.2.2.2.2.2.2.2.2 i).2.2.2) S0.1 S0.2.1).2.2 = 0 then S0.2.2 else w32 (S0.2.2 + 1)) := by
      unfold ordS
      rw [if_neg (by rw [hval]; decide)]
    rw [hord]
    generalize hqi : Q.2.2.2.2.2.2.2.2 i = q at *
    rcases hok.1 with ⟨k8, kt⟩ | ⟨k8, kt⟩ | ⟨k8, kt⟩
    · obtain ⟨fu2, a, a', L2, o14, ha, hp2, hl2⟩ := o8 k8
      obtain ⟨val2, -, hst2, hrun2⟩ := (hev fu2 3 0 a a' L2 (by omega) ha hp2 (fun x hx => hok.2.2 _ (by rw [hl2]; exact List.mem_map_of_mem hx))).1 (by decide)
      have hval2 : rpn (fct Q.1 Q.2.1 Q.2.2.2.2.1 Q.2.2.2.2.2.1 mi S0.1 hr hv) q.2.2.2 = val2 := by
        rw [hl2]
        unfold rpn
        rw [hst2 [] (by rw [eN_3]; show 0 + _ ≤ 64; omega)]
        rfl
      rw [k8] at o12
      have o12 : F 12 i = 8 := o12
      rw [hval2, k8]
      simp (disch := omega) only [ms_sipush, ms_lconst, ms_ldc2_w, ms_dconst, ms_ldc, ms_getstatic, ms_iload, ms_lload, ms_dload, ms_aload, ms_istore, ms_lstore, ms_dstore, ms_astore, ms_iinc, ms_iadd, ms_isub, ms_imul, ms_idiv, ms_irem, ms_ineg, ms_iand, ms_ior, ms_ishr, ms_iushr, ms_i2b, ms_i2c, ms_i2l, ms_ladd, ms_lmul, ms_lcmp, ms_i2d, ms_ddiv, ms_dcmp, ms_dup, ms_pop, ms_dup2, ms_goto, ms_ifCond, ms_if_icmp, ms_if_acmp_eq, ms_if_acmp_ne, ms_tableswitch, ms_lookupswitch, ms_getfield, ms_putfield, ms_arraylength, ms_iaload, ms_baload, ms_laload, ms_aaload, ms_iastore, ms_bastore, ms_lastore, ms_aastore, ms_newarray, ms_new, ms_anewarray, ms_multianewarray, ms_invokevirtual, ms_invokestatic, ms_invokespecial, ms_invokedynamic_0, ms_invokedynamic_1, ms_invokedynamic_2, ms_invokedynamic_3, ms_invokedynamic_4, ms_invokedynamic_5, ms_ireturn, ms_lreturn, ms_dreturn, ms_areturn, ms_return_, Wp_cons, WSC_nx, WSC_cl, WSC_rt, WSC_th, WSC_if, lg, lset, lfree, wide, isRf, isRT, fitK, hgt, margs, mpad, rcv, rdF, rdN, rdI, rdQ, mC_eq, mC_ne, mC_lt, mC_ge, mC_gt, mC_le, mset, mnew, h_fst, h_snd, lt_drop0, List.drop_succ_cons, List.drop_zero, List.drop_nil, List.take_succ_cons, List.take_zero, List.reverse_cons, List.reverse_nil, List.nil_append, List.cons_append, List.append_nil, List.length_cons, List.length_nil, List.getElem?_cons_succ, List.getElem?_cons_zero, List.set_cons_succ, List.set_cons_zero, List.replicate, Option.toList, reduceIte, Bool.not_false, Bool.not_true, Nat.reduceLT, Nat.reduceLeDiff, Nat.reduceAdd, Nat.reduceSub, Nat.reduceMul, Int.reduceLT, Int.reduceLE, Int.reduceNeg, Int.reduceAdd, Int.reduceSub, Int.reduceMul, Int.reduceEq, and_self, true_and, and_true, false_and, and_false, or_false, false_or, true_or, or_true, not_true_eq_false, not_false_eq_true, Bool.false_eq_true, Bool.true_eq_false, decide_true, decide_false, decide_eq_true_eq, Nat.le_refl, Nat.zero_le, ge_iff_le, gt_iff_lt, Nat.lt_irrefl, reduceCtorEq, if_posD, if_negD, w32_id, Int.toNat_natCast, WCo_in, mUp_self, mUp_ne, ne_eq, Bool.true_and, Bool.and_true, Bool.false_and, Bool.and_false, Bool.true_or, Bool.or_true, Bool.false_or, Bool.or_false, Nat.reduceEqDiff, Int.cast_ofNat_Int, Int.reduceToNat, List.getD_cons_succ, List.getD_cons_zero, eq_self, swL, if_true, if_false, qX12_isCarriedOut_1, qX12_isCarriedOut_2, qX12_isCarriedOut_3, MX12_hurtBy, MX12_hushed, MX12_mended, MX12_sum, MX12_test, GG1, hV_107, esv, e12v, e13v, e14v, o12, o13, o14, hV_to rfl]
      refine WCl_of (hrun2 f') (by
        show eD 3 0 < 35
        rw [eD_3]
        omega) (fun v h2 hv2 => ?_)
      obtain ⟨rfl, f'', rfl⟩ := hv2
      have hc14 := hR.2.1
      have hwr := (hR.2.2 q.2.1 kt).2.2.2.2.2
      have hgq := (hg q.2.1 kt).2
      simp (disch := omega) only [ms_sipush, ms_lconst, ms_ldc2_w, ms_dconst, ms_ldc, ms_getstatic, ms_iload, ms_lload, ms_dload, ms_aload, ms_istore, ms_lstore, ms_dstore, ms_astore, ms_iinc, ms_iadd, ms_isub, ms_imul, ms_idiv, ms_irem, ms_ineg, ms_iand, ms_ior, ms_ishr, ms_iushr, ms_i2b, ms_i2c, ms_i2l, ms_ladd, ms_lmul, ms_lcmp, ms_i2d, ms_ddiv, ms_dcmp, ms_dup, ms_pop, ms_dup2, ms_goto, ms_ifCond, ms_if_icmp, ms_if_acmp_eq, ms_if_acmp_ne, ms_tableswitch, ms_lookupswitch, ms_getfield, ms_putfield, ms_arraylength, ms_iaload, ms_baload, ms_laload, ms_aaload, ms_iastore, ms_bastore, ms_lastore, ms_aastore, ms_newarray, ms_new, ms_anewarray, ms_multianewarray, ms_invokevirtual, ms_invokestatic, ms_invokespecial, ms_invokedynamic_0, ms_invokedynamic_1, ms_invokedynamic_2, ms_invokedynamic_3, ms_invokedynamic_4, ms_invokedynamic_5, ms_ireturn, ms_lreturn, ms_dreturn, ms_areturn, ms_return_, Wp_cons, WSC_nx, WSC_cl, WSC_rt, WSC_th, WSC_if, lg, lset, lfree, wide, isRf, isRT, fitK, hgt, margs, mpad, rcv, rdF, rdN, rdI, rdQ, mC_eq, mC_ne, mC_lt, mC_ge, mC_gt, mC_le, mset, mnew, h_fst, h_snd, lt_drop0, List.drop_succ_cons, List.drop_zero, List.drop_nil, List.take_succ_cons, List.take_zero, List.reverse_cons, List.reverse_nil, List.nil_append, List.cons_append, List.append_nil, List.length_cons, List.length_nil, List.getElem?_cons_succ, List.getElem?_cons_zero, List.set_cons_succ, List.set_cons_zero, List.replicate, Option.toList, reduceIte, Bool.not_false, Bool.not_true, Nat.reduceLT, Nat.reduceLeDiff, Nat.reduceAdd, Nat.reduceSub, Nat.reduceMul, Int.reduceLT, Int.reduceLE, Int.reduceNeg, Int.reduceAdd, Int.reduceSub, Int.reduceMul, Int.reduceEq, and_self, true_and, and_true, false_and, and_false, or_false, false_or, true_or, or_true, not_true_eq_false, not_false_eq_true, Bool.false_eq_true, Bool.true_eq_false, decide_true, decide_false, decide_eq_true_eq, Nat.le_refl, Nat.zero_le, ge_iff_le, gt_iff_lt, Nat.lt_irrefl, reduceCtorEq, if_posD, if_negD, w32_id, Int.toNat_natCast, WCo_in, mUp_self, mUp_ne, ne_eq, Bool.true_and, Bool.and_true, Bool.false_and, Bool.and_false, Bool.true_or, Bool.or_true, Bool.false_or, Bool.or_false, Nat.reduceEqDiff, Int.cast_ofNat_Int, Int.reduceToNat, List.getD_cons_succ, List.getD_cons_zero, eq_self, swL, if_true, if_false, qX12_isCarriedOut_3, MX12_hurtBy, MX12_hushed, MX12_mended, MX12_sum, MX12_test, GG1, hV_107]
      refine WCl_of (m_hurtBy (hO.v) (hSv _ _) (r := q.2.1) (by omega) (by rw [hgq]; omega) (x := val2)) (by omega) (fun v h3 hv3 => ?_)
      obtain ⟨rfl, f3, hS3⟩ := hv3
      rw [hgq] at hS3 ⊢
      have hx01 : (if min 3 (S0.1 q.2.1 + max 0 (min 3 val2)) = S0.1 q.2.1 then (0 : Int) else 1) = 0 ∨ (if min 3 (S0.1 q.2.1 + max 0 (min 3 val2)) = S0.1 q.2.1 then (0 : Int) else 1) = 1 := by
        split <;> omega
      have hoc : ordC 8 q.2.1 val2 S0.1 S0.2.1 = (mUp S0.1 q.2.1 (min 3 (S0.1 q.2.1 + max 0 (min 3 val2))), S0.2.1, if min 3 (S0.1 q.2.1 + max 0 (min 3 val2)) = S0.1 q.2.1 then 0 else 1) := rfl
      rw [hoc]
      dsimp only
      generalize (if min 3 (S0.1 q.2.1 + max 0 (min 3 val2)) = S0.1 q.2.1 then (0 : Int) else 1) = x at hx01 ⊢
      simp (disch := omega) only [ms_sipush, ms_lconst, ms_ldc2_w, ms_dconst, ms_ldc, ms_getstatic, ms_iload, ms_lload, ms_dload, ms_aload, ms_istore, ms_lstore, ms_dstore, ms_astore, ms_iinc, ms_iadd, ms_isub, ms_imul, ms_idiv, ms_irem, ms_ineg, ms_iand, ms_ior, ms_ishr, ms_iushr, ms_i2b, ms_i2c, ms_i2l, ms_ladd, ms_lmul, ms_lcmp, ms_i2d, ms_ddiv, ms_dcmp, ms_dup, ms_pop, ms_dup2, ms_goto, ms_ifCond, ms_if_icmp, ms_if_acmp_eq, ms_if_acmp_ne, ms_tableswitch, ms_lookupswitch, ms_getfield, ms_putfield, ms_arraylength, ms_iaload, ms_baload, ms_laload, ms_aaload, ms_iastore, ms_bastore, ms_lastore, ms_aastore, ms_newarray, ms_new, ms_anewarray, ms_multianewarray, ms_invokevirtual, ms_invokestatic, ms_invokespecial, ms_invokedynamic_0, ms_invokedynamic_1, ms_invokedynamic_2, ms_invokedynamic_3, ms_invokedynamic_4, ms_invokedynamic_5, ms_ireturn, ms_lreturn, ms_dreturn, ms_areturn, ms_return_, Wp_cons, WSC_nx, WSC_cl, WSC_rt, WSC_th, WSC_if, lg, lset, lfree, wide, isRf, isRT, fitK, hgt, margs, mpad, rcv, rdF, rdN, rdI, rdQ, mC_eq, mC_ne, mC_lt, mC_ge, mC_gt, mC_le, mset, mnew, h_fst, h_snd, lt_drop0, List.drop_succ_cons, List.drop_zero, List.drop_nil, List.take_succ_cons, List.take_zero, List.reverse_cons, List.reverse_nil, List.nil_append, List.cons_append, List.append_nil, List.length_cons, List.length_nil, List.getElem?_cons_succ, List.getElem?_cons_zero, List.set_cons_succ, List.set_cons_zero, List.replicate, Option.toList, reduceIte, Bool.not_false, Bool.not_true, Nat.reduceLT, Nat.reduceLeDiff, Nat.reduceAdd, Nat.reduceSub, Nat.reduceMul, Int.reduceLT, Int.reduceLE, Int.reduceNeg, Int.reduceAdd, Int.reduceSub, Int.reduceMul, Int.reduceEq, and_self, true_and, and_true, false_and, and_false, or_false, false_or, true_or, or_true, not_true_eq_false, not_false_eq_true, Bool.false_eq_true, Bool.true_eq_false, decide_true, decide_false, decide_eq_true_eq, Nat.le_refl, Nat.zero_le, ge_iff_le, gt_iff_lt, Nat.lt_irrefl, reduceCtorEq, if_posD, if_negD, w32_id, Int.toNat_natCast, WCo_in, mUp_self, mUp_ne, ne_eq, Bool.true_and, Bool.and_true, Bool.false_and, Bool.and_false, Bool.true_or, Bool.or_true, Bool.false_or, Bool.or_false, Nat.reduceEqDiff, Int.cast_ofNat_Int, Int.reduceToNat, List.getD_cons_succ, List.getD_cons_zero, eq_self, swL, if_true, if_false, qX12_isCarriedOut_3, MX12_hurtBy, MX12_hushed, MX12_mended, MX12_sum, MX12_test, GG1]
      refine ⟨x, rfl, hx01, rfl, hV_q.tr f3.q, ⟨_, f'', hO.v.cg (fun y hy => f3.2 y (by omega))⟩, _, hS3, fun r hr => ?_, ?_, fun k hk hk5 => mUp_ne hk⟩
      · rw [mUp_ne (by omega), mUp_self]
        refine ⟨(hg r hr).1, ?_⟩
        dsimp only
        by_cases hrq : r = q.2.1
        · rw [hrq, mUp_self, mUp_self]
        · rw [mUp_ne hrq, mUp_ne hrq]
          exact (hg r hr).2
      · rw [mUp_ne (by omega)]
        exact hH
    · rw [k8] at o12
      have o12 : F 12 i = 10 := o12
      rw [k8]
      have hc14 := hR.2.1
      have hwr := (hR.2.2 q.2.1 kt).2.2.2.2.2
      have hgq := (hg q.2.1 kt).2
      simp (disch := omega) only [ms_sipush, ms_lconst, ms_ldc2_w, ms_dconst, ms_ldc, ms_getstatic, ms_iload, ms_lload, ms_dload, ms_aload, ms_istore, ms_lstore, ms_dstore, ms_astore, ms_iinc, ms_iadd, ms_isub, ms_imul, ms_idiv, ms_irem, ms_ineg, ms_iand, ms_ior, ms_ishr, ms_iushr, ms_i2b, ms_i2c, ms_i2l, ms_ladd, ms_lmul, ms_lcmp, ms_i2d, ms_ddiv, ms_dcmp, ms_dup, ms_pop, ms_dup2, ms_goto, ms_ifCond, ms_if_icmp, ms_if_acmp_eq, ms_if_acmp_ne, ms_tableswitch, ms_lookupswitch, ms_getfield, ms_putfield, ms_arraylength, ms_iaload, ms_baload, ms_laload, ms_aaload, ms_iastore, ms_bastore, ms_lastore, ms_aastore, ms_newarray, ms_new, ms_anewarray, ms_multianewarray, ms_invokevirtual, ms_invokestatic, ms_invokespecial, ms_invokedynamic_0, ms_invokedynamic_1, ms_invokedynamic_2, ms_invokedynamic_3, ms_invokedynamic_4, ms_invokedynamic_5, ms_ireturn, ms_lreturn, ms_dreturn, ms_areturn, ms_return_, Wp_cons, WSC_nx, WSC_cl, WSC_rt, WSC_th, WSC_if, lg, lset, lfree, wide, isRf, isRT, fitK, hgt, margs, mpad, rcv, rdF, rdN, rdI, rdQ, mC_eq, mC_ne, mC_lt, mC_ge, mC_gt, mC_le, mset, mnew, h_fst, h_snd, lt_drop0, List.drop_succ_cons, List.drop_zero, List.drop_nil, List.take_succ_cons, List.take_zero, List.reverse_cons, List.reverse_nil, List.nil_append, List.cons_append, List.append_nil, List.length_cons, List.length_nil, List.getElem?_cons_succ, List.getElem?_cons_zero, List.set_cons_succ, List.set_cons_zero, List.replicate, Option.toList, reduceIte, Bool.not_false, Bool.not_true, Nat.reduceLT, Nat.reduceLeDiff, Nat.reduceAdd, Nat.reduceSub, Nat.reduceMul, Int.reduceLT, Int.reduceLE, Int.reduceNeg, Int.reduceAdd, Int.reduceSub, Int.reduceMul, Int.reduceEq, and_self, true_and, and_true, false_and, and_false, or_false, false_or, true_or, or_true, not_true_eq_false, not_false_eq_true, Bool.false_eq_true, Bool.true_eq_false, decide_true, decide_false, decide_eq_true_eq, Nat.le_refl, Nat.zero_le, ge_iff_le, gt_iff_lt, Nat.lt_irrefl, reduceCtorEq, if_posD, if_negD, w32_id, Int.toNat_natCast, WCo_in, mUp_self, mUp_ne, ne_eq, Bool.true_and, Bool.and_true, Bool.false_and, Bool.and_false, Bool.true_or, Bool.or_true, Bool.false_or, Bool.or_false, Nat.reduceEqDiff, Int.cast_ofNat_Int, Int.reduceToNat, List.getD_cons_succ, List.getD_cons_zero, eq_self, swL, if_true, if_false, qX12_isCarriedOut_1, qX12_isCarriedOut_2, qX12_isCarriedOut_3, MX12_hurtBy, MX12_hushed, MX12_mended, MX12_sum, MX12_test, GG1, hV_107, esv, e12v, e13v, e14v, o12, o13]
      refine WCl_of (m_mended (hO.v) (hSv _ _) (r := q.2.1) (by omega) (by rw [hgq]; omega)) (by omega) (fun v h3 hv3 => ?_)
      obtain ⟨rfl, f3, hS3⟩ := hv3
      rw [hgq] at hS3 ⊢
      have hx01 : (if 0 < S0.1 q.2.1 then (1 : Int) else 0) = 0 ∨ (if 0 < S0.1 q.2.1 then (1 : Int) else 0) = 1 := by
        split <;> omega
      have hoc : ∀ x, ordC 10 q.2.1 x S0.1 S0.2.1 = (if 0 < S0.1 q.2.1 then mUp S0.1 q.2.1 (S0.1 q.2.1 - 1) else S0.1, S0.2.1, if 0 < S0.1 q.2.1 then 1 else 0) := fun _ => rfl
      rw [hoc]
      dsimp only
      generalize (if 0 < S0.1 q.2.1 then (1 : Int) else 0) = x at hx01 ⊢
      simp (disch := omega) only [ms_sipush, ms_lconst, ms_ldc2_w, ms_dconst, ms_ldc, ms_getstatic, ms_iload, ms_lload, ms_dload, ms_aload, ms_istore, ms_lstore, ms_dstore, ms_astore, ms_iinc, ms_iadd, ms_isub, ms_imul, ms_idiv, ms_irem, ms_ineg, ms_iand, ms_ior, ms_ishr, ms_iushr, ms_i2b, ms_i2c, ms_i2l, ms_ladd, ms_lmul, ms_lcmp, ms_i2d, ms_ddiv, ms_dcmp, ms_dup, ms_pop, ms_dup2, ms_goto, ms_ifCond, ms_if_icmp, ms_if_acmp_eq, ms_if_acmp_ne, ms_tableswitch, ms_lookupswitch, ms_getfield, ms_putfield, ms_arraylength, ms_iaload, ms_baload, ms_laload, ms_aaload, ms_iastore, ms_bastore, ms_lastore, ms_aastore, ms_newarray, ms_new, ms_anewarray, ms_multianewarray, ms_invokevirtual, ms_invokestatic, ms_invokespecial, ms_invokedynamic_0, ms_invokedynamic_1, ms_invokedynamic_2, ms_invokedynamic_3, ms_invokedynamic_4, ms_invokedynamic_5, ms_ireturn, ms_lreturn, ms_dreturn, ms_areturn, ms_return_, Wp_cons, WSC_nx, WSC_cl, WSC_rt, WSC_th, WSC_if, lg, lset, lfree, wide, isRf, isRT, fitK, hgt, margs, mpad, rcv, rdF, rdN, rdI, rdQ, mC_eq, mC_ne, mC_lt, mC_ge, mC_gt, mC_le, mset, mnew, h_fst, h_snd, lt_drop0, List.drop_succ_cons, List.drop_zero, List.drop_nil, List.take_succ_cons, List.take_zero, List.reverse_cons, List.reverse_nil, List.nil_append, List.cons_append, List.append_nil, List.length_cons, List.length_nil, List.getElem?_cons_succ, List.getElem?_cons_zero, List.set_cons_succ, List.set_cons_zero, List.replicate, Option.toList, reduceIte, Bool.not_false, Bool.not_true, Nat.reduceLT, Nat.reduceLeDiff, Nat.reduceAdd, Nat.reduceSub, Nat.reduceMul, Int.reduceLT, Int.reduceLE, Int.reduceNeg, Int.reduceAdd, Int.reduceSub, Int.reduceMul, Int.reduceEq, and_self, true_and, and_true, false_and, and_false, or_false, false_or, true_or, or_true, not_true_eq_false, not_false_eq_true, Bool.false_eq_true, Bool.true_eq_false, decide_true, decide_false, decide_eq_true_eq, Nat.le_refl, Nat.zero_le, ge_iff_le, gt_iff_lt, Nat.lt_irrefl, reduceCtorEq, if_posD, if_negD, w32_id, Int.toNat_natCast, WCo_in, mUp_self, mUp_ne, ne_eq, Bool.true_and, Bool.and_true, Bool.false_and, Bool.and_false, Bool.true_or, Bool.or_true, Bool.false_or, Bool.or_false, Nat.reduceEqDiff, Int.cast_ofNat_Int, Int.reduceToNat, List.getD_cons_succ, List.getD_cons_zero, eq_self, swL, if_true, if_false, qX12_isCarriedOut_3, MX12_hurtBy, MX12_hushed, MX12_mended, MX12_sum, MX12_test, GG1]
      refine ⟨x, rfl, hx01, rfl, hV_q.tr f3.q, ⟨_, f', hO.v.cg (fun y hy => f3.2 y (by omega))⟩, _, hS3, fun r hr => ?_, ?_, fun k hk hk5 => mUp_ne hk⟩
      · rw [mUp_ne (by omega), mUp_self]
        refine ⟨(hg r hr).1, ?_⟩
        dsimp only
        by_cases hw0 : 0 < S0.1 q.2.1
        · rw [if_pos hw0, if_pos hw0]
          by_cases hrq : r = q.2.1
          · rw [hrq, mUp_self, mUp_self]
          · rw [mUp_ne hrq, mUp_ne hrq]
            exact (hg r hr).2
        · rw [if_neg hw0, if_neg hw0]
          exact (hg r hr).2
      · rw [mUp_ne (by omega)]
        exact hH
    · rw [k8] at o12
      have o12 : F 12 i = 11 := o12
      rw [k8]
      have hn10 := hR.1
      have hgq := hH q.2.1 (by omega)
      simp (disch := omega) only [ms_sipush, ms_lconst, ms_ldc2_w, ms_dconst, ms_ldc, ms_getstatic, ms_iload, ms_lload, ms_dload, ms_aload, ms_istore, ms_lstore, ms_dstore, ms_astore, ms_iinc, ms_iadd, ms_isub, ms_imul, ms_idiv, ms_irem, ms_ineg, ms_iand, ms_ior, ms_ishr, ms_iushr, ms_i2b, ms_i2c, ms_i2l, ms_ladd, ms_lmul, ms_lcmp, ms_i2d, ms_ddiv, ms_dcmp, ms_dup, ms_pop, ms_dup2, ms_goto, ms_ifCond, ms_if_icmp, ms_if_acmp_eq, ms_if_acmp_ne, ms_tableswitch, ms_lookupswitch, ms_getfield, ms_putfield, ms_arraylength, ms_iaload, ms_baload, ms_laload, ms_aaload, ms_iastore, ms_bastore, ms_lastore, ms_aastore, ms_newarray, ms_new, ms_anewarray, ms_multianewarray, ms_invokevirtual, ms_invokestatic, ms_invokespecial, ms_invokedynamic_0, ms_invokedynamic_1, ms_invokedynamic_2, ms_invokedynamic_3, ms_invokedynamic_4, ms_invokedynamic_5, ms_ireturn, ms_lreturn, ms_dreturn, ms_areturn, ms_return_, Wp_cons, WSC_nx, WSC_cl, WSC_rt, WSC_th, WSC_if, lg, lset, lfree, wide, isRf, isRT, fitK, hgt, margs, mpad, rcv, rdF, rdN, rdI, rdQ, mC_eq, mC_ne, mC_lt, mC_ge, mC_gt, mC_le, mset, mnew, h_fst, h_snd, lt_drop0, List.drop_succ_cons, List.drop_zero, List.drop_nil, List.take_succ_cons, List.take_zero, List.reverse_cons, List.reverse_nil, List.nil_append, List.cons_append, List.append_nil, List.length_cons, List.length_nil, List.getElem?_cons_succ, List.getElem?_cons_zero, List.set_cons_succ, List.set_cons_zero, List.replicate, Option.toList, reduceIte, Bool.not_false, Bool.not_true, Nat.reduceLT, Nat.reduceLeDiff, Nat.reduceAdd, Nat.reduceSub, Nat.reduceMul, Int.reduceLT, Int.reduceLE, Int.reduceNeg, Int.reduceAdd, Int.reduceSub, Int.reduceMul, Int.reduceEq, and_self, true_and, and_true, false_and, and_false, or_false, false_or, true_or, or_true, not_true_eq_false, not_false_eq_true, Bool.false_eq_true, Bool.true_eq_false, decide_true, decide_false, decide_eq_true_eq, Nat.le_refl, Nat.zero_le, ge_iff_le, gt_iff_lt, Nat.lt_irrefl, reduceCtorEq, if_posD, if_negD, w32_id, Int.toNat_natCast, WCo_in, mUp_self, mUp_ne, ne_eq, Bool.true_and, Bool.and_true, Bool.false_and, Bool.and_false, Bool.true_or, Bool.or_true, Bool.false_or, Bool.or_false, Nat.reduceEqDiff, Int.cast_ofNat_Int, Int.reduceToNat, List.getD_cons_succ, List.getD_cons_zero, eq_self, swL, if_true, if_false, qX12_isCarriedOut_1, qX12_isCarriedOut_2, qX12_isCarriedOut_3, MX12_hurtBy, MX12_hushed, MX12_mended, MX12_sum, MX12_test, GG1, hV_107, esv, e12v, e13v, e14v, o12, o13]
      refine WCl_of (m_hushed (hO.v) (hSv _ _) (t := q.2.1) (by omega)) (by omega) (fun v h3 hv3 => ?_)
      obtain ⟨rfl, f3, hS3⟩ := hv3
      rw [hgq]
      have hx01 : (if S0.2.1 q.2.1 = 0 then (1 : Int) else 0) = 0 ∨ (if S0.2.1 q.2.1 = 0 then (1 : Int) else 0) = 1 := by
        split <;> omega
      have hoc : ∀ x, ordC 11 q.2.1 x S0.1 S0.2.1 = (S0.1, mUp S0.2.1 q.2.1 1, if S0.2.1 q.2.1 = 0 then 1 else 0) := fun _ => rfl
      rw [hoc]
      dsimp only
      generalize (if S0.2.1 q.2.1 = 0 then (1 : Int) else 0) = x at hx01 ⊢
      simp (disch := omega) only [ms_sipush, ms_lconst, ms_ldc2_w, ms_dconst, ms_ldc, ms_getstatic, ms_iload, ms_lload, ms_dload, ms_aload, ms_istore, ms_lstore, ms_dstore, ms_astore, ms_iinc, ms_iadd, ms_isub, ms_imul, ms_idiv, ms_irem, ms_ineg, ms_iand, ms_ior, ms_ishr, ms_iushr, ms_i2b, ms_i2c, ms_i2l, ms_ladd, ms_lmul, ms_lcmp, ms_i2d, ms_ddiv, ms_dcmp, ms_dup, ms_pop, ms_dup2, ms_goto, ms_ifCond, ms_if_icmp, ms_if_acmp_eq, ms_if_acmp_ne, ms_tableswitch, ms_lookupswitch, ms_getfield, ms_putfield, ms_arraylength, ms_iaload, ms_baload, ms_laload, ms_aaload, ms_iastore, ms_bastore, ms_lastore, ms_aastore, ms_newarray, ms_new, ms_anewarray, ms_multianewarray, ms_invokevirtual, ms_invokestatic, ms_invokespecial, ms_invokedynamic_0, ms_invokedynamic_1, ms_invokedynamic_2, ms_invokedynamic_3, ms_invokedynamic_4, ms_invokedynamic_5, ms_ireturn, ms_lreturn, ms_dreturn, ms_areturn, ms_return_, Wp_cons, WSC_nx, WSC_cl, WSC_rt, WSC_th, WSC_if, lg, lset, lfree, wide, isRf, isRT, fitK, hgt, margs, mpad, rcv, rdF, rdN, rdI, rdQ, mC_eq, mC_ne, mC_lt, mC_ge, mC_gt, mC_le, mset, mnew, h_fst, h_snd, lt_drop0, List.drop_succ_cons, List.drop_zero, List.drop_nil, List.take_succ_cons, List.take_zero, List.reverse_cons, List.reverse_nil, List.nil_append, List.cons_append, List.append_nil, List.length_cons, List.length_nil, List.getElem?_cons_succ, List.getElem?_cons_zero, List.set_cons_succ, List.set_cons_zero, List.replicate, Option.toList, reduceIte, Bool.not_false, Bool.not_true, Nat.reduceLT, Nat.reduceLeDiff, Nat.reduceAdd, Nat.reduceSub, Nat.reduceMul, Int.reduceLT, Int.reduceLE, Int.reduceNeg, Int.reduceAdd, Int.reduceSub, Int.reduceMul, Int.reduceEq, and_self, true_and, and_true, false_and, and_false, or_false, false_or, true_or, or_true, not_true_eq_false, not_false_eq_true, Bool.false_eq_true, Bool.true_eq_false, decide_true, decide_false, decide_eq_true_eq, Nat.le_refl, Nat.zero_le, ge_iff_le, gt_iff_lt, Nat.lt_irrefl, reduceCtorEq, if_posD, if_negD, w32_id, Int.toNat_natCast, WCo_in, mUp_self, mUp_ne, ne_eq, Bool.true_and, Bool.and_true, Bool.false_and, Bool.and_false, Bool.true_or, Bool.or_true, Bool.false_or, Bool.or_false, Nat.reduceEqDiff, Int.cast_ofNat_Int, Int.reduceToNat, List.getD_cons_succ, List.getD_cons_zero, eq_self, swL, if_true, if_false, qX12_isCarriedOut_3, MX12_hurtBy, MX12_hushed, MX12_mended, MX12_sum, MX12_test, GG1]
      refine ⟨x, rfl, hx01, rfl, hV_q.tr f3.q, ⟨_, f', hO.v.cg (fun y hy => f3.2 y (by omega))⟩, _, hS3, fun r hr => ?_, ?_, fun k hk hk5 => mUp_ne hk5⟩
      · rw [mUp_ne (by omega), mUp_ne (by omega)]
        exact hg r hr
      · rw [mUp_self]
        exact hH.up
end CARRY
