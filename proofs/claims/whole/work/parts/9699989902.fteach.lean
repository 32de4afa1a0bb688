/-- what teaching the reference leaves -/
def TfP (h : MH) (sb : Nat) (F : Nat → Nat → Int) (K0 : Nat → Nat) (tc0 : Nat) (va : Nat → Int) (Q : Pn) (S : St8) (T : Nat → Int) (tc : Nat) (K kd : Nat → Nat) (f3 : Nat → Int) (r : Bool × Nat × List Or) (s : NSt) (v : Option MV ⊕ Nat) (h2 : MH) : Prop := h2.2 = (h.2.1 + 16, h.2.2.1 + 16, h.2.2.2 + 1844) ∧ (∀ a, (a < 107 ∨ 151 ≤ a) → a < h.2.1 → h2.1 a = h.1 a) ∧
  ((r.1 = false ∧ v = .inl (some (qI 1)) ∧ RfV h2.1 0 0 (plO tc f3 (r.2.1 : Int)) sb F K0 tc0 va Q S T) ∨ (r.1 = true ∧ v = .inl (some (qI s.1)) ∧ ((s.1 ≠ 0 ∧ RfV h2.1 0 0 (plO tc f3 s.2.1) sb F K0 tc0 va Q S T) ∨ (s.1 = 0 ∧ ∃ F', RfV h2.1 0 0 (-1) h.2.1 F' K tc (s.2.2.2.2.2.2.2 4) (planQ tc kd s r.2.2) (begS S.1 (s.2.2.2.2.2.2.2 9)) T))))
section FTEACH
variable {L : Nat} {xs : Nat → Int} {fm : Bool} {hc hc' : Nat → MC} {h : MH} {sb len tc tc0 : Nat} {th sz ea : Int} {T tp f3 f4 sp va : Nat → Int} {F : Nat → Nat → Int} {K K0 kd : Nat → Nat} {Q : Pn} {S : St8} {r : Bool × Nat × List Or} {s : NSt}
theorem mE_nn {eq : Nat → Nat → Bool} {nv : Nat → Int} {st : MSt} {k : Nat} : 0 ≤ (mE K eq nv st k).1 := by
  unfold mE mName mNum mNew
  repeat' split
  all_goals dsimp only
  all_goals first | decide | (split <;> decide)
theorem mAll_nn {eq : Nat → Nat → Bool} {nv : Nat → Int} : ∀ {m k : Nat} {st : MSt}, 0 ≤ (mAll K eq nv m k st).1
  | 0, k, st => Int.le_refl _
  | m + 1, k, st => by
    show 0 ≤ (if (mE K eq nv st k).1 = 0 then mAll K eq nv m (k + 1) (mE K eq nv st k).2 else ((mE K eq nv st k).1, k, st)).1
    split
    · exact mAll_nn
    · exact mE_nn
theorem mAll_ix {eq : Nat → Nat → Bool} {nv : Nat → Int} : ∀ {m k : Nat} {st : MSt}, (mAll K eq nv m k st).1 ≠ 0 → (mAll K eq nv m k st).2.1 < k + m
  | 0, k, st, h => absurd rfl h
  | m + 1, k, st, h => by
    have e : mAll K eq nv (m + 1) k st = if (mE K eq nv st k).1 = 0 then mAll K eq nv m (k + 1) (mE K eq nv st k).2 else ((mE K eq nv st k).1, k, st) := rfl
    rw [e] at h ⊢
    by_cases h0 : (mE K eq nv st k).1 = 0
    · rw [if_pos h0] at h ⊢
      have := mAll_ix h
      omega
    · rw [if_neg h0]
      show k < k + (m + 1)
      omega
theorem pLs_lt (hK : KOk K tc) {fu : Nat} : ∀ {x n : Nat} {r : Bool × Nat × List Or}, n < tc → pLs K fu x n = some r → r.2.1 < tc
  | 0, n, r, hn, h => by cases h
  | x + 1, n, r, hn, h => by
    unfold pLs at h
    split at h
    · cases h
      exact hn
    · split at h
      · cases h
      · rename_i n1 o e1
        cases h
        exact (pLine_ok hK hn e1).1
      · rename_i n1 o e1
        have hn1 := (pLine_ok hK hn e1).1
        split at h
        · rename_i h30
          split at h
          · cases h
          · rename_i b n2 os e2
            cases h
            have h3 : (b, n2, os).2.1 < tc := pLs_lt hK (hK.nx hn1 h30 (by decide)) e2
            exact h3
        · cases h
          exact hn1
theorem f_teach (hV : RfV h.1 th sz ea sb F K0 tc0 va Q S T) (hsz : sz = (len : Int)) (hl : len ≤ 2000) (hT : Tp T tp len) (hnx : 151 ≤ h.2.1) (hnx2 : sb + 16 ≤ h.2.1) (hTok : TokOk tp len tc K f3 f4 sp) (hK : KOk K tc) (hr : pLs K 6500 402 0 = some r) (hrt : r.2.1 < tc) (hcase : r.1 = true → ∃ (et : Int) (f : Nat → Int) (g : Nat → Nat → Int) (P : Nat → Nat → Int) (cl : Nat), KEq K kd ∧ (∀ i, i < 3 → f i = 0) ∧ P 4 = f4 ∧ s = nAll tc kd sp tc 0 (0, et, 0, f, g, 0, 0, P) ∧ OrR r.2.2 kd P cl r.2.1 ∧ (s.1 = 0 → NJ kd P 0 0 tc tc s)) : Sp (GG L xs fm) 38 mX12_teach [qR 107] h (TfP h sb F K0 tc0 va Q S T tc K kd f3 r s) := by
  obtain ⟨tk, dp, wk, oo, W, he, H, o0, hf, p0, hO, hP, hsb, hw, hM, hA, hVH, f0⟩ := hV.st
  have hH2 : H.2 = h.2 := f0.1
  have d10 : mdef (CF 10) = [qN, qN, qN, qN, qN, qN, qN, qN, qN, qN, qN, qI 0, qN, qN, qN, qN] := rfl
  have l10 : (CF 10).length = 16 := rfl
  have hb : 151 ≤ H.2.1 := by
    rw [hH2]
    exact hnx
  have hb2 : sb + 16 ≤ H.2.1 := by
    rw [hH2]
    exact hnx2
  have hn2 : H.2.1 ≠ 107 := by omega
  have hn3 : ¬ (107 : Nat) = H.2.1 := by omega
  generalize hPost : TfP h sb F K0 tc0 va Q S T tc K kd f3 r s = Post
  refine Sp_of MX12_teach ?_
  simp (disch := omega) only [ms_sipush, ms_lconst, ms_ldc2_w, ms_dconst, ms_ldc, ms_getstatic, ms_iload, ms_lload, ms_dload, ms_aload, ms_istore, ms_lstore, ms_dstore, ms_astore, ms_iinc, ms_iadd, ms_isub, ms_imul, ms_idiv, ms_irem, ms_ineg, ms_iand, ms_ior, ms_ishr, ms_iushr, ms_i2b, ms_i2c, ms_i2l, ms_ladd, ms_lmul, ms_lcmp, ms_i2d, ms_ddiv, ms_dcmp, ms_dup, ms_pop, ms_dup2, ms_goto, ms_ifCond, ms_if_icmp, ms_if_acmp_eq, ms_if_acmp_ne, ms_tableswitch, ms_lookupswitch, ms_getfield, ms_putfield, ms_arraylength, ms_iaload, ms_baload, ms_laload, ms_aaload, ms_iastore, ms_bastore, ms_lastore, ms_aastore, ms_newarray, ms_new, ms_anewarray, ms_multianewarray, ms_invokevirtual, ms_invokestatic, ms_invokespecial, ms_invokedynamic_0, ms_invokedynamic_1, ms_invokedynamic_2, ms_invokedynamic_3, ms_invokedynamic_4, ms_invokedynamic_5, ms_ireturn, ms_lreturn, ms_dreturn, ms_areturn, ms_return_, Wp_cons, WSC_nx, WSC_cl, WSC_rt, WSC_th, WSC_if, lg, lset, lfree, wide, isRf, isRT, fitK, hgt, margs, mpad, rcv, rdF, rdN, rdI, rdQ, mC_eq, mC_ne, mC_lt, mC_ge, mC_gt, mC_le, mset, mnew, h_fst, h_snd, lt_drop0, List.drop_succ_cons, List.drop_zero, List.drop_nil, List.take_succ_cons, List.take_zero, List.reverse_cons, List.reverse_nil, List.nil_append, List.cons_append, List.append_nil, List.length_cons, List.length_nil, List.getElem?_cons_succ, List.getElem?_cons_zero, List.set_cons_succ, List.set_cons_zero, List.replicate, Option.toList, reduceIte, Bool.not_false, Bool.not_true, Nat.reduceLT, Nat.reduceLeDiff, Nat.reduceAdd, Nat.reduceSub, Nat.reduceMul, Int.reduceLT, Int.reduceLE, Int.reduceNeg, Int.reduceAdd, Int.reduceSub, Int.reduceMul, Int.reduceEq, and_self, true_and, and_true, false_and, and_false, or_false, false_or, true_or, or_true, not_true_eq_false, not_false_eq_true, Bool.false_eq_true, Bool.true_eq_false, decide_true, decide_false, decide_eq_true_eq, Nat.le_refl, Nat.zero_le, ge_iff_le, gt_iff_lt, Nat.lt_irrefl, reduceCtorEq, if_posD, if_negD, w32_id, Int.toNat_natCast, WCo_in, mUp_self, mUp_ne, ne_eq, Bool.true_and, Bool.and_true, Bool.false_and, Bool.and_false, Bool.true_or, Bool.or_true, Bool.false_or, Bool.or_false, Nat.reduceEqDiff, Int.cast_ofNat_Int, Int.reduceToNat, List.getD_cons_succ, List.getD_cons_zero, eq_self, swL, if_true, if_false, qX12_teach_0, MX10_init, MX12_begin, MX12_read, GG1, o0, hf, p0, mUp_mUp, GG4, d10, l10]
  refine WCl_of (i_sh (b := H.2.1) (mUp_self _ _ _)) (by omega) (fun v h2 hv => ?_)
  obtain ⟨rfl, ⟨m1, m2⟩, hS2⟩ := hv
  have fr2 : ∀ a, a ≠ 107 → a < H.2.1 → h2.1 a = H.1 a := fun a a1 a2 => by
    rw [m2 a (by omega), mUp_ne (by omega), mUp_ne a1]
  have hO2 : MoA h2.1 0 sz (-1) tk dp sb wk oo (-1) T W := (hO.own (th' := 0) (sz' := sz) (ea' := -1) (tk' := tk) (dp' := dp) (wk' := wk) (bt' := -1) (sb' := sb) (oo' := oo)).cg (fun a ha => by
    rw [m2 a (by omega), mUp_ne (by omega)])
  have h22 : h2.2 = (h.2.1 + 16, h.2.2.1 + 16, h.2.2.2 + 1844) := by
    rw [m1, hH2]
  clear m1 m2
  have hkt : ∀ t, t < tc → K t = tkK tp len t := fun t ht => (hTok.2.1 t ht).1
  have hpl : ∀ t : Nat, t < tc → plO tc f3 (t : Int) = (tkP tp len t : Int) := fun t ht => by
    unfold plO
    rw [if_pos (by omega), Int.toNat_natCast]
    exact (hTok.2.1 t ht).2.1
  have hsim : r.1 = true → ∀ F0, FtP tp len tc F0 → r.2.1 + 1 = tc ∧ SimP tc K (tkP tp len) (lnK tp len) (eqM T (tkP tp len) (lnK tp len)) (nvK tp len) r.2.1 0 s (F0, 0) (PoL tc K sp f4 (tkP tp len) (lnK tp len) (F0, 0) s r.2.2 r.2.1) := fun z F0 hF0 => by
    obtain ⟨et, f, g, P, cl, k1, k2, k3, rfl, k5, k6⟩ := hcase z
    obtain ⟨rb, rn, ros⟩ := r
    dsimp only at z
    subst z
    exact te_sim hTok hK k1 hT hr hrt k2 k3 hF0
  have p2 := hO2.1
  simp (disch := omega) only [ms_sipush, ms_lconst, ms_ldc2_w, ms_dconst, ms_ldc, ms_getstatic, ms_iload, ms_lload, ms_dload, ms_aload, ms_istore, ms_lstore, ms_dstore, ms_astore, ms_iinc, ms_iadd, ms_isub, ms_imul, ms_idiv, ms_irem, ms_ineg, ms_iand, ms_ior, ms_ishr, ms_iushr, ms_i2b, ms_i2c, ms_i2l, ms_ladd, ms_lmul, ms_lcmp, ms_i2d, ms_ddiv, ms_dcmp, ms_dup, ms_pop, ms_dup2, ms_goto, ms_ifCond, ms_if_icmp, ms_if_acmp_eq, ms_if_acmp_ne, ms_tableswitch, ms_lookupswitch, ms_getfield, ms_putfield, ms_arraylength, ms_iaload, ms_baload, ms_laload, ms_aaload, ms_iastore, ms_bastore, ms_lastore, ms_aastore, ms_newarray, ms_new, ms_anewarray, ms_multianewarray, ms_invokevirtual, ms_invokestatic, ms_invokespecial, ms_invokedynamic_0, ms_invokedynamic_1, ms_invokedynamic_2, ms_invokedynamic_3, ms_invokedynamic_4, ms_invokedynamic_5, ms_ireturn, ms_lreturn, ms_dreturn, ms_areturn, ms_return_, Wp_cons, WSC_nx, WSC_cl, WSC_rt, WSC_th, WSC_if, lg, lset, lfree, wide, isRf, isRT, fitK, hgt, margs, mpad, rcv, rdF, rdN, rdI, rdQ, mC_eq, mC_ne, mC_lt, mC_ge, mC_gt, mC_le, mset, mnew, h_fst, h_snd, lt_drop0, List.drop_succ_cons, List.drop_zero, List.drop_nil, List.take_succ_cons, List.take_zero, List.reverse_cons, List.reverse_nil, List.nil_append, List.cons_append, List.append_nil, List.length_cons, List.length_nil, List.getElem?_cons_succ, List.getElem?_cons_zero, List.set_cons_succ, List.set_cons_zero, List.replicate, Option.toList, reduceIte, Bool.not_false, Bool.not_true, Nat.reduceLT, Nat.reduceLeDiff, Nat.reduceAdd, Nat.reduceSub, Nat.reduceMul, Int.reduceLT, Int.reduceLE, Int.reduceNeg, Int.reduceAdd, Int.reduceSub, Int.reduceMul, Int.reduceEq, and_self, true_and, and_true, false_and, and_false, or_false, false_or, true_or, or_true, not_true_eq_false, not_false_eq_true, Bool.false_eq_true, Bool.true_eq_false, decide_true, decide_false, decide_eq_true_eq, Nat.le_refl, Nat.zero_le, ge_iff_le, gt_iff_lt, Nat.lt_irrefl, reduceCtorEq, if_posD, if_negD, w32_id, Int.toNat_natCast, WCo_in, mUp_self, mUp_ne, ne_eq, Bool.true_and, Bool.and_true, Bool.false_and, Bool.and_false, Bool.true_or, Bool.or_true, Bool.false_or, Bool.or_false, Nat.reduceEqDiff, Int.cast_ofNat_Int, Int.reduceToNat, List.getD_cons_succ, List.getD_cons_zero, eq_self, swL, if_true, if_false, qX12_teach_0, MX10_init, MX12_begin, MX12_read, GG1, p2]
  refine WCl_of (m_read hO2 hsz hl hT hS2 hb hK hkt hr (fun z => ⟨by omega, fun F0 hF0 => (hsim z F0 hF0).2.1⟩) hrt) (by omega) (fun v h3 hv => ?_)
  obtain ⟨q1, q2, tk3, dp3, wk3, oo3, W3, ea3, F0, hO3, hF0, hcs⟩ := hv
  have fr3 : ∀ a, a ≠ 107 → a < H.2.1 → h3.1 a = H.1 a := fun a a1 a2 => (q2 a a1 (Or.inl a2)).trans (fr2 a a1 a2)
  have h32 : h3.2 = (h.2.1 + 16, h.2.2.1 + 16, h.2.2.2 + 1844) := q1.trans h22
  have p3 := hO3.1
  -- nothing new is taught
  have keep : ∀ {x : Int}, RfV (mUp h3.1 107 (cO 12 [qI 0, qR 108, qI 0, qI x, qI tk3, qI dp3, qR sb, qR 125, qR 135, qI wk3, qR oo3, qR 145, qR 146, qR 147, qR 148, qR 149, qR 150, qI (-1)])) 0 0 x sb F K0 tc0 va Q S T := fun {x} => by
    obtain ⟨hr', ca, lo, he2, tn, G, hA⟩ := hA
    exact ⟨⟨tk3, dp3, wk3, oo3, W3, hO3.own⟩, hP.cg (fun a a1 a2 => by rw [mUp_ne (by omega), fr3 a (by omega) (by omega)]), hsb, ⟨he, hw, hM.cg (fun a a1 a2 => by rw [mUp_ne (by omega), fr3 a (by omega) (by omega)])⟩, hr', ca, lo, he2, tn, G, hA.cg (fun a a1 a2 => by rw [mUp_ne (by omega), fr3 a (by omega) (by omega)])⟩
  have hfr : ∀ {x : MC} (a : Nat), (a < 107 ∨ 151 ≤ a) → a < h.2.1 → (mUp h3.1 107 x : Nat → MC) a = h.1 a := fun {x} a a1 a2 => by
    rw [mUp_ne (by omega), fr3 a (by omega) (by rw [hH2]; exact a2), f0.2 a (by omega)]
  rcases hcs with ⟨hr0, rfl, rfl⟩ | ⟨hr1, R, hR, rfl, hR0, hRn⟩
  · simp (disch := omega) only [ms_sipush, ms_lconst, ms_ldc2_w, ms_dconst, ms_ldc, ms_getstatic, ms_iload, ms_lload, ms_dload, ms_aload, ms_istore, ms_lstore, ms_dstore, ms_astore, ms_iinc, ms_iadd, ms_isub, ms_imul, ms_idiv, ms_irem, ms_ineg, ms_iand, ms_ior, ms_ishr, ms_iushr, ms_i2b, ms_i2c, ms_i2l, ms_ladd, ms_lmul, ms_lcmp, ms_i2d, ms_ddiv, ms_dcmp, ms_dup, ms_pop, ms_dup2, ms_goto, ms_ifCond, ms_if_icmp, ms_if_acmp_eq, ms_if_acmp_ne, ms_tableswitch, ms_lookupswitch, ms_getfield, ms_putfield, ms_arraylength, ms_iaload, ms_baload, ms_laload, ms_aaload, ms_iastore, ms_bastore, ms_lastore, ms_aastore, ms_newarray, ms_new, ms_anewarray, ms_multianewarray, ms_invokevirtual, ms_invokestatic, ms_invokespecial, ms_invokedynamic_0, ms_invokedynamic_1, ms_invokedynamic_2, ms_invokedynamic_3, ms_invokedynamic_4, ms_invokedynamic_5, ms_ireturn, ms_lreturn, ms_dreturn, ms_areturn, ms_return_, Wp_cons, WSC_nx, WSC_cl, WSC_rt, WSC_th, WSC_if, lg, lset, lfree, wide, isRf, isRT, fitK, hgt, margs, mpad, rcv, rdF, rdN, rdI, rdQ, mC_eq, mC_ne, mC_lt, mC_ge, mC_gt, mC_le, mset, mnew, h_fst, h_snd, lt_drop0, List.drop_succ_cons, List.drop_zero, List.drop_nil, List.take_succ_cons, List.take_zero, List.reverse_cons, List.reverse_nil, List.nil_append, List.cons_append, List.append_nil, List.length_cons, List.length_nil, List.getElem?_cons_succ, List.getElem?_cons_zero, List.set_cons_succ, List.set_cons_zero, List.replicate, Option.toList, reduceIte, Bool.not_false, Bool.not_true, Nat.reduceLT, Nat.reduceLeDiff, Nat.reduceAdd, Nat.reduceSub, Nat.reduceMul, Int.reduceLT, Int.reduceLE, Int.reduceNeg, Int.reduceAdd, Int.reduceSub, Int.reduceMul, Int.reduceEq, and_self, true_and, and_true, false_and, and_false, or_false, false_or, true_or, or_true, not_true_eq_false, not_false_eq_true, Bool.false_eq_true, Bool.true_eq_false, decide_true, decide_false, decide_eq_true_eq, Nat.le_refl, Nat.zero_le, ge_iff_le, gt_iff_lt, Nat.lt_irrefl, reduceCtorEq, if_posD, if_negD, w32_id, Int.toNat_natCast, WCo_in, mUp_self, mUp_ne, ne_eq, Bool.true_and, Bool.and_true, Bool.false_and, Bool.and_false, Bool.true_or, Bool.or_true, Bool.false_or, Bool.or_false, Nat.reduceEqDiff, Int.cast_ofNat_Int, Int.reduceToNat, List.getD_cons_succ, List.getD_cons_zero, eq_self, swL, if_true, if_false, qX12_teach_0, MX10_init, MX12_begin, MX12_read, GG1, p3]
    rw [← hPost]
    exact ⟨h32, hfr, Or.inl ⟨hr0, rfl, by rw [hpl _ hrt]; exact keep⟩⟩
  · obtain ⟨hn1, -, z0, z1⟩ := hsim hr1 F0 hF0
    rw [← hR] at z0 z1
    have hnn : 0 ≤ R.1 := by
      rw [hR]
      exact mAll_nn
    obtain ⟨et, f, g, P, cl, k1, k2, k3, k4, k5, k6⟩ := hcase hr1
    by_cases hs : s.1 = 0
    · obtain ⟨y1, y2⟩ := z0 hs
      obtain ⟨rfl, hS3⟩ := hR0 y1
      have h45 : K r.2.1 = 45 := by
        obtain ⟨rb, rn, ros⟩ := r
        dsimp only at hr1
        subst hr1
        exact (pLs_wf hr).2
      have hJ := k6 hs
      have hMs : ∃ hr' ca lo he2 tn G, StA h3.1 125 hr' ca lo he2 tn G ∧ hr' = S.1 := by
        obtain ⟨G, m1, -⟩ := hM
        exact ⟨_, _, _, _, _, G, m1.cg (fun a a1 a2 => fr3 a (by omega) (by omega)), rfl⟩
      obtain ⟨hr', ca, lo, he2, tn, G, hSt, rfl⟩ := hMs
      have e10 : ((R.1 : Int) ≤ 0) := by omega
      simp (disch := omega) only [ms_sipush, ms_lconst, ms_ldc2_w, ms_dconst, ms_ldc, ms_getstatic, ms_iload, ms_lload, ms_dload, ms_aload, ms_istore, ms_lstore, ms_dstore, ms_astore, ms_iinc, ms_iadd, ms_isub, ms_imul, ms_idiv, ms_irem, ms_ineg, ms_iand, ms_ior, ms_ishr, ms_iushr, ms_i2b, ms_i2c, ms_i2l, ms_ladd, ms_lmul, ms_lcmp, ms_i2d, ms_ddiv, ms_dcmp, ms_dup, ms_pop, ms_dup2, ms_goto, ms_ifCond, ms_if_icmp, ms_if_acmp_eq, ms_if_acmp_ne, ms_tableswitch, ms_lookupswitch, ms_getfield, ms_putfield, ms_arraylength, ms_iaload, ms_baload, ms_laload, ms_aaload, ms_iastore, ms_bastore, ms_lastore, ms_aastore, ms_newarray, ms_new, ms_anewarray, ms_multianewarray, ms_invokevirtual, ms_invokestatic, ms_invokespecial, ms_invokedynamic_0, ms_invokedynamic_1, ms_invokedynamic_2, ms_invokedynamic_3, ms_invokedynamic_4, ms_invokedynamic_5, ms_ireturn, ms_lreturn, ms_dreturn, ms_areturn, ms_return_, Wp_cons, WSC_nx, WSC_cl, WSC_rt, WSC_th, WSC_if, lg, lset, lfree, wide, isRf, isRT, fitK, hgt, margs, mpad, rcv, rdF, rdN, rdI, rdQ, mC_eq, mC_ne, mC_lt, mC_ge, mC_gt, mC_le, mset, mnew, h_fst, h_snd, lt_drop0, List.drop_succ_cons, List.drop_zero, List.drop_nil, List.take_succ_cons, List.take_zero, List.reverse_cons, List.reverse_nil, List.nil_append, List.cons_append, List.append_nil, List.length_cons, List.length_nil, List.getElem?_cons_succ, List.getElem?_cons_zero, List.set_cons_succ, List.set_cons_zero, List.replicate, Option.toList, reduceIte, Bool.not_false, Bool.not_true, Nat.reduceLT, Nat.reduceLeDiff, Nat.reduceAdd, Nat.reduceSub, Nat.reduceMul, Int.reduceLT, Int.reduceLE, Int.reduceNeg, Int.reduceAdd, Int.reduceSub, Int.reduceMul, Int.reduceEq, and_self, true_and, and_true, false_and, and_false, or_false, false_or, true_or, or_true, not_true_eq_false, not_false_eq_true, Bool.false_eq_true, Bool.true_eq_false, decide_true, decide_false, decide_eq_true_eq, Nat.le_refl, Nat.zero_le, ge_iff_le, gt_iff_lt, Nat.lt_irrefl, reduceCtorEq, if_posD, if_negD, w32_id, Int.toNat_natCast, WCo_in, mUp_self, mUp_ne, ne_eq, Bool.true_and, Bool.and_true, Bool.false_and, Bool.and_false, Bool.true_or, Bool.or_true, Bool.false_or, Bool.or_false, Nat.reduceEqDiff, Int.cast_ofNat_Int, Int.reduceToNat, List.getD_cons_succ, List.getD_cons_zero, eq_self, swL, if_true, if_false, qX12_teach_0, qX12_teach_1, MX10_init, MX12_begin, MX12_read, GG1, p3, y1, mUp_mUp]
      refine WCl_of (m_begin (h := (mUp h3.1 107 (cO 12 [qI 0, qR 108, qI 0, qI (-1), qI tk3, qI dp3, qR H.2.1, qR 125, qR 135, qI wk3, qR oo3, qR 145, qR 146, qR 147, qR 148, qR 149, qR 150, qI (-1)]), h3.2)) (sb := H.2.1) hO3.own (hS3.cg (fun a a1 a2 => mUp_ne (by omega))) (Or.inr hb) (hSt.cg (fun a a1 a2 => mUp_ne (by omega)))) (by omega) (fun v h4 hv => ?_)
      obtain ⟨rfl, f4', G', hG', g1, g2, g3, g4, g5⟩ := hv
      simp (disch := omega) only [ms_sipush, ms_lconst, ms_ldc2_w, ms_dconst, ms_ldc, ms_getstatic, ms_iload, ms_lload, ms_dload, ms_aload, ms_istore, ms_lstore, ms_dstore, ms_astore, ms_iinc, ms_iadd, ms_isub, ms_imul, ms_idiv, ms_irem, ms_ineg, ms_iand, ms_ior, ms_ishr, ms_iushr, ms_i2b, ms_i2c, ms_i2l, ms_ladd, ms_lmul, ms_lcmp, ms_i2d, ms_ddiv, ms_dcmp, ms_dup, ms_pop, ms_dup2, ms_goto, ms_ifCond, ms_if_icmp, ms_if_acmp_eq, ms_if_acmp_ne, ms_tableswitch, ms_lookupswitch, ms_getfield, ms_putfield, ms_arraylength, ms_iaload, ms_baload, ms_laload, ms_aaload, ms_iastore, ms_bastore, ms_lastore, ms_aastore, ms_newarray, ms_new, ms_anewarray, ms_multianewarray, ms_invokevirtual, ms_invokestatic, ms_invokespecial, ms_invokedynamic_0, ms_invokedynamic_1, ms_invokedynamic_2, ms_invokedynamic_3, ms_invokedynamic_4, ms_invokedynamic_5, ms_ireturn, ms_lreturn, ms_dreturn, ms_areturn, ms_return_, Wp_cons, WSC_nx, WSC_cl, WSC_rt, WSC_th, WSC_if, lg, lset, lfree, wide, isRf, isRT, fitK, hgt, margs, mpad, rcv, rdF, rdN, rdI, rdQ, mC_eq, mC_ne, mC_lt, mC_ge, mC_gt, mC_le, mset, mnew, h_fst, h_snd, lt_drop0, List.drop_succ_cons, List.drop_zero, List.drop_nil, List.take_succ_cons, List.take_zero, List.reverse_cons, List.reverse_nil, List.nil_append, List.cons_append, List.append_nil, List.length_cons, List.length_nil, List.getElem?_cons_succ, List.getElem?_cons_zero, List.set_cons_succ, List.set_cons_zero, List.replicate, Option.toList, reduceIte, Bool.not_false, Bool.not_true, Nat.reduceLT, Nat.reduceLeDiff, Nat.reduceAdd, Nat.reduceSub, Nat.reduceMul, Int.reduceLT, Int.reduceLE, Int.reduceNeg, Int.reduceAdd, Int.reduceSub, Int.reduceMul, Int.reduceEq, and_self, true_and, and_true, false_and, and_false, or_false, false_or, true_or, or_true, not_true_eq_false, not_false_eq_true, Bool.false_eq_true, Bool.true_eq_false, decide_true, decide_false, decide_eq_true_eq, Nat.le_refl, Nat.zero_le, ge_iff_le, gt_iff_lt, Nat.lt_irrefl, reduceCtorEq, if_posD, if_negD, w32_id, Int.toNat_natCast, WCo_in, mUp_self, mUp_ne, ne_eq, Bool.true_and, Bool.and_true, Bool.false_and, Bool.and_false, Bool.true_or, Bool.or_true, Bool.false_or, Bool.or_false, Nat.reduceEqDiff, Int.cast_ofNat_Int, Int.reduceToNat, List.getD_cons_succ, List.getD_cons_zero, eq_self, swL, if_true, if_false, qX12_teach_1, MX10_init, MX12_begin, MX12_read, GG1]
      rw [← hPost]
      have hShp := te_plan (sb := H.2.1) (hc := h4.1) hTok hK k1 hn1 h45 hJ k5 y2 (hS3.cg (fun a a1 a2 => by
        rw [f4'.2 a (by omega)]
        show mUp h3.1 107 _ a = _
        rw [mUp_ne (by omega)]))
      have hRS := y2.1
      refine ⟨f4'.1.trans h32, fun a a1 a2 => ?_, Or.inr ⟨hr1, by rw [hs], Or.inr ⟨hs, R.2.2.1, ⟨tk3, dp3, wk3, oo3, W3, ?_⟩, by rw [hH2] at hShp; exact hShp, Or.inr hnx, ⟨0, by decide, ?_⟩, ?_⟩⟩⟩
      · by_cases ha : a < 107 ∨ 151 ≤ a
        · rw [f4'.2 a (by omega)]
          exact hfr a a1 a2
        · omega
      · have hX := (hO3.own (th' := 0) (sz' := 0) (ea' := -1) (tk' := tk3) (dp' := dp3) (wk' := wk3) (bt' := -1) (sb' := H.2.1) (oo' := oo3)).cg (hc' := h4.1) (fun a ha => f4'.2 a (by omega))
        rw [hH2] at hX
        exact hX
      · refine ⟨G', hG', fun r' hr' => ⟨?_, g2 r' ?_⟩, fun i hi => g3 i ?_, g4, g5, fun i x hx => by cases i <;> cases hx⟩
        · have hr2 : r' < s.2.2.2.2.2.1 := hr'
          obtain ⟨-, ⟨-, -, -, -, c4, -⟩, -, -, -, ⟨w1, w2, -⟩, -⟩ := hRS
          rw [g1 r' (by omega)]
          exact (w2 r' hr2).2.2
        · have hr2 : r' < s.2.2.2.2.2.1 := hr'
          obtain ⟨-, ⟨-, -, -, -, c4, -⟩, -, -, -, ⟨w1, -⟩, -⟩ := hRS
          omega
        · have hi : i < 6 * (s.2.2.2.1 0).toNat := hi
          obtain ⟨-, ⟨-, -, -, c3, -⟩, -⟩ := hRS
          omega
      · obtain ⟨hr', ca, lo, he2, tn, G, hA⟩ := hA
        exact ⟨hr', ca, lo, he2, tn, G, hA.cg (fun a a1 a2 => by rw [f4'.2 a (by omega)]; show mUp h3.1 107 _ a = _; rw [mUp_ne (by omega), fr3 a (by omega) (by omega)])⟩
    · obtain ⟨y1, y2⟩ := z1 hs
      have hRne : R.1 ≠ 0 := by
        rw [y1]
        exact hs
      have hex := hRn hRne
      subst hex
      have hlt : 0 < R.1 := by omega
      have hnle : ¬ R.1 ≤ 0 := by omega
      simp (disch := omega) only [ms_sipush, ms_lconst, ms_ldc2_w, ms_dconst, ms_ldc, ms_getstatic, ms_iload, ms_lload, ms_dload, ms_aload, ms_istore, ms_lstore, ms_dstore, ms_astore, ms_iinc, ms_iadd, ms_isub, ms_imul, ms_idiv, ms_irem, ms_ineg, ms_iand, ms_ior, ms_ishr, ms_iushr, ms_i2b, ms_i2c, ms_i2l, ms_ladd, ms_lmul, ms_lcmp, ms_i2d, ms_ddiv, ms_dcmp, ms_dup, ms_pop, ms_dup2, ms_goto, ms_ifCond, ms_if_icmp, ms_if_acmp_eq, ms_if_acmp_ne, ms_tableswitch, ms_lookupswitch, ms_getfield, ms_putfield, ms_arraylength, ms_iaload, ms_baload, ms_laload, ms_aaload, ms_iastore, ms_bastore, ms_lastore, ms_aastore, ms_newarray, ms_new, ms_anewarray, ms_multianewarray, ms_invokevirtual, ms_invokestatic, ms_invokespecial, ms_invokedynamic_0, ms_invokedynamic_1, ms_invokedynamic_2, ms_invokedynamic_3, ms_invokedynamic_4, ms_invokedynamic_5, ms_ireturn, ms_lreturn, ms_dreturn, ms_areturn, ms_return_, Wp_cons, WSC_nx, WSC_cl, WSC_rt, WSC_th, WSC_if, lg, lset, lfree, wide, isRf, isRT, fitK, hgt, margs, mpad, rcv, rdF, rdN, rdI, rdQ, mC_eq, mC_ne, mC_lt, mC_ge, mC_gt, mC_le, mset, mnew, h_fst, h_snd, lt_drop0, List.drop_succ_cons, List.drop_zero, List.drop_nil, List.take_succ_cons, List.take_zero, List.reverse_cons, List.reverse_nil, List.nil_append, List.cons_append, List.append_nil, List.length_cons, List.length_nil, List.getElem?_cons_succ, List.getElem?_cons_zero, List.set_cons_succ, List.set_cons_zero, List.replicate, Option.toList, reduceIte, Bool.not_false, Bool.not_true, Nat.reduceLT, Nat.reduceLeDiff, Nat.reduceAdd, Nat.reduceSub, Nat.reduceMul, Int.reduceLT, Int.reduceLE, Int.reduceNeg, Int.reduceAdd, Int.reduceSub, Int.reduceMul, Int.reduceEq, and_self, true_and, and_true, false_and, and_false, or_false, false_or, true_or, or_true, not_true_eq_false, not_false_eq_true, Bool.false_eq_true, Bool.true_eq_false, decide_true, decide_false, decide_eq_true_eq, Nat.le_refl, Nat.zero_le, ge_iff_le, gt_iff_lt, Nat.lt_irrefl, reduceCtorEq, if_posD, if_negD, w32_id, Int.toNat_natCast, WCo_in, mUp_self, mUp_ne, ne_eq, Bool.true_and, Bool.and_true, Bool.false_and, Bool.and_false, Bool.true_or, Bool.or_true, Bool.false_or, Bool.or_false, Nat.reduceEqDiff, Int.cast_ofNat_Int, Int.reduceToNat, List.getD_cons_succ, List.getD_cons_zero, eq_self, swL, if_true, if_false, qX12_teach_0, MX10_init, MX12_begin, MX12_read, GG1, p3, hnle]
      rw [← hPost]
      refine ⟨h32, hfr, Or.inr ⟨hr1, by rw [y1], Or.inl ⟨hs, ?_⟩⟩⟩
      have hix : R.2.1 < 0 + r.2.1 := by
        rw [hR]
        exact mAll_ix (by rw [← hR]; exact hRne)
      rw [← y2, hpl _ (by omega)]
      exact keep
end FTEACH
