/-! ===== THE REFERENCE: feed, trim ===== -/
section RFEED
variable {L : Nat} {xs : Nat → Int} {fm : Bool} {hc hc' : Nat → MC} {h h1 h2 H : MH} {sb tc len : Nat} {th th' sz ea ans : Int} {F G : Nat → Nat → Int} {T : Nat → Int} {K : Nat → Nat} {va : Nat → Int} {Q : Pn} {S S' : St8} {tk dp wk : Int} {oo : Nat} {W : Nat → Nat → Int}
variable {tp : Nat → Int}
theorem apT_at {n j : Nat} {x : Int} (hj : j < 4) : apT tp n x (n + j) = cb x j := by
  unfold apT
  rcases (by omega : j = 0 ∨ j = 1 ∨ j = 2 ∨ j = 3) with rfl | rfl | rfl | rfl <;> simp (disch := omega) only [mUp_ne, mUp_self, ne_eq, Nat.add_zero]
theorem apT_ne {n i : Nat} {x : Int} (hi : i < n ∨ n + 4 ≤ i) : apT tp n x i = tp i := by
  unfold apT
  simp (disch := omega) only [mUp_ne, ne_eq]
def fiv (a b c d e : Int) : Nat → Int := mUp (mUp (mUp (mUp (mUp (fun _ => 0) 0 a) 1 b) 2 c) 3 d) 4 e
theorem tp_byte {x t : Int} {j : Nat} (hj : j < 4) (ht : t = mb x (24 - 8 * (j : Int))) : 0 ≤ t ∧ t < 256 ∧ (t < 128 → cb x j = t) ∧ (128 ≤ t → cb x j = t - 256) := by
  subst ht
  unfold cb
  exact mb_cb (by omega)
/-- the same bytes after a feed -/
theorem Tp.feed {a b c d e : Int} {T' : Nat → Int} (h : Tp T tp len) (h1 : ∀ i, i < len → T' i = T i) (h2 : ∀ k, k < 20 → T' (len + k) = mb (fiv a b c d e (k / 4)) (24 - 8 * ((k % 4 : Nat) : Int))) : Tp T' (apT (apT (apT (apT (apT tp len a) (len + 4) b) (len + 8) c) (len + 12) d) (len + 16) e) (len + 20) := by
  intro i hi
  by_cases hil : i < len
  · rw [h1 i hil, apT_ne (by omega), apT_ne (by omega), apT_ne (by omega), apT_ne (by omega), apT_ne (by omega)]
    exact h i hil
  · obtain ⟨k, rfl⟩ : ∃ k, i = len + k := ⟨i - len, by omega⟩
    have hk := h2 k (by omega)
    rcases (by omega : k / 4 = 0 ∨ k / 4 = 1 ∨ k / 4 = 2 ∨ k / 4 = 3 ∨ k / 4 = 4) with hq | hq | hq | hq | hq
    · rw [hq] at hk
      rw [apT_ne (by omega), apT_ne (by omega), apT_ne (by omega), apT_ne (by omega), show len + k = len + k % 4 by omega, apT_at (by omega)]
      rw [show len + k = len + k % 4 by omega] at hk
      exact tp_byte (by omega) hk
    · rw [hq] at hk
      rw [apT_ne (by omega), apT_ne (by omega), apT_ne (by omega), show len + k = len + 4 + k % 4 by omega, apT_at (by omega)]
      rw [show len + k = len + 4 + k % 4 by omega] at hk
      exact tp_byte (by omega) hk
    · rw [hq] at hk
      rw [apT_ne (by omega), apT_ne (by omega), show len + k = len + 8 + k % 4 by omega, apT_at (by omega)]
      rw [show len + k = len + 8 + k % 4 by omega] at hk
      exact tp_byte (by omega) hk
    · rw [hq] at hk
      rw [apT_ne (by omega), show len + k = len + 12 + k % 4 by omega, apT_at (by omega)]
      rw [show len + k = len + 12 + k % 4 by omega] at hk
      exact tp_byte (by omega) hk
    · rw [hq] at hk
      rw [show len + k = len + 16 + k % 4 by omega, apT_at (by omega)]
      rw [show len + k = len + 16 + k % 4 by omega] at hk
      exact tp_byte (by omega) hk
theorem RfV.cg (hV : RfV hc th sz ea sb F K tc va Q S T) (hf : ∀ a, (107 ≤ a ∧ a < 151) ∨ (sb ≤ a ∧ a < sb + 16) → hc' a = hc a) : RfV hc' th sz ea sb F K tc va Q S T := by
  obtain ⟨⟨tk, dp, wk, oo, W, hO⟩, hP, hsb, ⟨he, hw, hM⟩, hr, ca, lo, he2, tn, G, hA⟩ := hV
  exact ⟨⟨tk, dp, wk, oo, W, hO.cg (fun a ha => hf a (by omega))⟩, hP.cg (fun a h1 h2 => hf a (Or.inr ⟨h1, h2⟩)), hsb, ⟨he, hw, hM.cg (fun a h1 h2 => hf a (by omega))⟩, hr, ca, lo, he2, tn, G, hA.cg (fun a h1 h2 => hf a (by omega))⟩
theorem f_trim (hV : RfV h.1 th sz ea sb F K tc va Q S T) (hsz : sz = (len : Int)) (hl : len ≤ 2000) {a : Int} : Sp (GG L xs fm) 9 mX12_trim [qR 107, qI a] h (fun v h2 => if 0 ≤ a ∧ a ≤ len then v = .inl (some (qI a)) ∧ Fm 107 44 h h2 ∧ RfV h2.1 0 a ea sb F K tc va Q S T else RfP h (0) 1 sz ea sb F K tc va Q S T v h2) := by
  obtain ⟨tk, dp, wk, oo, W, he, H, o0, hf, p0, hO, hP, hsb, hw, hM, hA, hVH, f0⟩ := hV.st
  have cno : ∀ (x : Int) {d : Nat} {B : Nat → List MI} {ex : List Nat} {is : List MI} {ls st : List MV} {Q' : (Option MV ⊕ Nat) → MH → Prop}, 0 < d → WCl (GG L xs fm) d B ex is ls 151 [qR 107, qI x] st H Q' = Wp (GG L xs fm) d B is ls (qI 0 :: st) (mUp H.1 107 (cO 12 [qI x, qR 108, qI sz, qI ea, qI tk, qI dp, qR sb, qR 125, qR 135, qI wk, qR oo, qR 145, qR 146, qR 147, qR 148, qR 149, qR 150, qI (-1)]), H.2) Q' := fun x {d B ex is ls st Q'} hd => WCl_sp (m_no p0) hd
  refine Sp_of MX12_trim ?_
  by_cases q1 : 0 ≤ a ∧ a ≤ len
  · have q1' : 0 ≤ a ∧ a ≤ sz := by omega
    simp only [if_pos q1]
    simp (disch := omega) only [ms_sipush, ms_lconst, ms_ldc2_w, ms_dconst, ms_ldc, ms_getstatic, ms_iload, ms_lload, ms_dload, ms_aload, ms_istore, ms_lstore, ms_dstore, ms_astore, ms_iinc, ms_iadd, ms_isub, ms_imul, ms_idiv, ms_irem, ms_ineg, ms_iand, ms_ior, ms_ishr, ms_iushr, ms_i2b, ms_i2c, ms_i2l, ms_ladd, ms_lmul, ms_lcmp, ms_i2d, ms_ddiv, ms_dcmp, ms_dup, ms_pop, ms_dup2, ms_goto, ms_ifCond, ms_if_icmp, ms_if_acmp_eq, ms_if_acmp_ne, ms_tableswitch, ms_lookupswitch, ms_getfield, ms_putfield, ms_arraylength, ms_iaload, ms_baload, ms_laload, ms_aaload, ms_iastore, ms_bastore, ms_lastore, ms_aastore, ms_newarray, ms_new, ms_anewarray, ms_multianewarray, ms_invokevirtual, ms_invokestatic, ms_invokespecial, ms_invokedynamic_0, ms_invokedynamic_1, ms_invokedynamic_2, ms_invokedynamic_3, ms_invokedynamic_4, ms_invokedynamic_5, ms_ireturn, ms_lreturn, ms_dreturn, ms_areturn, ms_return_, Wp_cons, WSC_nx, WSC_cl, WSC_rt, WSC_th, WSC_if, lg, lset, lfree, wide, isRf, isRT, fitK, hgt, margs, mpad, rcv, rdF, rdN, rdI, rdQ, mC_eq, mC_ne, mC_lt, mC_ge, mC_gt, mC_le, mset, mnew, h_fst, h_snd, lt_drop0, List.drop_succ_cons, List.drop_zero, List.drop_nil, List.take_succ_cons, List.take_zero, List.reverse_cons, List.reverse_nil, List.nil_append, List.cons_append, List.append_nil, List.length_cons, List.length_nil, List.getElem?_cons_succ, List.getElem?_cons_zero, List.set_cons_succ, List.set_cons_zero, List.replicate, Option.toList, reduceIte, Bool.not_false, Bool.not_true, Nat.reduceLT, Nat.reduceLeDiff, Nat.reduceAdd, Nat.reduceSub, Nat.reduceMul, Int.reduceLT, Int.reduceLE, Int.reduceNeg, Int.reduceAdd, Int.reduceSub, Int.reduceMul, Int.reduceEq, and_self, true_and, and_true, false_and, and_false, or_false, false_or, true_or, or_true, not_true_eq_false, not_false_eq_true, Bool.false_eq_true, Bool.true_eq_false, decide_true, decide_false, decide_eq_true_eq, Nat.le_refl, Nat.zero_le, ge_iff_le, gt_iff_lt, Nat.lt_irrefl, reduceCtorEq, if_posD, if_negD, w32_id, Int.toNat_natCast, WCo_in, mUp_self, mUp_ne, ne_eq, Bool.true_and, Bool.and_true, Bool.false_and, Bool.and_false, Bool.true_or, Bool.or_true, Bool.false_or, Bool.or_false, Nat.reduceEqDiff, Int.cast_ofNat_Int, Int.reduceToNat, List.getD_cons_succ, List.getD_cons_zero, eq_self, swL, if_true, if_false, qX12_trim_0, qX12_trim_1, MX12_isIn, MX12_no, GG1, o0, hf, p0, c_in1, c_in0, cno, q1']
    exact ⟨f0.at (by omega) (by omega), hVH.own⟩
  · have q1' : ¬ (0 ≤ a ∧ a ≤ sz) := by omega
    simp only [if_neg q1]
    simp (disch := omega) only [ms_sipush, ms_lconst, ms_ldc2_w, ms_dconst, ms_ldc, ms_getstatic, ms_iload, ms_lload, ms_dload, ms_aload, ms_istore, ms_lstore, ms_dstore, ms_astore, ms_iinc, ms_iadd, ms_isub, ms_imul, ms_idiv, ms_irem, ms_ineg, ms_iand, ms_ior, ms_ishr, ms_iushr, ms_i2b, ms_i2c, ms_i2l, ms_ladd, ms_lmul, ms_lcmp, ms_i2d, ms_ddiv, ms_dcmp, ms_dup, ms_pop, ms_dup2, ms_goto, ms_ifCond, ms_if_icmp, ms_if_acmp_eq, ms_if_acmp_ne, ms_tableswitch, ms_lookupswitch, ms_getfield, ms_putfield, ms_arraylength, ms_iaload, ms_baload, ms_laload, ms_aaload, ms_iastore, ms_bastore, ms_lastore, ms_aastore, ms_newarray, ms_new, ms_anewarray, ms_multianewarray, ms_invokevirtual, ms_invokestatic, ms_invokespecial, ms_invokedynamic_0, ms_invokedynamic_1, ms_invokedynamic_2, ms_invokedynamic_3, ms_invokedynamic_4, ms_invokedynamic_5, ms_ireturn, ms_lreturn, ms_dreturn, ms_areturn, ms_return_, Wp_cons, WSC_nx, WSC_cl, WSC_rt, WSC_th, WSC_if, lg, lset, lfree, wide, isRf, isRT, fitK, hgt, margs, mpad, rcv, rdF, rdN, rdI, rdQ, mC_eq, mC_ne, mC_lt, mC_ge, mC_gt, mC_le, mset, mnew, h_fst, h_snd, lt_drop0, List.drop_succ_cons, List.drop_zero, List.drop_nil, List.take_succ_cons, List.take_zero, List.reverse_cons, List.reverse_nil, List.nil_append, List.cons_append, List.append_nil, List.length_cons, List.length_nil, List.getElem?_cons_succ, List.getElem?_cons_zero, List.set_cons_succ, List.set_cons_zero, List.replicate, Option.toList, reduceIte, Bool.not_false, Bool.not_true, Nat.reduceLT, Nat.reduceLeDiff, Nat.reduceAdd, Nat.reduceSub, Nat.reduceMul, Int.reduceLT, Int.reduceLE, Int.reduceNeg, Int.reduceAdd, Int.reduceSub, Int.reduceMul, Int.reduceEq, and_self, true_and, and_true, false_and, and_false, or_false, false_or, true_or, or_true, not_true_eq_false, not_false_eq_true, Bool.false_eq_true, Bool.true_eq_false, decide_true, decide_false, decide_eq_true_eq, Nat.le_refl, Nat.zero_le, ge_iff_le, gt_iff_lt, Nat.lt_irrefl, reduceCtorEq, if_posD, if_negD, w32_id, Int.toNat_natCast, WCo_in, mUp_self, mUp_ne, ne_eq, Bool.true_and, Bool.and_true, Bool.false_and, Bool.and_false, Bool.true_or, Bool.or_true, Bool.false_or, Bool.or_false, Nat.reduceEqDiff, Int.cast_ofNat_Int, Int.reduceToNat, List.getD_cons_succ, List.getD_cons_zero, eq_self, swL, if_true, if_false, qX12_trim_0, qX12_trim_1, MX12_isIn, MX12_no, GG1, o0, hf, p0, c_in1, c_in0, cno, q1']
    exact hVH.no p0 f0
/-- after a feed -/
def FeP (h : MH) (len : Nat) (ea : Int) (sb : Nat) (F : Nat → Nat → Int) (K : Nat → Nat) (tc : Nat) (va : Nat → Int) (Q : Pn) (S : St8) (T : Nat → Int) (a b c d e : Int) (v : Option MV ⊕ Nat) (h2 : MH) : Prop := v = .inl (some (qI ((len + 20 : Nat) : Int))) ∧ h2.2 = (h.2.1 + 1, h.2.2.1 + 1, h.2.2.2 + 5) ∧ (∀ x, x < h.2.1 → (x < 107 ∨ 151 ≤ x) → h2.1 x = h.1 x) ∧ ∃ T', RfV h2.1 0 ((len + 20 : Nat) : Int) ea sb F K tc va Q S T' ∧ (∀ i, i < len → T' i = T i) ∧ ∀ k, k < 20 → T' (len + k) = mb (fiv a b c d e (k / 4)) (24 - 8 * ((k % 4 : Nat) : Int))
theorem f_feed (hV : RfV h.1 th sz ea sb F K tc va Q S T) (hsz : sz = (len : Int)) (hl : len ≤ 2000) (hnx : 151 ≤ h.2.1) (hnx2 : sb + 16 ≤ h.2.1) {a b c d e : Int} : Sp (GG L xs fm) 9 mX12_feed [qR 107, qI a, qI b, qI c, qI d, qI e] h (fun v h2 => if len + 20 ≤ 2000 then FeP h len ea sb F K tc va Q S T a b c d e v h2 else RfP h (0) 1 sz ea sb F K tc va Q S T v h2) := by
  obtain ⟨tk, dp, wk, oo, W, he, H, o0, hf, p0, hO, hP, hsb, hw, hM, hA, hVH, f0⟩ := hV.st
  subst hsz
  have cno : ∀ (x : Int) {d : Nat} {B : Nat → List MI} {ex : List Nat} {is : List MI} {ls st : List MV} {Q' : (Option MV ⊕ Nat) → MH → Prop}, 0 < d → WCl (GG L xs fm) d B ex is ls 151 [qR 107, qI x] st H Q' = Wp (GG L xs fm) d B is ls (qI 0 :: st) (mUp H.1 107 (cO 12 [qI x, qR 108, qI (len : Int), qI ea, qI tk, qI dp, qR sb, qR 125, qR 135, qI wk, qR oo, qR 145, qR 146, qR 147, qR 148, qR 149, qR 150, qI (-1)]), H.2) Q' := fun x {d B ex is ls st Q'} hd => WCl_sp (m_no p0) hd
  have hH2 : H.2 = h.2 := f0.1
  refine Sp_of MX12_feed ?_
  by_cases q1 : len + 20 ≤ 2000
  · simp only [if_pos q1]
    have o108 := hO.2.1
    have hn : H.2.1 ≠ 108 := by
      rw [hH2]
      omega
    have hn1 : ¬ (108 : Nat) = H.2.1 := fun z => hn z.symm
    have hn2 : H.2.1 ≠ 107 := by
      rw [hH2]
      omega
    have hn3 : ¬ (107 : Nat) = H.2.1 := fun z => hn2 z.symm
    have loop : ∀ (m k : Nat) (T' : Nat → Int), k + m = 20 → (∀ i, i < len → T' i = T i) → (∀ i, i < k → T' (len + i) = mb (fiv a b c d e (i / 4)) (24 - 8 * ((i % 4 : Nat) : Int))) → Wp (GG L xs fm) 9 BX12_feed (BX12_feed 2) [qR 107, qI a, qI b, qI c, qI d, qI e, qR H.2.1, qI k] [] (mUp (mUp H.1 H.2.1 (cI .int 5 (fiv a b c d e))) 108 (cI .int 2000 T'), H.2.1 + 1, H.2.2.1 + 1, H.2.2.2 + 5) (FeP h len ea sb F K tc va Q S T a b c d e) := by
      intro m
      induction m with
      | zero =>
        intro k T' hk h1 h2
        obtain rfl : k = 20 := by omega
        rw [qX12_feed_2]
        simp (disch := omega) only [ms_sipush, ms_lconst, ms_ldc2_w, ms_dconst, ms_ldc, ms_getstatic, ms_iload, ms_lload, ms_dload, ms_aload, ms_istore, ms_lstore, ms_dstore, ms_astore, ms_iinc, ms_iadd, ms_isub, ms_imul, ms_idiv, ms_irem, ms_ineg, ms_iand, ms_ior, ms_ishr, ms_iushr, ms_i2b, ms_i2c, ms_i2l, ms_ladd, ms_lmul, ms_lcmp, ms_i2d, ms_ddiv, ms_dcmp, ms_dup, ms_pop, ms_dup2, ms_goto, ms_ifCond, ms_if_icmp, ms_if_acmp_eq, ms_if_acmp_ne, ms_tableswitch, ms_lookupswitch, ms_getfield, ms_putfield, ms_arraylength, ms_iaload, ms_baload, ms_laload, ms_aaload, ms_iastore, ms_bastore, ms_lastore, ms_aastore, ms_newarray, ms_new, ms_anewarray, ms_multianewarray, ms_invokevirtual, ms_invokestatic, ms_invokespecial, ms_invokedynamic_0, ms_invokedynamic_1, ms_invokedynamic_2, ms_invokedynamic_3, ms_invokedynamic_4, ms_invokedynamic_5, ms_ireturn, ms_lreturn, ms_dreturn, ms_areturn, ms_return_, Wp_cons, WSC_nx, WSC_cl, WSC_rt, WSC_th, WSC_if, lg, lset, lfree, wide, isRf, isRT, fitK, hgt, margs, mpad, rcv, rdF, rdN, rdI, rdQ, mC_eq, mC_ne, mC_lt, mC_ge, mC_gt, mC_le, mset, mnew, h_fst, h_snd, lt_drop0, List.drop_succ_cons, List.drop_zero, List.drop_nil, List.take_succ_cons, List.take_zero, List.reverse_cons, List.reverse_nil, List.nil_append, List.cons_append, List.append_nil, List.length_cons, List.length_nil, List.getElem?_cons_succ, List.getElem?_cons_zero, List.set_cons_succ, List.set_cons_zero, List.replicate, Option.toList, reduceIte, Bool.not_false, Bool.not_true, Nat.reduceLT, Nat.reduceLeDiff, Nat.reduceAdd, Nat.reduceSub, Nat.reduceMul, Int.reduceLT, Int.reduceLE, Int.reduceNeg, Int.reduceAdd, Int.reduceSub, Int.reduceMul, Int.reduceEq, and_self, true_and, and_true, false_and, and_false, or_false, false_or, true_or, or_true, not_true_eq_false, not_false_eq_true, Bool.false_eq_true, Bool.true_eq_false, decide_true, decide_false, decide_eq_true_eq, Nat.le_refl, Nat.zero_le, ge_iff_le, gt_iff_lt, Nat.lt_irrefl, reduceCtorEq, if_posD, if_negD, w32_id, Int.toNat_natCast, WCo_in, mUp_self, mUp_ne, ne_eq, Bool.true_and, Bool.and_true, Bool.false_and, Bool.and_false, Bool.true_or, Bool.or_true, Bool.false_or, Bool.or_false, Nat.reduceEqDiff, Int.cast_ofNat_Int, Int.reduceToNat, List.getD_cons_succ, List.getD_cons_zero, eq_self, swL, if_true, if_false, qX12_feed_3, MX12_no, GG1, p0]
        refine ⟨rfl, ?_, fun x hx hx2 => ?_, T', ?_, h1, h2⟩
        · rw [hH2]
        · show mUp (mUp (mUp H.1 H.2.1 _) 108 _) 107 _ x = _
          rw [mUp_ne (by omega), mUp_ne (by omega), mUp_ne (by rw [hH2]; omega)]
          exact f0.2 x (by omega)
        · show RfV (mUp (mUp (mUp H.1 H.2.1 (cI .int 5 (fiv a b c d e))) 108 (cI .int 2000 T')) 107 (cO 12 [qI 0, qR 108, qI ((len : Int) + 20), qI ea, qI tk, qI dp, qR sb, qR 125, qR 135, qI wk, qR oo, qR 145, qR 146, qR 147, qR 148, qR 149, qR 150, qI (-1)])) 0 ((len + 20 : Nat) : Int) ea sb F K tc va Q S T'
          have hV1 : RfV (mUp H.1 H.2.1 (cI .int 5 (fiv a b c d e))) 0 (len : Int) ea sb F K tc va Q S T := hVH.cg (fun x hx => mUp_ne (by rw [hH2]; omega))
          have hV2 : RfV (mUp (mUp H.1 H.2.1 (cI .int 5 (fiv a b c d e))) 108 (cI .int 2000 T')) 0 (len : Int) ea sb F K tc va Q S T' := by
            obtain ⟨⟨tk, dp, wk, oo, W, hO⟩, hP, hsb, ⟨he, hw, hM⟩, hr, ca, lo, he2, tn, G, hA⟩ := hV1
            refine ⟨⟨tk, dp, wk, oo, W, ?_⟩, hP.cg (fun a h1 h2 => mUp_ne (by omega)), hsb, ⟨he, hw, hM.cg (fun a h1 h2 => mUp_ne (by omega))⟩, hr, ca, lo, he2, tn, G, hA.cg (fun a h1 h2 => mUp_ne (by omega))⟩
            obtain ⟨z1, z2, z3, z4⟩ := hO
            exact ⟨(mUp_ne (by omega)).trans z1, mUp_self _ _ _, fun k hk => (mUp_ne (by omega)).trans (z3 k hk), fun k hk hk2 => (mUp_ne (by omega)).trans (z4 k hk hk2)⟩
          exact hV2.own
      | succ m ih =>
        intro k T' hk h1 h2
        have := ih (k + 1) (mUp T' (len + k) (mb (fiv a b c d e (k / 4)) (24 - 8 * ((k % 4 : Nat) : Int)))) (by omega) (fun i hi => by
          rw [mUp_ne (by omega)]
          exact h1 i hi) (fun i hi => by
          by_cases hik : i = k
          · rw [hik, mUp_self]
          · rw [mUp_ne (by omega)]
            exact h2 i (by omega))
        rw [Int.natCast_add] at this
        have d1 : (k : Int).tdiv 4 = ((k / 4 : Nat) : Int) := by
          rw [Int.tdiv_eq_ediv_of_nonneg (by omega)]
          omega
        have d2 : (k : Int) - ((k / 4 : Nat) : Int) * 4 = ((k % 4 : Nat) : Int) := by omega
        have d3 : (24 : Int) - ((k % 4 : Nat) : Int) * 8 = 24 - 8 * ((k % 4 : Nat) : Int) := by omega
        have d4 : ((len : Int) + (k : Int)).toNat = len + k := by omega
        have d5 : i32 (fun a b => a &&& b) (i32 (fun a b => (a.toUInt32 >>> (b.toUInt32 &&& Int32.toUInt32 31)).toInt32) (fiv a b c d e (k / 4)) (24 - 8 * ((k % 4 : Nat) : Int))) 255 = mb (fiv a b c d e (k / 4)) (24 - 8 * ((k % 4 : Nat) : Int)) := rfl
        rw [qX12_feed_2]
        simp (disch := omega) only [ms_sipush, ms_lconst, ms_ldc2_w, ms_dconst, ms_ldc, ms_getstatic, ms_iload, ms_lload, ms_dload, ms_aload, ms_istore, ms_lstore, ms_dstore, ms_astore, ms_iinc, ms_iadd, ms_isub, ms_imul, ms_idiv, ms_irem, ms_ineg, ms_iand, ms_ior, ms_ishr, ms_iushr, ms_i2b, ms_i2c, ms_i2l, ms_ladd, ms_lmul, ms_lcmp, ms_i2d, ms_ddiv, ms_dcmp, ms_dup, ms_pop, ms_dup2, ms_goto, ms_ifCond, ms_if_icmp, ms_if_acmp_eq, ms_if_acmp_ne, ms_tableswitch, ms_lookupswitch, ms_getfield, ms_putfield, ms_arraylength, ms_iaload, ms_baload, ms_laload, ms_aaload, ms_iastore, ms_bastore, ms_lastore, ms_aastore, ms_newarray, ms_new, ms_anewarray, ms_multianewarray, ms_invokevirtual, ms_invokestatic, ms_invokespecial, ms_invokedynamic_0, ms_invokedynamic_1, ms_invokedynamic_2, ms_invokedynamic_3, ms_invokedynamic_4, ms_invokedynamic_5, ms_ireturn, ms_lreturn, ms_dreturn, ms_areturn, ms_return_, Wp_cons, WSC_nx, WSC_cl, WSC_rt, WSC_th, WSC_if, lg, lset, lfree, wide, isRf, isRT, fitK, hgt, margs, mpad, rcv, rdF, rdN, rdI, rdQ, mC_eq, mC_ne, mC_lt, mC_ge, mC_gt, mC_le, mset, mnew, h_fst, h_snd, lt_drop0, List.drop_succ_cons, List.drop_zero, List.drop_nil, List.take_succ_cons, List.take_zero, List.reverse_cons, List.reverse_nil, List.nil_append, List.cons_append, List.append_nil, List.length_cons, List.length_nil, List.getElem?_cons_succ, List.getElem?_cons_zero, List.set_cons_succ, List.set_cons_zero, List.replicate, Option.toList, reduceIte, Bool.not_false, Bool.not_true, Nat.reduceLT, Nat.reduceLeDiff, Nat.reduceAdd, Nat.reduceSub, Nat.reduceMul, Int.reduceLT, Int.reduceLE, Int.reduceNeg, Int.reduceAdd, Int.reduceSub, Int.reduceMul, Int.reduceEq, and_self, true_and, and_true, false_and, and_false, or_false, false_or, true_or, or_true, not_true_eq_false, not_false_eq_true, Bool.false_eq_true, Bool.true_eq_false, decide_true, decide_false, decide_eq_true_eq, Nat.le_refl, Nat.zero_le, ge_iff_le, gt_iff_lt, Nat.lt_irrefl, reduceCtorEq, if_posD, if_negD, w32_id, Int.toNat_natCast, WCo_in, mUp_self, mUp_ne, ne_eq, Bool.true_and, Bool.and_true, Bool.false_and, Bool.and_false, Bool.true_or, Bool.or_true, Bool.false_or, Bool.or_false, Nat.reduceEqDiff, Int.cast_ofNat_Int, Int.reduceToNat, List.getD_cons_succ, List.getD_cons_zero, eq_self, swL, if_true, if_false, qX12_feed_3, MX12_no, GG1, p0, d1, d2, d3, d4, d5, hn, hn2, hn3, mUp_mUp]
        exact this
    have := loop 20 0 T (by omega) (fun _ _ => rfl) (fun i hi => absurd hi (Nat.not_lt_zero _))
    have e1 : mUp (mUp H.1 H.2.1 (cI .int 5 (fiv a b c d e))) 108 (cI .int 2000 T) = mUp H.1 H.2.1 (cI .int 5 (fiv a b c d e)) := by
      funext x
      by_cases hx : x = 108
      · subst hx
        rw [mUp_self, mUp_ne hn1]
        exact o108.symm
      · rw [mUp_ne hx]
    rw [e1] at this
    simp (disch := omega) only [ms_sipush, ms_lconst, ms_ldc2_w, ms_dconst, ms_ldc, ms_getstatic, ms_iload, ms_lload, ms_dload, ms_aload, ms_istore, ms_lstore, ms_dstore, ms_astore, ms_iinc, ms_iadd, ms_isub, ms_imul, ms_idiv, ms_irem, ms_ineg, ms_iand, ms_ior, ms_ishr, ms_iushr, ms_i2b, ms_i2c, ms_i2l, ms_ladd, ms_lmul, ms_lcmp, ms_i2d, ms_ddiv, ms_dcmp, ms_dup, ms_pop, ms_dup2, ms_goto, ms_ifCond, ms_if_icmp, ms_if_acmp_eq, ms_if_acmp_ne, ms_tableswitch, ms_lookupswitch, ms_getfield, ms_putfield, ms_arraylength, ms_iaload, ms_baload, ms_laload, ms_aaload, ms_iastore, ms_bastore, ms_lastore, ms_aastore, ms_newarray, ms_new, ms_anewarray, ms_multianewarray, ms_invokevirtual, ms_invokestatic, ms_invokespecial, ms_invokedynamic_0, ms_invokedynamic_1, ms_invokedynamic_2, ms_invokedynamic_3, ms_invokedynamic_4, ms_invokedynamic_5, ms_ireturn, ms_lreturn, ms_dreturn, ms_areturn, ms_return_, Wp_cons, WSC_nx, WSC_cl, WSC_rt, WSC_th, WSC_if, lg, lset, lfree, wide, isRf, isRT, fitK, hgt, margs, mpad, rcv, rdF, rdN, rdI, rdQ, mC_eq, mC_ne, mC_lt, mC_ge, mC_gt, mC_le, mset, mnew, h_fst, h_snd, lt_drop0, List.drop_succ_cons, List.drop_zero, List.drop_nil, List.take_succ_cons, List.take_zero, List.reverse_cons, List.reverse_nil, List.nil_append, List.cons_append, List.append_nil, List.length_cons, List.length_nil, List.getElem?_cons_succ, List.getElem?_cons_zero, List.set_cons_succ, List.set_cons_zero, List.replicate, Option.toList, reduceIte, Bool.not_false, Bool.not_true, Nat.reduceLT, Nat.reduceLeDiff, Nat.reduceAdd, Nat.reduceSub, Nat.reduceMul, Int.reduceLT, Int.reduceLE, Int.reduceNeg, Int.reduceAdd, Int.reduceSub, Int.reduceMul, Int.reduceEq, and_self, true_and, and_true, false_and, and_false, or_false, false_or, true_or, or_true, not_true_eq_false, not_false_eq_true, Bool.false_eq_true, Bool.true_eq_false, decide_true, decide_false, decide_eq_true_eq, Nat.le_refl, Nat.zero_le, ge_iff_le, gt_iff_lt, Nat.lt_irrefl, reduceCtorEq, if_posD, if_negD, w32_id, Int.toNat_natCast, WCo_in, mUp_self, mUp_ne, ne_eq, Bool.true_and, Bool.and_true, Bool.false_and, Bool.and_false, Bool.true_or, Bool.or_true, Bool.false_or, Bool.or_false, Nat.reduceEqDiff, Int.cast_ofNat_Int, Int.reduceToNat, List.getD_cons_succ, List.getD_cons_zero, eq_self, swL, if_true, if_false, qX12_feed_0, qX12_feed_1, MX12_no, GG1, o0, hf, p0, cno, hn2, hn3, mUp_mUp]
    exact this
  · simp only [if_neg q1]
    simp (disch := omega) only [ms_sipush, ms_lconst, ms_ldc2_w, ms_dconst, ms_ldc, ms_getstatic, ms_iload, ms_lload, ms_dload, ms_aload, ms_istore, ms_lstore, ms_dstore, ms_astore, ms_iinc, ms_iadd, ms_isub, ms_imul, ms_idiv, ms_irem, ms_ineg, ms_iand, ms_ior, ms_ishr, ms_iushr, ms_i2b, ms_i2c, ms_i2l, ms_ladd, ms_lmul, ms_lcmp, ms_i2d, ms_ddiv, ms_dcmp, ms_dup, ms_pop, ms_dup2, ms_goto, ms_ifCond, ms_if_icmp, ms_if_acmp_eq, ms_if_acmp_ne, ms_tableswitch, ms_lookupswitch, ms_getfield, ms_putfield, ms_arraylength, ms_iaload, ms_baload, ms_laload, ms_aaload, ms_iastore, ms_bastore, ms_lastore, ms_aastore, ms_newarray, ms_new, ms_anewarray, ms_multianewarray, ms_invokevirtual, ms_invokestatic, ms_invokespecial, ms_invokedynamic_0, ms_invokedynamic_1, ms_invokedynamic_2, ms_invokedynamic_3, ms_invokedynamic_4, ms_invokedynamic_5, ms_ireturn, ms_lreturn, ms_dreturn, ms_areturn, ms_return_, Wp_cons, WSC_nx, WSC_cl, WSC_rt, WSC_th, WSC_if, lg, lset, lfree, wide, isRf, isRT, fitK, hgt, margs, mpad, rcv, rdF, rdN, rdI, rdQ, mC_eq, mC_ne, mC_lt, mC_ge, mC_gt, mC_le, mset, mnew, h_fst, h_snd, lt_drop0, List.drop_succ_cons, List.drop_zero, List.drop_nil, List.take_succ_cons, List.take_zero, List.reverse_cons, List.reverse_nil, List.nil_append, List.cons_append, List.append_nil, List.length_cons, List.length_nil, List.getElem?_cons_succ, List.getElem?_cons_zero, List.set_cons_succ, List.set_cons_zero, List.replicate, Option.toList, reduceIte, Bool.not_false, Bool.not_true, Nat.reduceLT, Nat.reduceLeDiff, Nat.reduceAdd, Nat.reduceSub, Nat.reduceMul, Int.reduceLT, Int.reduceLE, Int.reduceNeg, Int.reduceAdd, Int.reduceSub, Int.reduceMul, Int.reduceEq, and_self, true_and, and_true, false_and, and_false, or_false, false_or, true_or, or_true, not_true_eq_false, not_false_eq_true, Bool.false_eq_true, Bool.true_eq_false, decide_true, decide_false, decide_eq_true_eq, Nat.le_refl, Nat.zero_le, ge_iff_le, gt_iff_lt, Nat.lt_irrefl, reduceCtorEq, if_posD, if_negD, w32_id, Int.toNat_natCast, WCo_in, mUp_self, mUp_ne, ne_eq, Bool.true_and, Bool.and_true, Bool.false_and, Bool.and_false, Bool.true_or, Bool.or_true, Bool.false_or, Bool.or_false, Nat.reduceEqDiff, Int.cast_ofNat_Int, Int.reduceToNat, List.getD_cons_succ, List.getD_cons_zero, eq_self, swL, if_true, if_false, qX12_feed_0, qX12_feed_1, MX12_no, GG1, o0, hf, p0, cno]
    exact hVH.no p0 f0
end RFEED
