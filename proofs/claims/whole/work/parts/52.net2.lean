/-! ===== THE ROADS OF THE CLASS, with what they keep of ways and nets ===== -/
def CaV (n c : Nat) (fr to : Nat → Nat) (mi wo : Nat → Int) (F : Nat → Nat → Int) : Prop := ∀ t, t < n → F 17 t = 0 ∨ (F 17 t = 1 ∧ ∀ v, v < n → F (7 + t) v = un (dst (roG c fr to mi wo (-1)) t v))
def NtV (c : Nat) (fr to : Nat → Nat) (mi wo : Nat → Int) (nw nr nl : Int) (f : Nat → Int) : Prop := nw = -2 ∨ ((∀ r, r < c → f r = if (net (roG c fr to mi wo nw)).2.1 r = true then 1 else 0) ∧ nl = (net (roG c fr to mi wo nw)).2.2.1 ∧ nr = ((net (roG c fr to mi wo nw)).2.2.2 : Nat))
/-- the roads at b are these, whatever is kept of ways and nets -/
def RoV (hc : Nat → MC) (b n c : Nat) (fr to : Nat → Nat) (mi wo : Nat → Int) : Prop := ∃ (nw nr nl : Int) (F : Nat → Nat → Int), RoA hc b n c nw nr nl F ∧ RdOk n c fr to mi wo ∧ RoR c fr to mi wo F ∧ CaV n c fr to mi wo F ∧ NtV c fr to mi wo nw nr nl (F 19)
section NET2
variable {L : Nat} {xs : Nat → Int} {fm : Bool} {h : MH} {b n c : Nat} {nw nr nl : Int} {F : Nat → Nat → Int} {fr to : Nat → Nat} {mi wo : Nat → Int}
theorem RoR.up {k : Nat} {f : Nat → Int} (h : RoR c fr to mi wo F) (hk : 6 ≤ k) : RoR c fr to mi wo (mUp F k f) := fun r hr => by
  rw [mUp_ne (by omega), mUp_ne (by omega), mUp_ne (by omega), mUp_ne (by omega), mUp_ne (by omega)]
  exact h r hr
theorem CaV.up {k : Nat} {f : Nat → Int} (h : CaV n c fr to mi wo F) (hn : n ≤ 10) (hk : 18 ≤ k) : CaV n c fr to mi wo (mUp F k f) := fun t ht => by
  rw [mUp_ne (by omega), mUp_ne (by omega)]
  exact h t ht
theorem foldl_take {α β : Type} {f : β → α → β} {S : β} {l : List α} {i : Nat} {x : α} (h : l[i]? = some x) : (l.take (i + 1)).foldl f S = f ((l.take i).foldl f S) x := by
  obtain ⟨h1, h2⟩ := List.getElem?_eq_some_iff.mp h
  rw [List.take_succ, h]
  rw [List.foldl_append]
  rfl
theorem ro_layNet (hR : RoA h.1 b n c nw nr nl F) (hO : RdOk n c fr to mi wo) (hF : RoR c fr to mi wo F) (hC : CaV n c fr to mi wo F) (hN : NtV c fr to mi wo nw nr nl (F 19)) {w : Int} (hw : w ≠ -2) :
    Sp (GG L xs fm) 2 mX7_layNet [qR b, qI w] h (fun v h2 => v = .inl none ∧ Fm b 23 h h2 ∧ ∃ (nr nl : Int) (F' : Nat → Nat → Int), RoA h2.1 b n c w nr nl F' ∧ RoR c fr to mi wo F' ∧ CaV n c fr to mi wo F' ∧ NtV c fr to mi wo w nr nl (F' 19) ∧ F' 20 = F 20) := by
  obtain ⟨hn, hc14, hrd⟩ := id hO
  refine Sp_of MX7_layNet ?_
  have e0 := hR.1
  rw [qX7_layNet_0]
  by_cases hnw : nw = w
  · subst hnw
    simp (disch := omega) only [ms_sipush, ms_lconst, ms_ldc2_w, ms_dconst, ms_ldc, ms_getstatic, ms_iload, ms_lload, ms_dload, ms_aload, ms_istore, ms_lstore, ms_dstore, ms_astore, ms_iinc, ms_iadd, ms_isub, ms_imul, ms_idiv, ms_irem, ms_ineg, ms_iand, ms_ior, ms_ishr, ms_iushr, ms_i2b, ms_i2c, ms_i2l, ms_ladd, ms_lmul, ms_lcmp, ms_i2d, ms_ddiv, ms_dcmp, ms_dup, ms_pop, ms_dup2, ms_goto, ms_ifCond, ms_if_icmp, ms_if_acmp_eq, ms_if_acmp_ne, ms_tableswitch, ms_lookupswitch, ms_getfield, ms_putfield, ms_arraylength, ms_iaload, ms_baload, ms_laload, ms_aaload, ms_iastore, ms_bastore, ms_lastore, ms_aastore, ms_newarray, ms_new, ms_anewarray, ms_multianewarray, ms_invokevirtual, ms_invokestatic, ms_invokespecial, ms_invokedynamic_0, ms_invokedynamic_1, ms_invokedynamic_2, ms_invokedynamic_3, ms_invokedynamic_4, ms_invokedynamic_5, ms_ireturn, ms_lreturn, ms_dreturn, ms_areturn, ms_return_, Wp_cons, WSC_nx, WSC_cl, WSC_rt, WSC_th, WSC_if, lg, lset, lfree, wide, isRf, isRT, fitK, hgt, margs, mpad, rcv, rdF, rdN, rdI, rdQ, mC_eq, mC_ne, mC_lt, mC_ge, mC_gt, mC_le, mset, mnew, h_fst, h_snd, lt_drop0, List.drop_succ_cons, List.drop_zero, List.drop_nil, List.take_succ_cons, List.take_zero, List.reverse_cons, List.reverse_nil, List.nil_append, List.cons_append, List.append_nil, List.length_cons, List.length_nil, List.getElem?_cons_succ, List.getElem?_cons_zero, List.set_cons_succ, List.set_cons_zero, List.replicate, Option.toList, reduceIte, Bool.not_false, Bool.not_true, Nat.reduceLT, Nat.reduceLeDiff, Nat.reduceAdd, Nat.reduceSub, Nat.reduceMul, Int.reduceLT, Int.reduceLE, Int.reduceNeg, Int.reduceAdd, Int.reduceSub, Int.reduceMul, Int.reduceEq, and_self, true_and, and_true, false_and, and_false, or_false, false_or, true_or, or_true, not_true_eq_false, not_false_eq_true, Bool.false_eq_true, Bool.true_eq_false, decide_true, decide_false, decide_eq_true_eq, Nat.le_refl, Nat.zero_le, ge_iff_le, gt_iff_lt, Nat.lt_irrefl, reduceCtorEq, if_posD, if_negD, w32_id, Int.toNat_natCast, WCo_in, mUp_self, mUp_ne, ne_eq, e0]
    exact ⟨Fm.rf, nr, nl, F, hR, hF, hC, hN, rfl⟩
  · generalize hg : roG c fr to mi wo w = g
    have hgo : GrOk g n := by rw [← hg]; exact hO.gr
    have hgc : gc g = c := by rw [← hg]; rfl
    have hgf : gf g = fr := by rw [← hg]; rfl
    have hgt : gt g = to := by rw [← hg]; rfl
    have hgl : ∀ r, gl g r = mi r + 2 * wo r := by rw [← hg]; exact fun _ => rfl
    have hlen := len_srt (g := g) (k := c)
    have hbd : ∀ i, (∀ v, v < n → ((((srt g c).take i).foldl (ksp g) (fun t => t, fun _ => false, 0, 0)).1 v < n)) ∧ 0 ≤ (((srt g c).take i).foldl (ksp g) (fun t => t, fun _ => false, 0, 0)).2.2.1 ∧ (((srt g c).take i).foldl (ksp g) (fun t => t, fun _ => false, 0, 0)).2.2.1 ≤ 36 * 14 ∧ (((srt g c).take i).foldl (ksp g) (fun t => t, fun _ => false, 0, 0)).2.2.2 ≤ 14 := fun i => by
      have hll : ((srt g c).take i).length ≤ 14 := by rw [List.length_take]; omega
      obtain ⟨i1, i2, i3, i4⟩ := ksp_bd hgo (l := (srt g c).take i) (S := (fun t => t, fun _ => false, 0, 0)) (fun x hx => by rw [hgc]; exact (mem_srt.mp (List.mem_of_mem_take hx)).1) (fun v hv => hv) (Int.le_refl _)
      refine ⟨i1, i2, ?_, ?_⟩
      · have : (0 : Int) + 36 * (((srt g c).take i).length : Int) ≤ 36 * 14 := by omega
        exact Int.le_trans i3 this
      · have : 0 + ((srt g c).take i).length ≤ 14 := by omega
        exact Nat.le_trans i4 this
    have hnet : net g = ((srt g c).take (srt g c).length).foldl (ksp g) (fun t => t, fun _ => false, 0, 0) := by
      unfold net
      rw [List.take_length, hgc]
    have main : ∀ (m i : Nat) (h2 : MH) (F' : Nat → Nat → Int) (l4 : MV), i + m = (srt g c).length → wide l4 = false → ArL (F' 21) (srt g c) → RoR c fr to mi wo F' → CaV n c fr to mi wo F' → F' 20 = F 20 → (∀ v, v < n → F' 22 v = ((((srt g c).take i).foldl (ksp g) (fun t => t, fun _ => false, 0, 0)).1 v : Nat)) → (∀ r, r < c → F' 19 r = if (((srt g c).take i).foldl (ksp g) (fun t => t, fun _ => false, 0, 0)).2.1 r = true then 1 else 0) → Fm b 23 h h2 →
        RoA h2.1 b n c w ((((srt g c).take i).foldl (ksp g) (fun t => t, fun _ => false, 0, 0)).2.2.2 : Nat) (((srt g c).take i).foldl (ksp g) (fun t => t, fun _ => false, 0, 0)).2.2.1 F' → Wp (GG L xs fm) 2 BX7_layNet (BX7_layNet 6) [qR b, qI w, qI ((srt g c).length : Nat), qI i, l4] [] h2 (fun v h2 => v = .inl none ∧ Fm b 23 h h2 ∧ ∃ (nr nl : Int) (F' : Nat → Nat → Int), RoA h2.1 b n c w nr nl F' ∧ RoR c fr to mi wo F' ∧ CaV n c fr to mi wo F' ∧ NtV c fr to mi wo w nr nl (F' 19) ∧ F' 20 = F 20) := by
      intro m
      induction m with
      | zero =>
        intro i h2 F' l4 hi hl4 h1 h3 h4 h5 h6 h7 h8 h9
        obtain rfl : i = (srt g c).length := by omega
        rw [qX7_layNet_6]
        simp (disch := omega) only [ms_sipush, ms_lconst, ms_ldc2_w, ms_dconst, ms_ldc, ms_getstatic, ms_iload, ms_lload, ms_dload, ms_aload, ms_istore, ms_lstore, ms_dstore, ms_astore, ms_iinc, ms_iadd, ms_isub, ms_imul, ms_idiv, ms_irem, ms_ineg, ms_iand, ms_ior, ms_ishr, ms_iushr, ms_i2b, ms_i2c, ms_i2l, ms_ladd, ms_lmul, ms_lcmp, ms_i2d, ms_ddiv, ms_dcmp, ms_dup, ms_pop, ms_dup2, ms_goto, ms_ifCond, ms_if_icmp, ms_if_acmp_eq, ms_if_acmp_ne, ms_tableswitch, ms_lookupswitch, ms_getfield, ms_putfield, ms_arraylength, ms_iaload, ms_baload, ms_laload, ms_aaload, ms_iastore, ms_bastore, ms_lastore, ms_aastore, ms_newarray, ms_new, ms_anewarray, ms_multianewarray, ms_invokevirtual, ms_invokestatic, ms_invokespecial, ms_invokedynamic_0, ms_invokedynamic_1, ms_invokedynamic_2, ms_invokedynamic_3, ms_invokedynamic_4, ms_invokedynamic_5, ms_ireturn, ms_lreturn, ms_dreturn, ms_areturn, ms_return_, Wp_cons, WSC_nx, WSC_cl, WSC_rt, WSC_th, WSC_if, lg, lset, lfree, wide, isRf, isRT, fitK, hgt, margs, mpad, rcv, rdF, rdN, rdI, rdQ, mC_eq, mC_ne, mC_lt, mC_ge, mC_gt, mC_le, mset, mnew, h_fst, h_snd, lt_drop0, List.drop_succ_cons, List.drop_zero, List.drop_nil, List.take_succ_cons, List.take_zero, List.reverse_cons, List.reverse_nil, List.nil_append, List.cons_append, List.append_nil, List.length_cons, List.length_nil, List.getElem?_cons_succ, List.getElem?_cons_zero, List.set_cons_succ, List.set_cons_zero, List.replicate, Option.toList, reduceIte, Bool.not_false, Bool.not_true, Nat.reduceLT, Nat.reduceLeDiff, Nat.reduceAdd, Nat.reduceSub, Nat.reduceMul, Int.reduceLT, Int.reduceLE, Int.reduceNeg, Int.reduceAdd, Int.reduceSub, Int.reduceMul, Int.reduceEq, and_self, true_and, and_true, false_and, and_false, or_false, false_or, true_or, or_true, not_true_eq_false, not_false_eq_true, Bool.false_eq_true, Bool.true_eq_false, decide_true, decide_false, decide_eq_true_eq, Nat.le_refl, Nat.zero_le, ge_iff_le, gt_iff_lt, Nat.lt_irrefl, reduceCtorEq, if_posD, if_negD, w32_id, Int.toNat_natCast, WCo_in, mUp_self, mUp_ne, ne_eq, qX7_layNet_8]
        rw [← hnet] at h6 h7 h9
        refine ⟨h8, _, _, F', h9, h3, h4, Or.inr ⟨?_, ?_, ?_⟩, h5⟩
        · rw [hg]; exact h7
        · rw [hg]
        · rw [hg]
      | succ m ih =>
        intro i h2 F' l4 hi hl4 h1 h3 h4 h5 h6 h7 h8 h9
        obtain ⟨r, hr⟩ : ∃ r, (srt g c)[i]? = some r := ⟨_, List.getElem?_eq_getElem (by omega)⟩
        have hrc := (mem_srt.mp (List.mem_of_getElem? hr)).1
        have hft := foldl_take (f := ksp g) (S := ((fun t => t, fun _ => false, 0, 0) : NS)) hr
        obtain ⟨b1, b2, b3, b4⟩ := hbd i
        have ih := ih (i + 1)
        rw [hft] at ih
        generalize hSS : ((srt g c).take i).foldl (ksp g) (fun t => t, fun _ => false, 0, 0) = S at *
        obtain ⟨k1, k2, k3, k4, k5, k6, k7⟩ := hrd r hrc
        obtain ⟨j1, j2, j3, j4, j5⟩ := h3 r hrc
        have e0 := h9.1
        have e1 := h9.2.2 1 _ _ rfl
        have e2 := h9.2.2 2 _ _ rfl
        have e5 := h9.2.2 5 _ _ rfl
        have e19 := h9.2.2 19 _ _ rfl
        have e21 := h9.2.2 21 _ _ rfl
        have e22 := h9.2.2 22 _ _ rfl
        have f21 := h1 i r hr
        have f22a := h6 _ k1
        have f22b := h6 _ k2
        have b1a := b1 _ k1
        have b1b := b1 _ k2
        have hi14 : i < 14 := by omega
        rw [qX7_layNet_6]
        by_cases hab : S.1 (fr r) = S.1 (to r)
        · have hks : ksp g S r = S := by unfold ksp; rw [hgf, hgt, if_pos hab]
          rw [hks] at ih
          have := ih h2 F' (qI r) (by omega) rfl h1 h3 h4 h5 h6 h7 h8 h9
          rw [Int.natCast_add] at this
          simp (disch := omega) only [ms_sipush, ms_lconst, ms_ldc2_w, ms_dconst, ms_ldc, ms_getstatic, ms_iload, ms_lload, ms_dload, ms_aload, ms_istore, ms_lstore, ms_dstore, ms_astore, ms_iinc, ms_iadd, ms_isub, ms_imul, ms_idiv, ms_irem, ms_ineg, ms_iand, ms_ior, ms_ishr, ms_iushr, ms_i2b, ms_i2c, ms_i2l, ms_ladd, ms_lmul, ms_lcmp, ms_i2d, ms_ddiv, ms_dcmp, ms_dup, ms_pop, ms_dup2, ms_goto, ms_ifCond, ms_if_icmp, ms_if_acmp_eq, ms_if_acmp_ne, ms_tableswitch, ms_lookupswitch, ms_getfield, ms_putfield, ms_arraylength, ms_iaload, ms_baload, ms_laload, ms_aaload, ms_iastore, ms_bastore, ms_lastore, ms_aastore, ms_newarray, ms_new, ms_anewarray, ms_multianewarray, ms_invokevirtual, ms_invokestatic, ms_invokespecial, ms_invokedynamic_0, ms_invokedynamic_1, ms_invokedynamic_2, ms_invokedynamic_3, ms_invokedynamic_4, ms_invokedynamic_5, ms_ireturn, ms_lreturn, ms_dreturn, ms_areturn, ms_return_, Wp_cons, WSC_nx, WSC_cl, WSC_rt, WSC_th, WSC_if, lg, lset, lfree, wide, isRf, isRT, fitK, hgt, margs, mpad, rcv, rdF, rdN, rdI, rdQ, mC_eq, mC_ne, mC_lt, mC_ge, mC_gt, mC_le, mset, mnew, h_fst, h_snd, lt_drop0, List.drop_succ_cons, List.drop_zero, List.drop_nil, List.take_succ_cons, List.take_zero, List.reverse_cons, List.reverse_nil, List.nil_append, List.cons_append, List.append_nil, List.length_cons, List.length_nil, List.getElem?_cons_succ, List.getElem?_cons_zero, List.set_cons_succ, List.set_cons_zero, List.replicate, Option.toList, reduceIte, Bool.not_false, Bool.not_true, Nat.reduceLT, Nat.reduceLeDiff, Nat.reduceAdd, Nat.reduceSub, Nat.reduceMul, Int.reduceLT, Int.reduceLE, Int.reduceNeg, Int.reduceAdd, Int.reduceSub, Int.reduceMul, Int.reduceEq, and_self, true_and, and_true, false_and, and_false, or_false, false_or, true_or, or_true, not_true_eq_false, not_false_eq_true, Bool.false_eq_true, Bool.true_eq_false, decide_true, decide_false, decide_eq_true_eq, Nat.le_refl, Nat.zero_le, ge_iff_le, gt_iff_lt, Nat.lt_irrefl, reduceCtorEq, if_posD, if_negD, w32_id, Int.toNat_natCast, WCo_in, mUp_self, mUp_ne, ne_eq, qX7_layNet_7, e0, e1, e2, e21, e22, f21, j1, j2, f22a, f22b, hl4, hab]
          exact this
        · have hks : ksp g S r = (fun t => if S.1 t = S.1 (to r) then S.1 (fr r) else S.1 t, mUp S.2.1 r true, S.2.2.1 + (mi r + 2 * wo r), S.2.2.2 + 1) := by
            unfold ksp
            rw [hgf, hgt, if_neg hab, hgl]
          rw [hks] at ih
          dsimp only at ih
          have habI : ¬ ((S.1 (fr r) : Int) = (S.1 (to r) : Int)) := by omega
          simp (disch := omega) only [ms_sipush, ms_lconst, ms_ldc2_w, ms_dconst, ms_ldc, ms_getstatic, ms_iload, ms_lload, ms_dload, ms_aload, ms_istore, ms_lstore, ms_dstore, ms_astore, ms_iinc, ms_iadd, ms_isub, ms_imul, ms_idiv, ms_irem, ms_ineg, ms_iand, ms_ior, ms_ishr, ms_iushr, ms_i2b, ms_i2c, ms_i2l, ms_ladd, ms_lmul, ms_lcmp, ms_i2d, ms_ddiv, ms_dcmp, ms_dup, ms_pop, ms_dup2, ms_goto, ms_ifCond, ms_if_icmp, ms_if_acmp_eq, ms_if_acmp_ne, ms_tableswitch, ms_lookupswitch, ms_getfield, ms_putfield, ms_arraylength, ms_iaload, ms_baload, ms_laload, ms_aaload, ms_iastore, ms_bastore, ms_lastore, ms_aastore, ms_newarray, ms_new, ms_anewarray, ms_multianewarray, ms_invokevirtual, ms_invokestatic, ms_invokespecial, ms_invokedynamic_0, ms_invokedynamic_1, ms_invokedynamic_2, ms_invokedynamic_3, ms_invokedynamic_4, ms_invokedynamic_5, ms_ireturn, ms_lreturn, ms_dreturn, ms_areturn, ms_return_, Wp_cons, WSC_nx, WSC_cl, WSC_rt, WSC_th, WSC_if, lg, lset, lfree, wide, isRf, isRT, fitK, hgt, margs, mpad, rcv, rdF, rdN, rdI, rdQ, mC_eq, mC_ne, mC_lt, mC_ge, mC_gt, mC_le, mset, mnew, h_fst, h_snd, lt_drop0, List.drop_succ_cons, List.drop_zero, List.drop_nil, List.take_succ_cons, List.take_zero, List.reverse_cons, List.reverse_nil, List.nil_append, List.cons_append, List.append_nil, List.length_cons, List.length_nil, List.getElem?_cons_succ, List.getElem?_cons_zero, List.set_cons_succ, List.set_cons_zero, List.replicate, Option.toList, reduceIte, Bool.not_false, Bool.not_true, Nat.reduceLT, Nat.reduceLeDiff, Nat.reduceAdd, Nat.reduceSub, Nat.reduceMul, Int.reduceLT, Int.reduceLE, Int.reduceNeg, Int.reduceAdd, Int.reduceSub, Int.reduceMul, Int.reduceEq, and_self, true_and, and_true, false_and, and_false, or_false, false_or, true_or, or_true, not_true_eq_false, not_false_eq_true, Bool.false_eq_true, Bool.true_eq_false, decide_true, decide_false, decide_eq_true_eq, Nat.le_refl, Nat.zero_le, ge_iff_le, gt_iff_lt, Nat.lt_irrefl, reduceCtorEq, if_posD, if_negD, w32_id, Int.toNat_natCast, WCo_in, mUp_self, mUp_ne, ne_eq, e0, e1, e2, e21, e22, f21, j1, j2, f22a, f22b, hl4, habI]
          refine WCl_of (ro_joinGroups h9 hn) (by omega) (fun v h3' hv => ?_)
          obtain ⟨rfl, fm3, f3, r3, v3⟩ := hv
          have g0 := r3.1
          have g5 := r3.2.2 5 _ _ rfl
          have g19 := r3.2.2 19 _ _ rfl
          rw [mUp_ne (show (5 : Nat) ≠ 22 by omega)] at g5
          rw [mUp_ne (show (19 : Nat) ≠ 22 by omega)] at g19
          have rA := (r3.wr (k := 19) (ty := .boolean) (m := 14) (f := mUp (F' 19) r 1) rfl).ob (n' := n) (c' := c) (nw' := w) (nr' := (S.2.2.2 : Int) + 1) (nl' := S.2.2.1 + (mi r + 2 * wo r))
          have := ih (_, h3'.2) (mUp (mUp F' 22 f3) 19 (mUp (F' 19) r 1)) (qI r) (by omega) rfl (by rw [mUp_ne (show (21 : Nat) ≠ 19 by omega), mUp_ne (show (21 : Nat) ≠ 22 by omega)]; exact h1) ((h3.up (by omega)).up (by omega)) ((h4.up hn (by omega)).up hn (by omega)) (by rw [mUp_ne (show (20 : Nat) ≠ 19 by omega), mUp_ne (show (20 : Nat) ≠ 22 by omega)]; exact h5) (fun v hv => by
            rw [mUp_ne (show (22 : Nat) ≠ 19 by omega), mUp_self, v3 v hv, h6 v hv]
            by_cases hh : S.1 v = S.1 (to r)
            · rw [if_pos (by omega), if_pos hh]
            · rw [if_neg (by omega), if_neg hh]) (fun x hx => by
            rw [mUp_self]
            by_cases hxr : x = r
            · subst hxr
              simp [mUp_self]
            · simp only [mUp_ne hxr]
              exact h7 x hx) (((h8.tr fm3).st (k := 19) (by omega)).st0 (by omega)) (by rw [Int.natCast_add] ; exact rA)
          rw [Int.natCast_add] at this
          simp (disch := omega) only [ms_sipush, ms_lconst, ms_ldc2_w, ms_dconst, ms_ldc, ms_getstatic, ms_iload, ms_lload, ms_dload, ms_aload, ms_istore, ms_lstore, ms_dstore, ms_astore, ms_iinc, ms_iadd, ms_isub, ms_imul, ms_idiv, ms_irem, ms_ineg, ms_iand, ms_ior, ms_ishr, ms_iushr, ms_i2b, ms_i2c, ms_i2l, ms_ladd, ms_lmul, ms_lcmp, ms_i2d, ms_ddiv, ms_dcmp, ms_dup, ms_pop, ms_dup2, ms_goto, ms_ifCond, ms_if_icmp, ms_if_acmp_eq, ms_if_acmp_ne, ms_tableswitch, ms_lookupswitch, ms_getfield, ms_putfield, ms_arraylength, ms_iaload, ms_baload, ms_laload, ms_aaload, ms_iastore, ms_bastore, ms_lastore, ms_aastore, ms_newarray, ms_new, ms_anewarray, ms_multianewarray, ms_invokevirtual, ms_invokestatic, ms_invokespecial, ms_invokedynamic_0, ms_invokedynamic_1, ms_invokedynamic_2, ms_invokedynamic_3, ms_invokedynamic_4, ms_invokedynamic_5, ms_ireturn, ms_lreturn, ms_dreturn, ms_areturn, ms_return_, Wp_cons, WSC_nx, WSC_cl, WSC_rt, WSC_th, WSC_if, lg, lset, lfree, wide, isRf, isRT, fitK, hgt, margs, mpad, rcv, rdF, rdN, rdI, rdQ, mC_eq, mC_ne, mC_lt, mC_ge, mC_gt, mC_le, mset, mnew, h_fst, h_snd, lt_drop0, List.drop_succ_cons, List.drop_zero, List.drop_nil, List.take_succ_cons, List.take_zero, List.reverse_cons, List.reverse_nil, List.nil_append, List.cons_append, List.append_nil, List.length_cons, List.length_nil, List.getElem?_cons_succ, List.getElem?_cons_zero, List.set_cons_succ, List.set_cons_zero, List.replicate, Option.toList, reduceIte, Bool.not_false, Bool.not_true, Nat.reduceLT, Nat.reduceLeDiff, Nat.reduceAdd, Nat.reduceSub, Nat.reduceMul, Int.reduceLT, Int.reduceLE, Int.reduceNeg, Int.reduceAdd, Int.reduceSub, Int.reduceMul, Int.reduceEq, and_self, true_and, and_true, false_and, and_false, or_false, false_or, true_or, or_true, not_true_eq_false, not_false_eq_true, Bool.false_eq_true, Bool.true_eq_false, decide_true, decide_false, decide_eq_true_eq, Nat.le_refl, Nat.zero_le, ge_iff_le, gt_iff_lt, Nat.lt_irrefl, reduceCtorEq, if_posD, if_negD, w32_id, Int.toNat_natCast, WCo_in, mUp_self, mUp_ne, ne_eq, qX7_layNet_7, g0, g5, g19, j5]
          rw [mUp_mUp]
          exact this
    have grp : ∀ (m j : Nat) (h2 : MH) (F' : Nat → Nat → Int), j + m = n → RoR c fr to mi wo F' → CaV n c fr to mi wo F' → F' 20 = F 20 → (∀ v, v < j → F' 22 v = (v : Int)) → Fm b 23 h h2 → RoA h2.1 b n c w 0 0 F' → Wp (GG L xs fm) 2 BX7_layNet (BX7_layNet 2) [qR b, qI w, qI j, qU, qU] [] h2 (fun v h2 => v = .inl none ∧ Fm b 23 h h2 ∧ ∃ (nr nl : Int) (F' : Nat → Nat → Int), RoA h2.1 b n c w nr nl F' ∧ RoR c fr to mi wo F' ∧ CaV n c fr to mi wo F' ∧ NtV c fr to mi wo w nr nl (F' 19) ∧ F' 20 = F 20) := by
      intro m
      induction m with
      | zero =>
        intro j h2 F' hj h3 h4 h5 h6 h8 h9
        obtain rfl : j = n := by omega
        have e0 := h9.1
        have inn : ∀ (m i : Nat) (h2 : MH) (F' : Nat → Nat → Int), i + m = c → RoR c fr to mi wo F' → CaV j c fr to mi wo F' → F' 20 = F 20 → (∀ v, v < j → F' 22 v = (v : Int)) → (∀ r, r < i → F' 19 r = 0) → Fm b 23 h h2 → RoA h2.1 b j c w 0 0 F' → Wp (GG L xs fm) 2 BX7_layNet (BX7_layNet 4) [qR b, qI w, qI i, qU, qU] [] h2 (fun v h2 => v = .inl none ∧ Fm b 23 h h2 ∧ ∃ (nr nl : Int) (F' : Nat → Nat → Int), RoA h2.1 b j c w nr nl F' ∧ RoR c fr to mi wo F' ∧ CaV j c fr to mi wo F' ∧ NtV c fr to mi wo w nr nl (F' 19) ∧ F' 20 = F 20) := by
          intro m
          induction m with
          | zero =>
            intro i h2 F' hi h3 h4 h5 h6 h7 h8 h9
            obtain rfl : i = c := by omega
            have e0 := h9.1
            rw [qX7_layNet_4]
            simp (disch := omega) only [ms_sipush, ms_lconst, ms_ldc2_w, ms_dconst, ms_ldc, ms_getstatic, ms_iload, ms_lload, ms_dload, ms_aload, ms_istore, ms_lstore, ms_dstore, ms_astore, ms_iinc, ms_iadd, ms_isub, ms_imul, ms_idiv, ms_irem, ms_ineg, ms_iand, ms_ior, ms_ishr, ms_iushr, ms_i2b, ms_i2c, ms_i2l, ms_ladd, ms_lmul, ms_lcmp, ms_i2d, ms_ddiv, ms_dcmp, ms_dup, ms_pop, ms_dup2, ms_goto, ms_ifCond, ms_if_icmp, ms_if_acmp_eq, ms_if_acmp_ne, ms_tableswitch, ms_lookupswitch, ms_getfield, ms_putfield, ms_arraylength, ms_iaload, ms_baload, ms_laload, ms_aaload, ms_iastore, ms_bastore, ms_lastore, ms_aastore, ms_newarray, ms_new, ms_anewarray, ms_multianewarray, ms_invokevirtual, ms_invokestatic, ms_invokespecial, ms_invokedynamic_0, ms_invokedynamic_1, ms_invokedynamic_2, ms_invokedynamic_3, ms_invokedynamic_4, ms_invokedynamic_5, ms_ireturn, ms_lreturn, ms_dreturn, ms_areturn, ms_return_, Wp_cons, WSC_nx, WSC_cl, WSC_rt, WSC_th, WSC_if, lg, lset, lfree, wide, isRf, isRT, fitK, hgt, margs, mpad, rcv, rdF, rdN, rdI, rdQ, mC_eq, mC_ne, mC_lt, mC_ge, mC_gt, mC_le, mset, mnew, h_fst, h_snd, lt_drop0, List.drop_succ_cons, List.drop_zero, List.drop_nil, List.take_succ_cons, List.take_zero, List.reverse_cons, List.reverse_nil, List.nil_append, List.cons_append, List.append_nil, List.length_cons, List.length_nil, List.getElem?_cons_succ, List.getElem?_cons_zero, List.set_cons_succ, List.set_cons_zero, List.replicate, Option.toList, reduceIte, Bool.not_false, Bool.not_true, Nat.reduceLT, Nat.reduceLeDiff, Nat.reduceAdd, Nat.reduceSub, Nat.reduceMul, Int.reduceLT, Int.reduceLE, Int.reduceNeg, Int.reduceAdd, Int.reduceSub, Int.reduceMul, Int.reduceEq, and_self, true_and, and_true, false_and, and_false, or_false, false_or, true_or, or_true, not_true_eq_false, not_false_eq_true, Bool.false_eq_true, Bool.true_eq_false, decide_true, decide_false, decide_eq_true_eq, Nat.le_refl, Nat.zero_le, ge_iff_le, gt_iff_lt, Nat.lt_irrefl, reduceCtorEq, if_posD, if_negD, w32_id, Int.toNat_natCast, WCo_in, mUp_self, mUp_ne, ne_eq, qX7_layNet_5, e0]
            refine WCl_of (ro_sortOpen (w := w) h9 hO h3) (by omega) (fun v h3' hv => ?_)
            obtain ⟨rfl, fm3, f3, r3, v3⟩ := hv
            rw [hg] at v3 ⊢
            have := main (srt g i).length 0 h3' (mUp F' 21 f3) qU (by omega) rfl (by rw [mUp_self]; exact v3) (h3.up (by omega)) (h4.up hn (by omega)) (by rw [mUp_ne (show (20 : Nat) ≠ 21 by omega)]; exact h5) (fun v hv => by
              rw [mUp_ne (show (22 : Nat) ≠ 21 by omega)]
              exact h6 v hv) (fun r hr => by
              rw [mUp_ne (show (19 : Nat) ≠ 21 by omega)]
              exact h7 r hr) (h8.tr fm3) r3
            simp (disch := omega) only [ms_sipush, ms_lconst, ms_ldc2_w, ms_dconst, ms_ldc, ms_getstatic, ms_iload, ms_lload, ms_dload, ms_aload, ms_istore, ms_lstore, ms_dstore, ms_astore, ms_iinc, ms_iadd, ms_isub, ms_imul, ms_idiv, ms_irem, ms_ineg, ms_iand, ms_ior, ms_ishr, ms_iushr, ms_i2b, ms_i2c, ms_i2l, ms_ladd, ms_lmul, ms_lcmp, ms_i2d, ms_ddiv, ms_dcmp, ms_dup, ms_pop, ms_dup2, ms_goto, ms_ifCond, ms_if_icmp, ms_if_acmp_eq, ms_if_acmp_ne, ms_tableswitch, ms_lookupswitch, ms_getfield, ms_putfield, ms_arraylength, ms_iaload, ms_baload, ms_laload, ms_aaload, ms_iastore, ms_bastore, ms_lastore, ms_aastore, ms_newarray, ms_new, ms_anewarray, ms_multianewarray, ms_invokevirtual, ms_invokestatic, ms_invokespecial, ms_invokedynamic_0, ms_invokedynamic_1, ms_invokedynamic_2, ms_invokedynamic_3, ms_invokedynamic_4, ms_invokedynamic_5, ms_ireturn, ms_lreturn, ms_dreturn, ms_areturn, ms_return_, Wp_cons, WSC_nx, WSC_cl, WSC_rt, WSC_th, WSC_if, lg, lset, lfree, wide, isRf, isRT, fitK, hgt, margs, mpad, rcv, rdF, rdN, rdI, rdQ, mC_eq, mC_ne, mC_lt, mC_ge, mC_gt, mC_le, mset, mnew, h_fst, h_snd, lt_drop0, List.drop_succ_cons, List.drop_zero, List.drop_nil, List.take_succ_cons, List.take_zero, List.reverse_cons, List.reverse_nil, List.nil_append, List.cons_append, List.append_nil, List.length_cons, List.length_nil, List.getElem?_cons_succ, List.getElem?_cons_zero, List.set_cons_succ, List.set_cons_zero, List.replicate, Option.toList, reduceIte, Bool.not_false, Bool.not_true, Nat.reduceLT, Nat.reduceLeDiff, Nat.reduceAdd, Nat.reduceSub, Nat.reduceMul, Int.reduceLT, Int.reduceLE, Int.reduceNeg, Int.reduceAdd, Int.reduceSub, Int.reduceMul, Int.reduceEq, and_self, true_and, and_true, false_and, and_false, or_false, false_or, true_or, or_true, not_true_eq_false, not_false_eq_true, Bool.false_eq_true, Bool.true_eq_false, decide_true, decide_false, decide_eq_true_eq, Nat.le_refl, Nat.zero_le, ge_iff_le, gt_iff_lt, Nat.lt_irrefl, reduceCtorEq, if_posD, if_negD, w32_id, Int.toNat_natCast, WCo_in, mUp_self, mUp_ne, ne_eq]
            exact this
          | succ m ih =>
            intro i h2 F' hi h3 h4 h5 h6 h7 h8 h9
            have e0 := h9.1
            have e19 := h9.2.2 19 _ _ rfl
            have rA := h9.wr (k := 19) (ty := .boolean) (m := 14) (f := mUp (F' 19) i 0) rfl
            have := ih (i + 1) _ _ (by omega) (h3.up (by omega)) (h4.up hn (by omega)) (by rw [mUp_ne (show (20 : Nat) ≠ 19 by omega)]; exact h5) (fun v hv => by rw [mUp_ne (show (22 : Nat) ≠ 19 by omega)]; exact h6 v hv) (fun r hr => by
              rw [mUp_self]
              by_cases hri : r = i
              · rw [hri, mUp_self]
              · rw [mUp_ne hri]; exact h7 r (by omega)) (h8.st (k := 19) (by omega)) rA
            rw [Int.natCast_add] at this
            rw [qX7_layNet_4]
            simp (disch := omega) only [ms_sipush, ms_lconst, ms_ldc2_w, ms_dconst, ms_ldc, ms_getstatic, ms_iload, ms_lload, ms_dload, ms_aload, ms_istore, ms_lstore, ms_dstore, ms_astore, ms_iinc, ms_iadd, ms_isub, ms_imul, ms_idiv, ms_irem, ms_ineg, ms_iand, ms_ior, ms_ishr, ms_iushr, ms_i2b, ms_i2c, ms_i2l, ms_ladd, ms_lmul, ms_lcmp, ms_i2d, ms_ddiv, ms_dcmp, ms_dup, ms_pop, ms_dup2, ms_goto, ms_ifCond, ms_if_icmp, ms_if_acmp_eq, ms_if_acmp_ne, ms_tableswitch, ms_lookupswitch, ms_getfield, ms_putfield, ms_arraylength, ms_iaload, ms_baload, ms_laload, ms_aaload, ms_iastore, ms_bastore, ms_lastore, ms_aastore, ms_newarray, ms_new, ms_anewarray, ms_multianewarray, ms_invokevirtual, ms_invokestatic, ms_invokespecial, ms_invokedynamic_0, ms_invokedynamic_1, ms_invokedynamic_2, ms_invokedynamic_3, ms_invokedynamic_4, ms_invokedynamic_5, ms_ireturn, ms_lreturn, ms_dreturn, ms_areturn, ms_return_, Wp_cons, WSC_nx, WSC_cl, WSC_rt, WSC_th, WSC_if, lg, lset, lfree, wide, isRf, isRT, fitK, hgt, margs, mpad, rcv, rdF, rdN, rdI, rdQ, mC_eq, mC_ne, mC_lt, mC_ge, mC_gt, mC_le, mset, mnew, h_fst, h_snd, lt_drop0, List.drop_succ_cons, List.drop_zero, List.drop_nil, List.take_succ_cons, List.take_zero, List.reverse_cons, List.reverse_nil, List.nil_append, List.cons_append, List.append_nil, List.length_cons, List.length_nil, List.getElem?_cons_succ, List.getElem?_cons_zero, List.set_cons_succ, List.set_cons_zero, List.replicate, Option.toList, reduceIte, Bool.not_false, Bool.not_true, Nat.reduceLT, Nat.reduceLeDiff, Nat.reduceAdd, Nat.reduceSub, Nat.reduceMul, Int.reduceLT, Int.reduceLE, Int.reduceNeg, Int.reduceAdd, Int.reduceSub, Int.reduceMul, Int.reduceEq, and_self, true_and, and_true, false_and, and_false, or_false, false_or, true_or, or_true, not_true_eq_false, not_false_eq_true, Bool.false_eq_true, Bool.true_eq_false, decide_true, decide_false, decide_eq_true_eq, Nat.le_refl, Nat.zero_le, ge_iff_le, gt_iff_lt, Nat.lt_irrefl, reduceCtorEq, if_posD, if_negD, w32_id, Int.toNat_natCast, WCo_in, mUp_self, mUp_ne, ne_eq, e0, e19]
            exact this
        rw [qX7_layNet_2]
        simp (disch := omega) only [ms_sipush, ms_lconst, ms_ldc2_w, ms_dconst, ms_ldc, ms_getstatic, ms_iload, ms_lload, ms_dload, ms_aload, ms_istore, ms_lstore, ms_dstore, ms_astore, ms_iinc, ms_iadd, ms_isub, ms_imul, ms_idiv, ms_irem, ms_ineg, ms_iand, ms_ior, ms_ishr, ms_iushr, ms_i2b, ms_i2c, ms_i2l, ms_ladd, ms_lmul, ms_lcmp, ms_i2d, ms_ddiv, ms_dcmp, ms_dup, ms_pop, ms_dup2, ms_goto, ms_ifCond, ms_if_icmp, ms_if_acmp_eq, ms_if_acmp_ne, ms_tableswitch, ms_lookupswitch, ms_getfield, ms_putfield, ms_arraylength, ms_iaload, ms_baload, ms_laload, ms_aaload, ms_iastore, ms_bastore, ms_lastore, ms_aastore, ms_newarray, ms_new, ms_anewarray, ms_multianewarray, ms_invokevirtual, ms_invokestatic, ms_invokespecial, ms_invokedynamic_0, ms_invokedynamic_1, ms_invokedynamic_2, ms_invokedynamic_3, ms_invokedynamic_4, ms_invokedynamic_5, ms_ireturn, ms_lreturn, ms_dreturn, ms_areturn, ms_return_, Wp_cons, WSC_nx, WSC_cl, WSC_rt, WSC_th, WSC_if, lg, lset, lfree, wide, isRf, isRT, fitK, hgt, margs, mpad, rcv, rdF, rdN, rdI, rdQ, mC_eq, mC_ne, mC_lt, mC_ge, mC_gt, mC_le, mset, mnew, h_fst, h_snd, lt_drop0, List.drop_succ_cons, List.drop_zero, List.drop_nil, List.take_succ_cons, List.take_zero, List.reverse_cons, List.reverse_nil, List.nil_append, List.cons_append, List.append_nil, List.length_cons, List.length_nil, List.getElem?_cons_succ, List.getElem?_cons_zero, List.set_cons_succ, List.set_cons_zero, List.replicate, Option.toList, reduceIte, Bool.not_false, Bool.not_true, Nat.reduceLT, Nat.reduceLeDiff, Nat.reduceAdd, Nat.reduceSub, Nat.reduceMul, Int.reduceLT, Int.reduceLE, Int.reduceNeg, Int.reduceAdd, Int.reduceSub, Int.reduceMul, Int.reduceEq, and_self, true_and, and_true, false_and, and_false, or_false, false_or, true_or, or_true, not_true_eq_false, not_false_eq_true, Bool.false_eq_true, Bool.true_eq_false, decide_true, decide_false, decide_eq_true_eq, Nat.le_refl, Nat.zero_le, ge_iff_le, gt_iff_lt, Nat.lt_irrefl, reduceCtorEq, if_posD, if_negD, w32_id, Int.toNat_natCast, WCo_in, mUp_self, mUp_ne, ne_eq, qX7_layNet_3, e0]
        exact inn c 0 h2 F' (by omega) h3 h4 h5 h6 (fun r hr => by omega) h8 h9
      | succ m ih =>
        intro j h2 F' hj h3 h4 h5 h6 h8 h9
        have e0 := h9.1
        have e22 := h9.2.2 22 _ _ rfl
        have rA := h9.wr (k := 22) (ty := .int) (m := 10) (f := mUp (F' 22) j j) rfl
        have := ih (j + 1) _ _ (by omega) (h3.up (by omega)) (h4.up hn (by omega)) (by rw [mUp_ne (show (20 : Nat) ≠ 22 by omega)]; exact h5) (fun v hv => by
          rw [mUp_self]
          by_cases hvj : v = j
          · rw [hvj, mUp_self]
          · rw [mUp_ne hvj]; exact h6 v (by omega)) (h8.st (k := 22) (by omega)) rA
        rw [Int.natCast_add] at this
        rw [qX7_layNet_2]
        simp (disch := omega) only [ms_sipush, ms_lconst, ms_ldc2_w, ms_dconst, ms_ldc, ms_getstatic, ms_iload, ms_lload, ms_dload, ms_aload, ms_istore, ms_lstore, ms_dstore, ms_astore, ms_iinc, ms_iadd, ms_isub, ms_imul, ms_idiv, ms_irem, ms_ineg, ms_iand, ms_ior, ms_ishr, ms_iushr, ms_i2b, ms_i2c, ms_i2l, ms_ladd, ms_lmul, ms_lcmp, ms_i2d, ms_ddiv, ms_dcmp, ms_dup, ms_pop, ms_dup2, ms_goto, ms_ifCond, ms_if_icmp, ms_if_acmp_eq, ms_if_acmp_ne, ms_tableswitch, ms_lookupswitch, ms_getfield, ms_putfield, ms_arraylength, ms_iaload, ms_baload, ms_laload, ms_aaload, ms_iastore, ms_bastore, ms_lastore, ms_aastore, ms_newarray, ms_new, ms_anewarray, ms_multianewarray, ms_invokevirtual, ms_invokestatic, ms_invokespecial, ms_invokedynamic_0, ms_invokedynamic_1, ms_invokedynamic_2, ms_invokedynamic_3, ms_invokedynamic_4, ms_invokedynamic_5, ms_ireturn, ms_lreturn, ms_dreturn, ms_areturn, ms_return_, Wp_cons, WSC_nx, WSC_cl, WSC_rt, WSC_th, WSC_if, lg, lset, lfree, wide, isRf, isRT, fitK, hgt, margs, mpad, rcv, rdF, rdN, rdI, rdQ, mC_eq, mC_ne, mC_lt, mC_ge, mC_gt, mC_le, mset, mnew, h_fst, h_snd, lt_drop0, List.drop_succ_cons, List.drop_zero, List.drop_nil, List.take_succ_cons, List.take_zero, List.reverse_cons, List.reverse_nil, List.nil_append, List.cons_append, List.append_nil, List.length_cons, List.length_nil, List.getElem?_cons_succ, List.getElem?_cons_zero, List.set_cons_succ, List.set_cons_zero, List.replicate, Option.toList, reduceIte, Bool.not_false, Bool.not_true, Nat.reduceLT, Nat.reduceLeDiff, Nat.reduceAdd, Nat.reduceSub, Nat.reduceMul, Int.reduceLT, Int.reduceLE, Int.reduceNeg, Int.reduceAdd, Int.reduceSub, Int.reduceMul, Int.reduceEq, and_self, true_and, and_true, false_and, and_false, or_false, false_or, true_or, or_true, not_true_eq_false, not_false_eq_true, Bool.false_eq_true, Bool.true_eq_false, decide_true, decide_false, decide_eq_true_eq, Nat.le_refl, Nat.zero_le, ge_iff_le, gt_iff_lt, Nat.lt_irrefl, reduceCtorEq, if_posD, if_negD, w32_id, Int.toNat_natCast, WCo_in, mUp_self, mUp_ne, ne_eq, e0, e22]
        exact this
    have r0 := hR.ob (n' := n) (c' := c) (nw' := w) (nr' := 0) (nl' := 0)
    have := grp n 0 (mUp h.1 b _, h.2) F (by omega) hF hC rfl (fun v hv => by omega) (Fm.rf.st0 (by omega)) r0
    simp (disch := omega) only [ms_sipush, ms_lconst, ms_ldc2_w, ms_dconst, ms_ldc, ms_getstatic, ms_iload, ms_lload, ms_dload, ms_aload, ms_istore, ms_lstore, ms_dstore, ms_astore, ms_iinc, ms_iadd, ms_isub, ms_imul, ms_idiv, ms_irem, ms_ineg, ms_iand, ms_ior, ms_ishr, ms_iushr, ms_i2b, ms_i2c, ms_i2l, ms_ladd, ms_lmul, ms_lcmp, ms_i2d, ms_ddiv, ms_dcmp, ms_dup, ms_pop, ms_dup2, ms_goto, ms_ifCond, ms_if_icmp, ms_if_acmp_eq, ms_if_acmp_ne, ms_tableswitch, ms_lookupswitch, ms_getfield, ms_putfield, ms_arraylength, ms_iaload, ms_baload, ms_laload, ms_aaload, ms_iastore, ms_bastore, ms_lastore, ms_aastore, ms_newarray, ms_new, ms_anewarray, ms_multianewarray, ms_invokevirtual, ms_invokestatic, ms_invokespecial, ms_invokedynamic_0, ms_invokedynamic_1, ms_invokedynamic_2, ms_invokedynamic_3, ms_invokedynamic_4, ms_invokedynamic_5, ms_ireturn, ms_lreturn, ms_dreturn, ms_areturn, ms_return_, Wp_cons, WSC_nx, WSC_cl, WSC_rt, WSC_th, WSC_if, lg, lset, lfree, wide, isRf, isRT, fitK, hgt, margs, mpad, rcv, rdF, rdN, rdI, rdQ, mC_eq, mC_ne, mC_lt, mC_ge, mC_gt, mC_le, mset, mnew, h_fst, h_snd, lt_drop0, List.drop_succ_cons, List.drop_zero, List.drop_nil, List.take_succ_cons, List.take_zero, List.reverse_cons, List.reverse_nil, List.nil_append, List.cons_append, List.append_nil, List.length_cons, List.length_nil, List.getElem?_cons_succ, List.getElem?_cons_zero, List.set_cons_succ, List.set_cons_zero, List.replicate, Option.toList, reduceIte, Bool.not_false, Bool.not_true, Nat.reduceLT, Nat.reduceLeDiff, Nat.reduceAdd, Nat.reduceSub, Nat.reduceMul, Int.reduceLT, Int.reduceLE, Int.reduceNeg, Int.reduceAdd, Int.reduceSub, Int.reduceMul, Int.reduceEq, and_self, true_and, and_true, false_and, and_false, or_false, false_or, true_or, or_true, not_true_eq_false, not_false_eq_true, Bool.false_eq_true, Bool.true_eq_false, decide_true, decide_false, decide_eq_true_eq, Nat.le_refl, Nat.zero_le, ge_iff_le, gt_iff_lt, Nat.lt_irrefl, reduceCtorEq, if_posD, if_negD, w32_id, Int.toNat_natCast, WCo_in, mUp_self, mUp_ne, ne_eq, qX7_layNet_1, e0, hnw]
    rw [mUp_mUp, mUp_mUp]
    exact this
end NET2
