/-! ===== THE LIST ON M: its contract ===== -/
abbrev dP (L : Nat) (xs : Nat → Int) : List Pk := allP (dN L xs) (dC L xs) (dU L xs) (dQ L xs) (dF L xs) (dT L xs) (dM L xs) (dA L xs) (dB L xs) (dZ L xs)
/-- the land, for every plan that is what was drawn -/
def LsP (L : Nat) (xs : Nat → Int) (h0 : MH) (tb r0 : Nat) (v : Option MV ⊕ Nat) (h2 : MH) : Prop := ∃ ad, v = .inl (some (qR (ad 0))) ∧ TxI h0 tb r0 (flat (pwT (dP L xs))) 700 1400000 h2 ∧
  ∀ (Q : Pn) (m0 : Nat → Int), LandQ (dN L xs) (dC L xs) (dU L xs) (dQ L xs) (dF L xs) (dT L xs) (dA L xs) (dB L xs) Q → (∀ r, r < dC L xs → m0 r = (dM L xs r : Int)) → ∃ tg, (∀ x, x < h0.2.1 → tg x = 300) ∧ SimA h2 tg ad (fun _ => 0) (qS 301) 0 Q (fun j => zI (dZ L xs j)) (begS 0 m0) (fun _ => 0)
section LST6
variable {L : Nat} {xs : Nat → Int} {fm : Bool} {h0 : MH} {tb r0 : Nat}
/-- all the cells together -/
theorem ls_sim {hE : MH} {sm ar au g ao b2 b3 : Nat} {R U Z : Nat → Nat} {Q : Pn} {m0 : Nat → Int} (h107 : 107 ≤ sm) (e0 : hE.1 sm = oS (dN L xs) [qR ar, qR au, qR g, qR (g + 1 + dN L xs), qR (g + 2 + 2 * dN L xs), qR (sm + 6), qR ao]) (e6 : hE.1 (sm + 6) = cO 12 [qI 0, qS 301, qI 0])
    (hR : RwB hE (sm + 7) .int ar (dC L xs) (dC L xs) 4 R (roG4 L xs)) (hU : RwB hE b2 .int au (dU L xs) (dU L xs) 2 U (ruG2 L xs)) (hZ : RwB hE (g + 3 + 2 * dN L xs) .int ao (dQ L xs) (dQ L xs) 9 Z (fun j => zI (dZ L xs j))) (bR : ∀ r, r < dC L xs → R r < b2) (bU : ∀ k, k < dU L xs → U k < b3) (h3 : b3 ≤ g) (h5 : ar < b2) (h6 : au < b3)
    (g1 : ∃ f, hE.1 g = cQ (.array .int) (dN L xs) f ∧ ∀ i, i < dN L xs → f i = qR (g + 1 + i)) (g2 : ∀ i, i < dN L xs → ∃ f, hE.1 (g + 1 + i) = cI .int (dU L xs) f ∧ ∀ j, j < dU L xs → f j = -1) (g3 : ∃ f, hE.1 (g + 1 + dN L xs) = cQ (.array .boolean) (dN L xs) f ∧ ∀ i, i < dN L xs → f i = qR (g + 2 + dN L xs + i)) (g4 : ∀ i, i < dN L xs → ∃ f, hE.1 (g + 2 + dN L xs + i) = cI .boolean (dU L xs) f ∧ ∀ j, j < dU L xs → f j = 0) (g5 : hE.1 (g + 2 + 2 * dN L xs) = cI .boolean (dN L xs) (fun _ => 0))
    (hQ : LandQ (dN L xs) (dC L xs) (dU L xs) (dQ L xs) (dF L xs) (dT L xs) (dA L xs) (dB L xs) Q) (hm : ∀ r, r < dC L xs → m0 r = (dM L xs r : Int)) : ∃ tg, (∀ x, x < sm → tg x = 300) ∧ SimA hE tg (adL sm ar au g (dN L xs) ao R U Z) (fun _ => 0) (qS 301) 0 Q (fun j => zI (dZ L xs j)) (begS 0 m0) (fun _ => 0) := by
  obtain ⟨n1, n2⟩ := dN_b (L := L) (xs := xs)
  obtain ⟨c1, c2⟩ := dC_b (L := L) (xs := xs)
  obtain ⟨u1, u2⟩ := dU_b (L := L) (xs := xs)
  have q6 := dQ_b (L := L) (xs := xs)
  obtain ⟨L1, L2, L3, L4, L5, L6⟩ := hQ
  obtain ⟨r0, r1, ⟨fr, r2, r3⟩, r4, r5⟩ := hR
  obtain ⟨u0, u1', ⟨fu, u2', u3⟩, u4, u5⟩ := hU
  obtain ⟨z0, z1, ⟨fz, z2, z3⟩, z4, z5⟩ := hZ
  have iR : ∀ r, r < dC L xs → ar < R r ∧ R r < b2 := fun r hr => ⟨(r4 r hr).1, bR r hr⟩
  have iU : ∀ k, k < dU L xs → au < U k ∧ U k < b3 := fun k hk => ⟨(u4 k hk).1, bU k hk⟩
  have iZ : ∀ j, j < dQ L xs → ao < Z j := fun j hj => (z4 j hj).1
  have inj : ∀ i i', Us (dN L xs) (dC L xs) (dU L xs) (dQ L xs) i → Us (dN L xs) (dC L xs) (dU L xs) (dQ L xs) i' → adL sm ar au g (dN L xs) ao R U Z i = adL sm ar au g (dN L xs) ao R U Z i' → i = i' := fun i i' hi hi' e => adL_in (by omega) (by omega) (by omega) iR iU iZ r5 u5 z5 (by omega) (by omega) (by omega) (by omega) h5 h6 hi hi' e
  have val := fun {i} hi => adL_val (sm := sm) (g := g) (n := dN L xs) (c := dC L xs) (u := dU L xs) (q := dQ L xs) (i := i) (by omega) (by omega) (by omega) iR iU iZ hi
  have hlt : ∀ i, Us (dN L xs) (dC L xs) (dU L xs) (dQ L xs) i → sm ≤ adL sm ar au g (dN L xs) ao R U Z i ∧ adL sm ar au g (dN L xs) ao R U Z i < hE.2.1 := fun i hi => by
    have hv := val hi
    rcases hv with ⟨p1, p2⟩ | ⟨p1, p2⟩ | ⟨p1, p2⟩ | ⟨p1, p2⟩ | ⟨p1, p2⟩ | ⟨p1, p2⟩ | ⟨p1, p2⟩ | ⟨p1, p2⟩ | ⟨r, p0, p1, p2, p3, p4⟩ | ⟨r, p0, p1, p2, p3, p4⟩ | ⟨r, p0, p1, p2⟩ | ⟨r, p0, p1, p2⟩ | ⟨r, p0, p1, p2, p3⟩ <;> rw [p2] <;> first | omega | (have := (z4 r p0).2.1; omega)
  have a16 : ∀ r, r < dC L xs → adL sm ar au g (dN L xs) ao R U Z (16 + r) = R r := fun r hr => adL_R (by omega)
  have a32 : ∀ r, r < dU L xs → adL sm ar au g (dN L xs) ao R U Z (32 + r) = U r := fun r hr => adL_U (by omega)
  have a48 : ∀ r, r < dN L xs → adL sm ar au g (dN L xs) ao R U Z (48 + r) = g + 1 + r := fun r hr => adL_S (by omega)
  have a64 : ∀ r, r < dN L xs → adL sm ar au g (dN L xs) ao R U Z (64 + r) = g + 2 + dN L xs + r := fun r hr => adL_T (by omega)
  have a80 : ∀ r, adL sm ar au g (dN L xs) ao R U Z (80 + r) = Z r := fun r => adL_Z
  refine ⟨tgO (Us (dN L xs) (dC L xs) (dU L xs) (dQ L xs)) (adL sm ar au g (dN L xs) ao R U Z), fun x hx => tgO_no (fun i hi e => by have := (hlt i hi).1; omega), ?_⟩
  unfold SimA
  rw [L1, L2, L3, L4]
  refine ⟨e0, ⟨⟨fr, r2, fun i hi => ?_⟩, fun i hi => ?_⟩, ⟨⟨fu, u2', fun i hi => ?_⟩, fun i hi => ?_⟩, ⟨?_, fun i hi => ?_⟩, ⟨?_, fun i hi => ?_⟩, ⟨_, g5, fun _ _ => rfl⟩, ⟨e6, Or.inl ⟨rfl, rfl⟩⟩, fun i x hx => (by cases hx), ⟨⟨fz, z2, fun i hi => ?_⟩, fun i hi => ?_⟩, ⟨fun i hi => ⟨tgO_at inj hi, by have := (hlt i hi).1; omega, (hlt i hi).2⟩, fun i hi => absurd hi (Nat.not_lt_zero _), fun i j _ hj => absurd hj (Nat.not_lt_zero _)⟩, Or.inl rfl⟩
  · dsimp only; rw [a16 i hi]; exact r3 i hi
  · obtain ⟨-, -, f, f1, f2⟩ := r4 i hi
    refine ⟨f, by dsimp only; rw [a16 i hi]; exact f1, fun j hj => ?_⟩
    rw [f2 j hj]
    unfold rdG roG4
    rw [show Q.2.2.2.2.1 i = dF L xs i from (L5 i hi).1, show Q.2.2.2.2.2.1 i = dT L xs i from (L5 i hi).2]
    have e9 : (begS 0 m0).2.2.2.1 i = (dM L xs i : Int) := hm i hi
    rw [e9]
    rfl
  · dsimp only; rw [a32 i hi]; exact u3 i hi
  · obtain ⟨-, -, f, f1, f2⟩ := u4 i hi
    refine ⟨f, by dsimp only; rw [a32 i hi]; exact f1, fun j hj => ?_⟩
    rw [f2 j hj]
    unfold ruG ruG2
    rw [(L6 i hi).1, (L6 i hi).2]
  · obtain ⟨f, f1, f2⟩ := g1
    exact ⟨f, f1, fun i hi => by dsimp only; rw [a48 i hi]; exact f2 i hi⟩
  · obtain ⟨f, f1, f2⟩ := g2 i hi
    exact ⟨f, by dsimp only; rw [a48 i hi]; exact f1, fun j hj => f2 j hj⟩
  · obtain ⟨f, f1, f2⟩ := g3
    exact ⟨f, f1, fun i hi => by dsimp only; rw [a64 i hi]; exact f2 i hi⟩
  · obtain ⟨f, f1, f2⟩ := g4 i hi
    exact ⟨f, by dsimp only; rw [a64 i hi]; exact f1, fun j hj => f2 j hj⟩
  · dsimp only; rw [a80 i]; exact z3 i hi
  · obtain ⟨-, -, f, f1, f2⟩ := z4 i hi
    exact ⟨f, by dsimp only; rw [a80 i]; exact f1, f2⟩
theorem l_list (hL : L ≤ 300) (hS : SbC h0.1 tb r0 0 []) (htb : tb < h0.2.1) (hr0 : r0 < h0.2.1) (hrt : r0 ≠ tb) (h107 : 107 ≤ h0.2.1) : Sp (GG L xs fm) 7 mL_list [qS 998, qR tb] h0 (LsP L xs h0 tb r0) := by
  obtain ⟨n1, n2⟩ := dN_b (L := L) (xs := xs)
  obtain ⟨c1, c2⟩ := dC_b (L := L) (xs := xs)
  obtain ⟨u1, u2⟩ := dU_b (L := L) (xs := xs)
  have q6 := dQ_b (L := L) (xs := xs)
  have e10 : CF 10 = [0, 0, 0, 0, 2, 2, 2, 2, 2, 2, 2] := rfl
  have ec : (2 : Int) + ((bw (ceX L xs 0) 8 : Nat) : Int) = ((dN L xs : Nat) : Int) := by unfold dN; omega
  refine Sp_of ML_list ?_
  simp (disch := omega) only [ms_sipush, ms_lconst, ms_ldc2_w, ms_dconst, ms_ldc, ms_getstatic, ms_iload, ms_lload, ms_dload, ms_aload, ms_istore, ms_lstore, ms_dstore, ms_astore, ms_iinc, ms_iadd, ms_isub, ms_imul, ms_idiv, ms_irem, ms_ineg, ms_iand, ms_ior, ms_ishr, ms_ishl, ms_iushr, ms_i2b, ms_i2c, ms_i2l, ms_ladd, ms_lmul, ms_lcmp, ms_i2d, ms_ddiv, ms_dcmp, ms_dup, ms_pop, ms_dup2, ms_dup_x1, ms_aconst_null, ms_ifnull, ms_ifnonnull, ms_checkcast, ms_goto, ms_ifCond, ms_if_icmp, ms_if_acmp_eq, ms_if_acmp_ne, ms_tableswitch, ms_lookupswitch, ms_getfield, ms_putfield, ms_arraylength, ms_iaload, ms_baload, ms_laload, ms_aaload, ms_iastore, ms_bastore, ms_lastore, ms_aastore, ms_newarray, ms_new, ms_anewarray, ms_multianewarray, ms_invokevirtual, ms_invokestatic, ms_invokespecial, ms_invokeinterface, ms_invokedynamic_0, ms_invokedynamic_1, ms_invokedynamic_2, ms_invokedynamic_3, ms_invokedynamic_4, ms_invokedynamic_5, ms_invokedynamic_6, ms_invokedynamic_7, ms_invokedynamic_8, ms_ireturn, ms_lreturn, ms_dreturn, ms_areturn, ms_return_, Wp_cons, WSC_nx, WSC_cl, WSC_rt, WSC_th, WSC_if, lg, lset, lfree, wide, isRf, isRT, fitK, hgt, margs, mpad, rcv, rdF, rdN, rdI, rdQ, mC_eq, mC_ne, mC_lt, mC_ge, mC_gt, mC_le, mset, mnew, h_fst, h_snd, lt_drop0, List.drop_succ_cons, List.drop_zero, List.drop_nil, List.take_succ_cons, List.take_zero, List.reverse_cons, List.reverse_nil, List.nil_append, List.cons_append, List.append_nil, List.length_cons, List.length_nil, List.getElem?_cons_succ, List.getElem?_cons_zero, List.set_cons_succ, List.set_cons_zero, List.replicate, Option.toList, reduceIte, Bool.not_false, Bool.not_true, Nat.reduceLT, Nat.reduceLeDiff, Nat.reduceAdd, Nat.reduceSub, Nat.reduceMul, Int.reduceLT, Int.reduceLE, Int.reduceNeg, Int.reduceAdd, Int.reduceSub, Int.reduceMul, Int.reduceEq, and_self, true_and, and_true, false_and, and_false, or_false, false_or, true_or, or_true, not_true_eq_false, not_false_eq_true, Bool.false_eq_true, Bool.true_eq_false, decide_true, decide_false, decide_eq_true_eq, Nat.le_refl, Nat.zero_le, ge_iff_le, gt_iff_lt, Nat.lt_irrefl, reduceCtorEq, if_posD, if_negD, w32_id, Int.toNat_natCast, WCo_in, mUp_self, mUp_ne, ne_eq, Bool.true_and, Bool.and_true, Bool.false_and, Bool.and_false, Bool.true_or, Bool.or_true, Bool.false_or, Bool.or_false, Nat.reduceEqDiff, Int.cast_ofNat_Int, Int.reduceToNat, List.getD_cons_succ, List.getD_cons_zero, eq_self, swL, if_true, if_false, nqT, isNl, qL_list_0, MJ4_append_15ec4, MJ4_append_bf812, MJ4_init_da8c8, MJ4_toString_0e30d, MJ7_fill_53178, ML_below, ML_cell, ML_sum, ML_when, MX10_init, GG1, GG4, e10, mdef]
  refine WCl_of (sm_init (mUp_self _ _ _) (Nat.lt_succ_self _)) (by omega) (fun v h1 hv => ?_)
  obtain ⟨rfl, i2, i3, i4, i5⟩ := hv
  have i2' : h1.2 = (h0.2.1 + 8, h0.2.2.1 + 8, h0.2.2.2 + 14) := i2
  have i3' : h1.1 h0.2.1 = oS 0 [qR (h0.2.1 + 1), qR (h0.2.1 + 2), qR (h0.2.1 + 3), qR (h0.2.1 + 4), qR (h0.2.1 + 5), qR (h0.2.1 + 6), qR (h0.2.1 + 7)] := i3
  have i4' : h1.1 (h0.2.1 + 6) = cO 12 [qI 0, qS 301, qI 0] := i4
  have i5' : ∀ x, x < h0.2.1 → h1.1 x = h0.1 x := fun x hx => (i5 x (Nat.lt_succ_of_lt hx) (by omega)).trans (mUp_ne (by omega))
  have h1lt : h1.2.1 = h0.2.1 + 8 := by rw [i2']
  have T0 : TxI h0 tb r0 [] 0 0 h0 := ⟨Nat.le_refl _, Nat.le_refl _, Nat.le_refl _, fun _ _ _ _ => rfl, htb, r0, Or.inl rfl, hr0, hrt, hS⟩
  have T1 := (T0.kp (kc' := 8) (ks' := 14) (h2 := h1) ⟨by rw [i2']; exact Nat.le_add_right _ _, by rw [i2']; exact Nat.le_refl _, by rw [i2']; exact Nat.le_refl _, fun a ha => i5' a ha⟩).st (x := h0.2.1) (c := oS (dN L xs) [qR (h0.2.1 + 1), qR (h0.2.1 + 2), qR (h0.2.1 + 3), qR (h0.2.1 + 4), qR (h0.2.1 + 5), qR (h0.2.1 + 6), qR (h0.2.1 + 7)]) (Nat.le_refl _) (by rw [i3']; exact nb_o (by decide))
  have hlist : (mUp h1.1 h0.2.1 (oS (dN L xs) [qR (h0.2.1 + 1), qR (h0.2.1 + 2), qR (h0.2.1 + 3), qR (h0.2.1 + 4), qR (h0.2.1 + 5), qR (h0.2.1 + 6), qR (h0.2.1 + 7)])) (h0.2.1 + 6) = cO 12 [qI 0, qS 301, qI 0] := (mUp_ne (by omega)).trans i4'
  obtain ⟨H, hH⟩ : ∃ H : MH, H = (mUp h1.1 h0.2.1 (oS (dN L xs) [qR (h0.2.1 + 1), qR (h0.2.1 + 2), qR (h0.2.1 + 3), qR (h0.2.1 + 4), qR (h0.2.1 + 5), qR (h0.2.1 + 6), qR (h0.2.1 + 7)]), h1.2) := ⟨_, rfl⟩
  rw [← hH] at T1
  have Hs : H.1 h0.2.1 = oS (dN L xs) [qR (h0.2.1 + 1), qR (h0.2.1 + 2), qR (h0.2.1 + 3), qR (h0.2.1 + 4), qR (h0.2.1 + 5), qR (h0.2.1 + 6), qR (h0.2.1 + 7)] := by rw [hH]; exact mUp_self _ _ _
  have Hl : H.1 (h0.2.1 + 6) = cO 12 [qI 0, qS 301, qI 0] := by rw [hH]; exact hlist
  have H21 : H.2.1 = h0.2.1 + 8 := by rw [hH]; exact h1lt
  have nx := ll_tav (fm := fm) (xs := xs) (P := LsP L xs h0 tb r0) (kc := 8) (ks := 14) (n := dN L xs) n2 Hs (by omega) (fun h2 T2 K2 => by
    have hW1 := fl_tav (j := dN L xs)
    have Hs2 := K2.at (by omega) Hs (nb_o (by decide))
    have Hl2 := K2.at (by omega) Hl (nb_o (by decide))
    have g2 := K2.1
    refine lp_roa hL (by omega) T2 Hs2 rfl (Nat.le_refl _) (by omega) (fun h3 ar R T3 K3 e3 R3 l4 l5 l6 v4 v5 v6 => ?_)
    have hW2 := fl_roa (fr := dF L xs) (to := dT L xs) (mi := dM L xs) (j := dC L xs)
    have g3 := K3.1
    refine lp_rum hL (by rw [List.length_append]; omega) T3 e3 (Nat.le_refl _) (by omega) v4 v5 v6 (fun h4 au U T4 K4 e4 U4 l4 l5 l6 v4 v5 v6 => ?_)
    have hW3 := fl_rum (ba := dA L xs) (bo := dB L xs) (j := dU L xs)
    have g4 := K4.1
    obtain ⟨t0, t1, ⟨fu, t2, t3⟩, t4, t5⟩ := id U4
    refine lp_grid hL T4 e4 t2 t1 (by omega) (Nat.le_refl _) (by omega) v4 v5 v6 (fun h5 T5 K5 e5 G5 ⟨fo, eo⟩ n5 l4 l5 l6 l7 v4 v5 v6 v7 => ?_)
    have g5 := K5.1
    obtain ⟨s0, s1, ⟨fr, s2, s3⟩, s4, s5⟩ := id R3
    have K45 : Kx h0.2.1 h3 h5 := K4.tr1 K5
    have er5 := K45.at s1 (by omega) s2 nb_q
    have eu5 := K5.at t1 (by omega) t2 nb_q
    have Z0 : RwB h5 (h4.2.1 + 3 + 2 * dN L xs) .int (h4.2.1 + 3 + 2 * dN L xs) (dQ L xs) 0 9 (fun _ => 0) (fun j => zI (dZ L xs j)) := ⟨Nat.le_refl _, by omega, ⟨fo, eo, fun i hi => absurd hi (Nat.not_lt_zero _)⟩, fun i hi => absurd hi (Nat.not_lt_zero _), fun i i' _ hi => absurd hi (Nat.not_lt_zero _)⟩
    have nxo := ll_ord (l := []) (fm := fm) (P := LsP L xs h0 tb r0) (h0 := h0) (tb := tb) (r0 := r0) (W := (flat (pwT (catP tavP (dN L xs))) ++ flat (pwT (catP (roaP (dF L xs) (dT L xs) (dM L xs)) (dC L xs)))) ++ flat (pwT (catP (rumP (dA L xs) (dB L xs)) (dU L xs)))) (kc := 8 + 3 * dN L xs + 1 + 11 * dC L xs + 1 + 8 * dU L xs + 30) (ks := 14 + 9300 * dN L xs + dC L xs + 31004 * dC L xs + dU L xs + 21702 * dU L xs + 200) hL (by rw [List.length_append, List.length_append]; omega) (lo := h4.2.1 + 3 + 2 * dN L xs) (by omega) e5 (by omega) (by omega) er5 (by omega) (by omega) eu5 (by omega) (by omega) (fun hE T6 K6 ⟨Z, Z6⟩ => by
      -- all is made
      have ew : ((flat (pwT (catP tavP (dN L xs))) ++ flat (pwT (catP (roaP (dF L xs) (dT L xs) (dM L xs)) (dC L xs)))) ++ flat (pwT (catP (rumP (dA L xs) (dB L xs)) (dU L xs)))) ++ flat (pwT (catP (ordF (dZ L xs)) (dQ L xs))) = flat (pwT (dP L xs)) := by
        show _ = flat (pwT (allP _ _ _ _ _ _ _ _ _ _))
        unfold allP
        rw [pwT_app, flat_app, pwT_app, flat_app, pwT_app, flat_app]
        simp only [List.append_assoc]
      rw [ew] at T6
      have K3E : Kx h0.2.1 h3 hE := K45.tr2 K6 (by omega)
      have K4E : Kx h0.2.1 h4 hE := K5.tr2 K6 (by omega)
      have K2E : Kx h0.2.1 h2 hE := (K3.tr1 K45).tr2 K6 (by omega)
      have RE := R3.kx K3E (by decide) (by omega)
      have UE := U4.kx K4E (by decide) (by omega)
      obtain ⟨G1, ⟨f1, G2, G3⟩, G4, ⟨f2, G6, G7⟩, G8, G9⟩ := G5
      have K6' := K6.1
      refine ⟨adL h0.2.1 ar au h4.2.1 (dN L xs) (h4.2.1 + 3 + 2 * dN L xs) R U Z, rfl, T6.up (by omega) (by omega), fun Q m0 hQ hm => ?_⟩
      have at6 : ∀ {x : Nat} {c : MC}, x < h5.2.1 → x ≠ h4.2.1 + 3 + 2 * dN L xs → h5.1 x = c → Nb c → hE.1 x = c := fun a b c d => K6.at a b c d
      refine ls_sim (b2 := h3.2.1) (b3 := h4.2.1) h107 (at6 (by omega) (by omega) e5 (nb_o (by decide))) (K2E.at (by omega) (by omega) Hl2 (nb_o (by decide))) ⟨by have := RE.1; omega, RE.2⟩ UE Z6 (fun r hr => (s4 r hr).2.1) (fun k hk => (t4 k hk).2.1) (Nat.le_refl _) s1 t1 ⟨f1, at6 (by omega) (by omega) G2 nb_q, G3⟩ (fun i hi => ?_) ⟨f2, at6 (by omega) (by omega) G6 nb_q, G7⟩ (fun i hi => ?_) (at6 (by omega) (by omega) G9 (nb_i (by decide))) hQ hm
      · obtain ⟨f, F1, F2⟩ := G4 i hi
        exact ⟨f, at6 (by omega) (by omega) F1 (nb_i (by decide)), F2⟩
      · obtain ⟨f, F1, F2⟩ := G8 i hi
        exact ⟨f, at6 (by omega) (by omega) F1 (nb_i (by decide)), F2⟩) (dQ L xs) 0 h5 l4 l5 l6 l7 v4 v5 v6 v7 (by omega) (by
      show TxI h0 tb r0 (_ ++ []) _ _ _
      rw [List.append_nil]
      exact T5) Kx.rf ⟨_, Z0⟩
    exact nxo) (dN L xs) 0 H (by omega) T1 Kn.rf
  rw [hH] at nx
  simp (disch := omega) only [ms_sipush, ms_lconst, ms_ldc2_w, ms_dconst, ms_ldc, ms_getstatic, ms_iload, ms_lload, ms_dload, ms_aload, ms_istore, ms_lstore, ms_dstore, ms_astore, ms_iinc, ms_iadd, ms_isub, ms_imul, ms_idiv, ms_irem, ms_ineg, ms_iand, ms_ior, ms_ishr, ms_ishl, ms_iushr, ms_i2b, ms_i2c, ms_i2l, ms_ladd, ms_lmul, ms_lcmp, ms_i2d, ms_ddiv, ms_dcmp, ms_dup, ms_pop, ms_dup2, ms_dup_x1, ms_aconst_null, ms_ifnull, ms_ifnonnull, ms_checkcast, ms_goto, ms_ifCond, ms_if_icmp, ms_if_acmp_eq, ms_if_acmp_ne, ms_tableswitch, ms_lookupswitch, ms_getfield, ms_putfield, ms_arraylength, ms_iaload, ms_baload, ms_laload, ms_aaload, ms_iastore, ms_bastore, ms_lastore, ms_aastore, ms_newarray, ms_new, ms_anewarray, ms_multianewarray, ms_invokevirtual, ms_invokestatic, ms_invokespecial, ms_invokeinterface, ms_invokedynamic_0, ms_invokedynamic_1, ms_invokedynamic_2, ms_invokedynamic_3, ms_invokedynamic_4, ms_invokedynamic_5, ms_invokedynamic_6, ms_invokedynamic_7, ms_invokedynamic_8, ms_ireturn, ms_lreturn, ms_dreturn, ms_areturn, ms_return_, Wp_cons, WSC_nx, WSC_cl, WSC_rt, WSC_th, WSC_if, lg, lset, lfree, wide, isRf, isRT, fitK, hgt, margs, mpad, rcv, rdF, rdN, rdI, rdQ, mC_eq, mC_ne, mC_lt, mC_ge, mC_gt, mC_le, mset, mnew, h_fst, h_snd, lt_drop0, List.drop_succ_cons, List.drop_zero, List.drop_nil, List.take_succ_cons, List.take_zero, List.reverse_cons, List.reverse_nil, List.nil_append, List.cons_append, List.append_nil, List.length_cons, List.length_nil, List.getElem?_cons_succ, List.getElem?_cons_zero, List.set_cons_succ, List.set_cons_zero, List.replicate, Option.toList, reduceIte, Bool.not_false, Bool.not_true, Nat.reduceLT, Nat.reduceLeDiff, Nat.reduceAdd, Nat.reduceSub, Nat.reduceMul, Int.reduceLT, Int.reduceLE, Int.reduceNeg, Int.reduceAdd, Int.reduceSub, Int.reduceMul, Int.reduceEq, and_self, true_and, and_true, false_and, and_false, or_false, false_or, true_or, or_true, not_true_eq_false, not_false_eq_true, Bool.false_eq_true, Bool.true_eq_false, decide_true, decide_false, decide_eq_true_eq, Nat.le_refl, Nat.zero_le, ge_iff_le, gt_iff_lt, Nat.lt_irrefl, reduceCtorEq, if_posD, if_negD, w32_id, Int.toNat_natCast, WCo_in, mUp_self, mUp_ne, ne_eq, Bool.true_and, Bool.and_true, Bool.false_and, Bool.and_false, Bool.true_or, Bool.or_true, Bool.false_or, Bool.or_false, Nat.reduceEqDiff, Int.cast_ofNat_Int, Int.reduceToNat, List.getD_cons_succ, List.getD_cons_zero, eq_self, swL, if_true, if_false, nqT, isNl, qL_list_2, MJ4_append_15ec4, MJ4_append_bf812, MJ4_init_da8c8, MJ4_toString_0e30d, MJ7_fill_53178, ML_below, ML_cell, ML_sum, ML_when, MX10_init, GG1, c_bw, c_ce hL, i3', ec]
  exact nx
end LST6
