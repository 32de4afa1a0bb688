/-! ===== THE LIST ON M: what is known where, who was sent, hushed taverns ===== -/
theorem mg_2 {t n k : Nat} {h : MH} : (mgrid t (n : Int) (k : Int) h).2 = (h.2.1 + 1 + n, h.2.2.1 + 1 + n, h.2.2.2 + n + n * k) := by
  show (h.2.1 + 1 + (n : Int).toNat, h.2.2.1 + 1 + (n : Int).toNat, h.2.2.2 + (n : Int).toNat + (n : Int).toNat * (k : Int).toNat) = _
  rw [Int.toNat_natCast, Int.toNat_natCast]
theorem mg_ne {t n k x : Nat} {h : MH} (hx : x < h.2.1) : (mgrid t (n : Int) (k : Int) h).1 x = h.1 x := by
  show mG t (n : Int).toNat (k : Int).toNat h.2.1 h.1 x = _
  exact mG_ne (by omega) (by omega)
theorem mg_0 {t n k : Nat} {h : MH} : (mgrid t (n : Int) (k : Int) h).1 h.2.1 = cQ (.array (if t = 0 then .int else if t = 3 then .boolean else .long)) n (fun j => if j < n then qR (h.2.1 + 1 + j) else qN) := by
  show mG t (n : Int).toNat (k : Int).toNat h.2.1 h.1 h.2.1 = _
  rw [mG_0, Int.toNat_natCast]
theorem mg_r {t n k i : Nat} {h : MH} (hi : i < n) : (mgrid t (n : Int) (k : Int) h).1 (h.2.1 + 1 + i) = if t = 0 then cI .int k (fun _ => 0) else if t = 3 then cI .boolean k (fun _ => 0) else cL k (fun _ => 0) := by
  show mG t (n : Int).toNat (k : Int).toNat h.2.1 h.1 (h.2.1 + 1 + i) = _
  rw [mG_r (by rw [Int.toNat_natCast]; omega), Int.toNat_natCast]
theorem mg_kp {t n k : Nat} {h : MH} : Kp (1 + n) (n + n * k) h (mgrid t (n : Int) (k : Int) h) := by
  refine ⟨?_, ?_, ?_, fun a ha => mg_ne ha⟩
  · rw [mg_2]; show h.2.1 ≤ h.2.1 + 1 + n; omega
  · rw [mg_2]; show h.2.2.1 + 1 + n ≤ h.2.2.1 + (1 + n); omega
  · rw [mg_2]; show h.2.2.2 + n + n * k ≤ h.2.2.2 + (n + n * k); omega
section LST3
variable {L : Nat} {xs : Nat → Int} {fm : Bool} {h0 : MH} {tb r0 kc ks sm : Nat} {W : List Nat} {P : (Option MV ⊕ Nat) → MH → Prop}
/-- since, sent, hushed and the place of the orders are made -/
def GrE (L : Nat) (xs : Nat → Int) (h h2 : MH) : Prop :=
  h.2.1 + 4 + 2 * dN L xs ≤ h2.2.1 ∧
  (∃ f, h2.1 h.2.1 = cQ (.array .int) (dN L xs) f ∧ ∀ i, i < dN L xs → f i = qR (h.2.1 + 1 + i)) ∧ (∀ i, i < dN L xs → ∃ g, h2.1 (h.2.1 + 1 + i) = cI .int (dU L xs) g ∧ ∀ j, j < dU L xs → g j = -1) ∧
  (∃ f, h2.1 (h.2.1 + 1 + dN L xs) = cQ (.array .boolean) (dN L xs) f ∧ ∀ i, i < dN L xs → f i = qR (h.2.1 + 2 + dN L xs + i)) ∧ (∀ i, i < dN L xs → ∃ g, h2.1 (h.2.1 + 2 + dN L xs + i) = cI .boolean (dU L xs) g ∧ ∀ j, j < dU L xs → g j = 0) ∧
  h2.1 (h.2.1 + 2 + 2 * dN L xs) = cI .boolean (dN L xs) (fun _ => 0)
theorem lp_grid {x4 x6 x7 x8 x9 x10 : MV} {au : Nat} (hL : L ≤ 300) {h : MH} (hT : TxI h0 tb r0 W kc ks h) (e0 : h.1 sm = oS (dN L xs) [x4, qR au, x6, x7, x8, x9, x10]) {fu : Nat → MV} (eu : h.1 au = cQ (.array .int) (dU L xs) fu) (hau : au < h.2.1) (hsu : sm ≠ au) (hs0 : h0.2.1 ≤ sm) (hsm : sm < h.2.1) {l3 : Int} {l4 l5 l6 : MV} (v4 : wide l4 = false) (v5 : wide l5 = false) (v6 : wide l6 = false)
    (k : ∀ h2, TxI h0 tb r0 W (kc + 30) (ks + 200) h2 → Kx sm h h2 → h2.1 sm = oS (dN L xs) [x4, qR au, qR h.2.1, qR (h.2.1 + 1 + dN L xs), qR (h.2.1 + 2 + 2 * dN L xs), x9, qR (h.2.1 + 3 + 2 * dN L xs)] → GrE L xs h h2 → (∃ f, h2.1 (h.2.1 + 3 + 2 * dN L xs) = cQ (.array .int) (dQ L xs) f) → h2.2.1 = h.2.1 + 4 + 2 * dN L xs → ∀ l4 l5 l6 l7, wide l4 = false → wide l5 = false → wide l6 = false → wide l7 = false → Wp (GG L xs fm) 7 BL_list (BL_list 15) [qS 998, qR tb, qR sm, qI 0, l4, l5, l6, l7] [] h2 P) : Wp (GG L xs fm) 7 BL_list (BL_list 12) [qS 998, qR tb, qR sm, qI l3, l4, l5, l6, qU] [] h P := by
  obtain ⟨n1, n2⟩ := dN_b (L := L) (xs := xs)
  obtain ⟨u1, u2⟩ := dU_b (L := L) (xs := xs)
  have q2 := dQ_b (L := L) (xs := xs)
  have hnu : dN L xs * dU L xs ≤ 9 * 4 := Nat.mul_le_mul n2 u2
  have hne : sm ≠ h.2.1 := by omega
  -- the first grid
  have m2 := mg_2 (t := 0) (n := dN L xs) (k := dU L xs) (h := h)
  have m21 : (mgrid 0 (dN L xs : Int) (dU L xs : Int) h).2.1 = h.2.1 + 1 + dN L xs := by rw [m2]
  have ms := (mg_ne (t := 0) (n := dN L xs) (k := dU L xs) (h := h) hsm).trans e0
  have mu := (mg_ne (t := 0) (n := dN L xs) (k := dU L xs) (h := h) hau).trans eu
  have T1 := (hT.kp (mg_kp (t := 0) (n := dN L xs) (k := dU L xs))).st (x := sm) (c := oS (dN L xs) [x4, qR au, qR h.2.1, x7, x8, x9, x10]) hs0 (by rw [ms]; exact nb_o (by decide))
  obtain ⟨H1, hH1⟩ : ∃ H1 : MH, H1 = (mUp (mgrid 0 (dN L xs : Int) (dU L xs : Int) h).1 sm (oS (dN L xs) [x4, qR au, qR h.2.1, x7, x8, x9, x10]), (mgrid 0 (dN L xs : Int) (dU L xs : Int) h).2) := ⟨_, rfl⟩
  rw [← hH1] at T1
  have H12 : H1.2 = (h.2.1 + 1 + dN L xs, h.2.2.1 + 1 + dN L xs, h.2.2.2 + dN L xs + dN L xs * dU L xs) := by rw [hH1]; exact m2
  have H121 : H1.2.1 = h.2.1 + 1 + dN L xs := by rw [H12]
  have Hs : H1.1 sm = oS (dN L xs) [x4, qR au, qR h.2.1, x7, x8, x9, x10] := by rw [hH1]; exact mUp_self _ _ _
  have Hlo : ∀ x, x < h.2.1 → x ≠ sm → H1.1 x = h.1 x := fun x hx hxs => by rw [hH1]; exact (mUp_ne hxs).trans (mg_ne hx)
  have Hg : H1.1 h.2.1 = cQ (.array .int) (dN L xs) (fun j => if j < dN L xs then qR (h.2.1 + 1 + j) else qN) := by rw [hH1]; exact (mUp_ne (fun e => hne e.symm)).trans mg_0
  have Hr : ∀ i, i < dN L xs → H1.1 (h.2.1 + 1 + i) = cI .int (dU L xs) (fun _ => 0) := fun i hi => by rw [hH1]; exact (mUp_ne (by omega)).trans ((mg_r hi).trans (if_pos rfl))
  -- behind the loop: the rest is made
  have rest : ∀ (h3 : MH) (l6 : MV) (i : Int), wide l6 = false → h3.2 = H1.2 → (∀ x, (x < h.2.1 + 1 ∨ h.2.1 + 1 + dN L xs ≤ x) → h3.1 x = H1.1 x) → (∀ t, t < dN L xs → ∃ g, h3.1 (h.2.1 + 1 + t) = cI .int (dU L xs) g ∧ ∀ j, j < dU L xs → g j = -1) → Wp (GG L xs fm) 7 BL_list (BL_list 14) [qS 998, qR tb, qR sm, qR h.2.1, qI (dN L xs : Nat), qI i, l6, qU] [] h3 P := by
    intro h3 l6 i w6 e2 elo erow
    have e21 : h3.2.1 = h.2.1 + 1 + dN L xs := by rw [e2]; exact H121
    have es3 : h3.1 sm = oS (dN L xs) [x4, qR au, qR h.2.1, x7, x8, x9, x10] := (elo sm (Or.inl (by omega))).trans Hs
    have eu3 : h3.1 au = cQ (.array .int) (dU L xs) fu := ((elo au (Or.inl (by omega))).trans (Hlo au hau (fun e => hsu e.symm))).trans eu
    have M2 := mg_2 (t := 3) (n := dN L xs) (k := dU L xs) (h := h3)
    have M21 : (mgrid 3 (dN L xs : Int) (dU L xs : Int) h3).2.1 = h3.2.1 + 1 + dN L xs := by rw [M2]
    have M22 : (mgrid 3 (dN L xs : Int) (dU L xs : Int) h3).2.2.1 = h3.2.2.1 + 1 + dN L xs := by rw [M2]
    have M23 : (mgrid 3 (dN L xs : Int) (dU L xs : Int) h3).2.2.2 = h3.2.2.2 + dN L xs + dN L xs * dU L xs := by rw [M2]
    have Ms := (mg_ne (t := 3) (n := dN L xs) (k := dU L xs) (h := h3) (x := sm) (by omega)).trans es3
    have Mu := (mg_ne (t := 3) (n := dN L xs) (k := dU L xs) (h := h3) (x := au) (by omega)).trans eu3
    have nb1 : sm ≠ h3.2.1 + 1 + dN L xs := by omega
    have nb2 : sm ≠ h3.2.1 + 1 + dN L xs + 1 := by omega
    have ec : ((bw (ceX L xs 7) 7 : Nat) : Int) = ((dQ L xs : Nat) : Int) := rfl
    have hK3 : Kp 0 0 h3 h3 := Kp.rf
    have T3 : TxI h0 tb r0 W (kc + (1 + dN L xs)) (ks + (dN L xs + dN L xs * dU L xs)) h3 := by
      obtain ⟨a1, a2, a3, a4, a5, r, b1, b2, b3, hB, cap, f, y, f1, f2, f3, f4, f5, f6, f7⟩ := T1
      have hlt : h0.2.1 ≤ h.2.1 := hT.1
      have hr9 : r < h.2.1 + 1 ∨ h.2.1 + 1 + dN L xs ≤ r := by
        by_cases hc : h.2.1 + 1 ≤ r ∧ r < h.2.1 + 1 + dN L xs
        · have := Hr (r - (h.2.1 + 1)) (by omega)
          rw [show h.2.1 + 1 + (r - (h.2.1 + 1)) = r by omega, f6] at this
          cases this
        · omega
      exact ⟨by rw [e2]; exact a1, by rw [e2]; exact a2, by rw [e2]; exact a3, fun x hx h5 h6 => (elo x (Or.inl (by omega))).trans (a4 x hx h5 h6), a5, r, b1, by rw [e2]; exact b2, b3, hB, cap, f, y, (elo tb (Or.inl (by omega))).trans f1, f2, f3, f4, f5, (elo r hr9).trans f6, f7⟩
    have X1 := (T3.kp (mg_kp (t := 3) (n := dN L xs) (k := dU L xs))).st (x := sm) (c := oS (dN L xs) [x4, qR au, qR h.2.1, qR h3.2.1, x8, x9, x10]) hs0 (by rw [Ms]; exact nb_o (by decide))
    have X2 := (X1.nw (c := cI .boolean (dN L xs) (fun _ => 0)) (n := dN L xs)).st (x := sm) (c := oS (dN L xs) [x4, qR au, qR h.2.1, qR h3.2.1, qR (h3.2.1 + 1 + dN L xs), x9, x10]) hs0 (by
      show Nb (mUp (mUp _ sm _) (mgrid 3 (dN L xs : Int) (dU L xs : Int) h3).2.1 _ sm)
      rw [M21, mUp_ne nb1, mUp_self]
      exact nb_o (by decide))
    have X3 := (X2.nw (c := cQ (.array .int) (dQ L xs) (fun _ => qN)) (n := dQ L xs)).st (x := sm) (c := oS (dN L xs) [x4, qR au, qR h.2.1, qR h3.2.1, qR (h3.2.1 + 1 + dN L xs), x9, qR (h3.2.1 + 1 + dN L xs + 1)]) hs0 (by
      show Nb (mUp (mUp _ sm _) ((mgrid 3 (dN L xs : Int) (dU L xs : Int) h3).2.1 + 1) _ sm)
      rw [M21, mUp_ne nb2, mUp_self]
      exact nb_o (by decide))
    have hq7 : (0 : Int) ≤ ((dQ L xs : Nat) : Int) ∧ ((dQ L xs : Nat) : Int) ≤ 4000 := ⟨by omega, by omega⟩
    rw [qL_list_14]
    simp (disch := omega) only [ms_sipush, ms_lconst, ms_ldc2_w, ms_dconst, ms_ldc, ms_getstatic, ms_iload, ms_lload, ms_dload, ms_aload, ms_istore, ms_lstore, ms_dstore, ms_astore, ms_iinc, ms_iadd, ms_isub, ms_imul, ms_idiv, ms_irem, ms_ineg, ms_iand, ms_ior, ms_ishr, ms_ishl, ms_iushr, ms_i2b, ms_i2c, ms_i2l, ms_ladd, ms_lmul, ms_lcmp, ms_i2d, ms_ddiv, ms_dcmp, ms_dup, ms_pop, ms_dup2, ms_dup_x1, ms_aconst_null, ms_ifnull, ms_ifnonnull, ms_checkcast, ms_goto, ms_ifCond, ms_if_icmp, ms_if_acmp_eq, ms_if_acmp_ne, ms_tableswitch, ms_lookupswitch, ms_getfield, ms_putfield, ms_arraylength, ms_iaload, ms_baload, ms_laload, ms_aaload, ms_iastore, ms_bastore, ms_lastore, ms_aastore, ms_newarray, ms_new, ms_anewarray, ms_multianewarray, ms_invokevirtual, ms_invokestatic, ms_invokespecial, ms_invokeinterface, ms_invokedynamic_0, ms_invokedynamic_1, ms_invokedynamic_2, ms_invokedynamic_3, ms_invokedynamic_4, ms_invokedynamic_5, ms_invokedynamic_6, ms_invokedynamic_7, ms_invokedynamic_8, ms_ireturn, ms_lreturn, ms_dreturn, ms_areturn, ms_return_, Wp_cons, WSC_nx, WSC_cl, WSC_rt, WSC_th, WSC_if, lg, lset, lfree, wide, isRf, isRT, fitK, hgt, margs, mpad, rcv, rdF, rdN, rdI, rdQ, mC_eq, mC_ne, mC_lt, mC_ge, mC_gt, mC_le, mset, mnew, h_fst, h_snd, lt_drop0, List.drop_succ_cons, List.drop_zero, List.drop_nil, List.take_succ_cons, List.take_zero, List.reverse_cons, List.reverse_nil, List.nil_append, List.cons_append, List.append_nil, List.length_cons, List.length_nil, List.getElem?_cons_succ, List.getElem?_cons_zero, List.set_cons_succ, List.set_cons_zero, List.replicate, Option.toList, reduceIte, Bool.not_false, Bool.not_true, Nat.reduceLT, Nat.reduceLeDiff, Nat.reduceAdd, Nat.reduceSub, Nat.reduceMul, Int.reduceLT, Int.reduceLE, Int.reduceNeg, Int.reduceAdd, Int.reduceSub, Int.reduceMul, Int.reduceEq, and_self, true_and, and_true, false_and, and_false, or_false, false_or, true_or, or_true, not_true_eq_false, not_false_eq_true, Bool.false_eq_true, Bool.true_eq_false, decide_true, decide_false, decide_eq_true_eq, Nat.le_refl, Nat.zero_le, ge_iff_le, gt_iff_lt, Nat.lt_irrefl, reduceCtorEq, if_posD, if_negD, w32_id, Int.toNat_natCast, WCo_in, mUp_self, mUp_ne, ne_eq, Bool.true_and, Bool.and_true, Bool.false_and, Bool.and_false, Bool.true_or, Bool.or_true, Bool.false_or, Bool.or_false, Nat.reduceEqDiff, Int.cast_ofNat_Int, Int.reduceToNat, List.getD_cons_succ, List.getD_cons_zero, eq_self, swL, if_true, if_false, nqT, isNl, qL_list_16, MJ4_append_15ec4, MJ4_append_bf812, MJ4_init_da8c8, MJ4_toString_0e30d, MJ7_fill_53178, ML_below, ML_cell, ML_sum, ML_when, MX10_init, GG1, c_bw, c_ce hL, es3, eu3, Ms, Mu, M21, M22, M23, nb1, nb2, ec, hq7, mUp_mUp]
    obtain ⟨FH, hFH⟩ : ∃ FH : MH, FH = (mUp (mUp (mUp (mUp (mUp (mgrid 3 (dN L xs : Int) (dU L xs : Int) h3).1 sm (oS (dN L xs) [x4, qR au, qR h.2.1, qR h3.2.1, x8, x9, x10])) (h3.2.1 + 1 + dN L xs) (cI .boolean (dN L xs) (fun _ => 0))) sm (oS (dN L xs) [x4, qR au, qR h.2.1, qR h3.2.1, qR (h3.2.1 + 1 + dN L xs), x9, x10])) (h3.2.1 + 1 + dN L xs + 1) (cQ (.array .int) (dQ L xs) (fun _ => qN))) sm (oS (dN L xs) [x4, qR au, qR h.2.1, qR h3.2.1, qR (h3.2.1 + 1 + dN L xs), x9, qR (h3.2.1 + 1 + dN L xs + 1)]), h3.2.1 + 1 + dN L xs + 1 + 1, h3.2.2.1 + 1 + dN L xs + 1 + 1, h3.2.2.2 + dN L xs + dN L xs * dU L xs + dN L xs + dQ L xs) := ⟨_, rfl⟩
    rw [← hFH]
    have X4 : TxI h0 tb r0 W (kc + 30) (ks + 200) FH := by
      have X5 : TxI h0 tb r0 W _ _ FH := hFH ▸ X3
      exact X5.up (by omega) (by omega)
    have F0 : ∀ x, x ≠ sm → x ≠ h3.2.1 + 1 + dN L xs → x ≠ h3.2.1 + 1 + dN L xs + 1 → FH.1 x = (mgrid 3 (dN L xs : Int) (dU L xs : Int) h3).1 x := fun x a b c => by
      rw [hFH]
      show mUp (mUp (mUp (mUp (mUp _ _ _) _ _) _ _) _ _) _ _ x = _
      rw [mUp_ne a, mUp_ne c, mUp_ne a, mUp_ne b, mUp_ne a]
    have F1 : FH.2.1 = h3.2.1 + 1 + dN L xs + 1 + 1 := by rw [hFH]
    have F2 : ∀ x, x < h3.2.1 → x ≠ sm → FH.1 x = h3.1 x := fun x a b => (F0 x b (by omega) (by omega)).trans (mg_ne a)
    have FB : FH.1 (h3.2.1 + 1 + dN L xs) = cI .boolean (dN L xs) (fun _ => 0) := by
      rw [hFH]
      show mUp (mUp (mUp (mUp (mUp _ _ _) (h3.2.1 + 1 + dN L xs) _) _ _) (h3.2.1 + 1 + dN L xs + 1) _) _ _ (h3.2.1 + 1 + dN L xs) = _
      rw [mUp_ne (fun e => nb1 e.symm), mUp_ne (by omega), mUp_ne (fun e => nb1 e.symm), mUp_self]
    have FO : FH.1 (h3.2.1 + 1 + dN L xs + 1) = cQ (.array .int) (dQ L xs) (fun _ => qN) := by
      rw [hFH]
      show mUp (mUp _ (h3.2.1 + 1 + dN L xs + 1) _) _ _ (h3.2.1 + 1 + dN L xs + 1) = _
      rw [mUp_ne (fun e => nb2 e.symm), mUp_self]
    have FS : FH.1 sm = oS (dN L xs) [x4, qR au, qR h.2.1, qR h3.2.1, qR (h3.2.1 + 1 + dN L xs), x9, qR (h3.2.1 + 1 + dN L xs + 1)] := by
      rw [hFH]
      exact mUp_self _ _ _
    have a5 : h3.2.1 + 1 + dN L xs = h.2.1 + 2 + 2 * dN L xs := by omega
    have a8 : h3.2.1 + 1 + dN L xs + 1 = h.2.1 + 3 + 2 * dN L xs := by omega
    rw [a8] at FS FO
    rw [a5] at FS FB
    rw [e21] at FS
    refine k FH X4 ⟨by omega, fun x hx ha hn => ?_⟩ FS ⟨by omega, ?_, fun t ht => ?_, ?_, fun t ht => ?_, FB⟩ ⟨_, FO⟩ (by omega) _ _ _ _ rfl rfl w6 rfl
    · rw [F2 x (by omega) ha, elo x (Or.inl (by omega))]
      exact Hlo x hx ha
    · exact ⟨_, (F2 _ (by omega) (fun e => hne e.symm)).trans ((elo _ (Or.inl (by omega))).trans Hg), fun i hi => if_pos hi⟩
    · obtain ⟨g, g1, g2⟩ := erow t ht
      exact ⟨g, (F2 _ (by omega) (by omega)).trans g1, g2⟩
    · refine ⟨fun j => if j < dN L xs then qR (h3.2.1 + 1 + j) else qN, ?_, fun i hi => ?_⟩
      · rw [← e21, F0 _ (by omega) (by omega) (by omega)]
        exact mg_0
      · show (if i < dN L xs then qR (h3.2.1 + 1 + i) else qN) = _
        rw [if_pos hi, e21, show h.2.1 + 1 + dN L xs + 1 + i = h.2.1 + 2 + dN L xs + i by omega]
    · refine ⟨fun _ => 0, ?_, fun _ _ => rfl⟩
      rw [show h.2.1 + 2 + dN L xs + t = h3.2.1 + 1 + t by omega, F0 _ (by omega) (by omega) (by omega), mg_r ht]
      rfl
  -- the loop
  have loop : ∀ (m i : Nat) (h3 : MH) (l6 : MV), wide l6 = false → i + m = dN L xs → h3.2 = H1.2 → (∀ x, (x < h.2.1 + 1 ∨ h.2.1 + 1 + dN L xs ≤ x) → h3.1 x = H1.1 x) → (∀ t, t < i → ∃ g, h3.1 (h.2.1 + 1 + t) = cI .int (dU L xs) g ∧ ∀ j, j < dU L xs → g j = -1) → (∀ t, i ≤ t → t < dN L xs → h3.1 (h.2.1 + 1 + t) = cI .int (dU L xs) (fun _ => 0)) → Wp (GG L xs fm) 7 BL_list (BL_list 13) [qS 998, qR tb, qR sm, qR h.2.1, qI (dN L xs : Nat), qI i, l6, qU] [] h3 P := by
    intro m
    induction m with
    | zero =>
      intro i h3 l6 w6 hi e2 elo e5 e6
      obtain rfl : i = dN L xs := by omega
      have nx := rest h3 l6 (dN L xs : Nat) w6 e2 elo e5
      rw [qL_list_13]
      simp (disch := omega) only [ms_sipush, ms_lconst, ms_ldc2_w, ms_dconst, ms_ldc, ms_getstatic, ms_iload, ms_lload, ms_dload, ms_aload, ms_istore, ms_lstore, ms_dstore, ms_astore, ms_iinc, ms_iadd, ms_isub, ms_imul, ms_idiv, ms_irem, ms_ineg, ms_iand, ms_ior, ms_ishr, ms_ishl, ms_iushr, ms_i2b, ms_i2c, ms_i2l, ms_ladd, ms_lmul, ms_lcmp, ms_i2d, ms_ddiv, ms_dcmp, ms_dup, ms_pop, ms_dup2, ms_dup_x1, ms_aconst_null, ms_ifnull, ms_ifnonnull, ms_checkcast, ms_goto, ms_ifCond, ms_if_icmp, ms_if_acmp_eq, ms_if_acmp_ne, ms_tableswitch, ms_lookupswitch, ms_getfield, ms_putfield, ms_arraylength, ms_iaload, ms_baload, ms_laload, ms_aaload, ms_iastore, ms_bastore, ms_lastore, ms_aastore, ms_newarray, ms_new, ms_anewarray, ms_multianewarray, ms_invokevirtual, ms_invokestatic, ms_invokespecial, ms_invokeinterface, ms_invokedynamic_0, ms_invokedynamic_1, ms_invokedynamic_2, ms_invokedynamic_3, ms_invokedynamic_4, ms_invokedynamic_5, ms_invokedynamic_6, ms_invokedynamic_7, ms_invokedynamic_8, ms_ireturn, ms_lreturn, ms_dreturn, ms_areturn, ms_return_, Wp_cons, WSC_nx, WSC_cl, WSC_rt, WSC_th, WSC_if, lg, lset, lfree, wide, isRf, isRT, fitK, hgt, margs, mpad, rcv, rdF, rdN, rdI, rdQ, mC_eq, mC_ne, mC_lt, mC_ge, mC_gt, mC_le, mset, mnew, h_fst, h_snd, lt_drop0, List.drop_succ_cons, List.drop_zero, List.drop_nil, List.take_succ_cons, List.take_zero, List.reverse_cons, List.reverse_nil, List.nil_append, List.cons_append, List.append_nil, List.length_cons, List.length_nil, List.getElem?_cons_succ, List.getElem?_cons_zero, List.set_cons_succ, List.set_cons_zero, List.replicate, Option.toList, reduceIte, Bool.not_false, Bool.not_true, Nat.reduceLT, Nat.reduceLeDiff, Nat.reduceAdd, Nat.reduceSub, Nat.reduceMul, Int.reduceLT, Int.reduceLE, Int.reduceNeg, Int.reduceAdd, Int.reduceSub, Int.reduceMul, Int.reduceEq, and_self, true_and, and_true, false_and, and_false, or_false, false_or, true_or, or_true, not_true_eq_false, not_false_eq_true, Bool.false_eq_true, Bool.true_eq_false, decide_true, decide_false, decide_eq_true_eq, Nat.le_refl, Nat.zero_le, ge_iff_le, gt_iff_lt, Nat.lt_irrefl, reduceCtorEq, if_posD, if_negD, w32_id, Int.toNat_natCast, WCo_in, mUp_self, mUp_ne, ne_eq, Bool.true_and, Bool.and_true, Bool.false_and, Bool.and_false, Bool.true_or, Bool.or_true, Bool.false_or, Bool.or_false, Nat.reduceEqDiff, Int.cast_ofNat_Int, Int.reduceToNat, List.getD_cons_succ, List.getD_cons_zero, eq_self, swL, if_true, if_false, nqT, isNl]
      exact nx
    | succ m ih =>
      intro i h3 l6 w6 hi e2 elo e5 e6
      have hin : i < dN L xs := by omega
      have eg := (elo h.2.1 (Or.inl (by omega))).trans Hg
      have er := e6 i (Nat.le_refl _) hin
      have ef : (if i < dN L xs then qR (h.2.1 + 1 + i) else qN) = qR (h.2.1 + 1 + i) := if_pos hin
      rw [qL_list_13]
      simp (disch := omega) only [ms_sipush, ms_lconst, ms_ldc2_w, ms_dconst, ms_ldc, ms_getstatic, ms_iload, ms_lload, ms_dload, ms_aload, ms_istore, ms_lstore, ms_dstore, ms_astore, ms_iinc, ms_iadd, ms_isub, ms_imul, ms_idiv, ms_irem, ms_ineg, ms_iand, ms_ior, ms_ishr, ms_ishl, ms_iushr, ms_i2b, ms_i2c, ms_i2l, ms_ladd, ms_lmul, ms_lcmp, ms_i2d, ms_ddiv, ms_dcmp, ms_dup, ms_pop, ms_dup2, ms_dup_x1, ms_aconst_null, ms_ifnull, ms_ifnonnull, ms_checkcast, ms_goto, ms_ifCond, ms_if_icmp, ms_if_acmp_eq, ms_if_acmp_ne, ms_tableswitch, ms_lookupswitch, ms_getfield, ms_putfield, ms_arraylength, ms_iaload, ms_baload, ms_laload, ms_aaload, ms_iastore, ms_bastore, ms_lastore, ms_aastore, ms_newarray, ms_new, ms_anewarray, ms_multianewarray, ms_invokevirtual, ms_invokestatic, ms_invokespecial, ms_invokeinterface, ms_invokedynamic_0, ms_invokedynamic_1, ms_invokedynamic_2, ms_invokedynamic_3, ms_invokedynamic_4, ms_invokedynamic_5, ms_invokedynamic_6, ms_invokedynamic_7, ms_invokedynamic_8, ms_ireturn, ms_lreturn, ms_dreturn, ms_areturn, ms_return_, Wp_cons, WSC_nx, WSC_cl, WSC_rt, WSC_th, WSC_if, lg, lset, lfree, wide, isRf, isRT, fitK, hgt, margs, mpad, rcv, rdF, rdN, rdI, rdQ, mC_eq, mC_ne, mC_lt, mC_ge, mC_gt, mC_le, mset, mnew, h_fst, h_snd, lt_drop0, List.drop_succ_cons, List.drop_zero, List.drop_nil, List.take_succ_cons, List.take_zero, List.reverse_cons, List.reverse_nil, List.nil_append, List.cons_append, List.append_nil, List.length_cons, List.length_nil, List.getElem?_cons_succ, List.getElem?_cons_zero, List.set_cons_succ, List.set_cons_zero, List.replicate, Option.toList, reduceIte, Bool.not_false, Bool.not_true, Nat.reduceLT, Nat.reduceLeDiff, Nat.reduceAdd, Nat.reduceSub, Nat.reduceMul, Int.reduceLT, Int.reduceLE, Int.reduceNeg, Int.reduceAdd, Int.reduceSub, Int.reduceMul, Int.reduceEq, and_self, true_and, and_true, false_and, and_false, or_false, false_or, true_or, or_true, not_true_eq_false, not_false_eq_true, Bool.false_eq_true, Bool.true_eq_false, decide_true, decide_false, decide_eq_true_eq, Nat.le_refl, Nat.zero_le, ge_iff_le, gt_iff_lt, Nat.lt_irrefl, reduceCtorEq, if_posD, if_negD, w32_id, Int.toNat_natCast, WCo_in, mUp_self, mUp_ne, ne_eq, Bool.true_and, Bool.and_true, Bool.false_and, Bool.and_false, Bool.true_or, Bool.or_true, Bool.false_or, Bool.or_false, Nat.reduceEqDiff, Int.cast_ofNat_Int, Int.reduceToNat, List.getD_cons_succ, List.getD_cons_zero, eq_self, swL, if_true, if_false, nqT, isNl, qL_list_14, MJ4_append_15ec4, MJ4_append_bf812, MJ4_init_da8c8, MJ4_toString_0e30d, MJ7_fill_53178, ML_below, ML_cell, ML_sum, ML_when, MX10_init, GG1, eg, ef, w6]
      refine WCl_of (fl_all er (by omega)) (by omega) (fun v h4 hv => ?_)
      obtain ⟨rfl, f1, ⟨g, f2, f3⟩, f4⟩ := hv
      have nx := ih (i + 1) h4 (qR (h.2.1 + 1 + i)) rfl (by omega) (f1.trans e2) (fun x hx => (f4 x (by omega)).trans (elo x hx)) (fun t ht => by
        by_cases hti : t = i
        · rw [hti]
          exact ⟨g, f2, f3⟩
        · obtain ⟨g', b1, b2⟩ := e5 t (by omega)
          exact ⟨g', (f4 _ (by omega)).trans b1, b2⟩) (fun t h5 h6 => (f4 _ (by omega)).trans (e6 t (by omega) h6))
      simp (disch := omega) only [ms_sipush, ms_lconst, ms_ldc2_w, ms_dconst, ms_ldc, ms_getstatic, ms_iload, ms_lload, ms_dload, ms_aload, ms_istore, ms_lstore, ms_dstore, ms_astore, ms_iinc, ms_iadd, ms_isub, ms_imul, ms_idiv, ms_irem, ms_ineg, ms_iand, ms_ior, ms_ishr, ms_ishl, ms_iushr, ms_i2b, ms_i2c, ms_i2l, ms_ladd, ms_lmul, ms_lcmp, ms_i2d, ms_ddiv, ms_dcmp, ms_dup, ms_pop, ms_dup2, ms_dup_x1, ms_aconst_null, ms_ifnull, ms_ifnonnull, ms_checkcast, ms_goto, ms_ifCond, ms_if_icmp, ms_if_acmp_eq, ms_if_acmp_ne, ms_tableswitch, ms_lookupswitch, ms_getfield, ms_putfield, ms_arraylength, ms_iaload, ms_baload, ms_laload, ms_aaload, ms_iastore, ms_bastore, ms_lastore, ms_aastore, ms_newarray, ms_new, ms_anewarray, ms_multianewarray, ms_invokevirtual, ms_invokestatic, ms_invokespecial, ms_invokeinterface, ms_invokedynamic_0, ms_invokedynamic_1, ms_invokedynamic_2, ms_invokedynamic_3, ms_invokedynamic_4, ms_invokedynamic_5, ms_invokedynamic_6, ms_invokedynamic_7, ms_invokedynamic_8, ms_ireturn, ms_lreturn, ms_dreturn, ms_areturn, ms_return_, Wp_cons, WSC_nx, WSC_cl, WSC_rt, WSC_th, WSC_if, lg, lset, lfree, wide, isRf, isRT, fitK, hgt, margs, mpad, rcv, rdF, rdN, rdI, rdQ, mC_eq, mC_ne, mC_lt, mC_ge, mC_gt, mC_le, mset, mnew, h_fst, h_snd, lt_drop0, List.drop_succ_cons, List.drop_zero, List.drop_nil, List.take_succ_cons, List.take_zero, List.reverse_cons, List.reverse_nil, List.nil_append, List.cons_append, List.append_nil, List.length_cons, List.length_nil, List.getElem?_cons_succ, List.getElem?_cons_zero, List.set_cons_succ, List.set_cons_zero, List.replicate, Option.toList, reduceIte, Bool.not_false, Bool.not_true, Nat.reduceLT, Nat.reduceLeDiff, Nat.reduceAdd, Nat.reduceSub, Nat.reduceMul, Int.reduceLT, Int.reduceLE, Int.reduceNeg, Int.reduceAdd, Int.reduceSub, Int.reduceMul, Int.reduceEq, and_self, true_and, and_true, false_and, and_false, or_false, false_or, true_or, or_true, not_true_eq_false, not_false_eq_true, Bool.false_eq_true, Bool.true_eq_false, decide_true, decide_false, decide_eq_true_eq, Nat.le_refl, Nat.zero_le, ge_iff_le, gt_iff_lt, Nat.lt_irrefl, reduceCtorEq, if_posD, if_negD, w32_id, Int.toNat_natCast, WCo_in, mUp_self, mUp_ne, ne_eq, Bool.true_and, Bool.and_true, Bool.false_and, Bool.and_false, Bool.true_or, Bool.or_true, Bool.false_or, Bool.or_false, Nat.reduceEqDiff, Int.cast_ofNat_Int, Int.reduceToNat, List.getD_cons_succ, List.getD_cons_zero, eq_self, swL, if_true, if_false, nqT, isNl, qL_list_14, MJ4_append_15ec4, MJ4_append_bf812, MJ4_init_da8c8, MJ4_toString_0e30d, MJ7_fill_53178, ML_below, ML_cell, ML_sum, ML_when, MX10_init, GG1]
      exact nx
  have nx := loop (dN L xs) 0 H1 l6 v6 (by omega) rfl (fun _ _ => rfl) (fun t ht => absurd ht (Nat.not_lt_zero _)) (fun t _ ht => Hr t ht)
  rw [hH1] at nx
  have Hg2 : (mgrid 0 (dN L xs : Int) (dU L xs : Int) h).1 h.2.1 = cQ (.array .int) (dN L xs) (fun j => if j < dN L xs then qR (h.2.1 + 1 + j) else qN) := mg_0
  rw [qL_list_12]
  simp (disch := omega) only [ms_sipush, ms_lconst, ms_ldc2_w, ms_dconst, ms_ldc, ms_getstatic, ms_iload, ms_lload, ms_dload, ms_aload, ms_istore, ms_lstore, ms_dstore, ms_astore, ms_iinc, ms_iadd, ms_isub, ms_imul, ms_idiv, ms_irem, ms_ineg, ms_iand, ms_ior, ms_ishr, ms_ishl, ms_iushr, ms_i2b, ms_i2c, ms_i2l, ms_ladd, ms_lmul, ms_lcmp, ms_i2d, ms_ddiv, ms_dcmp, ms_dup, ms_pop, ms_dup2, ms_dup_x1, ms_aconst_null, ms_ifnull, ms_ifnonnull, ms_checkcast, ms_goto, ms_ifCond, ms_if_icmp, ms_if_acmp_eq, ms_if_acmp_ne, ms_tableswitch, ms_lookupswitch, ms_getfield, ms_putfield, ms_arraylength, ms_iaload, ms_baload, ms_laload, ms_aaload, ms_iastore, ms_bastore, ms_lastore, ms_aastore, ms_newarray, ms_new, ms_anewarray, ms_multianewarray, ms_invokevirtual, ms_invokestatic, ms_invokespecial, ms_invokeinterface, ms_invokedynamic_0, ms_invokedynamic_1, ms_invokedynamic_2, ms_invokedynamic_3, ms_invokedynamic_4, ms_invokedynamic_5, ms_invokedynamic_6, ms_invokedynamic_7, ms_invokedynamic_8, ms_ireturn, ms_lreturn, ms_dreturn, ms_areturn, ms_return_, Wp_cons, WSC_nx, WSC_cl, WSC_rt, WSC_th, WSC_if, lg, lset, lfree, wide, isRf, isRT, fitK, hgt, margs, mpad, rcv, rdF, rdN, rdI, rdQ, mC_eq, mC_ne, mC_lt, mC_ge, mC_gt, mC_le, mset, mnew, h_fst, h_snd, lt_drop0, List.drop_succ_cons, List.drop_zero, List.drop_nil, List.take_succ_cons, List.take_zero, List.reverse_cons, List.reverse_nil, List.nil_append, List.cons_append, List.append_nil, List.length_cons, List.length_nil, List.getElem?_cons_succ, List.getElem?_cons_zero, List.set_cons_succ, List.set_cons_zero, List.replicate, Option.toList, reduceIte, Bool.not_false, Bool.not_true, Nat.reduceLT, Nat.reduceLeDiff, Nat.reduceAdd, Nat.reduceSub, Nat.reduceMul, Int.reduceLT, Int.reduceLE, Int.reduceNeg, Int.reduceAdd, Int.reduceSub, Int.reduceMul, Int.reduceEq, and_self, true_and, and_true, false_and, and_false, or_false, false_or, true_or, or_true, not_true_eq_false, not_false_eq_true, Bool.false_eq_true, Bool.true_eq_false, decide_true, decide_false, decide_eq_true_eq, Nat.le_refl, Nat.zero_le, ge_iff_le, gt_iff_lt, Nat.lt_irrefl, reduceCtorEq, if_posD, if_negD, w32_id, Int.toNat_natCast, WCo_in, mUp_self, mUp_ne, ne_eq, Bool.true_and, Bool.and_true, Bool.false_and, Bool.and_false, Bool.true_or, Bool.or_true, Bool.false_or, Bool.or_false, Nat.reduceEqDiff, Int.cast_ofNat_Int, Int.reduceToNat, List.getD_cons_succ, List.getD_cons_zero, eq_self, swL, if_true, if_false, nqT, isNl, qL_list_14, MJ4_append_15ec4, MJ4_append_bf812, MJ4_init_da8c8, MJ4_toString_0e30d, MJ7_fill_53178, ML_below, ML_cell, ML_sum, ML_when, MX10_init, GG1, e0, eu, ms, mu, Hg2, hne, v4, v5]
  exact nx
end LST3
