/-! ===== THE CLASS LETS HOURS GO BY ===== -/
/-- a plan's orders stand in its rows -/
def OdR (cl tc : Nat) (kd : Nat → Nat) (P : Nat → Nat → Int) (o : Nat) (od : Nat → Od) : Prop := ∀ i, i < o → (0 ≤ P 12 i ∧ P 12 i < 401) ∧ kdO tc kd (P 12 i) = (od i).1 ∧ vlO tc (P 4) (P 12 i + 1) = (((od i).2.1 : Nat) : Int) ∧ ∃ p M1 M2 : Nat, P 13 i = (p : Int) ∧ P 14 i = ((p + M1 : Nat) : Int) ∧ P 15 i = ((p + M1 + M2 : Nat) : Int) ∧ p + M1 + M2 ≤ cl ∧ (od i).2.2.2 = codeL tc kd (P 4) (P 6) p M1 ∧ (od i).2.2.1 = codeL tc kd (P 4) (P 6) (p + M1) M2
/-- the plan at pb is Q, and m0 are the miles that were told -/
def PlV (hc : Nat → MC) (pb : Nat) (Q : Pn) (m0 : Nat → Int) : Prop := ∃ (cl tc : Nat) (kd : Nat → Nat) (sp : Nat → Int) (P : Nat → Nat → Int), PlA hc pb cl Q.1 Q.2.1 Q.2.2.1 Q.2.2.2.1 tc kd sp P ∧ tc ≤ 401 ∧ cl ≤ 400 ∧ (∀ i, i < cl → 0 ≤ P 6 i ∧ P 6 i < 401) ∧ (∀ r, r < Q.2.1 → P 7 r = (Q.2.2.2.2.1 r : Int) ∧ P 8 r = (Q.2.2.2.2.2.1 r : Int) ∧ P 9 r = m0 r) ∧ (∀ k, k < Q.2.2.1 → P 10 k = (Q.2.2.2.2.2.2.1 k : Int) ∧ P 11 k = Q.2.2.2.2.2.2.2.1 k) ∧ OdR cl tc kd P Q.2.2.2.1 Q.2.2.2.2.2.2.2.2
/-- the land at b, with its plan at pb, is in the state S -/
def LaV (hc : Nat → MC) (b pb : Nat) (Q : Pn) (S : St8) : Prop := RoV hc (b + 1) Q.1 Q.2.1 Q.2.2.2.2.1 Q.2.2.2.2.2.1 S.2.2.2.1 S.2.2.2.2.1 ∧ ∃ (ht : Nat) (F : Nat → Nat → Int), LaA hc b pb S.1 S.2.1 S.2.2.1 S.2.2.2.2.2.2.2.length ht F ∧ EqN (6 * Q.1) (F 26) S.2.2.2.2.2.1 ∧ EqN 60 (F 27) S.2.2.2.2.2.2.1 ∧ WsR F S.2.2.2.2.2.2.2
section PASSH
variable {L : Nat} {xs : Nat → Int} {fm : Bool} {h h2 : MH} {hc hc' : Nat → MC} {b pb n c u : Nat} {hr ca lo : Int} {wn ht : Nat} {F : Nat → Nat → Int} {fr to : Nat → Nat} {mi wo he hu se : Nat → Int} {cl tv rd ru o tc : Nat} {kd : Nat → Nat} {sp : Nat → Int} {P : Nat → Nat → Int} {ws : List Wr} {Q : Pn} {S : St8} {m0 : Nat → Int}
theorem PlV.cg (hP : PlV hc pb Q m0) (hf : ∀ a, pb ≤ a → a < pb + 16 → hc' a = hc a) : PlV hc' pb Q m0 := by
  obtain ⟨cl, tc, kd, sp, P, h1, h2⟩ := hP
  exact ⟨cl, tc, kd, sp, P, h1.cg hf, h2⟩
theorem LaA.cg (hR : LaA hc b pb hr ca lo wn ht F) (hf : ∀ a, b ≤ a → a < b + 33 → hc' a = hc a) : LaA hc' b pb hr ca lo wn ht F := by
  obtain ⟨h1, h3, h4⟩ := hR
  refine ⟨by rw [hf _ (by omega) (by omega)]; exact h1, by rw [hf _ (by omega) (by omega)]; exact h3, fun k ty m hk => ?_⟩
  have hl := laT_lt hk
  rw [hf _ (by omega) (by omega)]
  exact h4 k ty m hk
theorem LaV.cg (hL : LaV hc b pb Q S) (hf : ∀ a, b ≤ a → a < b + 33 → hc' a = hc a) : LaV hc' b pb Q S := by
  obtain ⟨h1, ht, F, h2, h3⟩ := hL
  exact ⟨h1.cg (fun a h4 h5 => hf a (by omega) (by omega)), ht, F, h2.cg hf, h3⟩
theorem knw_cg {f g : Nat → Int} {k : Nat} (hE : EqN (6 * n) f g) (hk : k < 6) : knw f n k = knw g n k := sumI_congr (fun t ht => by rw [hE _ (by omega)])
theorem fct_cg {f g : Nat → Int} {x : Tk} (hE : EqN (6 * n) f g) (hu6 : u ≤ 6) (hx : TkOk n c u x) : fct n c fr to mi wo hr f x = fct n c fr to mi wo hr g x := by
  have h17 : x.1 = 17 → knw f n x.2.2.1.toNat = knw g n x.2.2.1.toNat := by
    intro h17
    obtain ⟨-, hx⟩ := hx
    rw [h17] at hx
    rcases hx with hx | hx | hx | hx | ⟨hx, -⟩ | ⟨-, k, hk, hv⟩ | ⟨hx, -⟩ | ⟨hx, -⟩
    · exact absurd hx (by decide)
    · exact absurd hx (by decide)
    · omega
    · omega
    · omega
    · rw [hv, Int.toNat_natCast]
      exact knw_cg hE (by omega)
    · omega
    · omega
  have h19 : x.1 = 19 → f (x.2.2.1.toNat * 6 + x.2.2.2.toNat) = g (x.2.2.1.toNat * 6 + x.2.2.2.toNat) := by
    intro h19
    obtain ⟨-, hx⟩ := hx
    rw [h19] at hx
    rcases hx with hx | hx | hx | hx | ⟨hx, -⟩ | ⟨hx, -⟩ | ⟨hx, -⟩ | ⟨-, t, ht, hv, k, hk, hv2⟩
    · exact absurd hx (by decide)
    · exact absurd hx (by decide)
    · omega
    · omega
    · omega
    · omega
    · omega
    · rw [hv, hv2, Int.toNat_natCast, Int.toNat_natCast]
      exact hE _ (by omega)
  unfold fct
  by_cases a17 : x.1 = 17
  · simp [a17, h17 a17]
  · by_cases a19 : x.1 = 19
    · simp [a19, h19 a19]
    · simp [a17, a19]
theorem rpn_cg {f g : Nat → Int} {l : List Tk} (hE : EqN (6 * n) f g) (hu6 : u ≤ 6) (hl : ∀ x, x ∈ l → TkOk n c u x) : rpn (fct n c fr to mi wo hr f) l = rpn (fct n c fr to mi wo hr g) l := by
  have key : ∀ (l : List Tk) (st : List Int), (∀ x, x ∈ l → TkOk n c u x) → l.foldl (rpn1 (fct n c fr to mi wo hr f)) st = l.foldl (rpn1 (fct n c fr to mi wo hr g)) st := by
    intro l
    induction l with
    | nil => intro st _; rfl
    | cons x l ih =>
      intro st hl
      rw [List.foldl_cons, List.foldl_cons]
      have h1 : rpn1 (fct n c fr to mi wo hr f) st x = rpn1 (fct n c fr to mi wo hr g) st x := by
        unfold rpn1
        rw [fct_cg hE hu6 (hl x List.mem_cons_self)]
      rw [h1]
      exact ih _ (fun y hy => hl y (List.mem_cons_of_mem _ hy))
  unfold rpn
  rw [key l [] hl]
theorem la_give (hV : RoV h.1 (b + 1) n c fr to mi wo) (hL : LaA h.1 b pb hr ca lo wn ht F) (hP : PlA h.1 pb cl n rd u o tc kd sp P) (hsep : pb + 16 ≤ b) (htc : tc ≤ 401) (hu6 : u ≤ 6) (hcl : cl ≤ 400) (ho : o ≤ 20) (hcode : ∀ i, i < cl → 0 ≤ P 6 i ∧ P 6 i < 401) {od : Nat → Od} (hod : OdR cl tc kd P o od) (hok : ∀ i, i < o → OdOk n c u (od i)) (hE : EqN (6 * n) (F 26) he) :
    Sp (GG L xs fm) 4 mX3_giveOrders [qR b] h (fun v h2 => v = .inl none ∧ Fm b 33 h h2 ∧ RoV h2.1 (b + 1) n c fr to mi (ordK n c fr to mi hr he od (wo, fun _ => 0, ca) o).1 ∧ ∃ ht F', LaA h2.1 b pb hr (ordK n c fr to mi hr he od (wo, fun _ => 0, ca) o).2.2 lo wn ht F' ∧ EqN 10 (F' 28) (ordK n c fr to mi hr he od (wo, fun _ => 0, ca) o).2.1 ∧ ∀ k, k ≠ 25 → k ≠ 28 → F' k = F k) := by
  refine Sp_of MX3_giveOrders ?_
  generalize hPost : (fun (v : Option MV ⊕ Nat) (h2 : MH) => v = .inl none ∧ Fm b 33 h h2 ∧ RoV h2.1 (b + 1) n c fr to mi (ordK n c fr to mi hr he od (wo, fun _ => 0, ca) o).1 ∧ ∃ ht F', LaA h2.1 b pb hr (ordK n c fr to mi hr he od (wo, fun _ => 0, ca) o).2.2 lo wn ht F' ∧ EqN 10 (F' 28) (ordK n c fr to mi hr he od (wo, fun _ => 0, ca) o).2.1 ∧ ∀ k, k ≠ 25 → k ≠ 28 → F' k = F k) = Post
  have loop : ∀ (m i : Nat) (ht : Nat) (F' : Nat → Nat → Int) (h2 : MH) (l2 l3 : MV), wide l2 = false → wide l3 = false → i + m = o → RoV h2.1 (b + 1) n c fr to mi (ordK n c fr to mi hr he od (wo, fun _ => 0, ca) i).1 → LaA h2.1 b pb hr (ordK n c fr to mi hr he od (wo, fun _ => 0, ca) i).2.2 lo wn ht F' → EqN 10 (F' 28) (ordK n c fr to mi hr he od (wo, fun _ => 0, ca) i).2.1 → (∀ k, k ≠ 25 → k ≠ 28 → F' k = F k) → Fm b 33 h h2 → Wp (GG L xs fm) 4 BX3_giveOrders (BX3_giveOrders 3) [qR b, qI i, l2, l3] [] h2 Post := by
    intro m
    induction m with
    | zero =>
      intro i ht F' h2 l2 l3 w2 w3 hi v2 hL2 hH hF f2
      obtain rfl : i = o := by omega
      have e0 := hL2.1
      have p0 := (hP.cg (hc' := h2.1) (fun a h1 h3 => f2.2 a (by omega))).1
      rw [qX3_giveOrders_3]
      simp (disch := omega) only [ms_sipush, ms_lconst, ms_ldc2_w, ms_dconst, ms_ldc, ms_getstatic, ms_iload, ms_lload, ms_dload, ms_aload, ms_istore, ms_lstore, ms_dstore, ms_astore, ms_iinc, ms_iadd, ms_isub, ms_imul, ms_idiv, ms_irem, ms_ineg, ms_iand, ms_ior, ms_ishr, ms_iushr, ms_i2b, ms_i2c, ms_i2l, ms_ladd, ms_lmul, ms_lcmp, ms_i2d, ms_ddiv, ms_dcmp, ms_dup, ms_pop, ms_dup2, ms_goto, ms_ifCond, ms_if_icmp, ms_if_acmp_eq, ms_if_acmp_ne, ms_tableswitch, ms_lookupswitch, ms_getfield, ms_putfield, ms_arraylength, ms_iaload, ms_baload, ms_laload, ms_aaload, ms_iastore, ms_bastore, ms_lastore, ms_aastore, ms_newarray, ms_new, ms_anewarray, ms_multianewarray, ms_invokevirtual, ms_invokestatic, ms_invokespecial, ms_invokedynamic_0, ms_invokedynamic_1, ms_invokedynamic_2, ms_invokedynamic_3, ms_invokedynamic_4, ms_invokedynamic_5, ms_ireturn, ms_lreturn, ms_dreturn, ms_areturn, ms_return_, Wp_cons, WSC_nx, WSC_cl, WSC_rt, WSC_th, WSC_if, lg, lset, lfree, wide, isRf, isRT, fitK, hgt, margs, mpad, rcv, rdF, rdN, rdI, rdQ, mC_eq, mC_ne, mC_lt, mC_ge, mC_gt, mC_le, mset, mnew, h_fst, h_snd, lt_drop0, List.drop_succ_cons, List.drop_zero, List.drop_nil, List.take_succ_cons, List.take_zero, List.reverse_cons, List.reverse_nil, List.nil_append, List.cons_append, List.append_nil, List.length_cons, List.length_nil, List.getElem?_cons_succ, List.getElem?_cons_zero, List.set_cons_succ, List.set_cons_zero, List.replicate, Option.toList, reduceIte, Bool.not_false, Bool.not_true, Nat.reduceLT, Nat.reduceLeDiff, Nat.reduceAdd, Nat.reduceSub, Nat.reduceMul, Int.reduceLT, Int.reduceLE, Int.reduceNeg, Int.reduceAdd, Int.reduceSub, Int.reduceMul, Int.reduceEq, and_self, true_and, and_true, false_and, and_false, or_false, false_or, true_or, or_true, not_true_eq_false, not_false_eq_true, Bool.false_eq_true, Bool.true_eq_false, decide_true, decide_false, decide_eq_true_eq, Nat.le_refl, Nat.zero_le, ge_iff_le, gt_iff_lt, Nat.lt_irrefl, reduceCtorEq, if_posD, if_negD, w32_id, Int.toNat_natCast, WCo_in, mUp_self, mUp_ne, ne_eq, Bool.true_and, Bool.and_true, Bool.false_and, Bool.and_false, Bool.true_or, Bool.or_true, Bool.false_or, Bool.or_false, Nat.reduceEqDiff, Int.cast_ofNat_Int, Int.reduceToNat, List.getD_cons_succ, List.getD_cons_zero, eq_self, swL, if_true, if_false, e0, p0, qX3_giveOrders_7, MX3_carryOut, MX6_reckon, GG1]
      rw [← hPost]
      exact ⟨rfl, f2, v2, ht, F', hL2, hH, hF⟩
    | succ m ih =>
      intro i ht F' h2 l2 l3 w2 w3 hi v2 hL2 hH hF f2
      have e0 := hL2.1
      have e24 := hL2.2.1
      have hP2 := hP.cg (hc' := h2.1) (fun a h1 h3 => f2.2 a (by omega))
      have p0 := hP2.1
      have p13 := hP2.2.2.2.2.2 13 _ _ rfl
      have p14 := hP2.2.2.2.2.2 14 _ _ rfl
      have p15 := hP2.2.2.2.2.2 15 _ _ rfl
      obtain ⟨ho1, ho2, ho3, p, M1, M2, ho4, ho5, ho6, ho7, ho8, ho9⟩ := hod i (by omega)
      obtain ⟨hk1, hk2, hk3⟩ := hok i (by omega)
      have hi20 : i < 20 := by omega
      have hst : ordK n c fr to mi hr he od (wo, fun _ => 0, ca) (i + 1) = ordS n c fr to mi hr he (od i) (ordK n c fr to mi hr he od (wo, fun _ => 0, ca) i) := rfl
      have ih := ih (i + 1)
      rw [hst] at ih
      have hh01 := ordK_hu (n := n) (c := c) (fr := fr) (to := to) (mi := mi) (hr := hr) (he := he) (od := od) (S := (wo, fun _ => 0, ca)) (fun _ => Or.inl rfl) i
      generalize ordK n c fr to mi hr he od (wo, fun _ => 0, ca) i = T at *
      have h26 : F' 26 = F 26 := hF 26 (by omega) (by omega)
      have hr1 := la_reckon (L := L) (xs := xs) (fm := fm) v2 hL2 hP2 hsep htc hu6 hcl (p0 := p + M1) (M := M2) ho7 hcode (by rw [← ho9]; exact hk2)
      rw [← ho9, h26, rpn_cg hE hu6 hk2] at hr1
      rw [qX3_giveOrders_3]
      simp (disch := omega) only [ms_sipush, ms_lconst, ms_ldc2_w, ms_dconst, ms_ldc, ms_getstatic, ms_iload, ms_lload, ms_dload, ms_aload, ms_istore, ms_lstore, ms_dstore, ms_astore, ms_iinc, ms_iadd, ms_isub, ms_imul, ms_idiv, ms_irem, ms_ineg, ms_iand, ms_ior, ms_ishr, ms_iushr, ms_i2b, ms_i2c, ms_i2l, ms_ladd, ms_lmul, ms_lcmp, ms_i2d, ms_ddiv, ms_dcmp, ms_dup, ms_pop, ms_dup2, ms_goto, ms_ifCond, ms_if_icmp, ms_if_acmp_eq, ms_if_acmp_ne, ms_tableswitch, ms_lookupswitch, ms_getfield, ms_putfield, ms_arraylength, ms_iaload, ms_baload, ms_laload, ms_aaload, ms_iastore, ms_bastore, ms_lastore, ms_aastore, ms_newarray, ms_new, ms_anewarray, ms_multianewarray, ms_invokevirtual, ms_invokestatic, ms_invokespecial, ms_invokedynamic_0, ms_invokedynamic_1, ms_invokedynamic_2, ms_invokedynamic_3, ms_invokedynamic_4, ms_invokedynamic_5, ms_ireturn, ms_lreturn, ms_dreturn, ms_areturn, ms_return_, Wp_cons, WSC_nx, WSC_cl, WSC_rt, WSC_th, WSC_if, lg, lset, lfree, wide, isRf, isRT, fitK, hgt, margs, mpad, rcv, rdF, rdN, rdI, rdQ, mC_eq, mC_ne, mC_lt, mC_ge, mC_gt, mC_le, mset, mnew, h_fst, h_snd, lt_drop0, List.drop_succ_cons, List.drop_zero, List.drop_nil, List.take_succ_cons, List.take_zero, List.reverse_cons, List.reverse_nil, List.nil_append, List.cons_append, List.append_nil, List.length_cons, List.length_nil, List.getElem?_cons_succ, List.getElem?_cons_zero, List.set_cons_succ, List.set_cons_zero, List.replicate, Option.toList, reduceIte, Bool.not_false, Bool.not_true, Nat.reduceLT, Nat.reduceLeDiff, Nat.reduceAdd, Nat.reduceSub, Nat.reduceMul, Int.reduceLT, Int.reduceLE, Int.reduceNeg, Int.reduceAdd, Int.reduceSub, Int.reduceMul, Int.reduceEq, and_self, true_and, and_true, false_and, and_false, or_false, false_or, true_or, or_true, not_true_eq_false, not_false_eq_true, Bool.false_eq_true, Bool.true_eq_false, decide_true, decide_false, decide_eq_true_eq, Nat.le_refl, Nat.zero_le, ge_iff_le, gt_iff_lt, Nat.lt_irrefl, reduceCtorEq, if_posD, if_negD, w32_id, Int.toNat_natCast, WCo_in, mUp_self, mUp_ne, ne_eq, Bool.true_and, Bool.and_true, Bool.false_and, Bool.and_false, Bool.true_or, Bool.or_true, Bool.false_or, Bool.or_false, Nat.reduceEqDiff, Int.cast_ofNat_Int, Int.reduceToNat, List.getD_cons_succ, List.getD_cons_zero, eq_self, swL, if_true, if_false, e0, e24, p0, p14, p15, ho5, ho6, w2, w3]
      refine WCl_of hr1 (by omega) (fun v h3 hv => ?_)
      obtain ⟨rfl, f3, v3, ht3, g3, hL3⟩ := hv
      have f23 := f2.tr f3
      have hP3 := hP.cg (hc' := h3.1) (fun a h1 h3 => f23.2 a (by omega))
      have hF3 : ∀ k, k ≠ 25 → k ≠ 28 → (mUp F' 25 g3) k = F k := fun k h1 h2 => by rw [mUp_ne h1]; exact hF k h1 h2
      have a0 := hL3.1
      have a24 := hL3.2.1
      have q0 := hP3.1
      have q13 := hP3.2.2.2.2.2 13 _ _ rfl
      have q14 := hP3.2.2.2.2.2 14 _ _ rfl
      have hr2 := la_reckon (L := L) (xs := xs) (fm := fm) v3 hL3 hP3 hsep htc hu6 hcl (p0 := p) (M := M1) (by omega) hcode (by rw [← ho8]; exact hk3)
      rw [← ho8, hF3 26 (by omega) (by omega), rpn_cg hE hu6 hk3] at hr2
      have nxt : ∀ (ht : Nat) (F' : Nat → Nat → Int) (h4 : MH) (T' : OS) (l2 l3 : MV), wide l2 = false → wide l3 = false → ordS n c fr to mi hr he (od i) T = T' → RoV h4.1 (b + 1) n c fr to mi T'.1 → LaA h4.1 b pb hr T'.2.2 lo wn ht F' → EqN 10 (F' 28) T'.2.1 → (∀ k, k ≠ 25 → k ≠ 28 → F' k = F k) → Fm b 33 h h4 → Wp (GG L xs fm) 4 BX3_giveOrders (BX3_giveOrders 6) [qR b, qI i, l2, l3] [] h4 Post := by
        intro ht F' h4 T' l2 l3 w2 w3 hT' q1 q2 q3 q4 q5
        rw [hT'] at ih
        have := ih ht F' h4 l2 l3 w2 w3 (by omega) q1 q2 q3 q4 q5
        rw [Int.natCast_add] at this
        simp (disch := omega) only [ms_sipush, ms_lconst, ms_ldc2_w, ms_dconst, ms_ldc, ms_getstatic, ms_iload, ms_lload, ms_dload, ms_aload, ms_istore, ms_lstore, ms_dstore, ms_astore, ms_iinc, ms_iadd, ms_isub, ms_imul, ms_idiv, ms_irem, ms_ineg, ms_iand, ms_ior, ms_ishr, ms_iushr, ms_i2b, ms_i2c, ms_i2l, ms_ladd, ms_lmul, ms_lcmp, ms_i2d, ms_ddiv, ms_dcmp, ms_dup, ms_pop, ms_dup2, ms_goto, ms_ifCond, ms_if_icmp, ms_if_acmp_eq, ms_if_acmp_ne, ms_tableswitch, ms_lookupswitch, ms_getfield, ms_putfield, ms_arraylength, ms_iaload, ms_baload, ms_laload, ms_aaload, ms_iastore, ms_bastore, ms_lastore, ms_aastore, ms_newarray, ms_new, ms_anewarray, ms_multianewarray, ms_invokevirtual, ms_invokestatic, ms_invokespecial, ms_invokedynamic_0, ms_invokedynamic_1, ms_invokedynamic_2, ms_invokedynamic_3, ms_invokedynamic_4, ms_invokedynamic_5, ms_ireturn, ms_lreturn, ms_dreturn, ms_areturn, ms_return_, Wp_cons, WSC_nx, WSC_cl, WSC_rt, WSC_th, WSC_if, lg, lset, lfree, wide, isRf, isRT, fitK, hgt, margs, mpad, rcv, rdF, rdN, rdI, rdQ, mC_eq, mC_ne, mC_lt, mC_ge, mC_gt, mC_le, mset, mnew, h_fst, h_snd, lt_drop0, List.drop_succ_cons, List.drop_zero, List.drop_nil, List.take_succ_cons, List.take_zero, List.reverse_cons, List.reverse_nil, List.nil_append, List.cons_append, List.append_nil, List.length_cons, List.length_nil, List.getElem?_cons_succ, List.getElem?_cons_zero, List.set_cons_succ, List.set_cons_zero, List.replicate, Option.toList, reduceIte, Bool.not_false, Bool.not_true, Nat.reduceLT, Nat.reduceLeDiff, Nat.reduceAdd, Nat.reduceSub, Nat.reduceMul, Int.reduceLT, Int.reduceLE, Int.reduceNeg, Int.reduceAdd, Int.reduceSub, Int.reduceMul, Int.reduceEq, and_self, true_and, and_true, false_and, and_false, or_false, false_or, true_or, or_true, not_true_eq_false, not_false_eq_true, Bool.false_eq_true, Bool.true_eq_false, decide_true, decide_false, decide_eq_true_eq, Nat.le_refl, Nat.zero_le, ge_iff_le, gt_iff_lt, Nat.lt_irrefl, reduceCtorEq, if_posD, if_negD, w32_id, Int.toNat_natCast, WCo_in, mUp_self, mUp_ne, ne_eq, Bool.true_and, Bool.and_true, Bool.false_and, Bool.and_false, Bool.true_or, Bool.or_true, Bool.false_or, Bool.or_false, Nat.reduceEqDiff, Int.cast_ofNat_Int, Int.reduceToNat, List.getD_cons_succ, List.getD_cons_zero, eq_self, swL, if_true, if_false, qX3_giveOrders_6, MX3_carryOut, MX6_reckon, GG1]
        exact this
      by_cases hz : rpn (fct n c fr to mi T.1 hr he) (od i).2.2.1 = 0
      · have hT' : ordS n c fr to mi hr he (od i) T = T := if_pos hz
        simp (disch := omega) only [ms_sipush, ms_lconst, ms_ldc2_w, ms_dconst, ms_ldc, ms_getstatic, ms_iload, ms_lload, ms_dload, ms_aload, ms_istore, ms_lstore, ms_dstore, ms_astore, ms_iinc, ms_iadd, ms_isub, ms_imul, ms_idiv, ms_irem, ms_ineg, ms_iand, ms_ior, ms_ishr, ms_iushr, ms_i2b, ms_i2c, ms_i2l, ms_ladd, ms_lmul, ms_lcmp, ms_i2d, ms_ddiv, ms_dcmp, ms_dup, ms_pop, ms_dup2, ms_goto, ms_ifCond, ms_if_icmp, ms_if_acmp_eq, ms_if_acmp_ne, ms_tableswitch, ms_lookupswitch, ms_getfield, ms_putfield, ms_arraylength, ms_iaload, ms_baload, ms_laload, ms_aaload, ms_iastore, ms_bastore, ms_lastore, ms_aastore, ms_newarray, ms_new, ms_anewarray, ms_multianewarray, ms_invokevirtual, ms_invokestatic, ms_invokespecial, ms_invokedynamic_0, ms_invokedynamic_1, ms_invokedynamic_2, ms_invokedynamic_3, ms_invokedynamic_4, ms_invokedynamic_5, ms_ireturn, ms_lreturn, ms_dreturn, ms_areturn, ms_return_, Wp_cons, WSC_nx, WSC_cl, WSC_rt, WSC_th, WSC_if, lg, lset, lfree, wide, isRf, isRT, fitK, hgt, margs, mpad, rcv, rdF, rdN, rdI, rdQ, mC_eq, mC_ne, mC_lt, mC_ge, mC_gt, mC_le, mset, mnew, h_fst, h_snd, lt_drop0, List.drop_succ_cons, List.drop_zero, List.drop_nil, List.take_succ_cons, List.take_zero, List.reverse_cons, List.reverse_nil, List.nil_append, List.cons_append, List.append_nil, List.length_cons, List.length_nil, List.getElem?_cons_succ, List.getElem?_cons_zero, List.set_cons_succ, List.set_cons_zero, List.replicate, Option.toList, reduceIte, Bool.not_false, Bool.not_true, Nat.reduceLT, Nat.reduceLeDiff, Nat.reduceAdd, Nat.reduceSub, Nat.reduceMul, Int.reduceLT, Int.reduceLE, Int.reduceNeg, Int.reduceAdd, Int.reduceSub, Int.reduceMul, Int.reduceEq, and_self, true_and, and_true, false_and, and_false, or_false, false_or, true_or, or_true, not_true_eq_false, not_false_eq_true, Bool.false_eq_true, Bool.true_eq_false, decide_true, decide_false, decide_eq_true_eq, Nat.le_refl, Nat.zero_le, ge_iff_le, gt_iff_lt, Nat.lt_irrefl, reduceCtorEq, if_posD, if_negD, w32_id, Int.toNat_natCast, WCo_in, mUp_self, mUp_ne, ne_eq, Bool.true_and, Bool.and_true, Bool.false_and, Bool.and_false, Bool.true_or, Bool.or_true, Bool.false_or, Bool.or_false, Nat.reduceEqDiff, Int.cast_ofNat_Int, Int.reduceToNat, List.getD_cons_succ, List.getD_cons_zero, eq_self, swL, if_true, if_false, hz, a0, a24, q0, q13, q14, ho4, ho5, qX3_giveOrders_4, qX3_giveOrders_5, MX3_carryOut, MX6_reckon, GG1]
        refine WCl_of hr2 (by omega) (fun v h4 hv => ?_)
        obtain ⟨rfl, f4, v4, ht4, g4, hL4⟩ := hv
        simp (disch := omega) only [ms_sipush, ms_lconst, ms_ldc2_w, ms_dconst, ms_ldc, ms_getstatic, ms_iload, ms_lload, ms_dload, ms_aload, ms_istore, ms_lstore, ms_dstore, ms_astore, ms_iinc, ms_iadd, ms_isub, ms_imul, ms_idiv, ms_irem, ms_ineg, ms_iand, ms_ior, ms_ishr, ms_iushr, ms_i2b, ms_i2c, ms_i2l, ms_ladd, ms_lmul, ms_lcmp, ms_i2d, ms_ddiv, ms_dcmp, ms_dup, ms_pop, ms_dup2, ms_goto, ms_ifCond, ms_if_icmp, ms_if_acmp_eq, ms_if_acmp_ne, ms_tableswitch, ms_lookupswitch, ms_getfield, ms_putfield, ms_arraylength, ms_iaload, ms_baload, ms_laload, ms_aaload, ms_iastore, ms_bastore, ms_lastore, ms_aastore, ms_newarray, ms_new, ms_anewarray, ms_multianewarray, ms_invokevirtual, ms_invokestatic, ms_invokespecial, ms_invokedynamic_0, ms_invokedynamic_1, ms_invokedynamic_2, ms_invokedynamic_3, ms_invokedynamic_4, ms_invokedynamic_5, ms_ireturn, ms_lreturn, ms_dreturn, ms_areturn, ms_return_, Wp_cons, WSC_nx, WSC_cl, WSC_rt, WSC_th, WSC_if, lg, lset, lfree, wide, isRf, isRT, fitK, hgt, margs, mpad, rcv, rdF, rdN, rdI, rdQ, mC_eq, mC_ne, mC_lt, mC_ge, mC_gt, mC_le, mset, mnew, h_fst, h_snd, lt_drop0, List.drop_succ_cons, List.drop_zero, List.drop_nil, List.take_succ_cons, List.take_zero, List.reverse_cons, List.reverse_nil, List.nil_append, List.cons_append, List.append_nil, List.length_cons, List.length_nil, List.getElem?_cons_succ, List.getElem?_cons_zero, List.set_cons_succ, List.set_cons_zero, List.replicate, Option.toList, reduceIte, Bool.not_false, Bool.not_true, Nat.reduceLT, Nat.reduceLeDiff, Nat.reduceAdd, Nat.reduceSub, Nat.reduceMul, Int.reduceLT, Int.reduceLE, Int.reduceNeg, Int.reduceAdd, Int.reduceSub, Int.reduceMul, Int.reduceEq, and_self, true_and, and_true, false_and, and_false, or_false, false_or, true_or, or_true, not_true_eq_false, not_false_eq_true, Bool.false_eq_true, Bool.true_eq_false, decide_true, decide_false, decide_eq_true_eq, Nat.le_refl, Nat.zero_le, ge_iff_le, gt_iff_lt, Nat.lt_irrefl, reduceCtorEq, if_posD, if_negD, w32_id, Int.toNat_natCast, WCo_in, mUp_self, mUp_ne, ne_eq, Bool.true_and, Bool.and_true, Bool.false_and, Bool.and_false, Bool.true_or, Bool.or_true, Bool.false_or, Bool.or_false, Nat.reduceEqDiff, Int.cast_ofNat_Int, Int.reduceToNat, List.getD_cons_succ, List.getD_cons_zero, eq_self, swL, if_true, if_false, w2, w3]
        refine nxt _ _ h4 T _ _ rfl rfl hT' v4 hL4 ?_ ?_ (f23.tr f4)
        · rw [mUp_ne (by omega), mUp_ne (by omega)]
          exact hH
        · intro k h1 h2
          rw [mUp_ne h1]
          exact hF3 k h1 h2
      · simp (disch := omega) only [ms_sipush, ms_lconst, ms_ldc2_w, ms_dconst, ms_ldc, ms_getstatic, ms_iload, ms_lload, ms_dload, ms_aload, ms_istore, ms_lstore, ms_dstore, ms_astore, ms_iinc, ms_iadd, ms_isub, ms_imul, ms_idiv, ms_irem, ms_ineg, ms_iand, ms_ior, ms_ishr, ms_iushr, ms_i2b, ms_i2c, ms_i2l, ms_ladd, ms_lmul, ms_lcmp, ms_i2d, ms_ddiv, ms_dcmp, ms_dup, ms_pop, ms_dup2, ms_goto, ms_ifCond, ms_if_icmp, ms_if_acmp_eq, ms_if_acmp_ne, ms_tableswitch, ms_lookupswitch, ms_getfield, ms_putfield, ms_arraylength, ms_iaload, ms_baload, ms_laload, ms_aaload, ms_iastore, ms_bastore, ms_lastore, ms_aastore, ms_newarray, ms_new, ms_anewarray, ms_multianewarray, ms_invokevirtual, ms_invokestatic, ms_invokespecial, ms_invokedynamic_0, ms_invokedynamic_1, ms_invokedynamic_2, ms_invokedynamic_3, ms_invokedynamic_4, ms_invokedynamic_5, ms_ireturn, ms_lreturn, ms_dreturn, ms_areturn, ms_return_, Wp_cons, WSC_nx, WSC_cl, WSC_rt, WSC_th, WSC_if, lg, lset, lfree, wide, isRf, isRT, fitK, hgt, margs, mpad, rcv, rdF, rdN, rdI, rdQ, mC_eq, mC_ne, mC_lt, mC_ge, mC_gt, mC_le, mset, mnew, h_fst, h_snd, lt_drop0, List.drop_succ_cons, List.drop_zero, List.drop_nil, List.take_succ_cons, List.take_zero, List.reverse_cons, List.reverse_nil, List.nil_append, List.cons_append, List.append_nil, List.length_cons, List.length_nil, List.getElem?_cons_succ, List.getElem?_cons_zero, List.set_cons_succ, List.set_cons_zero, List.replicate, Option.toList, reduceIte, Bool.not_false, Bool.not_true, Nat.reduceLT, Nat.reduceLeDiff, Nat.reduceAdd, Nat.reduceSub, Nat.reduceMul, Int.reduceLT, Int.reduceLE, Int.reduceNeg, Int.reduceAdd, Int.reduceSub, Int.reduceMul, Int.reduceEq, and_self, true_and, and_true, false_and, and_false, or_false, false_or, true_or, or_true, not_true_eq_false, not_false_eq_true, Bool.false_eq_true, Bool.true_eq_false, decide_true, decide_false, decide_eq_true_eq, Nat.le_refl, Nat.zero_le, ge_iff_le, gt_iff_lt, Nat.lt_irrefl, reduceCtorEq, if_posD, if_negD, w32_id, Int.toNat_natCast, WCo_in, mUp_self, mUp_ne, ne_eq, Bool.true_and, Bool.and_true, Bool.false_and, Bool.and_false, Bool.true_or, Bool.or_true, Bool.false_or, Bool.or_false, Nat.reduceEqDiff, Int.cast_ofNat_Int, Int.reduceToNat, List.getD_cons_succ, List.getD_cons_zero, eq_self, swL, if_true, if_false, hz, a0, a24, q0, q13, q14, ho4, ho5, qX3_giveOrders_5, MX3_carryOut, MX6_reckon, GG1]
        refine WCl_of hr2 (by omega) (fun v h4 hv => ?_)
        obtain ⟨rfl, f4, v4, ht4, g4, hL4⟩ := hv
        have f24 := f23.tr f4
        have hP4 := hP.cg (hc' := h4.1) (fun a h1 h3 => f24.2 a (by omega))
        have b0 := hL4.1
        have hF4 : ∀ k, k ≠ 25 → k ≠ 28 → (mUp (mUp F' 25 g3) 25 g4) k = F k := fun k h1 h2 => by rw [mUp_ne h1]; exact hF3 k h1 h2
        have hH4 : EqN 10 ((mUp (mUp F' 25 g3) 25 g4) 28) T.2.1 := by
          rw [mUp_ne (by omega), mUp_ne (by omega)]
          exact hH
        have hT' : ordS n c fr to mi hr he (od i) T = ((ordC (od i).1 (od i).2.1 (rpn (fct n c fr to mi T.1 hr he) (od i).2.2.2) T.1 T.2.1).1, (ordC (od i).1 (od i).2.1 (rpn (fct n c fr to mi T.1 hr he) (od i).2.2.2) T.1 T.2.1).2.1, if (ordC (od i).1 (od i).2.1 (rpn (fct n c fr to mi T.1 hr he) (od i).2.2.2) T.1 T.2.1).2.2 = 0 then T.2.2 else w32 (T.2.2 + 1)) := if_neg hz
        simp (disch := omega) only [ms_sipush, ms_lconst, ms_ldc2_w, ms_dconst, ms_ldc, ms_getstatic, ms_iload, ms_lload, ms_dload, ms_aload, ms_istore, ms_lstore, ms_dstore, ms_astore, ms_iinc, ms_iadd, ms_isub, ms_imul, ms_idiv, ms_irem, ms_ineg, ms_iand, ms_ior, ms_ishr, ms_iushr, ms_i2b, ms_i2c, ms_i2l, ms_ladd, ms_lmul, ms_lcmp, ms_i2d, ms_ddiv, ms_dcmp, ms_dup, ms_pop, ms_dup2, ms_goto, ms_ifCond, ms_if_icmp, ms_if_acmp_eq, ms_if_acmp_ne, ms_tableswitch, ms_lookupswitch, ms_getfield, ms_putfield, ms_arraylength, ms_iaload, ms_baload, ms_laload, ms_aaload, ms_iastore, ms_bastore, ms_lastore, ms_aastore, ms_newarray, ms_new, ms_anewarray, ms_multianewarray, ms_invokevirtual, ms_invokestatic, ms_invokespecial, ms_invokedynamic_0, ms_invokedynamic_1, ms_invokedynamic_2, ms_invokedynamic_3, ms_invokedynamic_4, ms_invokedynamic_5, ms_ireturn, ms_lreturn, ms_dreturn, ms_areturn, ms_return_, Wp_cons, WSC_nx, WSC_cl, WSC_rt, WSC_th, WSC_if, lg, lset, lfree, wide, isRf, isRT, fitK, hgt, margs, mpad, rcv, rdF, rdN, rdI, rdQ, mC_eq, mC_ne, mC_lt, mC_ge, mC_gt, mC_le, mset, mnew, h_fst, h_snd, lt_drop0, List.drop_succ_cons, List.drop_zero, List.drop_nil, List.take_succ_cons, List.take_zero, List.reverse_cons, List.reverse_nil, List.nil_append, List.cons_append, List.append_nil, List.length_cons, List.length_nil, List.getElem?_cons_succ, List.getElem?_cons_zero, List.set_cons_succ, List.set_cons_zero, List.replicate, Option.toList, reduceIte, Bool.not_false, Bool.not_true, Nat.reduceLT, Nat.reduceLeDiff, Nat.reduceAdd, Nat.reduceSub, Nat.reduceMul, Int.reduceLT, Int.reduceLE, Int.reduceNeg, Int.reduceAdd, Int.reduceSub, Int.reduceMul, Int.reduceEq, and_self, true_and, and_true, false_and, and_false, or_false, false_or, true_or, or_true, not_true_eq_false, not_false_eq_true, Bool.false_eq_true, Bool.true_eq_false, decide_true, decide_false, decide_eq_true_eq, Nat.le_refl, Nat.zero_le, ge_iff_le, gt_iff_lt, Nat.lt_irrefl, reduceCtorEq, if_posD, if_negD, w32_id, Int.toNat_natCast, WCo_in, mUp_self, mUp_ne, ne_eq, Bool.true_and, Bool.and_true, Bool.false_and, Bool.and_false, Bool.true_or, Bool.or_true, Bool.false_or, Bool.or_false, Nat.reduceEqDiff, Int.cast_ofNat_Int, Int.reduceToNat, List.getD_cons_succ, List.getD_cons_zero, eq_self, swL, if_true, if_false, b0, w2, w3]
        refine WCl_of (la_carryOut (x := rpn (fct n c fr to mi T.1 hr he) (od i).2.2.2) v4 hL4 hP4 htc hi20 ho1 ho2 ho3 hk1 hH4 hh01) (by omega) (fun v h5 hv => ?_)
        obtain ⟨rfl, f5, v5, g5, hL5, hE5⟩ := hv
        have f25 := f24.tr f5
        have c0 := hL5.1
        have h01 : (ordC (od i).1 (od i).2.1 (rpn (fct n c fr to mi T.1 hr he) (od i).2.2.2) T.1 T.2.1).2.2 = 0 ∨ (ordC (od i).1 (od i).2.1 (rpn (fct n c fr to mi T.1 hr he) (od i).2.2.2) T.1 T.2.1).2.2 = 1 := by
          unfold ordC
          split
          · dsimp only
            split
            · exact Or.inl rfl
            · exact Or.inr rfl
          · split
            · dsimp only
              split
              · exact Or.inr rfl
              · exact Or.inl rfl
            · dsimp only
              split
              · exact Or.inr rfl
              · exact Or.inl rfl
        have hF5 : ∀ k, k ≠ 25 → k ≠ 28 → (mUp (mUp (mUp F' 25 g3) 25 g4) 28 g5) k = F k := fun k h1 h2 => by rw [mUp_ne h2]; exact hF4 k h1 h2
        generalize ordC (od i).1 (od i).2.1 (rpn (fct n c fr to mi T.1 hr he) (od i).2.2.2) T.1 T.2.1 = U at *
        have hE5' : EqN 10 ((mUp (mUp (mUp F' 25 g3) 25 g4) 28 g5) 28) U.2.1 := by rw [mUp_self]; exact hE5
        rcases h01 with h0 | h0
        · rw [if_pos h0] at hT'
          simp (disch := omega) only [ms_sipush, ms_lconst, ms_ldc2_w, ms_dconst, ms_ldc, ms_getstatic, ms_iload, ms_lload, ms_dload, ms_aload, ms_istore, ms_lstore, ms_dstore, ms_astore, ms_iinc, ms_iadd, ms_isub, ms_imul, ms_idiv, ms_irem, ms_ineg, ms_iand, ms_ior, ms_ishr, ms_iushr, ms_i2b, ms_i2c, ms_i2l, ms_ladd, ms_lmul, ms_lcmp, ms_i2d, ms_ddiv, ms_dcmp, ms_dup, ms_pop, ms_dup2, ms_goto, ms_ifCond, ms_if_icmp, ms_if_acmp_eq, ms_if_acmp_ne, ms_tableswitch, ms_lookupswitch, ms_getfield, ms_putfield, ms_arraylength, ms_iaload, ms_baload, ms_laload, ms_aaload, ms_iastore, ms_bastore, ms_lastore, ms_aastore, ms_newarray, ms_new, ms_anewarray, ms_multianewarray, ms_invokevirtual, ms_invokestatic, ms_invokespecial, ms_invokedynamic_0, ms_invokedynamic_1, ms_invokedynamic_2, ms_invokedynamic_3, ms_invokedynamic_4, ms_invokedynamic_5, ms_ireturn, ms_lreturn, ms_dreturn, ms_areturn, ms_return_, Wp_cons, WSC_nx, WSC_cl, WSC_rt, WSC_th, WSC_if, lg, lset, lfree, wide, isRf, isRT, fitK, hgt, margs, mpad, rcv, rdF, rdN, rdI, rdQ, mC_eq, mC_ne, mC_lt, mC_ge, mC_gt, mC_le, mset, mnew, h_fst, h_snd, lt_drop0, List.drop_succ_cons, List.drop_zero, List.drop_nil, List.take_succ_cons, List.take_zero, List.reverse_cons, List.reverse_nil, List.nil_append, List.cons_append, List.append_nil, List.length_cons, List.length_nil, List.getElem?_cons_succ, List.getElem?_cons_zero, List.set_cons_succ, List.set_cons_zero, List.replicate, Option.toList, reduceIte, Bool.not_false, Bool.not_true, Nat.reduceLT, Nat.reduceLeDiff, Nat.reduceAdd, Nat.reduceSub, Nat.reduceMul, Int.reduceLT, Int.reduceLE, Int.reduceNeg, Int.reduceAdd, Int.reduceSub, Int.reduceMul, Int.reduceEq, and_self, true_and, and_true, false_and, and_false, or_false, false_or, true_or, or_true, not_true_eq_false, not_false_eq_true, Bool.false_eq_true, Bool.true_eq_false, decide_true, decide_false, decide_eq_true_eq, Nat.le_refl, Nat.zero_le, ge_iff_le, gt_iff_lt, Nat.lt_irrefl, reduceCtorEq, if_posD, if_negD, w32_id, Int.toNat_natCast, WCo_in, mUp_self, mUp_ne, ne_eq, Bool.true_and, Bool.and_true, Bool.false_and, Bool.and_false, Bool.true_or, Bool.or_true, Bool.false_or, Bool.or_false, Nat.reduceEqDiff, Int.cast_ofNat_Int, Int.reduceToNat, List.getD_cons_succ, List.getD_cons_zero, eq_self, swL, if_true, if_false, h0]
          exact nxt _ _ h5 _ _ _ rfl rfl hT' v5 hL5 hE5' hF5 f25
        · rw [if_neg (by omega)] at hT'
          simp (disch := omega) only [ms_sipush, ms_lconst, ms_ldc2_w, ms_dconst, ms_ldc, ms_getstatic, ms_iload, ms_lload, ms_dload, ms_aload, ms_istore, ms_lstore, ms_dstore, ms_astore, ms_iinc, ms_iadd, ms_isub, ms_imul, ms_idiv, ms_irem, ms_ineg, ms_iand, ms_ior, ms_ishr, ms_iushr, ms_i2b, ms_i2c, ms_i2l, ms_ladd, ms_lmul, ms_lcmp, ms_i2d, ms_ddiv, ms_dcmp, ms_dup, ms_pop, ms_dup2, ms_goto, ms_ifCond, ms_if_icmp, ms_if_acmp_eq, ms_if_acmp_ne, ms_tableswitch, ms_lookupswitch, ms_getfield, ms_putfield, ms_arraylength, ms_iaload, ms_baload, ms_laload, ms_aaload, ms_iastore, ms_bastore, ms_lastore, ms_aastore, ms_newarray, ms_new, ms_anewarray, ms_multianewarray, ms_invokevirtual, ms_invokestatic, ms_invokespecial, ms_invokedynamic_0, ms_invokedynamic_1, ms_invokedynamic_2, ms_invokedynamic_3, ms_invokedynamic_4, ms_invokedynamic_5, ms_ireturn, ms_lreturn, ms_dreturn, ms_areturn, ms_return_, Wp_cons, WSC_nx, WSC_cl, WSC_rt, WSC_th, WSC_if, lg, lset, lfree, wide, isRf, isRT, fitK, hgt, margs, mpad, rcv, rdF, rdN, rdI, rdQ, mC_eq, mC_ne, mC_lt, mC_ge, mC_gt, mC_le, mset, mnew, h_fst, h_snd, lt_drop0, List.drop_succ_cons, List.drop_zero, List.drop_nil, List.take_succ_cons, List.take_zero, List.reverse_cons, List.reverse_nil, List.nil_append, List.cons_append, List.append_nil, List.length_cons, List.length_nil, List.getElem?_cons_succ, List.getElem?_cons_zero, List.set_cons_succ, List.set_cons_zero, List.replicate, Option.toList, reduceIte, Bool.not_false, Bool.not_true, Nat.reduceLT, Nat.reduceLeDiff, Nat.reduceAdd, Nat.reduceSub, Nat.reduceMul, Int.reduceLT, Int.reduceLE, Int.reduceNeg, Int.reduceAdd, Int.reduceSub, Int.reduceMul, Int.reduceEq, and_self, true_and, and_true, false_and, and_false, or_false, false_or, true_or, or_true, not_true_eq_false, not_false_eq_true, Bool.false_eq_true, Bool.true_eq_false, decide_true, decide_false, decide_eq_true_eq, Nat.le_refl, Nat.zero_le, ge_iff_le, gt_iff_lt, Nat.lt_irrefl, reduceCtorEq, if_posD, if_negD, w32_id, Int.toNat_natCast, WCo_in, mUp_self, mUp_ne, ne_eq, Bool.true_and, Bool.and_true, Bool.false_and, Bool.and_false, Bool.true_or, Bool.or_true, Bool.false_or, Bool.or_false, Nat.reduceEqDiff, Int.cast_ofNat_Int, Int.reduceToNat, List.getD_cons_succ, List.getD_cons_zero, eq_self, swL, if_true, if_false, h0, c0]
          exact nxt _ _ (_, h5.2) _ _ _ rfl rfl hT' (v5.cg (fun a h1 h3 => mUp_ne (by omega))) (hL5.ob rfl) hE5' hF5 (f25.at (by omega) (by omega))
  have clr : ∀ (m j : Nat) (f : Nat → Int) (h2 : MH), j + m = 10 → (∀ i, i < j → f i = 0) → LaA h2.1 b pb hr ca lo wn ht (mUp F 28 f) → Fm (b + 24) 9 h h2 → Wp (GG L xs fm) 4 BX3_giveOrders (BX3_giveOrders 1) [qR b, qI j, qU, qU] [] h2 Post := by
    intro m
    induction m with
    | zero =>
      intro j f h2 hj hf hL2 f2
      obtain rfl : j = 10 := by omega
      rw [qX3_giveOrders_1]
      simp (disch := omega) only [ms_sipush, ms_lconst, ms_ldc2_w, ms_dconst, ms_ldc, ms_getstatic, ms_iload, ms_lload, ms_dload, ms_aload, ms_istore, ms_lstore, ms_dstore, ms_astore, ms_iinc, ms_iadd, ms_isub, ms_imul, ms_idiv, ms_irem, ms_ineg, ms_iand, ms_ior, ms_ishr, ms_iushr, ms_i2b, ms_i2c, ms_i2l, ms_ladd, ms_lmul, ms_lcmp, ms_i2d, ms_ddiv, ms_dcmp, ms_dup, ms_pop, ms_dup2, ms_goto, ms_ifCond, ms_if_icmp, ms_if_acmp_eq, ms_if_acmp_ne, ms_tableswitch, ms_lookupswitch, ms_getfield, ms_putfield, ms_arraylength, ms_iaload, ms_baload, ms_laload, ms_aaload, ms_iastore, ms_bastore, ms_lastore, ms_aastore, ms_newarray, ms_new, ms_anewarray, ms_multianewarray, ms_invokevirtual, ms_invokestatic, ms_invokespecial, ms_invokedynamic_0, ms_invokedynamic_1, ms_invokedynamic_2, ms_invokedynamic_3, ms_invokedynamic_4, ms_invokedynamic_5, ms_ireturn, ms_lreturn, ms_dreturn, ms_areturn, ms_return_, Wp_cons, WSC_nx, WSC_cl, WSC_rt, WSC_th, WSC_if, lg, lset, lfree, wide, isRf, isRT, fitK, hgt, margs, mpad, rcv, rdF, rdN, rdI, rdQ, mC_eq, mC_ne, mC_lt, mC_ge, mC_gt, mC_le, mset, mnew, h_fst, h_snd, lt_drop0, List.drop_succ_cons, List.drop_zero, List.drop_nil, List.take_succ_cons, List.take_zero, List.reverse_cons, List.reverse_nil, List.nil_append, List.cons_append, List.append_nil, List.length_cons, List.length_nil, List.getElem?_cons_succ, List.getElem?_cons_zero, List.set_cons_succ, List.set_cons_zero, List.replicate, Option.toList, reduceIte, Bool.not_false, Bool.not_true, Nat.reduceLT, Nat.reduceLeDiff, Nat.reduceAdd, Nat.reduceSub, Nat.reduceMul, Int.reduceLT, Int.reduceLE, Int.reduceNeg, Int.reduceAdd, Int.reduceSub, Int.reduceMul, Int.reduceEq, and_self, true_and, and_true, false_and, and_false, or_false, false_or, true_or, or_true, not_true_eq_false, not_false_eq_true, Bool.false_eq_true, Bool.true_eq_false, decide_true, decide_false, decide_eq_true_eq, Nat.le_refl, Nat.zero_le, ge_iff_le, gt_iff_lt, Nat.lt_irrefl, reduceCtorEq, if_posD, if_negD, w32_id, Int.toNat_natCast, WCo_in, mUp_self, mUp_ne, ne_eq, Bool.true_and, Bool.and_true, Bool.false_and, Bool.and_false, Bool.true_or, Bool.or_true, Bool.false_or, Bool.or_false, Nat.reduceEqDiff, Int.cast_ofNat_Int, Int.reduceToNat, List.getD_cons_succ, List.getD_cons_zero, eq_self, swL, if_true, if_false, qX3_giveOrders_2, MX3_carryOut, MX6_reckon, GG1]
      refine loop o 0 ht (mUp F 28 f) h2 qU qU rfl rfl (by omega) (hV.cg (fun a h1 h3 => f2.2 a (by omega))) hL2 ?_ (fun k h1 h2 => mUp_ne h2) (f2.wd (by omega) (by omega))
      rw [mUp_self]
      exact fun i hi => hf i hi
    | succ m ih =>
      intro j f h2 hj hf hL2 f2
      have e0 := hL2.1
      have e28 := hL2.2.2 28 _ _ rfl
      rw [mUp_self] at e28
      have hL3 := hL2.wr (k := 28) (ty := .boolean) (m := 10) (f := mUp f j 0) rfl
      rw [mUp_mUp] at hL3
      have := ih (j + 1) (mUp f j 0) (_, h2.2) (by omega) (fun i hi => by
        by_cases hij : i = j
        · rw [hij, mUp_self]
        · rw [mUp_ne hij]; exact hf i (by omega)) hL3 (f2.at (by omega) (by omega))
      rw [Int.natCast_add] at this
      rw [qX3_giveOrders_1]
      simp (disch := omega) only [ms_sipush, ms_lconst, ms_ldc2_w, ms_dconst, ms_ldc, ms_getstatic, ms_iload, ms_lload, ms_dload, ms_aload, ms_istore, ms_lstore, ms_dstore, ms_astore, ms_iinc, ms_iadd, ms_isub, ms_imul, ms_idiv, ms_irem, ms_ineg, ms_iand, ms_ior, ms_ishr, ms_iushr, ms_i2b, ms_i2c, ms_i2l, ms_ladd, ms_lmul, ms_lcmp, ms_i2d, ms_ddiv, ms_dcmp, ms_dup, ms_pop, ms_dup2, ms_goto, ms_ifCond, ms_if_icmp, ms_if_acmp_eq, ms_if_acmp_ne, ms_tableswitch, ms_lookupswitch, ms_getfield, ms_putfield, ms_arraylength, ms_iaload, ms_baload, ms_laload, ms_aaload, ms_iastore, ms_bastore, ms_lastore, ms_aastore, ms_newarray, ms_new, ms_anewarray, ms_multianewarray, ms_invokevirtual, ms_invokestatic, ms_invokespecial, ms_invokedynamic_0, ms_invokedynamic_1, ms_invokedynamic_2, ms_invokedynamic_3, ms_invokedynamic_4, ms_invokedynamic_5, ms_ireturn, ms_lreturn, ms_dreturn, ms_areturn, ms_return_, Wp_cons, WSC_nx, WSC_cl, WSC_rt, WSC_th, WSC_if, lg, lset, lfree, wide, isRf, isRT, fitK, hgt, margs, mpad, rcv, rdF, rdN, rdI, rdQ, mC_eq, mC_ne, mC_lt, mC_ge, mC_gt, mC_le, mset, mnew, h_fst, h_snd, lt_drop0, List.drop_succ_cons, List.drop_zero, List.drop_nil, List.take_succ_cons, List.take_zero, List.reverse_cons, List.reverse_nil, List.nil_append, List.cons_append, List.append_nil, List.length_cons, List.length_nil, List.getElem?_cons_succ, List.getElem?_cons_zero, List.set_cons_succ, List.set_cons_zero, List.replicate, Option.toList, reduceIte, Bool.not_false, Bool.not_true, Nat.reduceLT, Nat.reduceLeDiff, Nat.reduceAdd, Nat.reduceSub, Nat.reduceMul, Int.reduceLT, Int.reduceLE, Int.reduceNeg, Int.reduceAdd, Int.reduceSub, Int.reduceMul, Int.reduceEq, and_self, true_and, and_true, false_and, and_false, or_false, false_or, true_or, or_true, not_true_eq_false, not_false_eq_true, Bool.false_eq_true, Bool.true_eq_false, decide_true, decide_false, decide_eq_true_eq, Nat.le_refl, Nat.zero_le, ge_iff_le, gt_iff_lt, Nat.lt_irrefl, reduceCtorEq, if_posD, if_negD, w32_id, Int.toNat_natCast, WCo_in, mUp_self, mUp_ne, ne_eq, Bool.true_and, Bool.and_true, Bool.false_and, Bool.and_false, Bool.true_or, Bool.or_true, Bool.false_or, Bool.or_false, Nat.reduceEqDiff, Int.cast_ofNat_Int, Int.reduceToNat, List.getD_cons_succ, List.getD_cons_zero, eq_self, swL, if_true, if_false, e0, e28]
      exact this
  simp (disch := omega) only [ms_sipush, ms_lconst, ms_ldc2_w, ms_dconst, ms_ldc, ms_getstatic, ms_iload, ms_lload, ms_dload, ms_aload, ms_istore, ms_lstore, ms_dstore, ms_astore, ms_iinc, ms_iadd, ms_isub, ms_imul, ms_idiv, ms_irem, ms_ineg, ms_iand, ms_ior, ms_ishr, ms_iushr, ms_i2b, ms_i2c, ms_i2l, ms_ladd, ms_lmul, ms_lcmp, ms_i2d, ms_ddiv, ms_dcmp, ms_dup, ms_pop, ms_dup2, ms_goto, ms_ifCond, ms_if_icmp, ms_if_acmp_eq, ms_if_acmp_ne, ms_tableswitch, ms_lookupswitch, ms_getfield, ms_putfield, ms_arraylength, ms_iaload, ms_baload, ms_laload, ms_aaload, ms_iastore, ms_bastore, ms_lastore, ms_aastore, ms_newarray, ms_new, ms_anewarray, ms_multianewarray, ms_invokevirtual, ms_invokestatic, ms_invokespecial, ms_invokedynamic_0, ms_invokedynamic_1, ms_invokedynamic_2, ms_invokedynamic_3, ms_invokedynamic_4, ms_invokedynamic_5, ms_ireturn, ms_lreturn, ms_dreturn, ms_areturn, ms_return_, Wp_cons, WSC_nx, WSC_cl, WSC_rt, WSC_th, WSC_if, lg, lset, lfree, wide, isRf, isRT, fitK, hgt, margs, mpad, rcv, rdF, rdN, rdI, rdQ, mC_eq, mC_ne, mC_lt, mC_ge, mC_gt, mC_le, mset, mnew, h_fst, h_snd, lt_drop0, List.drop_succ_cons, List.drop_zero, List.drop_nil, List.take_succ_cons, List.take_zero, List.reverse_cons, List.reverse_nil, List.nil_append, List.cons_append, List.append_nil, List.length_cons, List.length_nil, List.getElem?_cons_succ, List.getElem?_cons_zero, List.set_cons_succ, List.set_cons_zero, List.replicate, Option.toList, reduceIte, Bool.not_false, Bool.not_true, Nat.reduceLT, Nat.reduceLeDiff, Nat.reduceAdd, Nat.reduceSub, Nat.reduceMul, Int.reduceLT, Int.reduceLE, Int.reduceNeg, Int.reduceAdd, Int.reduceSub, Int.reduceMul, Int.reduceEq, and_self, true_and, and_true, false_and, and_false, or_false, false_or, true_or, or_true, not_true_eq_false, not_false_eq_true, Bool.false_eq_true, Bool.true_eq_false, decide_true, decide_false, decide_eq_true_eq, Nat.le_refl, Nat.zero_le, ge_iff_le, gt_iff_lt, Nat.lt_irrefl, reduceCtorEq, if_posD, if_negD, w32_id, Int.toNat_natCast, WCo_in, mUp_self, mUp_ne, ne_eq, Bool.true_and, Bool.and_true, Bool.false_and, Bool.and_false, Bool.true_or, Bool.or_true, Bool.false_or, Bool.or_false, Nat.reduceEqDiff, Int.cast_ofNat_Int, Int.reduceToNat, List.getD_cons_succ, List.getD_cons_zero, eq_self, swL, if_true, if_false, qX3_giveOrders_0, MX3_carryOut, MX6_reckon, GG1]
  exact clr 10 0 (F 28) h (by omega) (fun i hi => by omega) (by rw [mUp_same]; exact hL) Fm.rf
end PASSH
