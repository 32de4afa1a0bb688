/-- the small machine's tables -/
def SFd (fm : Bool) (a k : Nat) : Option MV :=
  if a < 46 then (if k = 50 then some (qS (100 + kTx.getD a 0)) else if k = 51 then some (qI ((kOp.getD a 0 : Nat) : Int)) else if k = 52 then some (qI (a : Int)) else none)
  else if 100 ≤ a ∧ a < 190 then (if k = 53 then some (qS (a + 100)) else if k = 54 then some (qI 0) else none)
  else if a = 997 ∧ k = 0 then some (if fm = true then qS 999 else qN) else none
def SAr (L : Nat) (xs : Nat → Int) (a : Nat) : Option (FieldType × Nat × (Nat → MV)) :=
  if 200 ≤ a ∧ a < 290 then some (.byte, (sB.getD (a - 200) []).length, fun j => qI ((((sB.getD (a - 200) []).getD j 0 : Nat) : Int)))
  else if a = 300 then some (.object "TavernRumours$Kind", 46, fun j => qS j)
  else if a = 301 then some (tOb, 0, fun _ => qN)
  else if a = 302 then some (.int, 3, fun j => qI ((liV.getD j 0 : Nat) : Int))
  else if a = 303 then some (.int, 46, fun j => qI ((swV.getD j 0 : Nat) : Int))
  else if a = 304 then some (.byte, 100, fun j => qI ((48 + j / 10 : Nat) : Int))
  else if a = 305 then some (.byte, 100, fun j => qI ((48 + j % 10 : Nat) : Int))
  else if a = 998 then some (.int, L, fun j => qI (xs j))
  else none
def GG (L : Nat) (xs : Nat → Int) (fm : Bool) : MG := (METH, SFd fm, SAr L xs, CF)
def sadF (adK adS adV : Nat → Nat) (tA tW tL tS b t4 t5 tM : Nat) (a : Nat) : Nat := if a < 46 then adK a else if 100 ≤ a ∧ a < 190 then adS (a - 100) else if 200 ≤ a ∧ a < 290 then adV (a - 200) else if a = 300 then tA else if a = 301 then tW else if a = 302 then tL else if a = 303 then tS else if a = 304 then t4 else if a = 305 then t5 else if a = 990 then tM else b
theorem sadF_k {adK adS adV : Nat → Nat} {tA tW tL tS b t4 t5 tM a : Nat} (h : a < 46) : sadF adK adS adV tA tW tL tS b t4 t5 tM a = adK a := if_pos h
theorem sadF_s {adK adS adV : Nat → Nat} {tA tW tL tS b t4 t5 tM j : Nat} (h : j < 90) : sadF adK adS adV tA tW tL tS b t4 t5 tM (100 + j) = adS j := by
  unfold sadF
  rw [if_neg (by omega), if_pos (by omega), Nat.add_sub_cancel_left]
theorem sadF_v {adK adS adV : Nat → Nat} {tA tW tL tS b t4 t5 tM j : Nat} (h : j < 90) : sadF adK adS adV tA tW tL tS b t4 t5 tM (200 + j) = adV j := by
  unfold sadF
  rw [if_neg (by omega), if_neg (by omega), if_pos (by omega), Nat.add_sub_cancel_left]
theorem all_at {n i : Nat} {f : Nat → Bool} (h : (List.range n).all f = true) (hi : i < n) : f i = true := List.all_eq_true.mp h i (List.mem_range.mpr hi)
theorem i_n32 {n : Nat} (h : n < 200) : (n32 n).toInt = (n : Int) := nI_toInt (by omega)
theorem lxc_o {o : Nat} {x : Nat × Nat × Nat × Nat × Nat × String} (h : x ∈ LXc o) : o = 9 := by
  by_cases ho : o < 26
  · have := all_at cXo ho
    simp only [Bool.or_eq_true, beq_iff_eq, List.isEmpty_iff] at this
    rcases this with h1 | h1
    · exact h1
    · rw [h1] at h; cases h
  · rw [lxc_none ho] at h
    cases h
theorem ltx_none {o : Nat} (ho : ¬ o < 26) : LTx o = [] := by
  unfold LTx
  split
  · exact absurd (by decide) ho
  · rfl
theorem ltx_o {o : Nat} {x : Nat × Nat × String} (h : x ∈ LTx o) : o = 13 ∧ 42 ≤ x.2.1 ∧ x.2.1 < 90 ∧ sR.getD x.2.1 ("", 0) = ("TavernRumoursLaw", x.1) ∧ (.stringRef "TavernRumoursLaw" x.1 x.2.2) ∈ lw_tbl := by
  by_cases ho : o < 26
  · have := List.all_eq_true.mp (all_at cTo ho) x h
    simp only [Bool.and_eq_true, decide_eq_true_eq] at this
    obtain ⟨⟨⟨⟨h1, h2⟩, h3⟩, h4⟩, h5⟩ := this
    exact ⟨h1, h2, h3, h4, inU_ok h5⟩
  · rw [ltx_none ho] at h
    cases h
theorem zs_len : ZS.length = 53 := rfl
theorem sS_start {p : Program} {s : State} {m : MethodId} {meth : Method} {c : Code} {b L : Nat} {xs : Nat → Int32} (C0 : lw_At p s m meth c b L xs) : ∃ (sad : Nat → Nat) (fm : Bool), sad 998 = b ∧ (∀ a b, a < 46 → b < 46 → sad a = sad b → a = b) ∧ sS sad (GG L (fun j => (xs j).toInt) fm) (fun q => s.heap.size ≤ q) s s.heap := by
  obtain ⟨hx, hc, hr, hml, hown, hts, hX, hbs, hlk, hg⟩ := C0
  have hA : ∀ a : Nat, a < s.heap.size → ¬ (fun q => s.heap.size ≤ q) a := fun a h => Nat.not_le.mpr h
  have hU : ∀ {pos : Nat} {w : Jvm.Cond}, inU pos w = true → w.before #[Value.ref b] s = true := fun h => hts _ (inU_ok h)
  have hk : ∀ i : Nat, ∃ t : Nat, i < 46 → (kS i).eval #[Value.ref b] s none [] s = some (.ref t) := by
    intro i
    by_cases hi : i < 46
    · obtain ⟨a, c, cA, kA, q1, -⟩ := Cond.exactly_spec (pA_ok (all_at cEx hi) hg)
      exact ⟨a, fun _ => q1⟩
    · exact ⟨0, fun h => absurd h hi⟩
  obtain ⟨adK, hadK⟩ := Classical.axiomOfChoice hk
  have hs : ∀ j : Nat, ∃ q : Nat × Nat, j < 90 → (sT j).eval #[Value.ref b] s none [] s = some (.ref q.1) ∧ (sV j).eval #[Value.ref b] s none [] s = some (.ref q.2) ∧ va_T .byte q.2 (sB.getD j []).length (fun k => .int (n32 ((sB.getD j []).getD k 0))) (fun q => s.heap.size ≤ q) s s.heap := by
    intro j
    by_cases hj : j < 90
    · obtain ⟨a, c, cA, kA, q1, -⟩ := Cond.exactly_spec (pA_ok (all_at cSx hj) hg)
      have h1 := all_at cSl hj
      have h2 := all_at cSe hj
      simp only [Bool.and_eq_true, decide_eq_true_eq] at h1
      obtain ⟨t, ht, hT⟩ := va_Tof (f := fun k => .int (n32 ((sB.getD j []).getD k 0))) (N := (sB.getD j []).length) (by omega) (pA_ok (all_at cSa hj) hg) (va_eqt (pA_ok h1.1 hg)) (fun k hk => by
        have h3 := all_at h2 hk
        simp only [Bool.and_eq_true] at h3
        exact va_eqt (pA_ok h3.1 hg)) hA
      exact ⟨(a, t), fun _ => ⟨q1, ht, hT⟩⟩
    · exact ⟨(0, 0), fun h => absurd h hj⟩
  obtain ⟨ad, had⟩ := Classical.axiomOfChoice hs
  obtain ⟨tA, hA1, hA2⟩ := va_Tof (tm := sAL) (N := 46) (f := fun j => .ref (adK j)) (by decide) (pA_ok c1_0 hg) (va_eqt (pA_ok c1_1 hg)) (fun j hj => va_eqv (pA_ok (all_at cAe hj) hg) (hadK j hj)) hA
  obtain ⟨tW, hW1, hW2⟩ := va_Tof (tm := sWD) (N := 0) (f := fun _ => .null) (by decide) (pA_ok c1_2 hg) (va_eqt (pA_ok c1_3 hg)) (fun j hj => absurd hj (Nat.not_lt_zero _)) hA
  obtain ⟨t4, hD1, hD2⟩ := va_Tof (tm := sD0) (N := 100) (f := fun j => .int (n32 (48 + j / 10))) (by decide) (pA_ok c1_12 hg) (va_eqt (pA_ok c1_13 hg)) (fun j hj => va_eqt (pA_ok (all_at cD0 hj) hg)) hA
  obtain ⟨t5, hE1, hE2⟩ := va_Tof (tm := sD1) (N := 100) (f := fun j => .int (n32 (48 + j % 10))) (by decide) (pA_ok c1_14 hg) (va_eqt (pA_ok c1_15 hg)) (fun j hj => va_eqt (pA_ok (all_at cD1 hj) hg)) hA
  obtain ⟨tM, hM⟩ := va_Mi.of (pA_ok c1_16 hg)
  obtain ⟨tS, hS1, hS2⟩ := va_Tof (tm := sSW) (N := 46) (f := fun j => .int (n32 (swV.getD j 0))) (by decide) (pA_ok c1_4 hg) (va_eqt (pA_ok c1_5 hg)) (fun j hj => by
    have h1 := all_at cSw hj
    simp only [Bool.and_eq_true] at h1
    exact va_eqt (pA_ok h1.1 hg)) hA
  obtain ⟨tL, hL1, hL2⟩ := va_Tof (tm := sLI) (N := 3) (f := fun j => .int (n32 (liV.getD j 0))) (by decide) (pA_ok c1_6 hg) (va_eqt (pA_ok c1_7 hg)) (fun j hj => by
    have h1 := all_at cLi hj
    simp only [Bool.and_eq_true] at h1
    exact va_eqt (pA_ok h1.1 hg)) hA
  have hfm : ∃ (fm : Bool) (cv : Value), va_Z "jdk/internal/util/Preconditions" "SIOOBE_FORMATTER" "Ljava/util/function/BiFunction;" cv (fun q => s.heap.size ≤ q) s s.heap ∧ ∀ sad : Nat → Nat, rV sad [] (if fm = true then qS 999 else qN) cv := by
    rcases va_Zqof (hU t1_0) (hU t1_1) (pA_ok c1_9 hg) hA with h | ⟨t, h⟩
    · exact ⟨false, _, h, fun sad => rfl⟩
    · exact ⟨true, _, h, fun sad => ⟨t, rfl, Or.inl rfl⟩⟩
  obtain ⟨fm, cvf, hf1, hf2⟩ := hfm
  obtain ⟨sad, hsad⟩ : ∃ sad, sad = sadF adK (fun j => (ad j).1) (fun j => (ad j).2) tA tW tL tS b t4 t5 tM := ⟨_, rfl⟩
  have e1 : ∀ a, a < 46 → sad a = adK a := fun a h => by rw [hsad]; exact sadF_k h
  have e2 : ∀ j, j < 90 → sad (100 + j) = (ad j).1 := fun j h => by rw [hsad]; exact sadF_s h
  have e3 : ∀ j, j < 90 → sad (200 + j) = (ad j).2 := fun j h => by rw [hsad]; exact sadF_v h
  have e4 : sad 300 = tA := by rw [hsad]; rfl
  have e5 : sad 301 = tW := by rw [hsad]; rfl
  have e6 : sad 302 = tL := by rw [hsad]; rfl
  have e7 : sad 303 = tS := by rw [hsad]; rfl
  have e8 : sad 998 = b := by rw [hsad]; rfl
  have e9 : sad 304 = t4 := by rw [hsad]; rfl
  have e10 : sad 305 = t5 := by rw [hsad]; rfl
  have e11 : sad 990 = tM := by rw [hsad]; rfl
  have hor : ∀ i, i < 46 → va_OF "java/lang/Enum" "ordinal" "I" (.int (n32 i)) (sad i) (fun q => s.heap.size ≤ q) s s.heap := fun i hi => by
    rw [e1 i hi]
    exact vk_OFof (hadK i hi) (va_eqt (pA_ok (all_at cOr hi) hg)) hA
  refine ⟨sad, fm, e8, fun a a' ha ha' he => ?_, ?_⟩
  · obtain ⟨cf, k, i, f, cell, g1, g2, g3, g4, g5, -⟩ := hor a ha
    obtain ⟨cf', k', i', f', cell', g1', g2', g3', g4', g5', -⟩ := hor a' ha'
    rw [he, g3'] at g3
    cases g3
    rw [g1] at g1'
    cases g1'
    rw [g5] at g5'
    have h9 : n32 a = n32 a' := by injection (Option.some.inj g5')
    have h10 := congrArg Int32.toInt h9
    rw [i_n32 (by omega), i_n32 (by omega)] at h10
    omega
  · refine ⟨?_, ?_, ?_, ⟨cvf, hf1, fun v hv => ?_⟩, ?_, ?_, ?_, ?_, ?_, ?_, ?_, ?_, ?_, ?_, ?_, ?_, ?_, ?_, ?_, ?_⟩
    · intro a k v h50 hv
      change SFd fm a k = some v at hv
      unfold SFd at hv
      split at hv
      · rename_i ha
        refine ⟨by omega, ?_⟩
        rw [e1 a ha]
        split at hv
        · rename_i hk
          subst hk
          cases hv
          have h1 := all_at cTe ha
          simp only [Bool.and_eq_true, decide_eq_true_eq] at h1
          have h43 : kTx.getD a 0 < 90 := by omega
          refine ⟨.ref (ad (kTx.getD a 0)).1, vk_OFof (hadK a ha) (va_eqv (pA_ok h1.1 hg) (had _ h43).1) hA, _, rfl, Or.inr ?_⟩
          rw [e2 _ h43]
        · split at hv
          · rename_i hk
            subst hk
            cases hv
            have h1 := all_at cOp ha
            simp only [Bool.and_eq_true, decide_eq_true_eq] at h1
            exact ⟨.int (n32 (kOp.getD a 0)), vk_OFof (hadK a ha) (va_eqt (pA_ok h1.1 hg)) hA, _, rfl, i_n32 (by omega)⟩
          · split at hv
            · rename_i hk
              subst hk
              cases hv
              exact ⟨.int (n32 a), vk_OFof (hadK a ha) (va_eqt (pA_ok (all_at cOr ha) hg)) hA, _, rfl, i_n32 (by omega)⟩
            · cases hv
      · split at hv
        · rename_i ha
          refine ⟨by omega, ?_⟩
          have hj : a - 100 < 90 := by omega
          have ea : a = 100 + (a - 100) := by omega
          have es := e2 (a - 100) hj
          rw [← ea] at es
          rw [es]
          split at hv
          · rename_i hk
            subst hk
            cases hv
            refine ⟨.ref (ad (a - 100)).2, vk_OFof (had _ hj).1 (had _ hj).2.1 hA, _, rfl, Or.inr ?_⟩
            rw [← e3 _ hj]
            congr 1
            omega
          · split at hv
            · rename_i hk
              subst hk
              cases hv
              exact ⟨.int 0, vk_OFof (had _ hj).1 (va_eqt (pA_ok (all_at cSc hj) hg)) hA, _, rfl, rfl⟩
            · cases hv
        · split at hv
          · rename_i ha
            omega
          · cases hv
    · intro a ty n f hv
      change SAr L (fun j => (xs j).toInt) a = some (ty, n, f) at hv
      unfold SAr at hv
      split at hv
      · rename_i ha
        simp only [Option.some.injEq, Prod.mk.injEq] at hv
        obtain ⟨rfl, rfl, rfl⟩ := hv
        refine ⟨by omega, ?_⟩
        have hj : a - 200 < 90 := by omega
        have ea : a = 200 + (a - 200) := by omega
        have es := e3 (a - 200) hj
        rw [← ea] at es
        rw [es]
        refine ⟨_, (had _ hj).2.2, fun j hjn => ⟨_, rfl, ?_⟩⟩
        have h2 := all_at (all_at cSe hj) hjn
        simp only [Bool.and_eq_true, decide_eq_true_eq] at h2
        exact i_n32 (by omega)
      · split at hv
        · rename_i ha
          subst ha
          cases hv
          rw [e4]
          exact ⟨by decide, _, hA2, fun j hjn => ⟨_, rfl, Or.inr (e1 j hjn).symm⟩⟩
        · split at hv
          · rename_i ha
            subst ha
            cases hv
            rw [e5]
            exact ⟨by decide, _, hW2, fun j hjn => absurd hjn (Nat.not_lt_zero _)⟩
          · split at hv
            · rename_i ha
              subst ha
              cases hv
              rw [e6]
              refine ⟨by decide, _, hL2, fun j hjn => ⟨_, rfl, ?_⟩⟩
              have h1 := all_at cLi hjn
              simp only [Bool.and_eq_true, decide_eq_true_eq] at h1
              exact i_n32 (by omega)
            · split at hv
              · rename_i ha
                subst ha
                cases hv
                rw [e7]
                refine ⟨by decide, _, hS2, fun j hjn => ⟨_, rfl, ?_⟩⟩
                have h1 := all_at cSw hjn
                simp only [Bool.and_eq_true, decide_eq_true_eq] at h1
                exact i_n32 (by omega)
              · split at hv
                · rename_i ha
                  subst ha
                  cases hv
                  rw [e9]
                  exact ⟨by decide, _, hD2, fun j hjn => ⟨_, rfl, i_n32 (by omega)⟩⟩
                · split at hv
                  · rename_i ha
                    subst ha
                    cases hv
                    rw [e10]
                    exact ⟨by decide, _, hE2, fun j hjn => ⟨_, rfl, i_n32 (by omega)⟩⟩
                  · split at hv
                    · rename_i ha
                      subst ha
                      cases hv
                      rw [e8]
                      obtain ⟨scr, x1, x2, x3, x4, x5⟩ := hX
                      exact ⟨by decide, fun j => .int (xs j), ⟨scr, x1, x2, x3, by omega, by rw [x4], x5, hA b hbs⟩, fun j hjn => ⟨_, rfl, rfl⟩⟩
                    · cases hv
    · intro z hz
      obtain ⟨i, hi⟩ := mem_at hz
      have hlt : i < 53 := (List.getElem?_eq_some_iff.mp hi).1
      have hzl := all_at cZl hlt
      rw [hi] at hzl
      simp only [Bool.and_eq_true] at hzl
      have key : ∀ cv : Value, (Term.static z.1 z.2.1 z.2.2.1).eval #[Value.ref b] s none [] s = some cv → rV sad [] z.2.2.2 cv → ∃ cv, va_Z z.1 z.2.1 z.2.2.1 cv (fun q => s.heap.size ≤ q) s s.heap ∧ rV sad [] z.2.2.2 cv := fun cv h1 h2 => ⟨cv, va_Zof (hU hzl.1) (hU hzl.2) h1 hA, h2⟩
      by_cases h46 : i < 46
      · have hk := all_at cZk h46
        rw [hi] at hk
        simp only [Bool.and_eq_true, decide_eq_true_eq] at hk
        refine key (.ref (adK i)) ?_ ?_
        · rw [hk.1.1.1, hk.1.1.2, hk.1.2]
          exact hadK i h46
        · rw [hk.2]
          exact ⟨_, rfl, Or.inr (e1 i h46).symm⟩
      · obtain rfl | rfl | rfl | rfl | rfl | rfl | rfl : i = 46 ∨ i = 47 ∨ i = 48 ∨ i = 49 ∨ i = 50 ∨ i = 51 ∨ i = 52 := by omega
        · cases hi
          exact key (.ref tA) hA1 ⟨_, rfl, Or.inr e4.symm⟩
        · cases hi
          exact key (.ref tW) hW1 ⟨_, rfl, Or.inr e5.symm⟩
        · cases hi
          exact key (.ref tL) hL1 ⟨_, rfl, Or.inr e6.symm⟩
        · cases hi
          exact key (.ref tS) hS1 ⟨_, rfl, Or.inr e7.symm⟩
        · cases hi
          exact key (.int 1) (va_eqt (pA_ok c1_8 hg)) ⟨_, rfl, rfl⟩
        · cases hi
          exact key (.ref t4) hD1 ⟨_, rfl, Or.inr e9.symm⟩
        · cases hi
          exact key (.ref t5) hE1 ⟨_, rfl, Or.inr e10.symm⟩
    · change SFd fm 997 0 = some v at hv
      have h0 : SFd fm 997 0 = some (if fm = true then qS 999 else qN) := rfl
      rw [h0] at hv
      cases hv
      exact hf2 sad
    · intro a ha
      rw [e1 a ha]
      exact va_Oof (pA_ok (all_at cEx ha) hg) (hadK a ha) hA
    · intro j hj
      rw [e2 j hj]
      exact va_Oof (pA_ok (all_at cSx hj) hg) (had j hj).1 hA
    · exact vx_Zqof (hU t1_2) (hU t1_4) (pA_ok c1_10 hg) hA
    · exact vx_Zqof (hU t1_3) (hU t1_4) (pA_ok c1_11 hg) hA
    · intro o x hx
      exact va_Nw.of rfl (hts _ ((tab_sp o).2.1 x hx).1)
    · intro o x hx z hz
      obtain ⟨z', hz', hw⟩ := (tab_sp o).2.2.2.2.1 x hx
      rw [hz] at hz'
      cases hz'
      exact va_Nw.of rfl (hts _ hw)
    · intro o x hx hkd
      have ho : o < 26 := by
        by_cases ho : o < 26
        · exact ho
        · rw [(tab_none ho).2.2.2.2.2.2.2.2.1] at hx
          cases hx
      have h1 := List.all_eq_true.mp (all_at cAo ho) x hx
      obtain ⟨i1, i2, i3, i4, i5⟩ := x
      dsimp only at h1 hkd
      simp only [Bool.or_eq_true, Bool.and_eq_true, bne_iff_ne] at h1
      rcases h1 with h1 | h1
      · exact absurd hkd (by omega)
      · exact va_Nw.of rfl (hU h1)
    · intro o x hx
      obtain rfl := lxc_o hx
      obtain ⟨i, hi⟩ := mem_at hx
      have hlt : i < (LXc 9).length := (List.getElem?_eq_some_iff.mp hi).1
      rw [cXn] at hlt
      have h1 := all_at cXs hlt
      rw [hi] at h1
      simp only [Bool.and_eq_true] at h1
      obtain ⟨a, c, cA, kA, q1, -⟩ := Cond.exactly_spec (pA_ok h1.1 hg)
      exact ⟨a, vk_R.of (hU h1.2) q1⟩
    · intro o x hx
      obtain ⟨rfl, h42, h90, hsr, hw⟩ := ltx_o hx
      rw [e2 x.2.1 h90]
      have h1 := (had x.2.1 h90).1
      unfold sT at h1
      rw [hsr] at h1
      exact vk_R.of (hts _ hw) h1
    · exact va_AO.of (hU t1_6)
    · exact va_AOA.of (hU t1_7)
    · exact va_AOA.of (hU t1_8)
    · intro x hx
      exact va_Nw.of rfl (hU (all_at cCa hx))
    · intro x y hx hy hxy h0
      subst h0
      have h1 := all_at cNc hx
      simp only [Bool.or_eq_true, decide_eq_true_eq] at h1
      exact va_Nc.of (pA_ok (h1.resolve_left hxy) hg)
    · intro n hn
      obtain ⟨i, hi⟩ := mem_at hn
      have hlt : i < 3 := (List.getElem?_eq_some_iff.mp hi).1
      have h1 := all_at cDe hlt
      have hd : dcN.getD i "" = n := by rw [List.getD_eq_getElem?_getD, hi]; rfl
      rw [hd] at h1
      exact va_Nw.of rfl (hU h1)
    · rw [e11]
      exact ⟨va_AO.of (hU t1_5), va_AOA.of (hU t1_9), hM, va_Dc.of (hU t1_10), va_Nw.of rfl (hU t1_11), va_Nw.of rfl (hU t1_12), va_Fw.of (hU t1_14) (hU t1_15) (hU t1_16) (hU t1_17) (hU t1_13), va_Fw.of (hU t1_18) (hU t1_19) (hU t1_20) (hU t1_21) (hU t1_13)⟩
/-! the words of the upper class' private methods -/
theorem sel_priv2 {y : MethodName} {s : State} {args : Array Value} {C : String} {n : Nat} (hy : y.cls ≠ "java/lang/invoke/MethodHandle" ∧ y.cls ≠ "java/lang/invoke/VarHandle") (hsame : (Cond.sameMethod y.cls y.cls y.name y.desc).before args s = true)
    (hins : (Cond.instantiable C n).before args s = true) (hpriv : (Cond.privateMethod y).before args s = true) (hinst : (Cond.instanceMethod y).before args s = true) : (Cond.selects C y y).before args s = true := by
  obtain ⟨c, k, hc, hk, -, hniab, -, -⟩ := Cond.instantiable_spec hins
  have hni : k.isInterface = false := (Bool.or_eq_false_iff.mp hniab).1
  obtain ⟨mk, methM, hnamed, hmethM, -, -⟩ := Cond.instanceMethod_spec hinst
  have hfound : s.methodFound? y.cls y.name y.desc = some mk := State.methodFound?_of_named hnamed hy
  obtain ⟨cn, ck, r1, hcn, hck, hni2, hf2, hn2⟩ := Cond.sameMethod_found hsame
  have hcls : mk.cls = cn := Option.some.inj ((findClass_of_methodNamed hnamed).symm.trans hcn)
  have hsel : selectMethod {} s.vm c mk = .method mk := selectMethod_private hmethM (Cond.privateMethod_at hpriv mk methM hnamed hmethM)
  simp only [Cond.before, Cond.holds, Cond.value, hc, hfound, hnamed, hsel, hcls, hk, hck]
  simp [hni, hni2]
def xTm : List (Nat × Nat × Nat) := [(1532, 1533, 1809), (1536, 1537, 1810), (1574, 1575, 1811), (1578, 1579, 1812)]
theorem xTk : (List.range 4).all (fun i => inU (xTm.getD i (0, 0, 0)).1 (.privateMethod (xTn.getD i ⟨"", "", ""⟩)) && inU (xTm.getD i (0, 0, 0)).2.1 (.instanceMethod (xTn.getD i ⟨"", "", ""⟩)) && inU (xTm.getD i (0, 0, 0)).2.2 (.sameMethod (xTn.getD i ⟨"", "", ""⟩).cls (xTn.getD i ⟨"", "", ""⟩).cls (xTn.getD i ⟨"", "", ""⟩).name (xTn.getD i ⟨"", "", ""⟩).desc) && decide ((xTn.getD i ⟨"", "", ""⟩).cls = "java/lang/AbstractStringBuilder")) = true := by decide +kernel
theorem xTi : inU 1653 (.instantiable "java/lang/StringBuilder" 4) = true := by decide +kernel
theorem gt_all {args : Array Value} {s : State} (hts : ∀ w ∈ lw_tbl, w.before args s = true) : ∀ w ∈ GT, w.before args s = true := by
  intro w hw
  rcases List.mem_append.mp hw with h | h
  · exact hts w (List.mem_filter.mp h).1
  · obtain ⟨y, hy, rfl⟩ := List.mem_map.mp h
    obtain ⟨i, hi⟩ := mem_at hy
    have hlt : i < 4 := (List.getElem?_eq_some_iff.mp hi).1
    have h1 := all_at xTk hlt
    have e : xTn.getD i ⟨"", "", ""⟩ = y := by rw [List.getD_eq_getElem?_getD, hi]; rfl
    rw [e] at h1
    simp only [Bool.and_eq_true, decide_eq_true_eq] at h1
    obtain ⟨⟨⟨h2, h3⟩, h4⟩, h5⟩ := h1
    exact sel_priv2 (by rw [h5]; decide) (hts _ (inU_ok h4)) (hts _ (inU_ok xTi)) (hts _ (inU_ok h2)) (hts _ (inU_ok h3))
