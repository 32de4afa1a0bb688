/-! ===== TOKENS OF A LIST: keywords with their names ===== -/
def alen (a : Nat) : Nat := if a = 0 then 2 else if a = 1 then 8 else if a = 5 then 6 else if a = 8 ∨ a = 10 ∨ a = 11 ∨ a = 18 ∨ a = 14 ∨ a = 15 ∨ a = 17 then 2 else if a = 16 ∨ a = 19 ∨ a = 20 then 3 else 1
def atOk (K : Nat → Nat) (n : Nat) : Prop := (K n = 0 → K (n + 1) = 42) ∧ (K n = 1 → K (n + 1) = 42 ∧ K (n + 2) = 2 ∧ K (n + 3) = 42 ∧ K (n + 4) = 3 ∧ K (n + 5) = 42 ∧ K (n + 6) = 4 ∧ K (n + 7) = 43) ∧ (K n = 5 → K (n + 1) = 42 ∧ K (n + 2) = 6 ∧ K (n + 3) = 42 ∧ K (n + 4) = 7 ∧ K (n + 5) = 43) ∧ ((K n = 8 ∨ K n = 10 ∨ K n = 11 ∨ K n = 18 ∨ K n = 14 ∨ K n = 15 ∨ K n = 17) → K (n + 1) = 42) ∧ ((K n = 16 ∨ K n = 19 ∨ K n = 20) → K (n + 1) = 42 ∧ K (n + 2) = 42) ∧ K n ≠ 2 ∧ K n ≠ 3 ∧ K n ≠ 4 ∧ K n ≠ 6 ∧ K n ≠ 7 ∧ K n ≠ 42 ∧ K n < 44
def wfS (K : Nat → Nat) : Nat → Nat → Nat → Prop
  | 0, n, m => n = m
  | j + 1, n, m => atOk K n ∧ wfS K j (n + alen (K n)) m
theorem wfS_cat {K : Nat → Nat} : ∀ {j n m i l : Nat}, wfS K j n m → wfS K i m l → wfS K (j + i) n l
  | 0, n, m, i, l, h1, h2 => by
    have h1 : n = m := h1
    subst h1
    rw [Nat.zero_add]
    exact h2
  | j + 1, n, m, i, l, h1, h2 => by
    rw [Nat.add_right_comm]
    exact ⟨h1.1, wfS_cat h1.2 h2⟩
def wfE (K : Nat → Nat) (n m : Nat) : Prop := ∃ j, wfS K j n m
theorem wfE.rf {K : Nat → Nat} {n : Nat} : wfE K n n := ⟨0, rfl⟩
theorem wfE.tr {K : Nat → Nat} {n m l : Nat} (h1 : wfE K n m) (h2 : wfE K m l) : wfE K n l := by
  obtain ⟨j, h1⟩ := h1
  obtain ⟨i, h2⟩ := h2
  exact ⟨j + i, wfS_cat h1 h2⟩
theorem wfE.one {K : Nat → Nat} {n m : Nat} (h1 : atOk K n) (h2 : n + alen (K n) = m) : wfE K n m := ⟨1, h1, h2⟩
/-- a token without names -/
theorem at_pl {K : Nat → Nat} {n a : Nat} (h : K n = a) (ha : a = 9 ∨ a = 12 ∨ a = 13 ∨ (21 ≤ a ∧ a ≤ 41) ∨ a = 43) : wfE K n (n + 1) := by
  refine wfE.one ⟨fun z => by omega, fun z => by omega, fun z => by omega, fun z => by omega, fun z => by omega, by omega, by omega, by omega, by omega, by omega, by omega, by omega⟩ ?_
  unfold alen
  rw [if_neg (by omega), if_neg (by omega), if_neg (by omega), if_neg (by omega), if_neg (by omega)]
theorem at_n1 {K : Nat → Nat} {n : Nat} (h : K n = 8 ∨ K n = 10 ∨ K n = 11 ∨ K n = 18 ∨ K n = 14 ∨ K n = 15 ∨ K n = 17) (h1 : K (n + 1) = 42) : wfE K n (n + 2) := by
  refine wfE.one ⟨fun z => by omega, fun z => by omega, fun z => by omega, fun _ => h1, fun z => by omega, by omega, by omega, by omega, by omega, by omega, by omega, by omega⟩ ?_
  unfold alen
  rw [if_neg (by omega), if_neg (by omega), if_neg (by omega), if_pos (by omega)]
theorem at_n2 {K : Nat → Nat} {n : Nat} (h : K n = 16 ∨ K n = 19 ∨ K n = 20) (h1 : K (n + 1) = 42) (h2 : K (n + 2) = 42) : wfE K n (n + 3) := by
  refine wfE.one ⟨fun z => by omega, fun z => by omega, fun z => by omega, fun z => by omega, fun _ => ⟨h1, h2⟩, by omega, by omega, by omega, by omega, by omega, by omega, by omega⟩ ?_
  unfold alen
  rw [if_neg (by omega), if_neg (by omega), if_neg (by omega), if_neg (by omega), if_pos (by omega)]
theorem jn_pl {lvl a : Nat} (h : jn lvl a = true) : 21 ≤ a ∧ a ≤ 41 := by
  unfold jn at h
  repeat' split at h
  all_goals (simp only [decide_eq_true_eq] at h; omega)
theorem pG_wf {K : Nat → Nat} : ∀ (f lvl dp n n' : Nat) (L : List (Nat × Nat)), pG K f lvl dp n = some (true, n', L) → wfE K n n' := by
  intro f
  induction f with
  | zero => intro lvl dp n n' L h; cases h
  | succ f ih =>
    intro lvl dp n n' L h
    unfold pG at h
    split at h
    · unfold pTail at h
      split at h
      · rename_i hj
        have hp := jn_pl hj
        rcases pB_some h with ⟨n1, L1, e1, h⟩ | ⟨n1, L1, e1, h⟩
        · rcases pB_some h with ⟨n2, L2, e2, h⟩ | ⟨n2, L2, e2, h⟩
          · cases h
            exact ((at_pl rfl (by omega)).tr (ih _ _ _ _ _ e1)).tr (ih _ _ _ _ _ e2)
          · cases h
        · cases h
      · cases h
        exact wfE.rf
    · split at h
      · unfold pSingle at h
        split at h
        · rename_i hk
          split at h
          · rcases pB_some h with ⟨n1, L1, e1, h⟩ | ⟨n1, L1, e1, h⟩
            · split at h
              · rename_i hk2
                cases h
                exact ((at_pl hk (by omega)).tr (ih _ _ _ _ _ e1)).tr (at_pl hk2 (by omega))
              · cases h
            · cases h
          · cases h
        · split at h
          · rename_i hk
            split at h
            · rcases pB_some h with ⟨n1, L1, e1, h⟩ | ⟨n1, L1, e1, h⟩
              · cases h
                exact (at_pl hk (by omega)).tr (ih _ _ _ _ _ e1)
              · cases h
            · cases h
          · split at h
            · rename_i hk
              split at h
              · rename_i hk2
                cases h
                exact at_n1 (by omega) hk2
              · cases h
            · split at h
              · rename_i hk
                split at h
                · rename_i hk2
                  split at h
                  · rename_i hk3
                    cases h
                    exact at_n2 (by omega) hk2 hk3
                  · cases h
                · cases h
              · rcases pB_some h with ⟨n1, L1, e1, h⟩ | ⟨n1, L1, e1, h⟩
                · split at h
                  · rename_i hk2
                    rcases pB_some h with ⟨n2, L2, e2, h⟩ | ⟨n2, L2, e2, h⟩
                    · cases h
                      exact ((ih _ _ _ _ _ e1).tr (at_pl rfl (by omega))).tr (ih _ _ _ _ _ e2)
                    · cases h
                  · cases h
                · cases h
      · split at h
        · unfold pValue at h
          split at h
          · rename_i hk
            split at h
            · rcases pB_some h with ⟨n1, L1, e1, h⟩ | ⟨n1, L1, e1, h⟩
              · split at h
                · rename_i hk2
                  cases h
                  exact ((at_pl hk (by omega)).tr (ih _ _ _ _ _ e1)).tr (at_pl hk2 (by omega))
                · cases h
              · cases h
            · cases h
          · split at h
            · rename_i hk
              split at h
              · rcases pB_some h with ⟨n1, L1, e1, h⟩ | ⟨n1, L1, e1, h⟩
                · cases h
                  exact (at_pl hk (by omega)).tr (ih _ _ _ _ _ e1)
                · cases h
              · cases h
            · split at h
              · rename_i hk
                cases h
                exact at_pl rfl (by omega)
              · split at h
                · rename_i hk
                  split at h
                  · rename_i hk2
                    cases h
                    exact at_n1 (by omega) hk2
                  · cases h
                · split at h
                  · rename_i hk
                    split at h
                    · rename_i hk2
                      split at h
                      · rename_i hk3
                        cases h
                        exact at_n2 (by omega) hk2 hk3
                      · cases h
                    · cases h
                  · split at h
                    · rename_i hk
                      split at h
                      · rename_i hk2
                        rcases pB_some h with ⟨n1, L1, e1, h⟩ | ⟨n1, L1, e1, h⟩
                        · split at h
                          · rename_i hk3
                            rcases pB_some h with ⟨n2, L2, e2, h⟩ | ⟨n2, L2, e2, h⟩
                            · split at h
                              · rename_i hk4
                                cases h
                                exact (((((at_pl rfl (by omega)).tr (at_pl hk2.2 (by omega))).tr (ih _ _ _ _ _ e1)).tr (at_pl hk3 (by omega))).tr (ih _ _ _ _ _ e2)).tr (at_pl hk4 (by omega))
                              · cases h
                            · cases h
                          · cases h
                        · cases h
                      · cases h
                    · cases h
        · unfold pChain at h
          rcases pB_some h with ⟨n1, L1, e1, h⟩ | ⟨n1, L1, e1, h⟩
          · rcases pB_some h with ⟨n2, L2, e2, h⟩ | ⟨n2, L2, e2, h⟩
            · cases h
              exact (ih _ _ _ _ _ e1).tr (ih _ _ _ _ _ e2)
            · cases h
          · cases h
theorem pSeq_all {K : Nat → Nat} : ∀ {l : List Nat} {n : Nat}, (pSeq K l n).1 = true → (pSeq K l n).2 = n + l.length ∧ ∀ (i a : Nat), l[i]? = some a → K (n + i) = a
  | [], n, _ => ⟨rfl, fun i a h => by simp at h⟩
  | b :: l, n, h => by
    unfold pSeq at h ⊢
    by_cases hb : K n = b
    · rw [if_pos hb] at h ⊢
      obtain ⟨h1, h2⟩ := pSeq_all h
      refine ⟨by rw [h1, List.length_cons]; omega, fun i a hi => ?_⟩
      cases i with
      | zero => cases hi; exact hb
      | succ i =>
        have := h2 i a hi
        rw [show n + (i + 1) = n + 1 + i by omega]
        exact this
    · rw [if_neg hb] at h
      cases h
theorem pOrder_wf {K : Nat → Nat} {F n m : Nat} {o : Or} (h : pOrder K F n = some (true, m, o)) : wfE K n m := by
  unfold pOrder at h
  split at h
  · rename_i h8
    split at h
    · rename_i h42
      split at h
      · rename_i h9
        split at h
        · cases h
        · cases h
        · rename_i n1 Ls e1
          split at h
          · rename_i h12
            split at h
            · cases h
            · cases h
            · rename_i n2 Lt e2
              cases h
              exact ((((at_n1 (by omega) h42).tr (at_pl h9 (by omega))).tr (pG_wf _ _ _ _ _ _ e1)).tr (at_pl h12 (by omega))).tr (pG_wf _ _ _ _ _ _ e2)
          · cases h
      · cases h
    · cases h
  · split at h
    · rename_i h10
      split at h
      · rename_i h42
        split at h
        · rename_i h12
          split at h
          · cases h
          · cases h
          · rename_i n2 Lt e2
            cases h
            exact ((at_n1 (by omega) h42).tr (at_pl h12 (by omega))).tr (pG_wf _ _ _ _ _ _ e2)
        · cases h
      · cases h
    · cases h
theorem pLine_wf {K : Nat → Nat} {F n m : Nat} {o : Option Or} (h : pLine K F n = some (true, m, o)) : wfE K n m := by
  unfold pLine at h
  split at h
  · rename_i h0
    have h1 : (pSeq K [0, 42] n).1 = true := by
      have := congrArg (fun x : Option (Bool × Nat × Option Or) => x.map (·.1)) h
      simpa using this
    have h2 : (pSeq K [0, 42] n).2 = m := by
      have := congrArg (fun x : Option (Bool × Nat × Option Or) => x.map (·.2.1)) h
      simpa using this
    obtain ⟨h3, h4⟩ := pSeq_all h1
    rw [h2] at h3
    have k1 := h4 1 42 rfl
    refine wfE.one ⟨fun _ => k1, fun z => by omega, fun z => by omega, fun z => by omega, fun z => by omega, by omega, by omega, by omega, by omega, by omega, by omega, by omega⟩ ?_
    rw [h0, h3]
    rfl
  · split at h
    · rename_i h0
      have h1 : (pSeq K [1, 42, 2, 42, 3, 42, 4, 43] n).1 = true := by
        have := congrArg (fun x : Option (Bool × Nat × Option Or) => x.map (·.1)) h
        simpa using this
      have h2 : (pSeq K [1, 42, 2, 42, 3, 42, 4, 43] n).2 = m := by
        have := congrArg (fun x : Option (Bool × Nat × Option Or) => x.map (·.2.1)) h
        simpa using this
      obtain ⟨h3, h4⟩ := pSeq_all h1
      rw [h2] at h3
      refine wfE.one ⟨fun z => by omega, fun _ => ⟨h4 1 42 rfl, h4 2 2 rfl, h4 3 42 rfl, h4 4 3 rfl, h4 5 42 rfl, h4 6 4 rfl, h4 7 43 rfl⟩, fun z => by omega, fun z => by omega, fun z => by omega, by omega, by omega, by omega, by omega, by omega, by omega, by omega⟩ ?_
      rw [h0, h3]
      rfl
    · split at h
      · rename_i h0
        have h1 : (pSeq K [5, 42, 6, 42, 7, 43] n).1 = true := by
          have := congrArg (fun x : Option (Bool × Nat × Option Or) => x.map (·.1)) h
          simpa using this
        have h2 : (pSeq K [5, 42, 6, 42, 7, 43] n).2 = m := by
          have := congrArg (fun x : Option (Bool × Nat × Option Or) => x.map (·.2.1)) h
          simpa using this
        obtain ⟨h3, h4⟩ := pSeq_all h1
        rw [h2] at h3
        refine wfE.one ⟨fun z => by omega, fun z => by omega, fun _ => ⟨h4 1 42 rfl, h4 2 6 rfl, h4 3 42 rfl, h4 4 7 rfl, h4 5 43 rfl⟩, fun z => by omega, fun z => by omega, by omega, by omega, by omega, by omega, by omega, by omega, by omega⟩ ?_
        rw [h0, h3]
        rfl
      · rcases ho : pOrder K F n with _ | ⟨b, n1, o'⟩
        · rw [ho] at h; cases h
        · rw [ho] at h
          cases h
          exact pOrder_wf ho
theorem pLs_wf {K : Nat → Nat} {F : Nat} : ∀ {m n n2 : Nat} {os : List Or}, pLs K F m n = some (true, n2, os) → wfE K n n2 ∧ K n2 = 45
  | 0, n, n2, os, h => by cases h
  | m + 1, n, n2, os, h => by
    unfold pLs at h
    split at h
    · rename_i h45
      cases h
      exact ⟨wfE.rf, h45⟩
    · split at h
      · cases h
      · cases h
      · rename_i n1 o e1
        split at h
        · rename_i h30
          split at h
          · cases h
          · rename_i b n3 os3 e3
            cases h
            obtain ⟨h1, h2⟩ := pLs_wf e3
            exact ⟨((pLine_wf e1).tr (at_pl h30 (by omega))).tr h1, h2⟩
        · cases h
theorem pLs_is {K : Nat → Nat} {tc : Nat} (hK : KOk K tc) : ∀ {m n : Nat}, n < tc → tc - n < m → ∃ r, pLs K 6500 m n = some r
  | 0, n, _, h => absurd h (Nat.not_lt_zero _)
  | m + 1, n, hn, hm => by
    have htc := hK.1.2
    unfold pLs
    by_cases h45 : K n = 45
    · rw [if_pos h45]
      exact ⟨_, rfl⟩
    · rw [if_neg h45]
      have hpl : ∃ r, pLine K 6500 n = some r := by
        unfold pLine
        split
        · exact ⟨_, rfl⟩
        · split
          · exact ⟨_, rfl⟩
          · split
            · exact ⟨_, rfl⟩
            · have hpo : ∃ r, pOrder K 6500 n = some r := by
                have r3 : rkL 3 = 2 := rfl
                have r0 : rkL 0 = 5 := rfl
                unfold pOrder
                split
                · rename_i h8
                  have hn1 := hK.nx hn h8 (by decide)
                  split
                  · rename_i h42
                    have hn2 := hK.nx hn1 h42 (by decide)
                    split
                    · rename_i h9
                      have hn3 := hK.nx hn2 h9 (by decide)
                      obtain ⟨⟨b, n1, L1⟩, e1⟩ := pG_is hK 6500 3 0 (n + 3) (by omega) hn3 (by omega)
                      rw [e1]
                      cases b with
                      | false => exact ⟨_, rfl⟩
                      | true =>
                        have o1 := (pG_ok hK _ _ _ _ _ hn3 e1).1
                        dsimp only at o1 ⊢
                        split
                        · rename_i h12
                          have hn4 := hK.nx o1 h12 (by decide)
                          obtain ⟨⟨b, n2, L2⟩, e2⟩ := pG_is hK 6500 0 0 (n1 + 1) (by omega) hn4 (by omega)
                          rw [e2]
                          cases b <;> exact ⟨_, rfl⟩
                        · exact ⟨_, rfl⟩
                    · exact ⟨_, rfl⟩
                  · exact ⟨_, rfl⟩
                · split
                  · rename_i h10
                    have hn1 := hK.nx hn rfl (by omega)
                    split
                    · rename_i h42
                      have hn2 := hK.nx hn1 h42 (by decide)
                      split
                      · rename_i h12
                        have hn3 := hK.nx hn2 h12 (by decide)
                        obtain ⟨⟨b, n2, L2⟩, e2⟩ := pG_is hK 6500 0 0 (n + 3) (by omega) hn3 (by omega)
                        rw [e2]
                        cases b <;> exact ⟨_, rfl⟩
                      · exact ⟨_, rfl⟩
                    · exact ⟨_, rfl⟩
                  · exact ⟨_, rfl⟩
              obtain ⟨r, hr⟩ := hpo
              rw [hr]
              exact ⟨_, rfl⟩
      obtain ⟨⟨b, n1, o⟩, e1⟩ := hpl
      have ho := pLine_ok hK hn e1
      rw [e1]
      cases b with
      | false => exact ⟨_, rfl⟩
      | true =>
        dsimp only at ho ⊢
        split
        · rename_i h30
          have hn2 := hK.nx ho.1 h30 (by decide)
          have := ho.2.2 rfl
          obtain ⟨⟨b, n2, os⟩, e2⟩ := pLs_is hK (m := m) (n := n1 + 1) hn2 (by omega)
          rw [e2]
          exact ⟨_, rfl⟩
        · exact ⟨_, rfl⟩
