/-! ===== codes and their kinds; a whole good list ===== -/
def cdK (a : Nat) : Prop := (13 ≤ a ∧ a ≤ 25) ∨ (32 ≤ a ∧ a ≤ 41) ∨ a = 43
def cdL (L : List (Nat × Nat)) : Prop := ∀ x, x ∈ L → cdK x.2
theorem cdL.nil : cdL [] := fun x hx => by cases hx
theorem cdL.app {L1 L2 : List (Nat × Nat)} (h1 : cdL L1) (h2 : cdL L2) : cdL (L1 ++ L2) := fun x hx => by
  rcases List.mem_append.mp hx with hx | hx
  · exact h1 x hx
  · exact h2 x hx
theorem cdL.cons {x : Nat × Nat} {L : List (Nat × Nat)} (h1 : cdK x.2) (h2 : cdL L) : cdL (x :: L) := fun y hy => by
  rcases List.mem_cons.mp hy with rfl | hy
  · exact h1
  · exact h2 y hy
theorem cdL.one {n a : Nat} (h : cdK a) : cdL [(n, a)] := cdL.cons h cdL.nil
theorem jn_cd {lvl a : Nat} (h : jn lvl a = true) : cdK a := by
  unfold cdK
  unfold jn at h
  repeat' split at h
  all_goals (simp only [decide_eq_true_eq] at h; omega)
theorem pG_cd {K : Nat → Nat} : ∀ (f lvl dp n n' : Nat) (L : List (Nat × Nat)), pG K f lvl dp n = some (true, n', L) → cdL L := by
  intro f
  induction f with
  | zero => intro lvl dp n n' L h; cases h
  | succ f ih =>
    intro lvl dp n n' L h
    unfold pG at h
    split at h
    · unfold pTail at h
      split at h
      · rename_i hj
        rcases pB_some h with ⟨n1, L1, e1, h⟩ | ⟨n1, L1, e1, h⟩
        · rcases pB_some h with ⟨n2, L2, e2, h⟩ | ⟨n2, L2, e2, h⟩
          · cases h
            exact (ih _ _ _ _ _ e1).app (cdL.cons (jn_cd hj) (ih _ _ _ _ _ e2))
          · cases h
        · cases h
      · cases h
        exact cdL.nil
    · split at h
      · unfold pSingle at h
        split at h
        · split at h
          · rcases pB_some h with ⟨n1, L1, e1, h⟩ | ⟨n1, L1, e1, h⟩
            · split at h
              · cases h
                exact ih _ _ _ _ _ e1
              · cases h
            · cases h
          · cases h
        · split at h
          · split at h
            · rcases pB_some h with ⟨n1, L1, e1, h⟩ | ⟨n1, L1, e1, h⟩
              · cases h
                exact (ih _ _ _ _ _ e1).app (cdL.one (by unfold cdK; omega))
              · cases h
            · cases h
          · split at h
            · split at h
              · cases h
                exact cdL.one (by unfold cdK; omega)
              · cases h
            · split at h
              · rename_i hk
                split at h
                · split at h
                  · cases h
                    exact cdL.one (by unfold cdK; omega)
                  · cases h
                · cases h
              · rcases pB_some h with ⟨n1, L1, e1, h⟩ | ⟨n1, L1, e1, h⟩
                · split at h
                  · rename_i hk2
                    rcases pB_some h with ⟨n2, L2, e2, h⟩ | ⟨n2, L2, e2, h⟩
                    · cases h
                      exact ((ih _ _ _ _ _ e1).app (ih _ _ _ _ _ e2)).app (cdL.one (by unfold cdK; omega))
                    · cases h
                  · cases h
                · cases h
      · split at h
        · unfold pValue at h
          split at h
          · split at h
            · rcases pB_some h with ⟨n1, L1, e1, h⟩ | ⟨n1, L1, e1, h⟩
              · split at h
                · cases h
                  exact ih _ _ _ _ _ e1
                · cases h
              · cases h
            · cases h
          · split at h
            · split at h
              · rcases pB_some h with ⟨n1, L1, e1, h⟩ | ⟨n1, L1, e1, h⟩
                · cases h
                  exact (ih _ _ _ _ _ e1).app (cdL.one (by unfold cdK; omega))
                · cases h
              · cases h
            · split at h
              · rename_i hk
                cases h
                exact cdL.one (by unfold cdK; omega)
              · split at h
                · rename_i hk
                  split at h
                  · cases h
                    exact cdL.one (by unfold cdK; omega)
                  · cases h
                · split at h
                  · split at h
                    · split at h
                      · cases h
                        exact cdL.one (by unfold cdK; omega)
                      · cases h
                    · cases h
                  · split at h
                    · rename_i hk
                      split at h
                      · rcases pB_some h with ⟨n1, L1, e1, h⟩ | ⟨n1, L1, e1, h⟩
                        · split at h
                          · rcases pB_some h with ⟨n2, L2, e2, h⟩ | ⟨n2, L2, e2, h⟩
                            · split at h
                              · cases h
                                exact ((ih _ _ _ _ _ e1).app (ih _ _ _ _ _ e2)).app (cdL.one (by unfold cdK; omega))
                              · cases h
                            · cases h
                          · cases h
                        · cases h
                      · cases h
                    · cases h
        · unfold pChain at h
          rcases pB_some h with ⟨n1, L1, e1, h⟩ | ⟨n1, L1, e1, h⟩
          · rcases pB_some h with ⟨n2, L2, e2, h⟩ | ⟨n2, L2, e2, h⟩
            · cases h
              exact (ih _ _ _ _ _ e1).app (ih _ _ _ _ _ e2)
            · cases h
          · cases h
/-- an order as it is told -/
def orOk (K : Nat → Nat) (o : Or) : Prop := (K o.1 = 8 ∨ K o.1 = 10 ∨ K o.1 = 11) ∧ cdL o.2.1 ∧ cdL o.2.2
theorem pOrder_cd {K : Nat → Nat} {F n m : Nat} {o : Or} (h : pOrder K F n = some (true, m, o)) : orOk K o := by
  unfold pOrder at h
  split at h
  · rename_i h8
    split at h
    · split at h
      · rcases he : pG K F 3 0 (n + 3) with _ | ⟨_ | _, n1, L1⟩
        · rw [he] at h; cases h
        · rw [he] at h; cases h
        · rw [he] at h
          dsimp only at h
          split at h
          · rcases he2 : pG K F 0 0 (n1 + 1) with _ | ⟨_ | _, n2, L2⟩
            · rw [he2] at h; cases h
            · rw [he2] at h; cases h
            · rw [he2] at h
              cases h
              exact ⟨Or.inl h8, pG_cd _ _ _ _ _ _ he, pG_cd _ _ _ _ _ _ he2⟩
          · cases h
      · cases h
    · cases h
  · split at h
    · rename_i h10
      split at h
      · split at h
        · rcases he2 : pG K F 0 0 (n + 3) with _ | ⟨_ | _, n2, L2⟩
          · rw [he2] at h; cases h
          · rw [he2] at h; cases h
          · rw [he2] at h
            cases h
            exact ⟨Or.inr h10, cdL.nil, pG_cd _ _ _ _ _ _ he2⟩
        · cases h
      · cases h
    · cases h
theorem pLine_cd {K : Nat → Nat} {F n m : Nat} {o : Option Or} (h : pLine K F n = some (true, m, o)) : ∀ x, x ∈ o.toList → orOk K x := by
  unfold pLine at h
  split at h
  · have ho : o = none := (congrArg (fun r => r.2.2) (Option.some.inj h)).symm
    subst ho
    intro x hx
    cases hx
  · split at h
    · have ho : o = none := (congrArg (fun r => r.2.2) (Option.some.inj h)).symm
      subst ho
      intro x hx
      cases hx
    · split at h
      · have ho : o = none := (congrArg (fun r => r.2.2) (Option.some.inj h)).symm
        subst ho
        intro x hx
        cases hx
      · rcases ho : pOrder K F n with _ | ⟨b, n1, o1⟩
        · rw [ho] at h; cases h
        · rw [ho] at h
          cases h
          intro x hx
          rcases List.mem_cons.mp hx with rfl | hx
          · exact pOrder_cd ho
          · cases hx
theorem pLs_cd {K : Nat → Nat} {F : Nat} : ∀ {m n n2 : Nat} {os : List Or}, pLs K F m n = some (true, n2, os) → ∀ x, x ∈ os → orOk K x
  | 0, n, n2, os, h => by cases h
  | m + 1, n, n2, os, h => by
    unfold pLs at h
    split at h
    · cases h
      intro x hx
      cases hx
    · rcases hl : pLine K F n with _ | ⟨_ | _, n1, o⟩
      · rw [hl] at h; cases h
      · rw [hl] at h; cases h
      · rw [hl] at h
        dsimp only at h
        split at h
        · rcases hls : pLs K F m (n1 + 1) with _ | ⟨b, n3, os2⟩
          · rw [hls] at h; cases h
          · rw [hls] at h
            cases h
            intro x hx
            rcases List.mem_append.mp hx with hx | hx
            · exact pLine_cd hl x hx
            · exact pLs_cd hls x hx
        · cases h
/-- a minus that stands before is no name -/
def KEq (K kd : Nat → Nat) : Prop := ∀ m, kd m = K m ∨ (kd m = 41 ∧ K m = 33)
theorem KEq.at {K kd : Nat → Nat} (he : KEq K kd) {n : Nat} (h : atOk K n) : atOk kd n ∧ alen (kd n) = alen (K n) := by
  have k42 : ∀ m a, a ≠ 33 → a ≠ 41 → (K m = a → kd m = a) ∧ (kd m = a → K m = a) := fun m a h1 h2 => by
    rcases he m with h3 | h3
    · rw [h3]
      exact ⟨id, id⟩
    · exact ⟨fun z => by omega, fun z => by omega⟩
  have hal : alen (kd n) = alen (K n) := by
    rcases he n with h3 | ⟨h3, h4⟩
    · rw [h3]
    · rw [h3, h4]
      rfl
  obtain ⟨a0, a1, a5, an1, an2, b1, b2, b3, b4, b5, b6, b7⟩ := h
  have hn := he n
  refine ⟨⟨fun z => ?_, fun z => ?_, fun z => ?_, fun z => ?_, fun z => ?_, by omega, by omega, by omega, by omega, by omega, by omega, by omega⟩, hal⟩
  · exact (k42 _ 42 (by decide) (by decide)).1 (a0 ((k42 n 0 (by decide) (by decide)).2 z))
  · obtain ⟨c1, c2, c3, c4, c5, c6, c7⟩ := a1 ((k42 n 1 (by decide) (by decide)).2 z)
    exact ⟨(k42 _ 42 (by decide) (by decide)).1 c1, (k42 _ 2 (by decide) (by decide)).1 c2, (k42 _ 42 (by decide) (by decide)).1 c3, (k42 _ 3 (by decide) (by decide)).1 c4, (k42 _ 42 (by decide) (by decide)).1 c5, (k42 _ 4 (by decide) (by decide)).1 c6, (k42 _ 43 (by decide) (by decide)).1 c7⟩
  · obtain ⟨c1, c2, c3, c4, c5⟩ := a5 ((k42 n 5 (by decide) (by decide)).2 z)
    exact ⟨(k42 _ 42 (by decide) (by decide)).1 c1, (k42 _ 6 (by decide) (by decide)).1 c2, (k42 _ 42 (by decide) (by decide)).1 c3, (k42 _ 7 (by decide) (by decide)).1 c4, (k42 _ 43 (by decide) (by decide)).1 c5⟩
  · exact (k42 _ 42 (by decide) (by decide)).1 (an1 (by omega))
  · have := an2 (by omega)
    exact ⟨(k42 _ 42 (by decide) (by decide)).1 this.1, (k42 _ 42 (by decide) (by decide)).1 this.2⟩
theorem KEq.wf {K kd : Nat → Nat} (he : KEq K kd) : ∀ {j n m : Nat}, wfS K j n m → wfS kd j n m
  | 0, n, m, h => h
  | j + 1, n, m, h => by
    obtain ⟨h1, h2⟩ := h
    obtain ⟨h3, h4⟩ := he.at h1
    refine ⟨h3, ?_⟩
    rw [h4]
    exact he.wf h2
theorem wfS_le {K : Nat → Nat} : ∀ {j n m : Nat}, wfS K j n m → n ≤ m
  | 0, n, m, h => Nat.le_of_eq h
  | j + 1, n, m, h => by
    have := wfS_le h.2
    omega
theorem alen_pos {a : Nat} : 1 ≤ alen a ∧ alen a ≤ 8 := by
  unfold alen
  repeat' split
  all_goals omega
section NAT
variable {tc : Nat} {kd : Nat → Nat} {sp : Nat → Int} {P0 : Nat → Nat → Int} {e1 e2 p q : Nat} {s : NSt}
theorem nAt_no {t : Nat} (h0 : kd t ≠ 0) (h1 : kd t ≠ 1) (h5 : kd t ≠ 5) (h8 : kd t ≠ 8) (h10 : kd t ≠ 10) (h11 : kd t ≠ 11) (h14 : ¬ (14 ≤ kd t ∧ kd t ≤ 20)) : nAt tc kd sp t s = s := by
  unfold nAt
  rw [if_neg h0, if_neg h1, if_neg h5, if_neg (by omega), if_neg h11, if_neg (by omega), if_neg (by omega), if_neg (by omega), if_neg (by omega)]
theorem nAll_er {m t : Nat} (h : s.1 ≠ 0) : nAll tc kd sp m t s = s := by
  cases m with
  | zero => rfl
  | succ m =>
    unfold nAll
    rw [if_neg h]
theorem nAll_skip : ∀ {a m t : Nat}, (∀ i, i < a → ∀ s, nAt tc kd sp (t + i) s = s) → nAll tc kd sp (a + m) t s = nAll tc kd sp m (t + a) s
  | 0, m, t, h => by rw [Nat.zero_add]; rfl
  | a + 1, m, t, h => by
    by_cases h1 : s.1 = 0
    · rw [show a + 1 + m = (a + m) + 1 by omega]
      have h0 := h 0 (by omega) s
      rw [Nat.add_zero] at h0
      have : nAll tc kd sp ((a + m) + 1) t s = nAll tc kd sp (a + m) (t + 1) s := by
        show (if s.1 = 0 then nAll tc kd sp (a + m) (t + 1) (nAt tc kd sp t s) else s) = _
        rw [if_pos h1, h0]
      rw [this, nAll_skip (a := a) (fun i hi s => by
        have := h (i + 1) (by omega) s
        rw [show t + (i + 1) = t + 1 + i by omega] at this
        exact this), show t + 1 + a = t + (a + 1) by omega]
    · rw [nAll_er h1, nAll_er h1]
/-- a keyword with its names is one step -/
theorem nAll_at {m : Nat} (h : atOk kd p) : nAll tc kd sp (alen (kd p) + m) p s = if s.1 = 0 then nAll tc kd sp m (p + alen (kd p)) (nAt tc kd sp p s) else s := by
  have no42 : ∀ t, (kd t = 42 ∨ kd t = 2 ∨ kd t = 3 ∨ kd t = 4 ∨ kd t = 6 ∨ kd t = 7 ∨ kd t = 43) → ∀ s, nAt tc kd sp t s = s := fun t ht s => nAt_no (by omega) (by omega) (by omega) (by omega) (by omega) (by omega) (by omega)
  obtain ⟨a0, a1, a5, an1, an2, -⟩ := h
  have hin : ∀ i, i < alen (kd p) - 1 → ∀ s, nAt tc kd sp (p + 1 + i) s = s := by
    intro i hi
    apply no42
    unfold alen at hi
    split at hi
    · rename_i h
      have := a0 h
      rw [show p + 1 + i = p + 1 by omega]
      omega
    · split at hi
      · rename_i h
        obtain ⟨c1, c2, c3, c4, c5, c6, c7⟩ := a1 h
        rcases (by omega : i = 0 ∨ i = 1 ∨ i = 2 ∨ i = 3 ∨ i = 4 ∨ i = 5 ∨ i = 6) with rfl | rfl | rfl | rfl | rfl | rfl | rfl
        · exact Or.inl c1
        · exact Or.inr (Or.inl c2)
        · exact Or.inl c3
        · exact Or.inr (Or.inr (Or.inl c4))
        · exact Or.inl c5
        · exact Or.inr (Or.inr (Or.inr (Or.inl c6)))
        · exact Or.inr (Or.inr (Or.inr (Or.inr (Or.inr (Or.inr c7)))))
      · split at hi
        · rename_i h
          obtain ⟨c1, c2, c3, c4, c5⟩ := a5 h
          rcases (by omega : i = 0 ∨ i = 1 ∨ i = 2 ∨ i = 3 ∨ i = 4) with rfl | rfl | rfl | rfl | rfl
          · exact Or.inl c1
          · exact Or.inr (Or.inr (Or.inr (Or.inr (Or.inl c2))))
          · exact Or.inl c3
          · exact Or.inr (Or.inr (Or.inr (Or.inr (Or.inr (Or.inl c4)))))
          · exact Or.inr (Or.inr (Or.inr (Or.inr (Or.inr (Or.inr c5)))))
        · split at hi
          · rename_i h
            have := an1 (by omega)
            rw [show p + 1 + i = p + 1 by omega]
            omega
          · split at hi
            · rename_i h
              have := an2 h
              rcases (by omega : i = 0 ∨ i = 1) with rfl | rfl
              · exact Or.inl this.1
              · exact Or.inl this.2
            · omega
  have hp := alen_pos (a := kd p)
  rw [show alen (kd p) + m = (alen (kd p) - 1 + m) + 1 by omega]
  show (if s.1 = 0 then nAll tc kd sp (alen (kd p) - 1 + m) (p + 1) (nAt tc kd sp p s) else s) = _
  by_cases h1 : s.1 = 0
  · rw [if_pos h1, if_pos h1, nAll_skip hin, show p + 1 + (alen (kd p) - 1) = p + alen (kd p) by omega]
  · rw [if_neg h1, if_neg h1]
end NAT
