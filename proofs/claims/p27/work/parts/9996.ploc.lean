/-! ===== THE PARSER READS NO MORE THAN IT TAKES ===== -/
def shf (s : Nat) (L : List (Nat × Nat)) : List (Nat × Nat) := L.map (fun x => (s + x.1, x.2))
theorem shf_app {s : Nat} {A B : List (Nat × Nat)} : shf s (A ++ B) = shf s A ++ shf s B := List.map_append
theorem shf_cons {s n a : Nat} {B : List (Nat × Nat)} : shf s ((n, a) :: B) = (s + n, a) :: shf s B := rfl
theorem shf_nil {s : Nat} : shf s [] = [] := rfl
theorem pB_t {x : Option PR} {k : Nat → List (Nat × Nat) → Option PR} {b : Nat} {L : List (Nat × Nat)} (h : pB x k = some (true, b, L)) : ∃ n1 L1, x = some (true, n1, L1) ∧ k n1 L1 = some (true, b, L) := by
  rcases pB_some h with ⟨n, L', e1, e2⟩ | ⟨n, L', e1, e2⟩
  · exact ⟨n, L', e1, e2⟩
  · cases e2
theorem pB_ok {n : Nat} {L : List (Nat × Nat)} {k : Nat → List (Nat × Nat) → Option PR} : pB (some (true, n, L)) k = k n L := rfl
theorem pG_ge {K : Nat → Nat} : ∀ (f lvl dp a b : Nat) (L : List (Nat × Nat)), pG K f lvl dp a = some (true, b, L) → a ≤ b := by
  intro f
  induction f with
  | zero => intro lvl dp a b L h; cases h
  | succ f ih =>
    intro lvl dp a b L h
    unfold pG at h
    split at h
    · unfold pTail at h
      split at h
      · obtain ⟨n1, L1, e1, h⟩ := pB_t h
        obtain ⟨n2, L2, e2, h⟩ := pB_t h
        cases h
        have := ih _ _ _ _ _ e1
        have := ih _ _ _ _ _ e2
        omega
      · cases h
        exact Nat.le_refl _
    · split at h
      · unfold pSingle at h
        split at h
        · split at h
          · obtain ⟨n1, L1, e1, h⟩ := pB_t h
            have := ih _ _ _ _ _ e1
            split at h
            · cases h; omega
            · cases h
          · cases h
        · split at h
          · split at h
            · obtain ⟨n1, L1, e1, h⟩ := pB_t h
              have := ih _ _ _ _ _ e1
              cases h; omega
            · cases h
          · split at h
            · split at h
              · cases h; omega
              · cases h
            · split at h
              · split at h
                · split at h
                  · cases h; omega
                  · cases h
                · cases h
              · obtain ⟨n1, L1, e1, h⟩ := pB_t h
                have := ih _ _ _ _ _ e1
                split at h
                · obtain ⟨n2, L2, e2, h⟩ := pB_t h
                  have := ih _ _ _ _ _ e2
                  cases h; omega
                · cases h
      · split at h
        · unfold pValue at h
          split at h
          · split at h
            · obtain ⟨n1, L1, e1, h⟩ := pB_t h
              have := ih _ _ _ _ _ e1
              split at h
              · cases h; omega
              · cases h
            · cases h
          · split at h
            · split at h
              · obtain ⟨n1, L1, e1, h⟩ := pB_t h
                have := ih _ _ _ _ _ e1
                cases h; omega
              · cases h
            · split at h
              · cases h; omega
              · split at h
                · split at h
                  · cases h; omega
                  · cases h
                · split at h
                  · split at h
                    · split at h
                      · cases h; omega
                      · cases h
                    · cases h
                  · split at h
                    · split at h
                      · obtain ⟨n1, L1, e1, h⟩ := pB_t h
                        have := ih _ _ _ _ _ e1
                        split at h
                        · obtain ⟨n2, L2, e2, h⟩ := pB_t h
                          have := ih _ _ _ _ _ e2
                          split at h
                          · cases h; omega
                          · cases h
                        · cases h
                      · cases h
                    · cases h
        · unfold pChain at h
          obtain ⟨n1, L1, e1, h⟩ := pB_t h
          obtain ⟨n2, L2, e2, h⟩ := pB_t h
          have := ih _ _ _ _ _ e1
          have := ih _ _ _ _ _ e2
          cases h
          omega
theorem pG_loc {K K0 : Nat → Nat} {s : Nat} : ∀ (f f' lvl dp a b : Nat) (L : List (Nat × Nat)), f ≤ f' → pG K0 f lvl dp a = some (true, b, L) → (∀ i, a ≤ i → i ≤ b → K (s + i) = K0 i) → pG K f' lvl dp (s + a) = some (true, s + b, shf s L) := by
  intro f
  induction f with
  | zero => intro f' lvl dp a b L _ h; cases h
  | succ f ih =>
    intro f' lvl dp a b L hf h hK
    cases f' with
    | zero => omega
    | succ f' =>
    have hf : f ≤ f' := by omega
    have hab := pG_ge _ _ _ _ _ _ h
    have hKa := hK a (Nat.le_refl _) hab
    unfold pG at h ⊢
    by_cases hl : 10 ≤ lvl
    · rw [if_pos hl] at h ⊢
      unfold pTail at h ⊢
      rw [hKa]
      by_cases hj : jn (lvl - 10) (K0 a) = true
      · rw [if_pos hj] at h ⊢
        obtain ⟨n1, L1, e1, h⟩ := pB_t h
        obtain ⟨n2, L2, e2, h⟩ := pB_t h
        cases h
        have g1 := pG_ge _ _ _ _ _ _ e1
        have g2 := pG_ge _ _ _ _ _ _ e2
        have i1 := ih f' _ _ _ _ _ hf e1 (fun i h1 h2 => hK i (by omega) (by omega))
        have i2 := ih f' _ _ _ _ _ hf e2 (fun i h1 h2 => hK i (by omega) (by omega))
        rw [Nat.add_assoc, i1, pB_ok, i2, pB_ok, shf_app, shf_cons]
      · rw [if_neg hj] at h ⊢
        cases h
        rfl
    · rw [if_neg hl] at h ⊢
      by_cases h5 : lvl = 5
      · rw [if_pos h5] at h ⊢
        unfold pSingle at h ⊢
        rw [hKa]
        by_cases c1 : K0 a = 28
        · rw [if_pos c1] at h ⊢
          by_cases c2 : dp < 8
          · rw [if_pos c2] at h ⊢
            obtain ⟨n1, L1, e1, h⟩ := pB_t h
            have g1 := pG_ge _ _ _ _ _ _ e1
            by_cases c3 : K0 n1 = 29
            · rw [if_pos c3] at h
              cases h
              have i1 := ih f' _ _ _ _ _ hf e1 (fun i h1 h2 => hK i (by omega) (by omega))
              rw [Nat.add_assoc, i1, pB_ok, hK n1 (by omega) (by omega), if_pos c3, Nat.add_assoc]
            · rw [if_neg c3] at h
              cases h
          · rw [if_neg c2] at h
            cases h
        · rw [if_neg c1] at h ⊢
          by_cases c2 : K0 a = 21
          · rw [if_pos c2] at h ⊢
            by_cases c3 : dp < 8
            · rw [if_pos c3] at h ⊢
              obtain ⟨n1, L1, e1, h⟩ := pB_t h
              cases h
              have i1 := ih f' _ _ _ _ _ hf e1 (fun i h1 h2 => hK i (by omega) (by omega))
              rw [Nat.add_assoc, i1, pB_ok, shf_app]
              rfl
            · rw [if_neg c3] at h
              cases h
          · rw [if_neg c2] at h ⊢
            by_cases c3 : K0 a = 18
            · rw [if_pos c3] at h ⊢
              by_cases c4 : K0 (a + 1) = 42
              · rw [if_pos c4] at h
                cases h
                rw [Nat.add_assoc, hK (a + 1) (by omega) (by omega), if_pos c4]
                rfl
              · rw [if_neg c4] at h
                cases h
            · rw [if_neg c3] at h ⊢
              by_cases c4 : K0 a = 19 ∨ K0 a = 20
              · rw [if_pos c4] at h ⊢
                by_cases c5 : K0 (a + 1) = 42
                · rw [if_pos c5] at h
                  by_cases c6 : K0 (a + 2) = 42
                  · rw [if_pos c6] at h
                    cases h
                    rw [Nat.add_assoc, Nat.add_assoc, Nat.add_assoc, hK (a + 1) (by omega) (by omega), if_pos c5, hK (a + 2) (by omega) (by omega), if_pos c6]
                    rfl
                  · rw [if_neg c6] at h
                    cases h
                · rw [if_neg c5] at h
                  cases h
              · rw [if_neg c4] at h ⊢
                obtain ⟨n1, L1, e1, h⟩ := pB_t h
                have g1 := pG_ge _ _ _ _ _ _ e1
                by_cases c5 : 36 ≤ K0 n1 ∧ K0 n1 ≤ 40
                · rw [if_pos c5] at h
                  obtain ⟨n2, L2, e2, h⟩ := pB_t h
                  have g2 := pG_ge _ _ _ _ _ _ e2
                  cases h
                  have i1 := ih f' _ _ _ _ _ hf e1 (fun i h1 h2 => hK i (by omega) (by omega))
                  have i2 := ih f' _ _ _ _ _ hf e2 (fun i h1 h2 => hK i (by omega) (by omega))
                  rw [i1, pB_ok, hK n1 (by omega) (by omega), if_pos c5, Nat.add_assoc, i2, pB_ok, shf_app, shf_app]
                  rfl
                · rw [if_neg c5] at h
                  cases h
      · rw [if_neg h5] at h ⊢
        by_cases h6 : lvl = 6
        · rw [if_pos h6] at h ⊢
          unfold pValue at h ⊢
          rw [hKa]
          by_cases c1 : K0 a = 26
          · rw [if_pos c1] at h ⊢
            by_cases c2 : dp < 8
            · rw [if_pos c2] at h ⊢
              obtain ⟨n1, L1, e1, h⟩ := pB_t h
              have g1 := pG_ge _ _ _ _ _ _ e1
              by_cases c3 : K0 n1 = 27
              · rw [if_pos c3] at h
                cases h
                have i1 := ih f' _ _ _ _ _ hf e1 (fun i h1 h2 => hK i (by omega) (by omega))
                rw [Nat.add_assoc, i1, pB_ok, hK n1 (by omega) (by omega), if_pos c3, Nat.add_assoc]
              · rw [if_neg c3] at h
                cases h
            · rw [if_neg c2] at h
              cases h
          · rw [if_neg c1] at h ⊢
            by_cases c2 : K0 a = 33
            · rw [if_pos c2] at h ⊢
              by_cases c3 : dp < 8
              · rw [if_pos c3] at h ⊢
                obtain ⟨n1, L1, e1, h⟩ := pB_t h
                cases h
                have i1 := ih f' _ _ _ _ _ hf e1 (fun i h1 h2 => hK i (by omega) (by omega))
                rw [Nat.add_assoc, i1, pB_ok, shf_app]
                rfl
              · rw [if_neg c3] at h
                cases h
            · rw [if_neg c2] at h ⊢
              by_cases c3 : K0 a = 43 ∨ K0 a = 13
              · rw [if_pos c3] at h ⊢
                cases h
                rfl
              · rw [if_neg c3] at h ⊢
                by_cases c4 : K0 a = 14 ∨ K0 a = 15 ∨ K0 a = 17
                · rw [if_pos c4] at h ⊢
                  by_cases c5 : K0 (a + 1) = 42
                  · rw [if_pos c5] at h
                    cases h
                    rw [Nat.add_assoc, hK (a + 1) (by omega) (by omega), if_pos c5]
                    rfl
                  · rw [if_neg c5] at h
                    cases h
                · rw [if_neg c4] at h ⊢
                  by_cases c5 : K0 a = 16
                  · rw [if_pos c5] at h ⊢
                    by_cases c6 : K0 (a + 1) = 42
                    · rw [if_pos c6] at h
                      by_cases c7 : K0 (a + 2) = 42
                      · rw [if_pos c7] at h
                        cases h
                        rw [Nat.add_assoc, Nat.add_assoc, Nat.add_assoc, hK (a + 1) (by omega) (by omega), if_pos c6, hK (a + 2) (by omega) (by omega), if_pos c7]
                        rfl
                      · rw [if_neg c7] at h
                        cases h
                    · rw [if_neg c6] at h
                      cases h
                  · rw [if_neg c5] at h ⊢
                    by_cases c6 : K0 a = 24 ∨ K0 a = 25
                    · rw [if_pos c6] at h ⊢
                      by_cases c7 : dp < 8 ∧ K0 (a + 1) = 26
                      · rw [if_pos c7] at h
                        obtain ⟨n1, L1, e1, h⟩ := pB_t h
                        have g1 := pG_ge _ _ _ _ _ _ e1
                        by_cases c8 : K0 n1 = 31
                        · rw [if_pos c8] at h
                          obtain ⟨n2, L2, e2, h⟩ := pB_t h
                          have g2 := pG_ge _ _ _ _ _ _ e2
                          by_cases c9 : K0 n2 = 27
                          · rw [if_pos c9] at h
                            cases h
                            have i1 := ih f' _ _ _ _ _ hf e1 (fun i h1 h2 => hK i (by omega) (by omega))
                            have i2 := ih f' _ _ _ _ _ hf e2 (fun i h1 h2 => hK i (by omega) (by omega))
                            rw [Nat.add_assoc, Nat.add_assoc, hK (a + 1) (by omega) (by omega), if_pos c7, i1, pB_ok, hK n1 (by omega) (by omega), if_pos c8, Nat.add_assoc, i2, pB_ok, hK n2 (by omega) (by omega), if_pos c9, shf_app, shf_app, Nat.add_assoc]
                            rfl
                          · rw [if_neg c9] at h
                            cases h
                        · rw [if_neg c8] at h
                          cases h
                      · rw [if_neg c7] at h
                        cases h
                    · rw [if_neg c6] at h
                      cases h
        · rw [if_neg h6] at h ⊢
          unfold pChain at h ⊢
          obtain ⟨n1, L1, e1, h⟩ := pB_t h
          obtain ⟨n2, L2, e2, h⟩ := pB_t h
          cases h
          have g1 := pG_ge _ _ _ _ _ _ e1
          have g2 := pG_ge _ _ _ _ _ _ e2
          have i1 := ih f' _ _ _ _ _ hf e1 (fun i h1 h2 => hK i (by omega) (by omega))
          have i2 := ih f' _ _ _ _ _ hf e2 (fun i h1 h2 => hK i (by omega) (by omega))
          rw [i1, pB_ok, i2, pB_ok, shf_app]
