/-! ===== THE GRAMMAR: a pure parser; kinds are the class' ===== -/
abbrev PR : Type := Bool × Nat × List (Nat × Nat)
def pB (x : Option PR) (k : Nat → List (Nat × Nat) → Option PR) : Option PR := match x with
  | none => none
  | some r => if r.1 = true then k r.2.1 r.2.2 else some (false, r.2.1, [])
def jn (lvl a : Nat) : Bool := if lvl = 0 then decide (a = 23) else if lvl = 1 then decide (a = 22) else if lvl = 2 then decide (36 ≤ a ∧ a ≤ 40) else if lvl = 3 then decide (a = 32 ∨ a = 33) else decide (a = 34 ∨ a = 35)
/-- what a chain is made of -/
def ptL (lvl : Nat) : Nat := if lvl = 0 then 1 else if lvl = 1 then 5 else if lvl = 3 then 4 else 6
abbrev PGf : Type := Nat → Nat → Nat → Option PR
def pChain (g : PGf) (lvl dp n : Nat) : Option PR := pB (g (ptL lvl) dp n) (fun n1 L1 => pB (g (10 + lvl) dp n1) (fun n2 L2 => some (true, n2, L1 ++ L2)))
def pTail (K : Nat → Nat) (g : PGf) (lvl dp n : Nat) : Option PR := if jn lvl (K n) = true then pB (g (ptL lvl) dp (n + 1)) (fun n1 L1 => pB (g (10 + lvl) dp n1) (fun n2 L2 => some (true, n2, L1 ++ (n, K n) :: L2))) else some (true, n, [])
def pSingle (K : Nat → Nat) (g : PGf) (dp n : Nat) : Option PR :=
  if K n = 28 then (if dp < 8 then pB (g 0 (dp + 1) (n + 1)) (fun n1 L1 => if K n1 = 29 then some (true, n1 + 1, L1) else some (false, n1, [])) else some (false, n, []))
  else if K n = 21 then (if dp < 8 then pB (g 5 (dp + 1) (n + 1)) (fun n1 L1 => some (true, n1, L1 ++ [(n, 21)])) else some (false, n, []))
  else if K n = 18 then (if K (n + 1) = 42 then some (true, n + 2, [(n, 18)]) else some (false, n + 1, []))
  else if K n = 19 ∨ K n = 20 then (if K (n + 1) = 42 then (if K (n + 2) = 42 then some (true, n + 3, [(n, K n)]) else some (false, n + 2, [])) else some (false, n + 1, []))
  else pB (g 3 dp n) (fun n1 L1 => if 36 ≤ K n1 ∧ K n1 ≤ 40 then pB (g 3 dp (n1 + 1)) (fun n2 L2 => some (true, n2, L1 ++ L2 ++ [(n1, K n1)])) else some (false, n1, []))
def pValue (K : Nat → Nat) (g : PGf) (dp n : Nat) : Option PR :=
  if K n = 26 then (if dp < 8 then pB (g 3 (dp + 1) (n + 1)) (fun n1 L1 => if K n1 = 27 then some (true, n1 + 1, L1) else some (false, n1, [])) else some (false, n, []))
  else if K n = 33 then (if dp < 8 then pB (g 6 (dp + 1) (n + 1)) (fun n1 L1 => some (true, n1, L1 ++ [(n, 41)])) else some (false, n, []))
  else if K n = 43 ∨ K n = 13 then some (true, n + 1, [(n, K n)])
  else if K n = 14 ∨ K n = 15 ∨ K n = 17 then (if K (n + 1) = 42 then some (true, n + 2, [(n, K n)]) else some (false, n + 1, []))
  else if K n = 16 then (if K (n + 1) = 42 then (if K (n + 2) = 42 then some (true, n + 3, [(n, 16)]) else some (false, n + 2, [])) else some (false, n + 1, []))
  else if K n = 24 ∨ K n = 25 then (if dp < 8 ∧ K (n + 1) = 26 then pB (g 3 (dp + 1) (n + 2)) (fun n1 L1 => if K n1 = 31 then pB (g 3 (dp + 1) (n1 + 1)) (fun n2 L2 => if K n2 = 27 then some (true, n2 + 1, L1 ++ L2 ++ [(n, K n)]) else some (false, n2, [])) else some (false, n1, [])) else some (false, n + 1, []))
  else some (false, n, [])
def pG (K : Nat → Nat) : Nat → PGf
  | 0, _, _, _ => none
  | f + 1, lvl, dp, n => if 10 ≤ lvl then pTail K (pG K f) (lvl - 10) dp n else if lvl = 5 then pSingle K (pG K f) dp n else if lvl = 6 then pValue K (pG K f) dp n else pChain (pG K f) lvl dp n
theorem pB_some {x : Option PR} {k : Nat → List (Nat × Nat) → Option PR} {r : PR} (h : pB x k = some r) : (∃ n L, x = some (true, n, L) ∧ k n L = some r) ∨ (∃ n L, x = some (false, n, L) ∧ r = (false, n, [])) := by
  cases x with
  | none => cases h
  | some y =>
    obtain ⟨b, n, L⟩ := y
    cases b with
    | true => exact Or.inl ⟨n, L, rfl, h⟩
    | false => exact Or.inr ⟨n, L, rfl, (Option.some.inj h).symm⟩
/-- the kinds end with an end or a wrong one -/
def KOk (K : Nat → Nat) (tc : Nat) : Prop := (1 ≤ tc ∧ tc ≤ 401) ∧ (∀ m, m + 1 < tc → K m ≠ 44 ∧ K m ≠ 45) ∧ (K (tc - 1) = 44 ∨ K (tc - 1) = 45) ∧ ∀ m, K m < 46
theorem KOk.nx {K : Nat → Nat} {tc n a : Nat} (h : KOk K tc) (hn : n < tc) (ha : K n = a) (h44 : a < 44) : n + 1 < tc := by
  by_cases he : n + 1 < tc
  · exact he
  · have : n = tc - 1 := by omega
    have h2 := h.2.2.1
    rw [← this, ha] at h2
    omega
/-- what a parser's answer is worth -/
def PrOk (tc lvl n : Nat) (r : PR) : Prop := r.2.1 < tc ∧ n ≤ r.2.1 ∧ (r.1 = true → (lvl < 10 → n < r.2.1) ∧ r.2.2.length + n ≤ r.2.1 ∧ ∀ x, x ∈ r.2.2 → n ≤ x.1 ∧ x.1 < r.2.1)
theorem jn_lt {lvl a : Nat} (h : jn lvl a = true) : a < 44 := by
  unfold jn at h
  repeat' split at h
  all_goals (simp only [decide_eq_true_eq] at h; omega)
theorem pG_ok {K : Nat → Nat} {tc : Nat} (hK : KOk K tc) : ∀ (f lvl dp n : Nat) (r : PR), n < tc → pG K f lvl dp n = some r → PrOk tc lvl n r := by
  intro f
  induction f with
  | zero => intro lvl dp n r _ h; cases h
  | succ f ih =>
    intro lvl dp n r hn h
    have fail : ∀ m, n ≤ m → m < tc → PrOk tc lvl n (false, m, []) := fun m h1 h2 => ⟨h2, h1, fun z => by cases z⟩
    unfold pG at h
    split at h
    · -- tail
      rename_i hl
      unfold pTail at h
      split at h
      · rename_i hj
        have hn1 := hK.nx hn rfl (jn_lt hj)
        rcases pB_some h with ⟨n1, L1, e1, h⟩ | ⟨n1, L1, e1, rfl⟩
        · obtain ⟨a1, a2, a3⟩ := ih _ _ _ _ hn1 e1
          obtain ⟨a4, a5, a6⟩ := a3 rfl
          dsimp only at a1 a2 a4 a5 a6
          rcases pB_some h with ⟨n2, L2, e2, h⟩ | ⟨n2, L2, e2, rfl⟩
          · obtain ⟨b1, b2, b3⟩ := ih _ _ _ _ a1 e2
            obtain ⟨b4, b5, b6⟩ := b3 rfl
            dsimp only at b1 b2 b4 b5 b6
            cases h
            refine ⟨b1, by dsimp only; omega, fun _ => ⟨fun z => by omega, ?_, fun x hx => ?_⟩⟩
            · dsimp only
              rw [List.length_append, List.length_cons]
              omega
            · dsimp only at hx ⊢
              rcases List.mem_append.mp hx with hx | hx
              · have := a6 x hx
                omega
              · rcases List.mem_cons.mp hx with rfl | hx
                · dsimp only
                  omega
                · have := b6 x hx
                  omega
          · obtain ⟨b1, b2, -⟩ := ih _ _ _ _ a1 e2
            exact fail _ (by dsimp only at b2; omega) b1
        · obtain ⟨a1, a2, -⟩ := ih _ _ _ _ hn1 e1
          exact fail _ (by dsimp only at a2; omega) a1
      · cases h
        exact ⟨hn, Nat.le_refl _, fun _ => ⟨fun z => by omega, by simp, fun x hx => by cases hx⟩⟩
    · rename_i hl10
      split at h
      · -- single
        unfold pSingle at h
        split at h
        · rename_i hk
          have hn1 := hK.nx hn hk (by decide)
          split at h
          · rcases pB_some h with ⟨n1, L1, e1, h⟩ | ⟨n1, L1, e1, rfl⟩
            · obtain ⟨a1, a2, a3⟩ := ih _ _ _ _ hn1 e1
              obtain ⟨a4, a5, a6⟩ := a3 rfl
              dsimp only at a1 a2 a4 a5 a6
              split at h
              · rename_i hk2
                have hn2 := hK.nx a1 hk2 (by decide)
                cases h
                refine ⟨hn2, by dsimp only; omega, fun _ => ⟨fun _ => by dsimp only; omega, by dsimp only; omega, fun x hx => ?_⟩⟩
                have := a6 x hx
                dsimp only
                omega
              · cases h
                exact fail _ (by omega) a1
            · obtain ⟨a1, a2, -⟩ := ih _ _ _ _ hn1 e1
              exact fail _ (by dsimp only at a2; omega) a1
          · cases h
            exact fail _ (Nat.le_refl _) hn
        · split at h
          · rename_i hk
            have hn1 := hK.nx hn hk (by decide)
            split at h
            · rcases pB_some h with ⟨n1, L1, e1, h⟩ | ⟨n1, L1, e1, rfl⟩
              · obtain ⟨a1, a2, a3⟩ := ih _ _ _ _ hn1 e1
                obtain ⟨a4, a5, a6⟩ := a3 rfl
                dsimp only at a1 a2 a4 a5 a6
                cases h
                refine ⟨a1, by dsimp only; omega, fun _ => ⟨fun _ => by dsimp only; omega, ?_, fun x hx => ?_⟩⟩
                · dsimp only
                  rw [List.length_append]
                  show L1.length + 1 + n ≤ n1
                  omega
                · dsimp only at hx ⊢
                  rcases List.mem_append.mp hx with hx | hx
                  · have := a6 x hx
                    omega
                  · rw [List.mem_singleton] at hx
                    subst hx
                    dsimp only
                    omega
              · obtain ⟨a1, a2, -⟩ := ih _ _ _ _ hn1 e1
                exact fail _ (by dsimp only at a2; omega) a1
            · cases h
              exact fail _ (Nat.le_refl _) hn
          · split at h
            · rename_i hk
              have hn1 := hK.nx hn hk (by decide)
              split at h
              · rename_i hk2
                have hn2 := hK.nx hn1 hk2 (by decide)
                cases h
                refine ⟨hn2, by dsimp only; omega, fun _ => ⟨fun _ => by dsimp only; omega, by simp; omega, fun x hx => ?_⟩⟩
                rw [List.mem_singleton] at hx
                subst hx
                dsimp only
                omega
              · cases h
                exact fail _ (by omega) hn1
            · split at h
              · rename_i hk
                have hn1 := hK.nx hn rfl (by omega)
                split at h
                · rename_i hk2
                  have hn2 := hK.nx hn1 hk2 (by decide)
                  split at h
                  · rename_i hk3
                    have hn3 := hK.nx hn2 hk3 (by decide)
                    cases h
                    refine ⟨hn3, by dsimp only; omega, fun _ => ⟨fun _ => by dsimp only; omega, by simp; omega, fun x hx => ?_⟩⟩
                    rw [List.mem_singleton] at hx
                    subst hx
                    dsimp only
                    omega
                  · cases h
                    exact fail _ (by omega) hn2
                · cases h
                  exact fail _ (by omega) hn1
              · rcases pB_some h with ⟨n1, L1, e1, h⟩ | ⟨n1, L1, e1, rfl⟩
                · obtain ⟨a1, a2, a3⟩ := ih _ _ _ _ hn e1
                  obtain ⟨a4, a5, a6⟩ := a3 rfl
                  dsimp only at a1 a2 a4 a5 a6
                  split at h
                  · rename_i hk2
                    have hn2 := hK.nx a1 rfl (by omega)
                    rcases pB_some h with ⟨n2, L2, e2, h⟩ | ⟨n2, L2, e2, rfl⟩
                    · obtain ⟨b1, b2, b3⟩ := ih _ _ _ _ hn2 e2
                      obtain ⟨b4, b5, b6⟩ := b3 rfl
                      dsimp only at b1 b2 b4 b5 b6
                      cases h
                      refine ⟨b1, by dsimp only; omega, fun _ => ⟨fun _ => by dsimp only; omega, ?_, fun x hx => ?_⟩⟩
                      · dsimp only
                        rw [List.length_append, List.length_append]
                        show L1.length + L2.length + 1 + n ≤ n2
                        omega
                      · dsimp only at hx ⊢
                        rcases List.mem_append.mp hx with hx | hx
                        · rcases List.mem_append.mp hx with hx | hx
                          · have := a6 x hx
                            omega
                          · have := b6 x hx
                            omega
                        · rw [List.mem_singleton] at hx
                          subst hx
                          dsimp only
                          omega
                    · obtain ⟨b1, b2, -⟩ := ih _ _ _ _ hn2 e2
                      exact fail _ (by dsimp only at b2; omega) b1
                  · cases h
                    exact fail _ a2 a1
                · obtain ⟨a1, a2, -⟩ := ih _ _ _ _ hn e1
                  exact fail _ a2 a1
      · split at h
        · -- value
          unfold pValue at h
          split at h
          · rename_i hk
            have hn1 := hK.nx hn hk (by decide)
            split at h
            · rcases pB_some h with ⟨n1, L1, e1, h⟩ | ⟨n1, L1, e1, rfl⟩
              · obtain ⟨a1, a2, a3⟩ := ih _ _ _ _ hn1 e1
                obtain ⟨a4, a5, a6⟩ := a3 rfl
                dsimp only at a1 a2 a4 a5 a6
                split at h
                · rename_i hk2
                  have hn2 := hK.nx a1 hk2 (by decide)
                  cases h
                  refine ⟨hn2, by dsimp only; omega, fun _ => ⟨fun _ => by dsimp only; omega, by dsimp only; omega, fun x hx => ?_⟩⟩
                  have := a6 x hx
                  dsimp only
                  omega
                · cases h
                  exact fail _ (by omega) a1
              · obtain ⟨a1, a2, -⟩ := ih _ _ _ _ hn1 e1
                exact fail _ (by dsimp only at a2; omega) a1
            · cases h
              exact fail _ (Nat.le_refl _) hn
          · split at h
            · rename_i hk
              have hn1 := hK.nx hn hk (by decide)
              split at h
              · rcases pB_some h with ⟨n1, L1, e1, h⟩ | ⟨n1, L1, e1, rfl⟩
                · obtain ⟨a1, a2, a3⟩ := ih _ _ _ _ hn1 e1
                  obtain ⟨a4, a5, a6⟩ := a3 rfl
                  dsimp only at a1 a2 a4 a5 a6
                  cases h
                  refine ⟨a1, by dsimp only; omega, fun _ => ⟨fun _ => by dsimp only; omega, ?_, fun x hx => ?_⟩⟩
                  · dsimp only
                    rw [List.length_append]
                    show L1.length + 1 + n ≤ n1
                    omega
                  · dsimp only at hx ⊢
                    rcases List.mem_append.mp hx with hx | hx
                    · have := a6 x hx
                      omega
                    · rw [List.mem_singleton] at hx
                      subst hx
                      dsimp only
                      omega
                · obtain ⟨a1, a2, -⟩ := ih _ _ _ _ hn1 e1
                  exact fail _ (by dsimp only at a2; omega) a1
              · cases h
                exact fail _ (Nat.le_refl _) hn
            · split at h
              · rename_i hk
                have hn1 := hK.nx hn rfl (by omega)
                cases h
                refine ⟨hn1, by dsimp only; omega, fun _ => ⟨fun _ => by dsimp only; omega, by simp; omega, fun x hx => ?_⟩⟩
                rw [List.mem_singleton] at hx
                subst hx
                dsimp only
                omega
              · split at h
                · rename_i hk
                  have hn1 := hK.nx hn rfl (by omega)
                  split at h
                  · rename_i hk2
                    have hn2 := hK.nx hn1 hk2 (by decide)
                    cases h
                    refine ⟨hn2, by dsimp only; omega, fun _ => ⟨fun _ => by dsimp only; omega, by simp; omega, fun x hx => ?_⟩⟩
                    rw [List.mem_singleton] at hx
                    subst hx
                    dsimp only
                    omega
                  · cases h
                    exact fail _ (by omega) hn1
                · split at h
                  · rename_i hk
                    have hn1 := hK.nx hn rfl (by omega)
                    split at h
                    · rename_i hk2
                      have hn2 := hK.nx hn1 hk2 (by decide)
                      split at h
                      · rename_i hk3
                        have hn3 := hK.nx hn2 hk3 (by decide)
                        cases h
                        refine ⟨hn3, by dsimp only; omega, fun _ => ⟨fun _ => by dsimp only; omega, by simp; omega, fun x hx => ?_⟩⟩
                        rw [List.mem_singleton] at hx
                        subst hx
                        dsimp only
                        omega
                      · cases h
                        exact fail _ (by omega) hn2
                    · cases h
                      exact fail _ (by omega) hn1
                  · split at h
                    · rename_i hk
                      have hn1 := hK.nx hn rfl (by omega)
                      split at h
                      · rename_i hk2
                        have hn2 := hK.nx hn1 hk2.2 (by decide)
                        rcases pB_some h with ⟨n1, L1, e1, h⟩ | ⟨n1, L1, e1, rfl⟩
                        · obtain ⟨a1, a2, a3⟩ := ih _ _ _ _ hn2 e1
                          obtain ⟨a4, a5, a6⟩ := a3 rfl
                          dsimp only at a1 a2 a4 a5 a6
                          split at h
                          · rename_i hk3
                            have hn3 := hK.nx a1 hk3 (by decide)
                            rcases pB_some h with ⟨n2, L2, e2, h⟩ | ⟨n2, L2, e2, rfl⟩
                            · obtain ⟨b1, b2, b3⟩ := ih _ _ _ _ hn3 e2
                              obtain ⟨b4, b5, b6⟩ := b3 rfl
                              dsimp only at b1 b2 b4 b5 b6
                              split at h
                              · rename_i hk4
                                have hn4 := hK.nx b1 hk4 (by decide)
                                cases h
                                refine ⟨hn4, by dsimp only; omega, fun _ => ⟨fun _ => by dsimp only; omega, ?_, fun x hx => ?_⟩⟩
                                · dsimp only
                                  rw [List.length_append, List.length_append]
                                  show L1.length + L2.length + 1 + n ≤ n2 + 1
                                  omega
                                · dsimp only at hx ⊢
                                  rcases List.mem_append.mp hx with hx | hx
                                  · rcases List.mem_append.mp hx with hx | hx
                                    · have := a6 x hx
                                      omega
                                    · have := b6 x hx
                                      omega
                                  · rw [List.mem_singleton] at hx
                                    subst hx
                                    dsimp only
                                    omega
                              · cases h
                                exact fail _ (by omega) b1
                            · obtain ⟨b1, b2, -⟩ := ih _ _ _ _ hn3 e2
                              exact fail _ (by dsimp only at b2; omega) b1
                          · cases h
                            exact fail _ (by omega) a1
                        · obtain ⟨a1, a2, -⟩ := ih _ _ _ _ hn2 e1
                          exact fail _ (by dsimp only at a2; omega) a1
                      · cases h
                        exact fail _ (by omega) hn1
                    · cases h
                      exact fail _ (Nat.le_refl _) hn
        · -- chain
          unfold pChain at h
          rcases pB_some h with ⟨n1, L1, e1, h⟩ | ⟨n1, L1, e1, rfl⟩
          · obtain ⟨a1, a2, a3⟩ := ih _ _ _ _ hn e1
            obtain ⟨a4, a5, a6⟩ := a3 rfl
            have hp : ptL lvl < 10 := by unfold ptL; repeat' split
                                         all_goals decide
            have a4 := a4 hp
            dsimp only at a1 a2 a4 a5 a6
            rcases pB_some h with ⟨n2, L2, e2, h⟩ | ⟨n2, L2, e2, rfl⟩
            · obtain ⟨b1, b2, b3⟩ := ih _ _ _ _ a1 e2
              obtain ⟨b4, b5, b6⟩ := b3 rfl
              dsimp only at b1 b2 b4 b5 b6
              cases h
              refine ⟨b1, by dsimp only; omega, fun _ => ⟨fun _ => by dsimp only; omega, ?_, fun x hx => ?_⟩⟩
              · dsimp only
                rw [List.length_append]
                omega
              · dsimp only at hx ⊢
                rcases List.mem_append.mp hx with hx | hx
                · have := a6 x hx
                  omega
                · have := b6 x hx
                  omega
            · obtain ⟨b1, b2, -⟩ := ih _ _ _ _ a1 e2
              exact fail _ (by dsimp only at b2; omega) b1
          · obtain ⟨a1, a2, -⟩ := ih _ _ _ _ hn e1
            exact fail _ a2 a1
