/-- tokens of a test or a sum -/
def wfX (K : Nat → Nat) (n m : Nat) : Prop := wfE K n m ∧ ∀ t, n ≤ t → t < m → 13 ≤ K t
theorem wfX.rf {K : Nat → Nat} {n : Nat} : wfX K n n := ⟨wfE.rf, fun t h1 h2 => by omega⟩
theorem wfX.tr {K : Nat → Nat} {n m l : Nat} (h1 : wfX K n m) (h2 : wfX K m l) : wfX K n l := ⟨h1.1.tr h2.1, fun t t1 t2 => by
  by_cases h : t < m
  · exact h1.2 t t1 h
  · exact h2.2 t (by omega) t2⟩
theorem ax_pl {K : Nat → Nat} {n a : Nat} (h : K n = a) (ha : a = 13 ∨ (21 ≤ a ∧ a ≤ 41) ∨ a = 43) : wfX K n (n + 1) := ⟨at_pl h (by omega), fun t t1 t2 => by
  rw [show t = n by omega]
  omega⟩
theorem ax_n1 {K : Nat → Nat} {n : Nat} (h : K n = 18 ∨ K n = 14 ∨ K n = 15 ∨ K n = 17) (h1 : K (n + 1) = 42) : wfX K n (n + 2) := ⟨at_n1 (by omega) h1, fun t t1 t2 => by
  rcases (by omega : t = n ∨ t = n + 1) with rfl | rfl <;> omega⟩
theorem ax_n2 {K : Nat → Nat} {n : Nat} (h : K n = 16 ∨ K n = 19 ∨ K n = 20) (h1 : K (n + 1) = 42) (h2 : K (n + 2) = 42) : wfX K n (n + 3) := ⟨at_n2 h h1 h2, fun t t1 t2 => by
  rcases (by omega : t = n ∨ t = n + 1 ∨ t = n + 2) with rfl | rfl | rfl <;> omega⟩
theorem pG_wx {K : Nat → Nat} : ∀ (f lvl dp n n' : Nat) (L : List (Nat × Nat)), pG K f lvl dp n = some (true, n', L) → wfX K n n' := by
  intro f
  induction f with
  | zero => intro lvl dp n n' L h; cases h
  | succ f ih =>
    intro lvl dp n n' L h
    unfold pG at h
    split at h
    · unfold pTail at h
      split at h
      · rename_i hj
        have hp := jn_pl hj
        rcases pB_some h with ⟨n1, L1, e1, h⟩ | ⟨n1, L1, e1, h⟩
        · rcases pB_some h with ⟨n2, L2, e2, h⟩ | ⟨n2, L2, e2, h⟩
          · cases h
            exact ((ax_pl rfl (by omega)).tr (ih _ _ _ _ _ e1)).tr (ih _ _ _ _ _ e2)
          · cases h
        · cases h
      · cases h
        exact wfX.rf
    · split at h
      · unfold pSingle at h
        split at h
        · rename_i hk
          split at h
          · rcases pB_some h with ⟨n1, L1, e1, h⟩ | ⟨n1, L1, e1, h⟩
            · split at h
              · rename_i hk2
                cases h
                exact ((ax_pl hk (by omega)).tr (ih _ _ _ _ _ e1)).tr (ax_pl hk2 (by omega))
              · cases h
            · cases h
          · cases h
        · split at h
          · rename_i hk
            split at h
            · rcases pB_some h with ⟨n1, L1, e1, h⟩ | ⟨n1, L1, e1, h⟩
              · cases h
                exact (ax_pl hk (by omega)).tr (ih _ _ _ _ _ e1)
              · cases h
            · cases h
          · split at h
            · rename_i hk
              split at h
              · rename_i hk2
                cases h
                exact ax_n1 (by omega) hk2
              · cases h
            · split at h
              · rename_i hk
                split at h
                · rename_i hk2
                  split at h
                  · rename_i hk3
                    cases h
                    exact ax_n2 (by omega) hk2 hk3
                  · cases h
                · cases h
              · rcases pB_some h with ⟨n1, L1, e1, h⟩ | ⟨n1, L1, e1, h⟩
                · split at h
                  · rename_i hk2
                    rcases pB_some h with ⟨n2, L2, e2, h⟩ | ⟨n2, L2, e2, h⟩
                    · cases h
                      exact ((ih _ _ _ _ _ e1).tr (ax_pl rfl (by omega))).tr (ih _ _ _ _ _ e2)
                    · cases h
                  · cases h
                · cases h
      · split at h
        · unfold pValue at h
          split at h
          · rename_i hk
            split at h
            · rcases pB_some h with ⟨n1, L1, e1, h⟩ | ⟨n1, L1, e1, h⟩
              · split at h
                · rename_i hk2
                  cases h
                  exact ((ax_pl hk (by omega)).tr (ih _ _ _ _ _ e1)).tr (ax_pl hk2 (by omega))
                · cases h
              · cases h
            · cases h
          · split at h
            · rename_i hk
              split at h
              · rcases pB_some h with ⟨n1, L1, e1, h⟩ | ⟨n1, L1, e1, h⟩
                · cases h
                  exact (ax_pl hk (by omega)).tr (ih _ _ _ _ _ e1)
                · cases h
              · cases h
            · split at h
              · rename_i hk
                cases h
                exact ax_pl rfl (by omega)
              · split at h
                · rename_i hk
                  split at h
                  · rename_i hk2
                    cases h
                    exact ax_n1 (by omega) hk2
                  · cases h
                · split at h
                  · rename_i hk
                    split at h
                    · rename_i hk2
                      split at h
                      · rename_i hk3
                        cases h
                        exact ax_n2 (by omega) hk2 hk3
                      · cases h
                    · cases h
                  · split at h
                    · rename_i hk
                      split at h
                      · rename_i hk2
                        rcases pB_some h with ⟨n1, L1, e1, h⟩ | ⟨n1, L1, e1, h⟩
                        · split at h
                          · rename_i hk3
                            rcases pB_some h with ⟨n2, L2, e2, h⟩ | ⟨n2, L2, e2, h⟩
                            · split at h
                              · rename_i hk4
                                cases h
                                exact (((((ax_pl rfl (by omega)).tr (ax_pl hk2.2 (by omega))).tr (ih _ _ _ _ _ e1)).tr (ax_pl hk3 (by omega))).tr (ih _ _ _ _ _ e2)).tr (ax_pl hk4 (by omega))
                              · cases h
                            · cases h
                          · cases h
                        · cases h
                      · cases h
                    · cases h
        · unfold pChain at h
          rcases pB_some h with ⟨n1, L1, e1, h⟩ | ⟨n1, L1, e1, h⟩
          · rcases pB_some h with ⟨n2, L2, e2, h⟩ | ⟨n2, L2, e2, h⟩
            · cases h
              exact (ih _ _ _ _ _ e1).tr (ih _ _ _ _ _ e2)
            · cases h
          · cases h
section SIM5
variable {tc n k a b : Nat} {K kd : Nat → Nat} {sp f4 : Nat → Int} {P l : Nat → Nat} {dr du : Int} {s s' s1 s2 : NSt} {st z w : MSt} {eq : Nat → Nat → Bool} {nv : Nat → Int} {Po Po1 Po2 : MSt → Prop}
theorem nAll_app : ∀ {a b n : Nat} {s : NSt}, nAll tc kd sp (a + b) n s = nAll tc kd sp b (n + a) (nAll tc kd sp a n s)
  | 0, b, n, s => by
    rw [Nat.zero_add]
    rfl
  | a + 1, b, n, s => by
    rw [show a + 1 + b = a + b + 1 by omega]
    show (if s.1 = 0 then nAll tc kd sp (a + b) (n + 1) (nAt tc kd sp n s) else s) = nAll tc kd sp b (n + (a + 1)) (if s.1 = 0 then nAll tc kd sp a (n + 1) (nAt tc kd sp n s) else s)
    by_cases h : s.1 = 0
    · rw [if_pos h, if_pos h, nAll_app, show n + (a + 1) = n + 1 + a by omega]
    · rw [if_neg h, if_neg h, nAll_er h]
theorem SimP.zero (h : s.1 = 0) : SimP tc K P l eq nv 0 n s st (fun z => z = st) := ⟨trivial, fun _ => ⟨rfl, rfl⟩, fun z => absurd h z⟩
theorem SimP.nx (h1 : SimP tc K P l eq nv a n (nAll tc kd sp a n s) st Po1) {m c : Nat} (hm : n + a = m) (hc : a + b = c) (h2 : ∀ z, (nAll tc kd sp a n s).1 = 0 → Po1 z → SimP tc K P l eq nv b m (nAll tc kd sp b m (nAll tc kd sp a n s)) z Po2) : SimP tc K P l eq nv c n (nAll tc kd sp c n s) st Po2 := by
  subst hm
  subst hc
  rw [nAll_app]
  exact h1.cat (fun hx => by rw [nAll_er hx]; exact ⟨rfl, rfl⟩) (fun h0 z hz => h2 z h0 hz)
theorem nAll_one (h : s.1 = 0) : nAll tc kd sp 1 n s = nAt tc kd sp n s := by
  show (if s.1 = 0 then nAt tc kd sp n s else s) = _
  rw [if_pos h]
/-- a keyword of a test or a sum, with its names -/
theorem s_atom (cx : SCx tc K kd sp f4 eq nv) (h : RS tc K sp f4 P l dr du s st n) (ha : atOk K n) (h13 : 13 ≤ K n) (ht : n + alen (K n) ≤ tc) (hn : 1 ≤ n) (h4 : K (n - 1) ≠ 4) (h7 : K (n - 1) ≠ 7) : SimP tc K P l eq nv (alen (K n)) n (nAt tc kd sp n s) st (fun z => RS tc K sp f4 P l dr du (nAt tc kd sp n s) z (n + alen (K n)) ∧ KP st z) := by
  obtain ⟨a0, a1, a5, an1, an2, b1, b2, b3, b4, b5, b6, b7⟩ := ha
  have hke := cx.2.1 n
  have c1 : (n : Int) + 1 = ((n + 1 : Nat) : Int) := by omega
  have c2 : (n : Int) + 2 = ((n + 2 : Nat) : Int) := by omega
  have hpl : K n ≠ 43 → SimP tc K P l eq nv 1 n s st (fun z => z = st) := fun z => s_plain h (by omega) z (by omega)
  by_cases k1 : K n = 18 ∨ K n = 14 ∨ K n = 15 ∨ K n = 17
  · have hal : alen (K n) = 2 := by
      rcases k1 with k | k | k | k <;> rw [k] <;> rfl
    rw [hal] at ht ⊢
    have k42 := an1 (by omega)
    have hnat : ∃ S kk, (S = 1 ∧ kk = 1 ∨ S = 5 ∧ kk = 2) ∧ stM K (n + 1) = S ∧ nAt tc kd sp n s = nFind tc sp kk ((n + 1 : Nat) : Int) s := by
      unfold nAt stM
      rw [Nat.add_sub_cancel, c1]
      by_cases k17 : K n = 17
      · refine ⟨5, 2, Or.inr ⟨rfl, rfl⟩, ?_, ?_⟩
        · rw [if_neg (by omega), if_pos k17]
        · rw [if_neg (by omega), if_neg (by omega), if_neg (by omega), if_neg (by omega), if_neg (by omega), if_neg (by omega), if_pos (by omega)]
      · refine ⟨1, 1, Or.inl ⟨rfl, rfl⟩, ?_, ?_⟩
        · rw [if_pos (by omega)]
        · rw [if_neg (by omega), if_neg (by omega), if_neg (by omega), if_neg (by omega), if_neg (by omega), if_pos (by omega)]
    obtain ⟨S, kk, hS, hst, hat⟩ := hnat
    rw [hat]
    refine (hpl (by omega)).ct (b := 1) (m := n + 1) rfl rfl (fun z => absurd h.1 z) (fun _ z hz => ?_)
    subst hz
    exact (s_find cx (h.adv (by omega) (by omega)) (by omega) (by omega) k42 (by omega) hst (by rw [Nat.add_sub_cancel]; exact h13) (fun _ => by omega)).wk (fun _ w hw => ⟨hw.1, hw.2.1, fun r hr => hw.2.2 r (by omega)⟩)
  by_cases k2 : K n = 16 ∨ K n = 19 ∨ K n = 20
  · have hal : alen (K n) = 3 := by
      rcases k2 with k | k | k <;> rw [k] <;> rfl
    rw [hal] at ht ⊢
    obtain ⟨k42, k42'⟩ := an2 (by omega)
    have hst1 : stM K (n + 1) = 0 := by
      unfold stM
      rw [Nat.add_sub_cancel, if_neg (by omega), if_neg (by omega), if_neg (by omega)]
    have hnat : ∃ S kk, (S = 0 ∧ kk = 0 ∨ S = 5 ∧ kk = 2) ∧ stM K (n + 2) = S ∧ nAt tc kd sp n s = nFind tc sp kk ((n + 2 : Nat) : Int) (nFind tc sp 0 ((n + 1 : Nat) : Int) s) := by
      unfold nAt stM
      rw [show n + 2 - 1 = n + 1 by omega, show n + 2 - 2 = n by omega, c1, c2]
      by_cases k19 : K n = 19
      · refine ⟨5, 2, Or.inr ⟨rfl, rfl⟩, ?_, ?_⟩
        · rw [if_neg (by omega), if_neg (by omega), if_pos ⟨k42, k19⟩]
        · rw [if_neg (by omega), if_neg (by omega), if_neg (by omega), if_neg (by omega), if_neg (by omega), if_neg (by omega), if_neg (by omega), if_neg (by omega), if_pos (by omega)]
      · refine ⟨0, 0, Or.inl ⟨rfl, rfl⟩, ?_, ?_⟩
        · rw [if_neg (by omega), if_neg (by omega), if_neg (fun z => k19 z.2)]
        · rw [if_neg (by omega), if_neg (by omega), if_neg (by omega), if_neg (by omega), if_neg (by omega), if_neg (by omega), if_neg (by omega), if_pos (by omega)]
    obtain ⟨S, kk, hS, hst, hat⟩ := hnat
    rw [hat]
    have A2 : SimP tc K P l eq nv 2 n (nFind tc sp 0 ((n + 1 : Nat) : Int) s) st (fun z => RS tc K sp f4 P l dr du (nFind tc sp 0 ((n + 1 : Nat) : Int) s) z (n + 2) ∧ KP st z) := by
      refine (hpl (by omega)).ct (b := 1) (m := n + 1) rfl rfl (fun z => absurd h.1 z) (fun _ z hz => ?_)
      subst hz
      exact (s_find cx (h.adv (by omega) (by omega)) (by omega) (by omega) k42 (Or.inl ⟨rfl, rfl⟩) hst1 (by rw [Nat.add_sub_cancel]; exact h13) (fun _ => by omega)).wk (fun _ w hw => ⟨hw.1, hw.2.1, fun r hr => hw.2.2 r (by omega)⟩)
    refine A2.ct (b := 1) (m := n + 2) rfl rfl ek_find (fun _ z hz => ?_)
    exact (s_find cx hz.1 (by omega) (by omega) k42' (by omega) hst (by rw [show n + 2 - 1 = n + 1 by omega, k42]; decide) (fun _ => by omega)).wk (fun _ w hw => ⟨hw.1, hz.2.tr ⟨hw.2.1, fun r hr => hw.2.2 r (by omega)⟩⟩)
  have hal : alen (K n) = 1 := by
    unfold alen
    rw [if_neg (by omega), if_neg (by omega), if_neg (by omega), if_neg (by omega), if_neg (by omega)]
  rw [hal] at ht ⊢
  rw [nAt_no (by omega) (by omega) (by omega) (by omega) (by omega) (by omega) (by omega)]
  by_cases k43 : K n = 43
  · refine (s_num cx h hn (by omega) k43 h4 h7).wk (fun _ w hw => ?_)
    subst hw
    exact ⟨h.num k43, rfl, fun r hr => mUp_ne (by omega)⟩
  · refine (hpl k43).wk (fun _ w hw => ?_)
    subst hw
    exact ⟨h.adv (by omega) k43, KP.rf⟩
/-- a whole test or sum -/
theorem s_expr (cx : SCx tc K kd sp f4 eq nv) : ∀ {j n m : Nat} {s : NSt} {st : MSt}, wfS K j n m → (∀ t, n ≤ t → t < m → 13 ≤ K t) → m ≤ tc → 1 ≤ n → K (n - 1) ≠ 4 → K (n - 1) ≠ 7 → RS tc K sp f4 P l dr du s st n → SimP tc K P l eq nv (m - n) n (nAll tc kd sp (m - n) n s) st (fun z => RS tc K sp f4 P l dr du (nAll tc kd sp (m - n) n s) z m ∧ KP st z)
  | 0, n, m, s, st, hw, h13, hm, hn, h4, h7, h => by
    have hw : n = m := hw
    subst hw
    rw [Nat.sub_self]
    exact (SimP.zero h.1).wk (fun _ z hz => by
      subst hz
      exact ⟨h, KP.rf⟩)
  | j + 1, n, m, s, st, hw, h13, hm, hn, h4, h7, h => by
    obtain ⟨ha, hw2⟩ := hw
    have hle := wfS_le hw2
    have hal := alen_pos (a := K n)
    obtain ⟨hak, hkl⟩ := cx.2.1.at ha
    have e : nAll tc kd sp (m - n) n s = nAll tc kd sp (m - (n + alen (K n))) (n + alen (K n)) (nAt tc kd sp n s) := by
      rw [show m - n = alen (kd n) + (m - (n + alen (K n))) by omega, nAll_at hak, if_pos h.1, hkl]
    rw [e]
    refine (s_atom cx h ha (h13 n (Nat.le_refl _) (by omega)) (by omega) hn h4 h7).ct (b := m - (n + alen (K n))) (m := n + alen (K n)) rfl (by omega) (fun hx => by rw [nAll_er hx]; exact ⟨rfl, rfl⟩) (fun _ z hz => ?_)
    have hlast := h13 (n + alen (K n) - 1) (by omega) (by omega)
    exact (s_expr cx hw2 (fun t t1 t2 => h13 t (by omega) t2) hm (by omega) (by omega) (by omega) hz.1).wk (fun _ w hw => ⟨hw.1, hz.2.tr hw.2⟩)
end SIM5
