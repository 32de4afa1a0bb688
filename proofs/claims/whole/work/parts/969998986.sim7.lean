section SIM7
variable {tc n m k a b : Nat} {K kd : Nat → Nat} {sp f4 : Nat → Int} {P l : Nat → Nat} {dr du : Int} {s s' s1 s2 : NSt} {st z w : MSt} {eq : Nat → Nat → Bool} {nv : Nat → Int} {Po Po1 Po2 : MSt → Prop} {os os1 os2 : List Or}
theorem SimP.ny {Q1 Q2 : NSt → MSt → Prop} (h1 : SimP tc K P l eq nv a n (nAll tc kd sp a n s) st (Q1 (nAll tc kd sp a n s))) {m c : Nat} (hm : n + a = m) (hc : a + b = c) (h2 : ∀ s1 z, s1.1 = 0 → Q1 s1 z → SimP tc K P l eq nv b m (nAll tc kd sp b m s1) z (Q2 (nAll tc kd sp b m s1))) : SimP tc K P l eq nv c n (nAll tc kd sp c n s) st (Q2 (nAll tc kd sp c n s)) := by
  subst hm
  subst hc
  rw [nAll_app]
  exact h1.cat (fun hx => by rw [nAll_er hx]; exact ⟨rfl, rfl⟩) (fun h0 z hz => h2 _ z h0 hz)
theorem nAll_1 (he : KEq K kd) (h : K n = 9 ∨ K n = 12 ∨ K n = 30 ∨ K n = 45) : nAll tc kd sp 1 n s = s := by
  have := he n
  show (if s.1 = 0 then nAt tc kd sp n s else s) = s
  rw [nAt_no (by omega) (by omega) (by omega) (by omega) (by omega) (by omega) (by omega)]
  split <;> rfl
theorem PoL.ofH {o : Or} (h : HdP tc K sp f4 P l st n s z m) (ho : o.1 = n) (hn : n + 1 < m) (k8 : K n = 8 ∨ K n = 10 ∨ K n = 11) (h15 : ∃ fu b b' : Nat, z.1 15 st.2.toNat = (b : Int) ∧ b < tc ∧ pG K fu 0 0 b = some (true, b', o.2.2)) (h14 : K n = 8 → ∃ fu b b' : Nat, z.1 14 st.2.toNat = (b : Int) ∧ b < tc ∧ pG K fu 3 0 b = some (true, b', o.2.1)) : PoL tc K sp f4 P l st s [o] m z := by
  obtain ⟨h1, h2, h3, h4, h5⟩ := h
  refine ⟨h1, h2, h3, fun i o' hi => ?_⟩
  cases i with
  | zero =>
    cases hi
    subst ho
    exact ⟨hn, k8, h4, h5, h15, h14⟩
  | succ i =>
    simp at hi
theorem PoL.nil (h : RS tc K sp f4 P l 0 0 s z m) (hK : KP st z) : PoL tc K sp f4 P l st s [] m z := ⟨h, by rw [hK.1]; simp, fun r hr i _ => by rw [hK.2 r hr], fun i o hi => by simp at hi⟩
theorem PoL.cat {m1 m2 : Nat} (h1 : PoL tc K sp f4 P l st s1 os1 m1 z) (h2 : PoL tc K sp f4 P l z s2 os2 m2 w) (h4 : ∀ t, t < m1 → s2.2.2.2.2.2.2.2 4 t = s1.2.2.2.2.2.2.2 4 t) (hm : m1 ≤ m2) (h0 : 0 ≤ st.2) : PoL tc K sp f4 P l st s2 (os1 ++ os2) m2 w := by
  obtain ⟨a1, a2, a3, a4⟩ := h1
  obtain ⟨b1, b2, b3, b4⟩ := h2
  refine ⟨b1, ?_, fun r hr i hi => ?_, fun i o hi => ?_⟩
  · rw [List.length_append]
    omega
  · rw [b3 r hr i (by omega), a3 r hr i hi]
  · by_cases hl : i < os1.length
    · rw [List.getElem?_append_left hl] at hi
      exact (a4 i o hi).kp (fun r hr => b3 r hr _ (by omega)) h4 hm
    · rw [List.getElem?_append_right (by omega)] at hi
      have := b4 _ o hi
      rw [show z.2.toNat + (i - os1.length) = st.2.toNat + i by omega] at this
      exact this
/-- a line of an order -/
theorem s_order (cx : SCx tc K kd sp f4 eq nv) {fu : Nat} {o : Or} (h : pOrder K fu n = some (true, m, o)) (hm : m < tc) (hR : RS tc K sp f4 P l 0 0 s st n) : n < m ∧ SimP tc K P l eq nv (m - n) n (nAll tc kd sp (m - n) n s) st (PoL tc K sp f4 P l st (nAll tc kd sp (m - n) n s) [o] m) := by
  have h0 : 0 ≤ st.2 := hR.2.2.2.1.2.1
  have st0 : ∀ {s1 z x}, HdP tc K sp f4 P l st n s1 z x → 1 ≤ z.2 := fun hz => by
    have := hz.2.1
    omega
  unfold pOrder at h
  split at h
  · rename_i h8
    split at h
    · rename_i h42
      split at h
      · rename_i h9
        split at h
        · cases h
        · cases h
        · rename_i n1 Ls e1
          split at h
          · rename_i h12
            split at h
            · cases h
            · cases h
            · rename_i n2 Lt e2
              cases h
              obtain ⟨⟨j1, w1⟩, x1⟩ := pG_wx _ _ _ _ _ _ e1
              obtain ⟨⟨j2, w2⟩, x2⟩ := pG_wx _ _ _ _ _ _ e2
              have l1 := wfS_le w1
              have l2 := wfS_le w2
              refine ⟨by omega, ?_⟩
              have A2 := s_head cx hR (Or.inl h8) h42 (by omega)
              have A3 : SimP tc K P l eq nv 3 n (nAll tc kd sp 3 n s) st ((fun s z => HdP tc K sp f4 P l st n s z (n + 3) ∧ z.1 14 st.2.toNat = ((n + 3 : Nat) : Int)) (nAll tc kd sp 3 n s)) := by
                refine SimP.ny (Q1 := (fun s z => HdP tc K sp f4 P l st n s z (n + 2))) (Q2 := (fun s z => HdP tc K sp f4 P l st n s z (n + 3) ∧ z.1 14 st.2.toNat = ((n + 3 : Nat) : Int))) (a := 2) (b := 1) (c := 3) A2 rfl rfl (fun s1 z _ hz => ?_)
                rw [nAll_1 cx.2.1 (by omega)]
                have := s_start (eq := eq) (nv := nv) hz.1 (Or.inl h9) (st0 hz)
                rw [if_pos h9] at this
                refine this.wk (fun _ w hw => ?_)
                obtain ⟨a1, a2, a3⟩ := hz.start (Or.inl h9) h0 (Or.inl rfl)
                subst hw
                exact ⟨a1, a2⟩
              have A4 : SimP tc K P l eq nv (n1 - n) n (nAll tc kd sp (n1 - n) n s) st ((fun s z => HdP tc K sp f4 P l st n s z n1 ∧ z.1 14 st.2.toNat = ((n + 3 : Nat) : Int)) (nAll tc kd sp (n1 - n) n s)) := by
                refine SimP.ny (Q1 := (fun s z => HdP tc K sp f4 P l st n s z (n + 3) ∧ z.1 14 st.2.toNat = ((n + 3 : Nat) : Int))) (Q2 := (fun s z => HdP tc K sp f4 P l st n s z n1 ∧ z.1 14 st.2.toNat = ((n + 3 : Nat) : Int))) (a := 3) (b := n1 - (n + 3)) (m := n + 3) (c := n1 - n) A3 rfl (by omega) (fun s1 z _ hz => ?_)
                refine (s_expr cx w1 x1 (by omega) (by omega) (by rw [show n + 3 - 1 = n + 2 by omega]; omega) (by rw [show n + 3 - 1 = n + 2 by omega]; omega) hz.1.1).wk (fun _ w hw => ⟨hz.1.exp hw.1 hw.2 (r4_all (by omega)), ?_⟩)
                rw [hw.2.2 14 (by decide)]
                exact hz.2
              have A5 : SimP tc K P l eq nv (n1 - n + 1) n (nAll tc kd sp (n1 - n + 1) n s) st ((fun s z => HdP tc K sp f4 P l st n s z (n1 + 1) ∧ z.1 14 st.2.toNat = ((n + 3 : Nat) : Int) ∧ z.1 15 st.2.toNat = ((n1 + 1 : Nat) : Int)) (nAll tc kd sp (n1 - n + 1) n s)) := by
                refine SimP.ny (Q1 := (fun s z => HdP tc K sp f4 P l st n s z n1 ∧ z.1 14 st.2.toNat = ((n + 3 : Nat) : Int))) (Q2 := (fun s z => HdP tc K sp f4 P l st n s z (n1 + 1) ∧ z.1 14 st.2.toNat = ((n + 3 : Nat) : Int) ∧ z.1 15 st.2.toNat = ((n1 + 1 : Nat) : Int))) (a := n1 - n) (b := 1) (m := n1) (c := n1 - n + 1) A4 (by omega) rfl (fun s1 z _ hz => ?_)
                rw [nAll_1 cx.2.1 (by omega)]
                have := s_start (eq := eq) (nv := nv) hz.1.1 (Or.inr h12) (st0 hz.1)
                rw [if_neg (by omega)] at this
                refine this.wk (fun _ w hw => ?_)
                obtain ⟨a1, a2, a3⟩ := hz.1.start (Or.inr h12) h0 (Or.inr rfl)
                subst hw
                refine ⟨a1, ?_, a2⟩
                dsimp only
                rw [a3 14 (by decide)]
                exact hz.2
              refine SimP.ny (Q1 := (fun s z => HdP tc K sp f4 P l st n s z (n1 + 1) ∧ z.1 14 st.2.toNat = ((n + 3 : Nat) : Int) ∧ z.1 15 st.2.toNat = ((n1 + 1 : Nat) : Int))) (Q2 := fun s z => PoL tc K sp f4 P l st s [(n, Ls, Lt)] m z) (a := n1 - n + 1) (b := m - (n1 + 1)) (m := n1 + 1) (c := m - n) A5 (by omega) (by omega) (fun s1 z _ hz => ?_)
              refine (s_expr cx w2 x2 (by omega) (by omega) (by rw [Nat.add_sub_cancel]; omega) (by rw [Nat.add_sub_cancel]; omega) hz.1.1).wk (fun _ w hw => ?_)
              refine PoL.ofH (hz.1.exp hw.1 hw.2 (r4_all (by omega))) rfl (by omega) (Or.inl h8) ⟨fu, n1 + 1, m, ?_, by omega, e2⟩ (fun _ => ⟨fu, n + 3, n1, ?_, by omega, e1⟩)
              · rw [hw.2.2 15 (by decide)]
                exact hz.2.2
              · rw [hw.2.2 14 (by decide)]
                exact hz.2.1
          · cases h
      · cases h
    · cases h
  · split at h
    · rename_i h8 h10
      split at h
      · rename_i h42
        split at h
        · rename_i h12
          split at h
          · cases h
          · cases h
          · rename_i n2 Lt e2
            cases h
            obtain ⟨⟨j2, w2⟩, x2⟩ := pG_wx _ _ _ _ _ _ e2
            have l2 := wfS_le w2
            refine ⟨by omega, ?_⟩
            have A2 := s_head cx hR (Or.inr h10) h42 (by omega)
            have A3 : SimP tc K P l eq nv 3 n (nAll tc kd sp 3 n s) st ((fun s z => HdP tc K sp f4 P l st n s z (n + 3) ∧ z.1 15 st.2.toNat = ((n + 3 : Nat) : Int)) (nAll tc kd sp 3 n s)) := by
              refine SimP.ny (Q1 := (fun s z => HdP tc K sp f4 P l st n s z (n + 2))) (Q2 := (fun s z => HdP tc K sp f4 P l st n s z (n + 3) ∧ z.1 15 st.2.toNat = ((n + 3 : Nat) : Int))) (a := 2) (b := 1) (c := 3) A2 rfl rfl (fun s1 z _ hz => ?_)
              rw [nAll_1 cx.2.1 (by omega)]
              have := s_start (eq := eq) (nv := nv) hz.1 (Or.inr h12) (st0 hz)
              rw [if_neg (by omega)] at this
              refine this.wk (fun _ w hw => ?_)
              obtain ⟨a1, a2, a3⟩ := hz.start (Or.inr h12) h0 (Or.inr rfl)
              subst hw
              exact ⟨a1, a2⟩
            refine SimP.ny (Q1 := (fun s z => HdP tc K sp f4 P l st n s z (n + 3) ∧ z.1 15 st.2.toNat = ((n + 3 : Nat) : Int))) (Q2 := fun s z => PoL tc K sp f4 P l st s [(n, [], Lt)] m z) (a := 3) (b := m - (n + 3)) (m := n + 3) (c := m - n) A3 (by omega) (by omega) (fun s1 z _ hz => ?_)
            refine (s_expr cx w2 x2 (by omega) (by omega) (by rw [show n + 3 - 1 = n + 2 by omega]; omega) (by rw [show n + 3 - 1 = n + 2 by omega]; omega) hz.1.1).wk (fun _ w hw => ?_)
            refine PoL.ofH (hz.1.exp hw.1 hw.2 (r4_all (by omega))) rfl (by omega) (Or.inr h10) ⟨fu, n + 3, m, ?_, by omega, e2⟩ (fun z => absurd z h8)
            rw [hw.2.2 15 (by decide)]
            exact hz.2
        · cases h
      · cases h
    · cases h
theorem nAll_atom (he : KEq K kd) (ha : atOk K n) (h0 : s.1 = 0) {c : Nat} (hc : alen (K n) = c) : nAll tc kd sp c n s = nAt tc kd sp n s := by
  obtain ⟨a1, a2⟩ := he.at ha
  have := nAll_at (tc := tc) (sp := sp) (s := s) (m := 0) a1
  rw [if_pos h0, Nat.add_zero, a2, hc] at this
  exact this
/-- a line -/
theorem s_line (cx : SCx tc K kd sp f4 eq nv) {fu : Nat} {o : Option Or} (h : pLine K fu n = some (true, m, o)) (hm : m < tc) (hR : RS tc K sp f4 P l 0 0 s st n) : n < m ∧ SimP tc K P l eq nv (m - n) n (nAll tc kd sp (m - n) n s) st (PoL tc K sp f4 P l st (nAll tc kd sp (m - n) n s) o.toList m) := by
  have hke := cx.2.1 n
  unfold pLine at h
  split at h
  · rename_i k0
    have h1 : (pSeq K [0, 42] n).1 = true := by
      have := congrArg (fun x : Option (Bool × Nat × Option Or) => x.map (·.1)) h
      simpa using this
    have h2 : (pSeq K [0, 42] n).2 = m := by
      have := congrArg (fun x : Option (Bool × Nat × Option Or) => x.map (·.2.1)) h
      simpa using this
    have ho : o = none := (congrArg (fun r => r.2.2) (Option.some.inj h)).symm
    subst ho
    obtain ⟨h3, h4⟩ := pSeq_all h1
    rw [h2] at h3
    have hmn : m = n + 2 := h3
    subst hmn
    have k1 := h4 1 42 rfl
    refine ⟨by omega, ?_⟩
    rw [Nat.add_sub_cancel_left, nAll_atom cx.2.1 ⟨fun _ => k1, fun z => by omega, fun z => by omega, fun z => by omega, fun z => by omega, by omega, by omega, by omega, by omega, by omega, by omega, by omega⟩ hR.1 (by rw [k0]; rfl)]
    have := s_tav cx hR k0 k1 (by omega)
    rw [show nAt tc kd sp n s = nTell tc sp 0 ((n : Int) + 1) s by
      unfold nAt
      rw [if_pos (by omega)]]
    exact this.wk (fun _ z hz => PoL.nil hz.1 hz.2)
  · split at h
    · rename_i k0' k0
      have h1 : (pSeq K [1, 42, 2, 42, 3, 42, 4, 43] n).1 = true := by
        have := congrArg (fun x : Option (Bool × Nat × Option Or) => x.map (·.1)) h
        simpa using this
      have h2 : (pSeq K [1, 42, 2, 42, 3, 42, 4, 43] n).2 = m := by
        have := congrArg (fun x : Option (Bool × Nat × Option Or) => x.map (·.2.1)) h
        simpa using this
      have ho : o = none := (congrArg (fun r => r.2.2) (Option.some.inj h)).symm
      subst ho
      obtain ⟨h3, h4⟩ := pSeq_all h1
      rw [h2] at h3
      have hmn : m = n + 8 := h3
      subst hmn
      refine ⟨by omega, ?_⟩
      rw [Nat.add_sub_cancel_left, nAll_atom cx.2.1 ⟨fun z => by omega, fun _ => ⟨h4 1 42 rfl, h4 2 2 rfl, h4 3 42 rfl, h4 4 3 rfl, h4 5 42 rfl, h4 6 4 rfl, h4 7 43 rfl⟩, fun z => by omega, fun z => by omega, fun z => by omega, by omega, by omega, by omega, by omega, by omega, by omega, by omega⟩ hR.1 (by rw [k0]; rfl)]
      have := s_road cx hR k0 (h4 1 42 rfl) (h4 2 2 rfl) (h4 3 42 rfl) (h4 4 3 rfl) (h4 5 42 rfl) (h4 6 4 rfl) (h4 7 43 rfl) (by omega)
      rw [show nAt tc kd sp n s = nRoadAt tc sp n s by
        unfold nAt
        rw [if_neg (by omega), if_pos (by omega)]]
      exact this.wk (fun _ z hz => PoL.nil hz.1 hz.2)
    · split at h
      · rename_i k0' k0'' k0
        have h1 : (pSeq K [5, 42, 6, 42, 7, 43] n).1 = true := by
          have := congrArg (fun x : Option (Bool × Nat × Option Or) => x.map (·.1)) h
          simpa using this
        have h2 : (pSeq K [5, 42, 6, 42, 7, 43] n).2 = m := by
          have := congrArg (fun x : Option (Bool × Nat × Option Or) => x.map (·.2.1)) h
          simpa using this
        have ho : o = none := (congrArg (fun r => r.2.2) (Option.some.inj h)).symm
        subst ho
        obtain ⟨h3, h4⟩ := pSeq_all h1
        rw [h2] at h3
        have hmn : m = n + 6 := h3
        subst hmn
        refine ⟨by omega, ?_⟩
        rw [Nat.add_sub_cancel_left, nAll_atom cx.2.1 ⟨fun z => by omega, fun z => by omega, fun _ => ⟨h4 1 42 rfl, h4 2 6 rfl, h4 3 42 rfl, h4 4 7 rfl, h4 5 43 rfl⟩, fun z => by omega, fun z => by omega, by omega, by omega, by omega, by omega, by omega, by omega, by omega⟩ hR.1 (by rw [k0]; rfl)]
        have := s_rum cx hR k0 (h4 1 42 rfl) (h4 2 6 rfl) (h4 3 42 rfl) (h4 4 7 rfl) (h4 5 43 rfl) (by omega)
        rw [show nAt tc kd sp n s = nRumAt tc sp n s by
          unfold nAt
          rw [if_neg (by omega), if_neg (by omega), if_pos (by omega)]]
        exact this.wk (fun _ z hz => PoL.nil hz.1 hz.2)
      · rcases ho : pOrder K fu n with _ | ⟨b, n1, o'⟩
        · rw [ho] at h; cases h
        · rw [ho] at h
          cases h
          exact s_order cx ho hm hR
/-- a whole list -/
theorem s_list (cx : SCx tc K kd sp f4 eq nv) {fu : Nat} : ∀ {x n n2 : Nat} {os : List Or} {s : NSt} {st : MSt}, pLs K fu x n = some (true, n2, os) → n2 < tc → RS tc K sp f4 P l 0 0 s st n → n ≤ n2 ∧ SimP tc K P l eq nv (n2 - n) n (nAll tc kd sp (n2 - n) n s) st (PoL tc K sp f4 P l st (nAll tc kd sp (n2 - n) n s) os n2)
  | 0, n, n2, os, s, st, h, hm, hR => by cases h
  | x + 1, n, n2, os, s, st, h, hm, hR => by
    unfold pLs at h
    split at h
    · rename_i h45
      cases h
      refine ⟨Nat.le_refl _, ?_⟩
      rw [Nat.sub_self]
      exact (SimP.zero hR.1).wk (fun _ z hz => by
        subst hz
        exact PoL.nil hR KP.rf)
    · split at h
      · cases h
      · cases h
      · rename_i n1 o e1
        split at h
        · rename_i h30
          split at h
          · cases h
          · rename_i b n3 os3 e3
            cases h
            obtain ⟨⟨j, hw⟩, hK2⟩ := pLs_wf e3
            have l3 := wfS_le hw
            obtain ⟨l1, A1⟩ := s_line cx e1 (by omega) hR
            refine ⟨by omega, ?_⟩
            have A2 : SimP tc K P l eq nv (n1 - n + 1) n (nAll tc kd sp (n1 - n + 1) n s) st ((fun s z => PoL tc K sp f4 P l st s o.toList (n1 + 1) z) (nAll tc kd sp (n1 - n + 1) n s)) := by
              refine SimP.ny (Q1 := fun s z => PoL tc K sp f4 P l st s o.toList n1 z) (Q2 := fun s z => PoL tc K sp f4 P l st s o.toList (n1 + 1) z) (a := n1 - n) (b := 1) (m := n1) (c := n1 - n + 1) A1 (by omega) rfl (fun s1 z _ hz => ?_)
              rw [nAll_1 cx.2.1 (by omega)]
              refine (s_plain hz.1 (by omega) (by omega) (by omega)).wk (fun _ w hw => ?_)
              subst hw
              exact ⟨hz.1.adv (by omega) (by omega), hz.2.1, hz.2.2.1, fun i o' hi => (hz.2.2.2 i o' hi).kp (fun _ _ => rfl) (fun _ _ => rfl) (by omega)⟩
            refine SimP.ny (Q1 := fun s z => PoL tc K sp f4 P l st s o.toList (n1 + 1) z) (Q2 := fun s z => PoL tc K sp f4 P l st s (o.toList ++ os3) n2 z) (a := n1 - n + 1) (b := n2 - (n1 + 1)) (m := n1 + 1) (c := n2 - n) A2 (by omega) (by omega) (fun s1 z _ hz => ?_)
            obtain ⟨-, A3⟩ := s_list cx e3 hm hz.1
            exact A3.wk (fun _ w hw => hz.cat hw (fun t ht => r4_all (by omega)) l3 hR.2.2.2.1.2.1)
        · cases h
end SIM7
