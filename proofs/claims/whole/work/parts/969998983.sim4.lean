/-- what the rows of the orders keep -/
def KP (st z : MSt) : Prop := z.2 = st.2 ∧ ∀ r, 12 ≤ r → z.1 r = st.1 r
section SIM4
variable {tc n k a b : Nat} {K kd : Nat → Nat} {sp f4 : Nat → Int} {P l : Nat → Nat} {dr du : Int} {s s' s1 s2 : NSt} {st z w : MSt} {eq : Nat → Nat → Bool} {nv : Nat → Int} {Po Po1 Po2 : MSt → Prop}
theorem KP.rf : KP st st := ⟨rfl, fun _ _ => rfl⟩
theorem KP.tr (h1 : KP st z) (h2 : KP z w) : KP st w := ⟨h2.1.trans h1.1, fun r hr => (h2.2 r hr).trans (h1.2 r hr)⟩
theorem ek_note {x t : Int} (h : s.1 ≠ 0) : nNote x t s = s := by
  unfold nNote
  rw [if_neg h]
theorem ek_set {t v : Int} : (nSet tc t v s).1 = s.1 ∧ (nSet tc t v s).2.1 = s.2.1 ∧ (nSet tc t v s).2.2.2.2.2.1 = s.2.2.2.2.2.1 ∧ (nSet tc t v s).2.2.2.2.2.2.1 = s.2.2.2.2.2.2.1 := by
  unfold nSet
  split <;> exact ⟨rfl, rfl, rfl, rfl⟩
theorem ek_find {k : Nat} {t : Int} (h : s.1 ≠ 0) : (nFind tc sp k t s).1 = s.1 ∧ (nFind tc sp k t s).2.1 = s.2.1 := by
  unfold nFind
  rw [ek_note h]
  split <;> exact ⟨ek_set.1, ek_set.2.1⟩
theorem rd_find {k : Nat} {t : Int} : (nFind tc sp k t s).2.2.2.2.2.1 = s.2.2.2.2.2.1 ∧ (nFind tc sp k t s).2.2.2.2.2.2.1 = s.2.2.2.2.2.2.1 := by
  unfold nFind
  rw [ek_set.2.2.1, ek_set.2.2.2]
  split
  · unfold nNote
    split <;> exact ⟨rfl, rfl⟩
  · exact ⟨rfl, rfl⟩
theorem ek_num {t x y : Int} (h : s.1 ≠ 0) : nNum tc t x y s = s := by
  unfold nNum
  split
  · rfl
  · exact ek_note h
theorem SimP.ct (h1 : SimP tc K P l eq nv a n s1 st Po1) {m c : Nat} (hm : n + a = m) (hc : a + b = c) (he : s1.1 ≠ 0 → s2.1 = s1.1 ∧ s2.2.1 = s1.2.1) (h2 : s1.1 = 0 → ∀ st1, Po1 st1 → SimP tc K P l eq nv b m s2 st1 Po2) : SimP tc K P l eq nv c n s2 st Po2 := by
  subst hm
  subst hc
  exact h1.cat he h2
/-- a plain token after some others -/
theorem SimP.pl (h1 : SimP tc K P l eq nv a n s st Po) {m c : Nat} (hm : n + a = m) (hc : a + 1 = c) (hR : ∀ z, s.1 = 0 → Po z → RS tc K sp f4 P l dr du s z m) (h42 : K m ≠ 42) (h43 : K m ≠ 43) (h8 : K m ≠ 8 ∧ K m ≠ 9 ∧ K m ≠ 10 ∧ K m ≠ 11 ∧ K m ≠ 12) : SimP tc K P l eq nv c n s st Po := h1.ct hm hc (fun _ => ⟨rfl, rfl⟩) (fun h0 z hz => (s_plain (hR z h0 hz) h42 h43 h8).wk (fun _ w hw => by
  rw [hw]
  exact hz))
theorem pv_1 {m x : Nat} (h : K m = x) : K (m + 1 - 1) = x := by
  rw [Nat.add_sub_cancel]
  exact h
/-- a line of a tavern -/
theorem s_tav (cx : SCx tc K kd sp f4 eq nv) (h : RS tc K sp f4 P l dr du s st n) (k0 : K n = 0) (k1 : K (n + 1) = 42) (ht : n + 2 ≤ tc) : SimP tc K P l eq nv 2 n (nTell tc sp 0 ((n : Int) + 1) s) st (fun z => RS tc K sp f4 P l dr du (nTell tc sp 0 ((n : Int) + 1) s) z (n + 2) ∧ KP st z) := by
  refine (s_plain h (by omega) (by omega) (by omega)).ct (b := 1) (m := n + 1) rfl rfl (fun z => absurd h.1 z) (fun _ z hz => ?_)
  subst hz
  have := s_told cx (h.adv (by omega) (by omega)) (by omega) (by omega) k1 (Or.inl ⟨rfl, rfl⟩) (pv_1 k0)
  rw [if_neg (by decide), if_neg (by decide), Int.add_zero, Int.add_zero] at this
  exact this.wk (fun _ w hw => ⟨hw.1, hw.2.1, fun r hr => hw.2.2 r (by omega) (by omega)⟩)
/-- a line of a road -/
theorem s_road (cx : SCx tc K kd sp f4 eq nv) (h : RS tc K sp f4 P l 0 du s st n) (k0 : K n = 1) (k1 : K (n + 1) = 42) (k2 : K (n + 2) = 2) (k3 : K (n + 3) = 42) (k4 : K (n + 4) = 3) (k5 : K (n + 5) = 42) (k6 : K (n + 6) = 4) (k7 : K (n + 7) = 43) (ht : n + 8 ≤ tc) : SimP tc K P l eq nv 8 n (nRoadAt tc sp n s) st (fun z => RS tc K sp f4 P l 0 du (nRoadAt tc sp n s) z (n + 8) ∧ KP st z) := by
  have c1 : (n : Int) + 1 = ((n + 1 : Nat) : Int) := by omega
  have c3 : (n : Int) + 3 = ((n + 3 : Nat) : Int) := by omega
  have c5 : (n : Int) + 5 = ((n + 5 : Nat) : Int) := by omega
  have c7 : (n : Int) + 7 = ((n + 7 : Nat) : Int) := by omega
  unfold nRoadAt
  dsimp only
  rw [c1, c3, c5, c7, spO_n (by omega : n + 3 < tc), spO_n (by omega : n + 5 < tc)]
  have A2 : SimP tc K P l eq nv 2 n (nTell tc sp 1 ((n + 1 : Nat) : Int) s) st (fun z => RS tc K sp f4 P l 1 du (nTell tc sp 1 ((n + 1 : Nat) : Int) s) z (n + 2) ∧ KP st z) := by
    refine (s_plain h (by omega) (by omega) (by omega)).ct (b := 1) (m := n + 1) rfl rfl (fun z => absurd h.1 z) (fun _ z hz => ?_)
    subst hz
    have := s_told cx (h.adv (by omega) (by omega)) (by omega) (by omega) k1 (Or.inr (Or.inl ⟨rfl, rfl⟩)) (pv_1 k0)
    rw [if_pos rfl, if_neg (by decide), Int.add_zero, Int.zero_add] at this
    exact this.wk (fun _ w hw => ⟨hw.1, hw.2.1, fun r hr => hw.2.2 r (by omega) (by omega)⟩)
  generalize h1 : nTell tc sp 1 ((n + 1 : Nat) : Int) s = s1 at A2 ⊢
  have A3 := A2.pl (m := n + 2) rfl rfl (fun z _ hz => hz.1) (by omega) (by omega) (by omega)
  generalize hf : nIx (sp (n + 3)) 0 s1 = f
  have A4 : SimP tc K P l eq nv 4 n (nFind tc sp 0 ((n + 3 : Nat) : Int) s1) st (fun z => RS tc K sp f4 P l 1 du (nFind tc sp 0 ((n + 3 : Nat) : Int) s1) z (n + 4) ∧ KP st z ∧ z.1 7 s1.2.2.2.2.2.1 = f) := by
    refine A3.ct (b := 1) (m := n + 3) rfl rfl ek_find (fun _ z hz => ?_)
    have hR := hz.1.adv (by omega) (by omega)
    have hcn := hR.cnt
    have hst : stM K (n + 3) = 0 := by
      unfold stM
      rw [pv_1 k2, if_neg (by omega), if_neg (by omega), if_neg (by omega)]
    refine (s_findW cx hR (by omega) (by omega) k3 (Or.inl ⟨rfl, rfl⟩) hst (Or.inl ⟨pv_1 k2, rfl, Int.le_refl _, rfl⟩)).wk (fun _ w hw => ⟨hw.1, hz.2.tr ⟨hw.2.1, fun r hr => hw.2.2.1 r (by omega) (by omega)⟩, ?_⟩)
    rw [hw.2.2.2, show (z.1 5 1 - 1).toNat = s1.2.2.2.2.2.1 by omega, mUp_self, hf]
  have hrd2 := (rd_find (tc := tc) (sp := sp) (s := s1) (k := 0) (t := ((n + 3 : Nat) : Int))).1
  generalize h2 : nFind tc sp 0 ((n + 3 : Nat) : Int) s1 = s2 at A4 hrd2 ⊢
  have A5 := A4.pl (m := n + 4) rfl rfl (fun z _ hz => hz.1) (by omega) (by omega) (by omega)
  generalize hg : nIx (sp (n + 5)) 0 s2 = g
  have A6 : SimP tc K P l eq nv 6 n (if f = g then nNote 3 ((n + 5 : Nat) : Int) (nFind tc sp 0 ((n + 5 : Nat) : Int) s2) else nFind tc sp 0 ((n + 5 : Nat) : Int) s2) st (fun z => f ≠ g ∧ RS tc K sp f4 P l 1 du (nFind tc sp 0 ((n + 5 : Nat) : Int) s2) z (n + 6) ∧ KP st z ∧ z.1 7 s1.2.2.2.2.2.1 = f ∧ z.1 8 s1.2.2.2.2.2.1 = g) := by
    refine A5.ct (b := 1) (m := n + 5) rfl rfl (fun hx => ?_) (fun _ z hz => ?_)
    · have hq := ek_find (tc := tc) (sp := sp) (k := 0) (t := ((n + 5 : Nat) : Int)) hx
      rw [ek_note (by rw [hq.1]; exact hx)]
      split <;> exact hq
    · have hR := hz.1.adv (by omega) (by omega)
      have := s_to cx hR (by omega) (by omega) k5 (pv_1 k4) (f := f) (by rw [hrd2]; exact hz.2.2)
      rw [hg] at this
      refine this.wk (fun _ w hw => ⟨hw.1, hw.2.1, hz.2.1.tr ⟨hw.2.2.1, fun r hr => hw.2.2.2.1 r (by omega) (by omega)⟩, ?_, ?_⟩)
      · rw [hw.2.2.2.1 7 (by decide) (by decide)]
        exact hz.2.2
      · rw [hw.2.2.2.2, hrd2, mUp_self]
  have hrd3 := (rd_find (tc := tc) (sp := sp) (s := s2) (k := 0) (t := ((n + 5 : Nat) : Int))).1
  generalize h3 : nFind tc sp 0 ((n + 5 : Nat) : Int) s2 = s3 at A6 hrd3 ⊢
  generalize h4 : (if f = g then nNote 3 ((n + 5 : Nat) : Int) s3 else s3) = s4 at A6 ⊢
  have hs4 : f ≠ g → s4 = s3 := fun z => by rw [← h4, if_neg z]
  have A7 := A6.pl (m := n + 6) (sp := sp) (f4 := f4) (dr := 1) (du := du) rfl rfl (fun z _ hz => by
    rw [hs4 hz.1]
    exact hz.2.1) (by omega) (by omega) (by omega)
  have A8 : SimP tc K P l eq nv 8 n (nNum tc ((n + 7 : Nat) : Int) 1 30 s4) st (fun z => f ≠ g ∧ nNum tc ((n + 7 : Nat) : Int) 1 30 s4 = s3 ∧ RS tc K sp f4 P l 1 du s3 z (n + 8) ∧ KP st z ∧ z.1 7 s3.2.2.2.2.2.1 = f ∧ z.1 8 s3.2.2.2.2.2.1 = g ∧ z.1 9 s3.2.2.2.2.2.1 = vlO tc (s3.2.2.2.2.2.2.2 4) ((n + 7 : Nat) : Int)) := by
    refine A7.ct (b := 1) (m := n + 7) rfl rfl (fun hx => by rw [ek_num hx]; exact ⟨rfl, rfl⟩) (fun _ z hz => ?_)
    rw [hs4 hz.1]
    have hR := hz.2.1.adv (by omega) (by omega)
    refine (s_numW cx hR (by omega) (by omega) k7 (Or.inl ⟨pv_1 k6, rfl, rfl, rfl, rfl, rfl⟩)).wk (fun _ w hw => ⟨hz.1, hw.2.2.2.2, hw.1, hz.2.2.1.tr ⟨hw.2.1, fun r hr => hw.2.2.1 r (by omega) (by omega)⟩, ?_, ?_, ?_⟩)
    · rw [hw.2.2.1 7 (by decide) (by decide), hrd3, hrd2]
      exact hz.2.2.2.1
    · rw [hw.2.2.1 8 (by decide) (by decide), hrd3, hrd2]
      exact hz.2.2.2.2
    · rw [hw.2.2.2.1, mUp_self]
      unfold vlO
      rw [if_pos (by omega), Int.toNat_natCast]
      exact (hR.2.2.2.2.1.2.2 _ k7).symm
  generalize h5 : nNum tc ((n + 7 : Nat) : Int) 1 30 s4 = s5 at A8 ⊢
  refine (A8.ws (s2 := if s5.1 = 0 then nRoad f g (vlO tc (s4.2.2.2.2.2.2.2 4) ((n + 7 : Nat) : Int)) s5 else s5) ?_ (fun hx => by rw [if_neg hx])).wk (fun hx z hz => ?_)
  · split
    · exact er_road
    · rfl
  · obtain ⟨z1, z2, z3, z4, z5, z6, z7⟩ := hz
    have z0 : s5.1 = 0 := by
      rw [z2]
      exact z3.1
    refine ⟨?_, z4⟩
    rw [if_pos z0, hs4 z1, z2]
    unfold nRoad
    obtain ⟨y0, ⟨c0, c1', c2, cc3, cc4, cc5⟩, yn, yo, y4, ⟨r1, r2, r3, r4⟩, yk⟩ := z3
    rw [if_pos (by omega)]
    refine ⟨y0, ⟨c0, c1', c2, cc3, cc4, cc5⟩, yn, yo, y4, ⟨?_, fun r hr => ?_, r3, r4⟩, yk⟩
    · show ((s3.2.2.2.2.2.1 + 1 : Nat) : Int) + 0 = _
      rw [← r1]
      omega
    · have hr : r < s3.2.2.2.2.2.1 + 1 := hr
      show z.1 7 r = mUp (s3.2.2.2.2.2.2.2 7) s3.2.2.2.2.2.1 f r ∧ z.1 8 r = mUp (s3.2.2.2.2.2.2.2 8) s3.2.2.2.2.2.1 g r ∧ z.1 9 r = mUp (s3.2.2.2.2.2.2.2 9) s3.2.2.2.2.2.1 _ r
      by_cases hrr : r = s3.2.2.2.2.2.1
      · rw [hrr, mUp_self, mUp_self, mUp_self]
        exact ⟨z5, z6, z7⟩
      · rw [mUp_ne hrr, mUp_ne hrr, mUp_ne hrr]
        exact r2 r (by omega)
/-- a line of a rumour -/
theorem s_rum (cx : SCx tc K kd sp f4 eq nv) (h : RS tc K sp f4 P l dr 0 s st n) (k0 : K n = 5) (k1 : K (n + 1) = 42) (k2 : K (n + 2) = 6) (k3 : K (n + 3) = 42) (k4 : K (n + 4) = 7) (k5 : K (n + 5) = 43) (ht : n + 6 ≤ tc) : SimP tc K P l eq nv 6 n (nRumAt tc sp n s) st (fun z => RS tc K sp f4 P l dr 0 (nRumAt tc sp n s) z (n + 6) ∧ KP st z) := by
  have c1 : (n : Int) + 1 = ((n + 1 : Nat) : Int) := by omega
  have c3 : (n : Int) + 3 = ((n + 3 : Nat) : Int) := by omega
  have c5 : (n : Int) + 5 = ((n + 5 : Nat) : Int) := by omega
  unfold nRumAt
  dsimp only
  rw [c1, c3, c5, spO_n (by omega : n + 3 < tc)]
  have A2 : SimP tc K P l eq nv 2 n (nTell tc sp 2 ((n + 1 : Nat) : Int) s) st (fun z => RS tc K sp f4 P l dr 1 (nTell tc sp 2 ((n + 1 : Nat) : Int) s) z (n + 2) ∧ KP st z) := by
    refine (s_plain h (by omega) (by omega) (by omega)).ct (b := 1) (m := n + 1) rfl rfl (fun z => absurd h.1 z) (fun _ z hz => ?_)
    subst hz
    have := s_told cx (h.adv (by omega) (by omega)) (by omega) (by omega) k1 (Or.inr (Or.inr ⟨rfl, rfl⟩)) (pv_1 k0)
    rw [if_neg (by decide), if_pos rfl, Int.add_zero, Int.zero_add] at this
    exact this.wk (fun _ w hw => ⟨hw.1, hw.2.1, fun r hr => hw.2.2 r (by omega) (by omega)⟩)
  generalize h1 : nTell tc sp 2 ((n + 1 : Nat) : Int) s = s1 at A2 ⊢
  have A3 := A2.pl (m := n + 2) rfl rfl (fun z _ hz => hz.1) (by omega) (by omega) (by omega)
  generalize hf : nIx (sp (n + 3)) 0 s1 = f
  have A4 : SimP tc K P l eq nv 4 n (nFind tc sp 0 ((n + 3 : Nat) : Int) s1) st (fun z => RS tc K sp f4 P l dr 1 (nFind tc sp 0 ((n + 3 : Nat) : Int) s1) z (n + 4) ∧ KP st z ∧ z.1 10 s1.2.2.2.2.2.2.1 = f) := by
    refine A3.ct (b := 1) (m := n + 3) rfl rfl ek_find (fun _ z hz => ?_)
    have hR := hz.1.adv (by omega) (by omega)
    have hcn := hR.cnt
    have hst : stM K (n + 3) = 0 := by
      unfold stM
      rw [pv_1 k2, if_neg (by omega), if_neg (by omega), if_neg (by omega)]
    refine (s_findW cx hR (by omega) (by omega) k3 (Or.inl ⟨rfl, rfl⟩) hst (Or.inr (Or.inl ⟨pv_1 k2, rfl, Int.le_refl _, rfl⟩))).wk (fun _ w hw => ⟨hw.1, hz.2.tr ⟨hw.2.1, fun r hr => hw.2.2.1 r (by omega) (by omega)⟩, ?_⟩)
    rw [hw.2.2.2, show (z.1 5 5 - 1).toNat = s1.2.2.2.2.2.2.1 by omega, mUp_self, hf]
  have hrd2 := (rd_find (tc := tc) (sp := sp) (s := s1) (k := 0) (t := ((n + 3 : Nat) : Int))).2
  generalize h2 : nFind tc sp 0 ((n + 3 : Nat) : Int) s1 = s2 at A4 hrd2 ⊢
  have A5 := A4.pl (m := n + 4) rfl rfl (fun z _ hz => hz.1) (by omega) (by omega) (by omega)
  have A8 : SimP tc K P l eq nv 6 n (nNum tc ((n + 5 : Nat) : Int) 0 99 s2) st (fun z => nNum tc ((n + 5 : Nat) : Int) 0 99 s2 = s2 ∧ RS tc K sp f4 P l dr 1 s2 z (n + 6) ∧ KP st z ∧ z.1 10 s2.2.2.2.2.2.2.1 = f ∧ z.1 11 s2.2.2.2.2.2.2.1 = vlO tc (s2.2.2.2.2.2.2.2 4) ((n + 5 : Nat) : Int)) := by
    refine A5.ct (b := 1) (m := n + 5) rfl rfl (fun hx => by rw [ek_num hx]; exact ⟨rfl, rfl⟩) (fun _ z hz => ?_)
    have hR := hz.1.adv (by omega) (by omega)
    refine (s_numW cx hR (by omega) (by omega) k5 (Or.inr ⟨pv_1 k4, rfl, rfl, rfl, rfl, rfl⟩)).wk (fun _ w hw => ⟨hw.2.2.2.2, hw.1, hz.2.1.tr ⟨hw.2.1, fun r hr => hw.2.2.1 r (by omega) (by omega)⟩, ?_, ?_⟩)
    · rw [hw.2.2.1 10 (by decide) (by decide), hrd2]
      exact hz.2.2
    · rw [hw.2.2.2.1, mUp_self]
      unfold vlO
      rw [if_pos (by omega), Int.toNat_natCast]
      exact (hR.2.2.2.2.1.2.2 _ k5).symm
  generalize h5 : nNum tc ((n + 5 : Nat) : Int) 0 99 s2 = s5 at A8 ⊢
  refine (A8.ws (s2 := if s5.1 = 0 then nRum f (vlO tc (s2.2.2.2.2.2.2.2 4) ((n + 5 : Nat) : Int)) s5 else s5) ?_ (fun hx => by rw [if_neg hx])).wk (fun hx z hz => ?_)
  · split
    · exact er_rum
    · rfl
  · obtain ⟨z2, z3, z4, z5, z7⟩ := hz
    have z0 : s5.1 = 0 := by
      rw [z2]
      exact z3.1
    refine ⟨?_, z4⟩
    rw [if_pos z0, z2]
    unfold nRum
    obtain ⟨y0, ⟨c0, c1', c2, cc3, cc4, cc5⟩, yn, yo, y4, ⟨r1, r2, r3, r4⟩, yk⟩ := z3
    rw [if_pos (by omega)]
    refine ⟨y0, ⟨c0, c1', c2, cc3, cc4, cc5⟩, yn, yo, y4, ⟨r1, r2, ?_, fun r hr => ?_⟩, yk⟩
    · show ((s2.2.2.2.2.2.2.1 + 1 : Nat) : Int) + 0 = _
      rw [← r3]
      omega
    · have hr : r < s2.2.2.2.2.2.2.1 + 1 := hr
      show z.1 10 r = mUp (s2.2.2.2.2.2.2.2 10) s2.2.2.2.2.2.2.1 f r ∧ z.1 11 r = mUp (s2.2.2.2.2.2.2.2 11) s2.2.2.2.2.2.2.1 _ r
      by_cases hrr : r = s2.2.2.2.2.2.2.1
      · rw [hrr, mUp_self, mUp_self]
        exact ⟨z5, z7⟩
      · rw [mUp_ne hrr, mUp_ne hrr]
        exact r4 r (by omega)
end SIM4
