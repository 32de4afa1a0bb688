section SIM3
variable {tc n k a b : Nat} {K kd : Nat → Nat} {sp f4 : Nat → Int} {P l : Nat → Nat} {dr du : Int} {s s' s1 s2 : NSt} {st : MSt} {eq : Nat → Nat → Bool} {nv : Nat → Int} {Po Po1 Po2 : MSt → Prop}
/-- one more name in a list of names -/
theorem RS.more (h : RS tc K sp f4 P l dr du s st n) (ht : n < tc - 1) (h42 : K n = 42) (hf : f4 n = 0) {S kk : Nat} (hS : S = 0 ∧ kk = 0 ∨ S = 1 ∧ kk = 1 ∨ S = 5 ∧ kk = 2) (hc : s.2.2.2.1 kk < ((liV.getD kk 0 : Nat) : Int)) : RS tc K sp f4 P l (dr + if S = 1 then 1 else 0) (du + if S = 5 then 1 else 0) (s.1, s.2.1, s.2.2.1, mUp s.2.2.2.1 kk (s.2.2.2.1 kk + 1), mUp s.2.2.2.2.1 kk (mUp (s.2.2.2.2.1 kk) (s.2.2.2.1 kk).toNat (sp n)), s.2.2.2.2.2) (mUp (mUp st.1 6 (mUp (st.1 6) (14 * S + (st.1 5 S).toNat) (n : Int))) 5 (mUp (st.1 5) S (st.1 5 S + 1)), st.2) (n + 1) := by
  have l0 : liV.getD 0 0 = 10 := rfl
  have l1 : liV.getD 1 0 = 14 := rfl
  have l2 : liV.getD 2 0 = 6 := rfl
  obtain ⟨h0, ⟨c0, c1, c2, c3, c4, c5⟩, hn, ho, h4, ⟨r1, r2, r3, r4⟩, hk⟩ := h.told h42 hf
  have hcS : st.1 5 S = s.2.2.2.1 kk := by
    rcases hS with ⟨rfl, rfl⟩ | ⟨rfl, rfl⟩ | ⟨rfl, rfl⟩
    · exact c0
    · exact c1
    · exact c2
  have hb : 0 ≤ s.2.2.2.1 kk ∧ s.2.2.2.1 kk < 14 := by
    rcases hS with ⟨rfl, rfl⟩ | ⟨rfl, rfl⟩ | ⟨rfl, rfl⟩
    · rw [l0] at hc
      omega
    · rw [l1] at hc
      omega
    · rw [l2] at hc
      omega
  rw [hcS]
  refine ⟨h0, ?_, fun S' kk' hS' i hi => ?_, ho, h4, ?_, hk⟩
  · rcases hS with ⟨rfl, rfl⟩ | ⟨rfl, rfl⟩ | ⟨rfl, rfl⟩
    · rw [l0] at hc
      show mUp (st.1 5) 0 (s.2.2.2.1 0 + 1) 0 = mUp s.2.2.2.1 0 (s.2.2.2.1 0 + 1) 0 ∧ mUp (st.1 5) 0 (s.2.2.2.1 0 + 1) 1 = mUp s.2.2.2.1 0 (s.2.2.2.1 0 + 1) 1 ∧ mUp (st.1 5) 0 (s.2.2.2.1 0 + 1) 5 = mUp s.2.2.2.1 0 (s.2.2.2.1 0 + 1) 2 ∧ (0 ≤ mUp s.2.2.2.1 0 (s.2.2.2.1 0 + 1) 0 ∧ mUp s.2.2.2.1 0 (s.2.2.2.1 0 + 1) 0 ≤ 10) ∧ (0 ≤ mUp s.2.2.2.1 0 (s.2.2.2.1 0 + 1) 1 ∧ mUp s.2.2.2.1 0 (s.2.2.2.1 0 + 1) 1 ≤ 14) ∧ (0 ≤ mUp s.2.2.2.1 0 (s.2.2.2.1 0 + 1) 2 ∧ mUp s.2.2.2.1 0 (s.2.2.2.1 0 + 1) 2 ≤ 6)
      exact ⟨(mUp_self _ _ _).trans (mUp_self _ _ _).symm, c1, c2, ⟨by rw [mUp_self]; omega, by rw [mUp_self]; omega⟩, c4, c5⟩
    · rw [l1] at hc
      show mUp (st.1 5) 1 (s.2.2.2.1 1 + 1) 0 = mUp s.2.2.2.1 1 (s.2.2.2.1 1 + 1) 0 ∧ mUp (st.1 5) 1 (s.2.2.2.1 1 + 1) 1 = mUp s.2.2.2.1 1 (s.2.2.2.1 1 + 1) 1 ∧ mUp (st.1 5) 1 (s.2.2.2.1 1 + 1) 5 = mUp s.2.2.2.1 1 (s.2.2.2.1 1 + 1) 2 ∧ (0 ≤ mUp s.2.2.2.1 1 (s.2.2.2.1 1 + 1) 0 ∧ mUp s.2.2.2.1 1 (s.2.2.2.1 1 + 1) 0 ≤ 10) ∧ (0 ≤ mUp s.2.2.2.1 1 (s.2.2.2.1 1 + 1) 1 ∧ mUp s.2.2.2.1 1 (s.2.2.2.1 1 + 1) 1 ≤ 14) ∧ (0 ≤ mUp s.2.2.2.1 1 (s.2.2.2.1 1 + 1) 2 ∧ mUp s.2.2.2.1 1 (s.2.2.2.1 1 + 1) 2 ≤ 6)
      exact ⟨c0, (mUp_self _ _ _).trans (mUp_self _ _ _).symm, c2, c3, ⟨by rw [mUp_self]; omega, by rw [mUp_self]; omega⟩, c5⟩
    · rw [l2] at hc
      show mUp (st.1 5) 5 (s.2.2.2.1 2 + 1) 0 = mUp s.2.2.2.1 2 (s.2.2.2.1 2 + 1) 0 ∧ mUp (st.1 5) 5 (s.2.2.2.1 2 + 1) 1 = mUp s.2.2.2.1 2 (s.2.2.2.1 2 + 1) 1 ∧ mUp (st.1 5) 5 (s.2.2.2.1 2 + 1) 5 = mUp s.2.2.2.1 2 (s.2.2.2.1 2 + 1) 2 ∧ (0 ≤ mUp s.2.2.2.1 2 (s.2.2.2.1 2 + 1) 0 ∧ mUp s.2.2.2.1 2 (s.2.2.2.1 2 + 1) 0 ≤ 10) ∧ (0 ≤ mUp s.2.2.2.1 2 (s.2.2.2.1 2 + 1) 1 ∧ mUp s.2.2.2.1 2 (s.2.2.2.1 2 + 1) 1 ≤ 14) ∧ (0 ≤ mUp s.2.2.2.1 2 (s.2.2.2.1 2 + 1) 2 ∧ mUp s.2.2.2.1 2 (s.2.2.2.1 2 + 1) 2 ≤ 6)
      exact ⟨c0, c1, (mUp_self _ _ _).trans (mUp_self _ _ _).symm, c3, c4, ⟨by rw [mUp_self]; omega, by rw [mUp_self]; omega⟩⟩
  · have hi : (i : Int) < mUp s.2.2.2.1 kk (s.2.2.2.1 kk + 1) kk' := hi
    show ∃ t : Nat, mUp (st.1 6) (14 * S + (s.2.2.2.1 kk).toNat) (n : Int) (14 * S' + i) = (t : Int) ∧ t < n + 1 ∧ t < tc - 1 ∧ K t = 42 ∧ mUp s.2.2.2.2.1 kk (mUp (s.2.2.2.2.1 kk) (s.2.2.2.1 kk).toNat (sp n)) kk' i = sp t
    by_cases hSS : S' = S
    · have hkk : kk' = kk := by omega
      subst hSS
      subst hkk
      rw [mUp_self] at hi ⊢
      by_cases hic : i = (s.2.2.2.1 kk').toNat
      · subst hic
        rw [mUp_self, mUp_self]
        exact ⟨n, rfl, by omega, ht, h42, rfl⟩
      · rw [mUp_ne hic, mUp_ne (by omega)]
        exact hn S' kk' hS' i (by omega)
    · have hkk : kk' ≠ kk := by omega
      rw [mUp_ne hkk] at hi ⊢
      have hi14 : i < 14 := by
        rcases hS' with ⟨rfl, rfl⟩ | ⟨rfl, rfl⟩ | ⟨rfl, rfl⟩ <;> omega
      rw [mUp_ne (by omega)]
      exact hn S' kk' hS' i hi
  · rcases hS with ⟨rfl, rfl⟩ | ⟨rfl, rfl⟩ | ⟨rfl, rfl⟩
    · rw [if_neg (by decide), if_neg (by decide)]
      refine ⟨?_, r2, ?_, r4⟩
      · show ((s.2.2.2.2.2.1 : Nat) : Int) + (dr + 0) = s.2.2.2.1 1
        omega
      · show ((s.2.2.2.2.2.2.1 : Nat) : Int) + (du + 0) = s.2.2.2.1 2
        omega
    · rw [if_pos rfl, if_neg (by decide)]
      refine ⟨?_, r2, ?_, r4⟩
      · show ((s.2.2.2.2.2.1 : Nat) : Int) + (dr + 1) = s.2.2.2.1 1 + 1
        omega
      · show ((s.2.2.2.2.2.2.1 : Nat) : Int) + (du + 0) = s.2.2.2.1 2
        omega
    · rw [if_neg (by decide), if_pos rfl]
      refine ⟨?_, r2, ?_, r4⟩
      · show ((s.2.2.2.2.2.1 : Nat) : Int) + (dr + 0) = s.2.2.2.1 1
        omega
      · show ((s.2.2.2.2.2.2.1 : Nat) : Int) + (du + 1) = s.2.2.2.1 2 + 1
        omega
/-- a name that is told -/
theorem s_told (cx : SCx tc K kd sp f4 eq nv) (h : RS tc K sp f4 P l dr du s st n) (hn : 1 ≤ n) (ht : n < tc) (h42 : K n = 42) {S kk : Nat} (hS : S = 0 ∧ kk = 0 ∨ S = 1 ∧ kk = 1 ∨ S = 5 ∧ kk = 2) (hp : K (n - 1) = S) : SimP tc K P l eq nv 1 n (nTell tc sp kk n s) st (fun z => RS tc K sp f4 P l (dr + if S = 1 then 1 else 0) (du + if S = 5 then 1 else 0) (nTell tc sp kk n s) z (n + 1) ∧ z.2 = st.2 ∧ ∀ r, r ≠ 5 → r ≠ 6 → z.1 r = st.1 r) := by
  have l0 : liV.getD 0 0 = 10 := rfl
  have l1 : liV.getD 1 0 = 14 := rfl
  have l2 : liV.getD 2 0 = 6 := rfl
  have hfd := h.fd cx.2.2.1 hS ht h42
  have h0 := h.1
  have hlim : (s.2.2.2.1 kk < ((liV.getD kk 0 : Nat) : Int) → st.1 5 S ≠ msM S) ∧ (((liV.getD kk 0 : Nat) : Int) ≤ s.2.2.2.1 kk → st.1 5 S = msM S) := by
    obtain ⟨-, ⟨c0, c1, c2, c3, c4, c5⟩, -⟩ := h
    unfold msM
    rcases hS with ⟨rfl, rfl⟩ | ⟨rfl, rfl⟩ | ⟨rfl, rfl⟩
    · rw [l0, if_pos rfl, c0]
      omega
    · rw [l1, if_neg (by decide), if_pos rfl, c1]
      omega
    · rw [l2, if_neg (by decide), if_neg (by decide), c2]
      omega
  have e : mE K eq nv st n = ((mNew eq st.1 S n).1, (mNew eq st.1 S n).2, st.2) := by
    unfold mE mName
    rw [if_pos h42, if_pos (by omega), hp]
  refine SimP.one ⟨h.fr, ⟨h.2.2.2.1.2, fun _ => ⟨hn, fun z => by omega, fun z => by omega, fun z => by omega, fun z => by omega⟩, fun z => by omega, fun z => by omega⟩, h.kp⟩ (fun z => ?_) (fun z => ?_)
  · obtain ⟨y0, y1, y2, y3⟩ := er_tell z
    rw [spO_n ht] at y1 y3
    rw [y3, e]
    unfold mNew
    rw [hfd, if_neg (fun z => z y1), if_neg (hlim.1 y2)]
    refine ⟨rfl, h.more (by
      have hx := cx.2.2.2.2.2
      have : n ≠ tc - 1 := fun z => hx (z ▸ h42)
      omega) h42 (cx.2.2.2.2.1 n ht h42) hS y2, rfl, fun r h5 h6 => ?_⟩
    show mUp (mUp st.1 6 _) 5 _ r = _
    rw [mUp_ne h5, mUp_ne h6]
  · unfold nTell at z ⊢
    rw [spO_n ht] at z ⊢
    rw [e]
    unfold mNew
    by_cases h1 : nIx (sp n) kk s = -1
    · rw [if_pos h1] at z ⊢
      by_cases h2 : ((liV.getD kk 0 : Nat) : Int) ≤ s.2.2.2.1 kk
      · rw [if_pos h2, hfd, if_neg (fun z => z h1), if_pos (hlim.2 h2)]
        unfold nNote
        rw [if_pos h0]
        exact ⟨rfl, rfl⟩
      · rw [if_neg h2] at z
        exact absurd h0 z
    · rw [if_neg h1, hfd, if_pos h1]
      unfold nNote
      rw [if_pos h0]
      exact ⟨rfl, rfl⟩
/-- the tavern that a road goes to -/
theorem s_to (cx : SCx tc K kd sp f4 eq nv) (h : RS tc K sp f4 P l 1 du s st n) (hn : 1 ≤ n) (ht : n < tc) (h42 : K n = 42) (hp : K (n - 1) = 3) {f : Int} (hf : st.1 7 s.2.2.2.2.2.1 = f) : SimP tc K P l eq nv 1 n (if f = nIx (sp n) 0 s then nNote 3 n (nFind tc sp 0 n s) else nFind tc sp 0 n s) st (fun z => f ≠ nIx (sp n) 0 s ∧ RS tc K sp f4 P l 1 du (nFind tc sp 0 n s) z (n + 1) ∧ z.2 = st.2 ∧ (∀ r, r ≠ 4 → r ≠ 8 → z.1 r = st.1 r) ∧ z.1 8 = mUp (st.1 8) s.2.2.2.2.2.1 (nIx (sp n) 0 s)) := by
  have hfd := h.fd cx.2.2.1 (Or.inl ⟨rfl, rfl⟩) ht h42
  have h0 := h.1
  have hcn := h.cnt
  have hix : (st.1 5 1 - 1).toNat = s.2.2.2.2.2.1 := by omega
  have hst : stM K n = 0 := by
    unfold stM
    rw [if_neg (by omega), if_neg (by omega), if_neg (by omega)]
  have e : mE K eq nv st n = ((mName K eq st.1 st.2 n).1, (mName K eq st.1 st.2 n).2, st.2) := by
    unfold mE
    rw [if_pos h42]
  have e2 : mName K eq st.1 st.2 n = if nIx (sp n) 0 s = -1 then (3, mUp st.1 4 (mUp (st.1 4) n (-1))) else (if f = nIx (sp n) 0 s then 3 else 0, mUp (mUp st.1 4 (mUp (st.1 4) n (nIx (sp n) 0 s))) 8 (mUp (st.1 8) s.2.2.2.2.2.1 (nIx (sp n) 0 s))) := by
    unfold mName
    rw [if_neg (by omega), hst, hfd, if_neg (by omega : ¬ K (n - 1) = 2), if_pos hp, hix, hf]
  refine SimP.one ⟨h.fr, ⟨h.2.2.2.1.2, fun _ => ⟨hn, fun z => by omega, fun z => by omega, fun z => by omega, fun z => by omega⟩, fun z => by omega, fun z => by omega⟩, h.kp⟩ (fun z => ?_) (fun z => ?_)
  · by_cases hfg : f = nIx (sp n) 0 s
    · rw [if_pos hfg] at z
      exact absurd z (er_note (by decide))
    · rw [if_neg hfg] at z
      obtain ⟨y0, y1, y2⟩ := er_find z
      rw [spO_n ht] at y1
      rw [spO_n ht, nSet_n ht] at y2
      rw [y2, e, e2, if_neg y1, if_neg hfg]
      refine ⟨rfl, hfg, ?_, rfl, fun r hr hr2 => ?_, rfl⟩
      · refine (h.nm h42 (x := nIx (sp n) 0 s)).cgF (fun k hk => ?_) (fun r hr => ?_) (fun r hr => ?_)
        · show mUp _ 8 _ k = mUp _ _ _ k
          rw [mUp_ne (by omega)]
        · have hr : r < s.2.2.2.2.2.1 := hr
          refine ⟨rfl, ?_, rfl⟩
          show mUp (st.1 8) _ _ r = st.1 8 r
          rw [mUp_ne (by omega)]
        · exact ⟨rfl, rfl⟩
      · show mUp (mUp _ _ _) 8 _ r = _
        rw [mUp_ne hr2, mUp_ne hr]
  · rw [e, e2]
    unfold nFind at z ⊢
    rw [nSet_n ht, spO_n ht] at z ⊢
    by_cases h1 : nIx (sp n) 0 s = -1
    · rw [if_pos h1, if_pos h1]
      unfold nNote
      rw [if_pos h0]
      split <;> exact ⟨rfl, rfl⟩
    · rw [if_neg h1] at z ⊢
      rw [if_neg h1]
      by_cases hfg : f = nIx (sp n) 0 s
      · rw [if_pos hfg, if_pos hfg]
        unfold nNote
        rw [if_pos h0]
        exact ⟨rfl, rfl⟩
      · rw [if_neg hfg] at z
        exact absurd h0 z
/-- the number of a road or of a rumour -/
theorem s_numW (cx : SCx tc K kd sp f4 eq nv) (h : RS tc K sp f4 P l dr du s st n) (hn : 1 ≤ n) (ht : n < tc) (h43 : K n = 43) {w ix : Nat} {lo hi : Int} (hp : K (n - 1) = 4 ∧ w = 9 ∧ dr = 1 ∧ lo = 1 ∧ hi = 30 ∧ ix = s.2.2.2.2.2.1 ∨ K (n - 1) = 7 ∧ w = 11 ∧ du = 1 ∧ lo = 0 ∧ hi = 99 ∧ ix = s.2.2.2.2.2.2.1) : SimP tc K P l eq nv 1 n (nNum tc n lo hi s) st (fun z => RS tc K sp f4 P l dr du s z (n + 1) ∧ z.2 = st.2 ∧ (∀ r, r ≠ 4 → r ≠ w → z.1 r = st.1 r) ∧ z.1 w = mUp (st.1 w) ix (f4 n) ∧ nNum tc n lo hi s = s) := by
  have h0 := h.1
  have hcn := h.cnt
  have hv : vlO tc (s.2.2.2.2.2.2.2 4) n = f4 n := by
    unfold vlO
    rw [if_pos (by omega), Int.toNat_natCast]
    exact h.2.2.2.2.1.2.2 n h43
  have hnv := cx.2.2.2.1 n ht h43
  have e : mE K eq nv st n = ((mNum K nv st.1 n).1, (mNum K nv st.1 n).2, st.2) := by
    unfold mE
    rw [if_neg (by omega), if_pos h43]
  have e2 : mNum K nv st.1 n = (if lo ≤ f4 n ∧ f4 n ≤ hi then 0 else 5, mUp (mUp st.1 4 (mUp (st.1 4) n (f4 n))) w (mUp (st.1 w) ix (f4 n))) := by
    unfold mNum
    rcases hp with ⟨p1, rfl, rfl, rfl, rfl, rfl⟩ | ⟨p1, rfl, rfl, rfl, rfl, rfl⟩
    · rw [if_pos p1, hnv, show (st.1 5 1 - 1).toNat = s.2.2.2.2.2.1 by omega]
    · rw [if_neg (by omega), if_pos p1, hnv, show (st.1 5 5 - 1).toNat = s.2.2.2.2.2.2.1 by omega]
  refine SimP.one ⟨h.fr, ⟨h.2.2.2.1.2, fun z => by omega, fun _ => ⟨hn, fun z => by omega, fun z => by omega⟩, fun z => by omega⟩, h.kp⟩ (fun z => ?_) (fun z => ?_)
  · obtain ⟨y0, y1, y2, y3⟩ := er_num z
    rw [hv] at y1 y2
    rw [e, e2, if_pos ⟨y1, y2⟩]
    refine ⟨rfl, ?_, rfl, fun r hr hr2 => ?_, mUp_self _ _ _, y3⟩
    · have hw : w = 9 ∧ ix = s.2.2.2.2.2.1 ∨ w = 11 ∧ ix = s.2.2.2.2.2.2.1 := by
        rcases hp with ⟨-, a, -, -, -, c⟩ | ⟨-, a, -, -, -, c⟩
        · exact Or.inl ⟨a, c⟩
        · exact Or.inr ⟨a, c⟩
      refine (h.num h43).cgF (fun k hk => ?_) (fun r hr => ?_) (fun r hr => ?_)
      · show mUp _ w _ k = mUp _ _ _ k
        rw [mUp_ne (by omega)]
      · rcases hw with ⟨rfl, rfl⟩ | ⟨rfl, rfl⟩
        · refine ⟨rfl, rfl, ?_⟩
          show mUp (st.1 9) _ _ r = st.1 9 r
          rw [mUp_ne (by omega)]
        · exact ⟨rfl, rfl, rfl⟩
      · rcases hw with ⟨rfl, rfl⟩ | ⟨rfl, rfl⟩
        · exact ⟨rfl, rfl⟩
        · refine ⟨rfl, ?_⟩
          show mUp (st.1 11) _ _ r = st.1 11 r
          rw [mUp_ne (by omega)]
    · show mUp (mUp _ _ _) w _ r = _
      rw [mUp_ne hr2, mUp_ne hr]
  · unfold nNum at z ⊢
    rw [hv] at z ⊢
    rw [e, e2]
    by_cases h1 : lo ≤ f4 n ∧ f4 n ≤ hi
    · rw [if_pos h1] at z
      exact absurd h0 z
    · rw [if_neg h1, if_neg h1]
      unfold nNote
      rw [if_pos h0]
      exact ⟨rfl, rfl⟩
end SIM3
