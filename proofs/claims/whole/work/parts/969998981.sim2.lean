/-! ===== PURE: one token of both ===== -/
/-- what both are told of: the same names, the same numbers -/
def SCx (tc : Nat) (K kd : Nat → Nat) (sp f4 : Nat → Int) (eq : Nat → Nat → Bool) (nv : Nat → Int) : Prop := tc ≤ 401 ∧ KEq K kd ∧ (∀ i t, i < tc → t < tc → K i = 42 → K t = 42 → (eq i t = true ↔ sp i = sp t)) ∧ (∀ t, t < tc → K t = 43 → nv t = f4 t) ∧ (∀ t, t < tc → K t = 42 → f4 t = 0) ∧ K (tc - 1) ≠ 42
/-- the reference over some tokens ends as the class -/
def SimP (tc : Nat) (K : Nat → Nat) (P l : Nat → Nat) (eq : Nat → Nat → Bool) (nv : Nat → Int) (a n : Nat) (s' : NSt) (st : MSt) (Po : MSt → Prop) : Prop := GdM tc K P l eq nv a n st ∧ (s'.1 = 0 → (mAll K eq nv a n st).1 = 0 ∧ Po (mAll K eq nv a n st).2.2) ∧ (s'.1 ≠ 0 → (mAll K eq nv a n st).1 = s'.1 ∧ ((mAll K eq nv a n st).2.1 : Int) = s'.2.1)
section SIM2
variable {tc n k a b : Nat} {K kd : Nat → Nat} {sp f4 : Nat → Int} {P l : Nat → Nat} {dr du : Int} {s s' s1 s2 : NSt} {st : MSt} {eq : Nat → Nat → Bool} {nv : Nat → Int} {Po Po1 Po2 : MSt → Prop}
theorem SimP.one (hg : FrM (tc - 1) P l st.1 ∧ AhM K st.1 st.2 n ∧ ∀ t, t < tc → st.1 1 t = ((kap (K t) : Nat) : Int)) (h0 : s'.1 = 0 → (mE K eq nv st n).1 = 0 ∧ Po (mE K eq nv st n).2) (h1 : s'.1 ≠ 0 → (mE K eq nv st n).1 = s'.1 ∧ (n : Int) = s'.2.1) : SimP tc K P l eq nv 1 n s' st Po := by
  have e : mAll K eq nv 1 n st = if (mE K eq nv st n).1 = 0 then (0, n + 1, (mE K eq nv st n).2) else ((mE K eq nv st n).1, n, st) := rfl
  refine ⟨⟨hg, fun _ => trivial⟩, fun z => ?_, fun z => ?_⟩
  · obtain ⟨a1, a2⟩ := h0 z
    rw [e, if_pos a1]
    exact ⟨rfl, a2⟩
  · obtain ⟨a1, a2⟩ := h1 z
    rw [e, if_neg (by rw [a1]; exact z)]
    exact ⟨a1, a2⟩
theorem SimP.cat (h1 : SimP tc K P l eq nv a n s1 st Po1) (he : s1.1 ≠ 0 → s2.1 = s1.1 ∧ s2.2.1 = s1.2.1) (h2 : s1.1 = 0 → ∀ st1, Po1 st1 → SimP tc K P l eq nv b (n + a) s2 st1 Po2) : SimP tc K P l eq nv (a + b) n s2 st Po2 := by
  obtain ⟨g1, z1, y1⟩ := h1
  by_cases h0 : s1.1 = 0
  · obtain ⟨c1, c2⟩ := z1 h0
    obtain ⟨g2, z2, y2⟩ := h2 h0 _ c2
    have e : mAll K eq nv (a + b) n st = mAll K eq nv b (n + a) (mAll K eq nv a n st).2.2 := by
      rw [mAll_app, if_pos c1]
    refine ⟨GdM_app g1 (fun _ => g2), ?_, ?_⟩ <;> rw [e]
    · exact z2
    · exact y2
  · obtain ⟨c1, c2⟩ := y1 h0
    obtain ⟨d1, d2⟩ := he h0
    have hne : (mAll K eq nv a n st).1 ≠ 0 := by
      rw [c1]
      exact h0
    have e : mAll K eq nv (a + b) n st = mAll K eq nv a n st := by
      rw [mAll_app, if_neg hne]
    refine ⟨GdM_app g1 (fun z => absurd z hne), fun z => absurd z (by rw [d1]; exact h0), fun _ => ?_⟩
    rw [e, d1, d2]
    exact ⟨c1, c2⟩
theorem SimP.wk (h : SimP tc K P l eq nv a n s' st Po1) (hp : s'.1 = 0 → ∀ z, Po1 z → Po2 z) : SimP tc K P l eq nv a n s' st Po2 := ⟨h.1, fun z => ⟨(h.2.1 z).1, hp z _ (h.2.1 z).2⟩, h.2.2⟩
theorem SimP.ws (h : SimP tc K P l eq nv a n s1 st Po) (h1 : s2.1 = s1.1) (h2 : s1.1 ≠ 0 → s2.2.1 = s1.2.1) : SimP tc K P l eq nv a n s2 st Po := ⟨h.1, fun z => h.2.1 (by rw [← h1]; exact z), fun z => by
  rw [h1, h2 (by rw [← h1]; exact z)]
  exact h.2.2 (by rw [← h1]; exact z)⟩
/-- the rows that are not looked at -/
theorem RS.cgF (h : RS tc K sp f4 P l dr du s st n) {F' : Nat → Nat → Int} (e : ∀ k, k < 7 → F' k = st.1 k) (e7 : ∀ r, r < s.2.2.2.2.2.1 → F' 7 r = st.1 7 r ∧ F' 8 r = st.1 8 r ∧ F' 9 r = st.1 9 r) (e10 : ∀ r, r < s.2.2.2.2.2.2.1 → F' 10 r = st.1 10 r ∧ F' 11 r = st.1 11 r) : RS tc K sp f4 P l dr du s (F', st.2) n := by
  obtain ⟨h0, hc, hn, ho, h4, ⟨r1, r2, r3, r4⟩, hk⟩ := h
  refine ⟨h0, ?_, fun S kk hS i hi => ?_, ho, ?_, ⟨r1, fun r hr => ?_, r3, fun r hr => ?_⟩, ?_⟩
  · dsimp only
    rw [e 5 (by decide)]
    exact hc
  · dsimp only
    rw [e 6 (by decide)]
    exact hn S kk hS i hi
  · dsimp only
    rw [e 4 (by decide)]
    exact h4
  · obtain ⟨a, b, c⟩ := r2 r hr
    obtain ⟨a', b', c'⟩ := e7 r hr
    dsimp only
    rw [a', b', c']
    exact ⟨a, b, c⟩
  · obtain ⟨a, b⟩ := r4 r hr
    obtain ⟨a', b'⟩ := e10 r hr
    dsimp only
    rw [a', b']
    exact ⟨a, b⟩
  · dsimp only
    rw [e 1 (by decide), e 2 (by decide), e 3 (by decide)]
    exact hk
theorem RS.kp (h : RS tc K sp f4 P l dr du s st n) : ∀ t, t < tc → st.1 1 t = ((kap (K t) : Nat) : Int) := fun t ht => (h.2.2.2.2.2.2 t ht).2.2
theorem RS.ah (h : RS tc K sp f4 P l dr du s st n) (h42 : K n ≠ 42) (h43 : K n ≠ 43) (h9 : K n = 9 ∨ K n = 12 → 1 ≤ st.2) : AhM K st.1 st.2 n := ⟨h.2.2.2.1.2, fun z => absurd z h42, fun z => absurd z h43, h9⟩
/-- a token that tells nothing -/
theorem s_plain (h : RS tc K sp f4 P l dr du s st n) (h42 : K n ≠ 42) (h43 : K n ≠ 43) (h8 : K n ≠ 8 ∧ K n ≠ 9 ∧ K n ≠ 10 ∧ K n ≠ 11 ∧ K n ≠ 12) : SimP tc K P l eq nv 1 n s st (fun z => z = st) := by
  have e : mE K eq nv st n = (0, st) := by
    unfold mE
    rw [if_neg h42, if_neg h43, if_neg (by omega), if_neg (by omega), if_neg (by omega)]
  refine SimP.one ⟨h.fr, h.ah h42 h43 (by omega), h.kp⟩ (fun _ => ?_) (fun z => absurd h.1 z)
  rw [e]
  exact ⟨rfl, rfl⟩
/-- where a sum or a test begins -/
theorem s_start (h : RS tc K sp f4 P l dr du s st n) (hk : K n = 9 ∨ K n = 12) (ho : 1 ≤ st.2) : SimP tc K P l eq nv 1 n s st (fun z => z = (mUp st.1 (if K n = 9 then 14 else 15) (mUp (st.1 (if K n = 9 then 14 else 15)) (st.2 - 1).toNat ((n : Int) + 1)), st.2)) := by
  refine SimP.one ⟨h.fr, h.ah (by omega) (by omega) (fun _ => ho), h.kp⟩ (fun _ => ?_) (fun z => absurd h.1 z)
  unfold mE
  rw [if_neg (by omega), if_neg (by omega), if_neg (by omega)]
  rcases hk with hk | hk
  · rw [if_pos hk, if_pos hk]
    exact ⟨rfl, rfl⟩
  · rw [if_neg (by omega), if_pos hk, if_neg (by omega)]
    exact ⟨rfl, rfl⟩
theorem RS.cnt (h : RS tc K sp f4 P l dr du s st n) : st.1 5 1 = (s.2.2.2.2.2.1 : Int) + dr ∧ st.1 5 5 = (s.2.2.2.2.2.2.1 : Int) + du := by
  obtain ⟨h0, ⟨c0, c1, c2, c3, c4, c5⟩, hn, ho, h4, ⟨r1, r2, r3, r4⟩, hk⟩ := h
  exact ⟨by rw [c1, r1], by rw [c2, r3]⟩
/-- a number of a test or a sum -/
theorem s_num (cx : SCx tc K kd sp f4 eq nv) (h : RS tc K sp f4 P l dr du s st n) (hn : 1 ≤ n) (ht : n < tc) (h43 : K n = 43) (h4 : K (n - 1) ≠ 4) (h7 : K (n - 1) ≠ 7) : SimP tc K P l eq nv 1 n s st (fun z => z = (mUp st.1 4 (mUp (st.1 4) n (f4 n)), st.2)) := by
  refine SimP.one ⟨h.fr, ⟨h.2.2.2.1.2, fun z => by omega, fun _ => ⟨hn, fun z => absurd z h4, fun z => absurd z h7⟩, fun z => by omega⟩, h.kp⟩ (fun _ => ?_) (fun z => absurd h.1 z)
  unfold mE mNum
  rw [if_neg (by omega), if_pos h43, if_neg h4, if_neg h7, cx.2.2.2.1 n ht h43]
  exact ⟨rfl, rfl⟩
theorem spO_n (ht : n < tc) : spO tc sp (n : Int) = sp n := by
  unfold spO
  rw [if_pos (by omega), Int.toNat_natCast]
theorem nSet_n (ht : n < tc) {v : Int} : nSet tc n v s = (s.1, s.2.1, s.2.2.1, s.2.2.2.1, s.2.2.2.2.1, s.2.2.2.2.2.1, s.2.2.2.2.2.2.1, mUp s.2.2.2.2.2.2.2 4 (mUp (s.2.2.2.2.2.2.2 4) n v)) := by
  unfold nSet
  rw [if_pos (by omega), Int.toNat_natCast]
/-- a name that is looked for, without a row of its own -/
theorem s_find (cx : SCx tc K kd sp f4 eq nv) (h : RS tc K sp f4 P l dr du s st n) (hn : 1 ≤ n) (ht : n < tc) (h42 : K n = 42) {S kk : Nat} (hS : S = 0 ∧ kk = 0 ∨ S = 1 ∧ kk = 1 ∨ S = 5 ∧ kk = 2) (hst : stM K n = S) (hp : 13 ≤ K (n - 1)) (hp2 : K (n - 1) = 42 → 2 ≤ n) : SimP tc K P l eq nv 1 n (nFind tc sp kk n s) st (fun z => RS tc K sp f4 P l dr du (nFind tc sp kk n s) z (n + 1) ∧ z.2 = st.2 ∧ ∀ r, r ≠ 4 → z.1 r = st.1 r) := by
  have hfd := h.fd cx.2.2.1 hS ht h42
  have h0 := h.1
  have e : mE K eq nv st n = ((mName K eq st.1 st.2 n).1, (mName K eq st.1 st.2 n).2, st.2) := by
    unfold mE
    rw [if_pos h42]
  refine SimP.one ⟨h.fr, ⟨h.2.2.2.1.2, fun _ => ⟨hn, hp2, fun z => by omega, fun z => by omega, fun z => by omega⟩, fun z => by omega, fun z => by omega⟩, h.kp⟩ (fun z => ?_) (fun z => ?_)
  · obtain ⟨y0, y1, y2⟩ := er_find z
    rw [spO_n ht] at y1
    rw [spO_n ht, nSet_n ht] at y2
    rw [y2, e]
    unfold mName
    rw [if_neg (by omega), hst, hfd, if_neg y1, if_neg (by omega), if_neg (by omega), if_neg (by omega), if_neg (by omega)]
    refine ⟨rfl, h.nm h42, rfl, fun r hr => ?_⟩
    show mUp st.1 4 _ r = _
    rw [mUp_ne hr]
  · unfold nFind at z ⊢
    rw [nSet_n ht, spO_n ht] at z ⊢
    by_cases h1 : nIx (sp n) kk s = -1
    · rw [if_pos h1, e]
      unfold mName nNote
      rw [if_neg (by omega), hst, hfd, if_pos h1, if_pos h0]
      exact ⟨rfl, rfl⟩
    · rw [if_neg h1] at z
      exact absurd h0 z
/-- a name that is looked for, with a row of its own -/
theorem s_findW (cx : SCx tc K kd sp f4 eq nv) (h : RS tc K sp f4 P l dr du s st n) (hn : 1 ≤ n) (ht : n < tc) (h42 : K n = 42) {S kk w ix : Nat} (hS : S = 0 ∧ kk = 0 ∨ S = 1 ∧ kk = 1 ∨ S = 5 ∧ kk = 2) (hst : stM K n = S) (hp : K (n - 1) = 2 ∧ w = 7 ∧ 1 ≤ dr ∧ ix = (st.1 5 1 - 1).toNat ∨ K (n - 1) = 6 ∧ w = 10 ∧ 1 ≤ du ∧ ix = (st.1 5 5 - 1).toNat ∨ (K (n - 1) = 8 ∨ K (n - 1) = 10 ∨ K (n - 1) = 11) ∧ w = 13 ∧ 1 ≤ st.2 ∧ ix = (st.2 - 1).toNat) : SimP tc K P l eq nv 1 n (nFind tc sp kk n s) st (fun z => RS tc K sp f4 P l dr du (nFind tc sp kk n s) z (n + 1) ∧ z.2 = st.2 ∧ (∀ r, r ≠ 4 → r ≠ w → z.1 r = st.1 r) ∧ z.1 w = mUp (st.1 w) ix (nIx (sp n) kk s)) := by
  have hfd := h.fd cx.2.2.1 hS ht h42
  have h0 := h.1
  have hcn := h.cnt
  have e : mE K eq nv st n = ((mName K eq st.1 st.2 n).1, (mName K eq st.1 st.2 n).2, st.2) := by
    unfold mE
    rw [if_pos h42]
  refine SimP.one ⟨h.fr, ⟨h.2.2.2.1.2, fun _ => ⟨hn, fun z => by omega, fun z => by omega, fun z => by omega, fun z => by omega⟩, fun z => by omega, fun z => by omega⟩, h.kp⟩ (fun z => ?_) (fun z => ?_)
  · obtain ⟨y0, y1, y2⟩ := er_find z
    rw [spO_n ht] at y1
    rw [spO_n ht, nSet_n ht] at y2
    have hfin : mName K eq st.1 st.2 n = (0, mUp (mUp st.1 4 (mUp (st.1 4) n (nIx (sp n) kk s))) w (mUp (st.1 w) ix (nIx (sp n) kk s))) := by
      unfold mName
      rw [if_neg (by omega), hst, hfd, if_neg y1]
      rcases hp with ⟨p1, rfl, p2, rfl⟩ | ⟨p1, rfl, p2, rfl⟩ | ⟨p1, rfl, p2, rfl⟩
      · rw [if_pos p1]
      · rw [if_neg (by omega), if_neg (by omega), if_pos p1]
      · rw [if_neg (by omega), if_neg (by omega), if_neg (by omega), if_pos p1]
    rw [y2, e, hfin]
    have hw : 7 ≤ w := by omega
    refine ⟨rfl, ?_, rfl, fun r hr hr2 => ?_, mUp_self _ _ _⟩
    · refine (h.nm h42 (x := nIx (sp n) kk s)).cgF (fun k hk => ?_) (fun r hr => ?_) (fun r hr => ?_)
      · show mUp _ w _ k = mUp _ _ _ k
        rw [mUp_ne (by omega)]
      · have hr : r < s.2.2.2.2.2.1 := hr
        refine ⟨?_, ?_, ?_⟩
        · show (mUp (mUp st.1 4 (mUp (st.1 4) n (nIx (sp n) kk s))) w (mUp (st.1 w) ix (nIx (sp n) kk s)) : Nat → Nat → Int) 7 r = (mUp st.1 4 (mUp (st.1 4) n (nIx (sp n) kk s)) : Nat → Nat → Int) 7 r
          rw [mUp_ne (by decide : 7 ≠ 4)]
          by_cases h1 : w = 7
          · subst h1
            rw [mUp_self, mUp_ne (by omega)]
          · rw [mUp_ne (Ne.symm h1), mUp_ne (by decide)]
        · show (mUp (mUp st.1 4 (mUp (st.1 4) n (nIx (sp n) kk s))) w (mUp (st.1 w) ix (nIx (sp n) kk s)) : Nat → Nat → Int) 8 r = (mUp st.1 4 (mUp (st.1 4) n (nIx (sp n) kk s)) : Nat → Nat → Int) 8 r
          rw [mUp_ne (by omega)]
        · show (mUp (mUp st.1 4 (mUp (st.1 4) n (nIx (sp n) kk s))) w (mUp (st.1 w) ix (nIx (sp n) kk s)) : Nat → Nat → Int) 9 r = (mUp st.1 4 (mUp (st.1 4) n (nIx (sp n) kk s)) : Nat → Nat → Int) 9 r
          rw [mUp_ne (by omega)]
      · have hr : r < s.2.2.2.2.2.2.1 := hr
        refine ⟨?_, ?_⟩
        · show (mUp (mUp st.1 4 (mUp (st.1 4) n (nIx (sp n) kk s))) w (mUp (st.1 w) ix (nIx (sp n) kk s)) : Nat → Nat → Int) 10 r = (mUp st.1 4 (mUp (st.1 4) n (nIx (sp n) kk s)) : Nat → Nat → Int) 10 r
          rw [mUp_ne (by decide : 10 ≠ 4)]
          by_cases h1 : w = 10
          · subst h1
            rw [mUp_self, mUp_ne (by omega)]
          · rw [mUp_ne (Ne.symm h1), mUp_ne (by decide)]
        · show (mUp (mUp st.1 4 (mUp (st.1 4) n (nIx (sp n) kk s))) w (mUp (st.1 w) ix (nIx (sp n) kk s)) : Nat → Nat → Int) 11 r = (mUp st.1 4 (mUp (st.1 4) n (nIx (sp n) kk s)) : Nat → Nat → Int) 11 r
          rw [mUp_ne (by omega)]
    · show mUp (mUp _ _ _) w _ r = _
      rw [mUp_ne hr2, mUp_ne hr]
  · unfold nFind at z ⊢
    rw [nSet_n ht, spO_n ht] at z ⊢
    by_cases h1 : nIx (sp n) kk s = -1
    · rw [if_pos h1, e]
      unfold mName nNote
      rw [if_neg (by omega), hst, hfd, if_pos h1, if_pos h0]
      exact ⟨rfl, rfl⟩
    · rw [if_neg h1] at z
      exact absurd h0 z
end SIM2
