/-- an order that is told, in the rows of the reference -/
def OrM (tc : Nat) (K : Nat → Nat) (s : NSt) (F : Nat → Nat → Int) (n i : Nat) (o : Or) : Prop := o.1 + 1 < n ∧ (K o.1 = 8 ∨ K o.1 = 10 ∨ K o.1 = 11) ∧ F 12 i = (K o.1 : Int) ∧ F 13 i = s.2.2.2.2.2.2.2 4 (o.1 + 1) ∧ (∃ fu b b' : Nat, F 15 i = (b : Int) ∧ b < tc ∧ pG K fu 0 0 b = some (true, b', o.2.2)) ∧ (K o.1 = 8 → ∃ fu b b' : Nat, F 14 i = (b : Int) ∧ b < tc ∧ pG K fu 3 0 b = some (true, b', o.2.1))
/-- an order under way -/
def HdP (tc : Nat) (K : Nat → Nat) (sp f4 : Nat → Int) (P l : Nat → Nat) (st : MSt) (n : Nat) (s : NSt) (z : MSt) (m : Nat) : Prop := RS tc K sp f4 P l 0 0 s z m ∧ z.2 = st.2 + 1 ∧ (∀ r, 12 ≤ r → ∀ i : Nat, (i : Int) < st.2 → z.1 r i = st.1 r i) ∧ z.1 12 st.2.toNat = (K n : Int) ∧ z.1 13 st.2.toNat = s.2.2.2.2.2.2.2 4 (n + 1)
/-- some lines that were told -/
def PoL (tc : Nat) (K : Nat → Nat) (sp f4 : Nat → Int) (P l : Nat → Nat) (st : MSt) (s : NSt) (os : List Or) (m : Nat) (z : MSt) : Prop := RS tc K sp f4 P l 0 0 s z m ∧ z.2 = st.2 + (os.length : Int) ∧ (∀ r, 12 ≤ r → ∀ i : Nat, (i : Int) < st.2 → z.1 r i = st.1 r i) ∧ ∀ (i : Nat) (o : Or), os[i]? = some o → OrM tc K s z.1 m (st.2.toNat + i) o
section SIM6
variable {tc n m k a b : Nat} {K kd : Nat → Nat} {sp f4 : Nat → Int} {P l : Nat → Nat} {dr du : Int} {s s' s1 s2 : NSt} {st z w : MSt} {eq : Nat → Nat → Bool} {nv : Nat → Int} {Po Po1 Po2 : MSt → Prop}
theorem r4_set {x v : Int} {t : Nat} (h : (t : Int) < x) : (nSet tc x v s).2.2.2.2.2.2.2 4 t = s.2.2.2.2.2.2.2 4 t := by
  unfold nSet
  split
  · show mUp (s.2.2.2.2.2.2.2 4) x.toNat v t = _
    rw [mUp_ne (by omega)]
  · rfl
theorem r4_note {x y : Int} : (nNote x y s).2.2 = s.2.2 := by
  unfold nNote
  split <;> rfl
theorem r4_find {k : Nat} {x : Int} {t : Nat} (h : (t : Int) < x) : (nFind tc sp k x s).2.2.2.2.2.2.2 4 t = s.2.2.2.2.2.2.2 4 t := by
  unfold nFind
  rw [r4_set h]
  split
  · rw [r4_note]
  · rfl
theorem r4_tell {k : Nat} {x : Int} : (nTell tc sp k x s).2.2.2.2.2.2.2 = s.2.2.2.2.2.2.2 := by
  unfold nTell
  split
  · split
    · rw [r4_note]
    · rfl
  · rw [r4_note]
theorem r4_ord {x : Int} : (nOrd x s).2.2.2.2.2.2.2 = s.2.2.2.2.2.2.2 := by
  unfold nOrd
  split
  · rfl
  · rw [r4_note]
theorem r4_num {x a b : Int} : (nNum tc x a b s).2.2.2.2.2.2.2 = s.2.2.2.2.2.2.2 := by
  unfold nNum
  split
  · rfl
  · rw [r4_note]
theorem r4_road {x a b : Int} : (nRoad x a b s).2.2.2.2.2.2.2 4 = s.2.2.2.2.2.2.2 4 := by
  unfold nRoad
  split <;> rfl
theorem r4_rum {x a : Int} : (nRum x a s).2.2.2.2.2.2.2 4 = s.2.2.2.2.2.2.2 4 := by
  unfold nRum
  split <;> rfl
theorem r4_at {t : Nat} (h : t ≤ n) : (nAt tc kd sp n s).2.2.2.2.2.2.2 4 t = s.2.2.2.2.2.2.2 4 t := by
  unfold nAt
  split
  · rw [r4_tell]
  split
  · unfold nRoadAt
    dsimp only
    have e4 : ∀ {c : Prop} [Decidable c] {u : NSt} {x y : Int}, (if c then nNote x y u else u).2.2.2.2.2.2.2 = u.2.2.2.2.2.2.2 := fun {c _ u x y} => by
      split
      · rw [r4_note]
      · rfl
    have key : ∀ (v : NSt) (g1 g2 x : Int), (if v.1 = 0 then nRoad g1 g2 x v else v).2.2.2.2.2.2.2 4 t = v.2.2.2.2.2.2.2 4 t := fun v g1 g2 x => by
      split
      · rw [r4_road]
      · rfl
    rw [key, r4_num, e4, r4_find (by omega), r4_find (by omega), r4_tell]
  split
  · unfold nRumAt
    dsimp only
    split
    · rw [r4_rum, r4_num, r4_find (by omega), r4_tell]
    · rw [r4_num, r4_find (by omega), r4_tell]
  split
  · rw [r4_find (by omega), r4_ord]
  split
  · rw [r4_find (by omega), r4_ord]
  split
  · rw [r4_find (by omega)]
  split
  · rw [r4_find (by omega)]
  split
  · rw [r4_find (by omega), r4_find (by omega)]
  split
  · rw [r4_find (by omega), r4_find (by omega)]
  rfl
theorem r4_all : ∀ {m n t : Nat} {s : NSt}, t ≤ n → (nAll tc kd sp m n s).2.2.2.2.2.2.2 4 t = s.2.2.2.2.2.2.2 4 t
  | 0, n, t, s, h => rfl
  | m + 1, n, t, s, h => by
    show (if s.1 = 0 then nAll tc kd sp m (n + 1) (nAt tc kd sp n s) else s).2.2.2.2.2.2.2 4 t = _
    split
    · rw [r4_all (by omega), r4_at h]
    · rfl
theorem OrM.kp {F F' : Nat → Nat → Int} {i n' : Nat} {o : Or} (h : OrM tc K s F n i o) (hF : ∀ r, 12 ≤ r → F' r i = F r i) (h4 : ∀ t, t < n → s'.2.2.2.2.2.2.2 4 t = s.2.2.2.2.2.2.2 4 t) (hn : n ≤ n') : OrM tc K s' F' n' i o := by
  obtain ⟨h1, h2, h3, h5, h6, h7⟩ := h
  refine ⟨by omega, h2, ?_, ?_, ?_, ?_⟩
  · rw [hF 12 (by decide), h3]
  · rw [hF 13 (by decide), h5, h4 _ h1]
  · rw [hF 15 (by decide)]
    exact h6
  · rw [hF 14 (by decide)]
    exact h7
/-- an order and its road or tavern -/
theorem s_head (cx : SCx tc K kd sp f4 eq nv) (h : RS tc K sp f4 P l 0 0 s st n) (k8 : K n = 8 ∨ K n = 10 ∨ K n = 11) (k42 : K (n + 1) = 42) (ht : n + 1 < tc) : SimP tc K P l eq nv 2 n (nAll tc kd sp 2 n s) st (fun z => HdP tc K sp f4 P l st n (nAll tc kd sp 2 n s) z (n + 2)) := by
  have h0 := h.1
  have hod := h.2.2.2.1
  have c1 : (n : Int) + 1 = ((n + 1 : Nat) : Int) := by omega
  have hke := cx.2.1 n
  have hke1 := cx.2.1 (n + 1)
  have hnat : ∃ S kk, (S = 1 ∧ kk = 1 ∨ S = 0 ∧ kk = 0) ∧ stM K (n + 1) = S ∧ nAt tc kd sp n s = nFind tc sp kk ((n + 1 : Nat) : Int) (nOrd n s) := by
    unfold nAt stM
    rw [Nat.add_sub_cancel, c1]
    by_cases k11 : K n = 11
    · refine ⟨0, 0, Or.inr ⟨rfl, rfl⟩, ?_, ?_⟩
      · rw [if_neg (by omega), if_neg (by omega), if_neg (by omega)]
      · rw [if_neg (by omega), if_neg (by omega), if_neg (by omega), if_neg (by omega), if_pos (by omega)]
    · refine ⟨1, 1, Or.inl ⟨rfl, rfl⟩, ?_, ?_⟩
      · rw [if_pos (by omega)]
      · rw [if_neg (by omega), if_neg (by omega), if_neg (by omega), if_pos (by omega)]
  obtain ⟨S, kk, hS, hst, hat⟩ := hnat
  have e : nAll tc kd sp 2 n s = nAt tc kd sp n s := by
    show (if s.1 = 0 then (if (nAt tc kd sp n s).1 = 0 then nAt tc kd sp (n + 1) (nAt tc kd sp n s) else nAt tc kd sp n s) else s) = _
    rw [if_pos h0, nAt_no (t := n + 1) (by omega) (by omega) (by omega) (by omega) (by omega) (by omega) (by omega)]
    split <;> rfl
  rw [e, hat]
  have A1 : SimP tc K P l eq nv 1 n (nOrd n s) st (fun z => z = (mUp st.1 12 (mUp (st.1 12) st.2.toNat (K n : Int)), st.2 + 1) ∧ RS tc K sp f4 P l 0 0 (nOrd n s) z (n + 1)) := by
    have em : mE K eq nv st n = if st.2 = 20 then (4, st) else (0, mUp st.1 12 (mUp (st.1 12) st.2.toNat (K n : Int)), st.2 + 1) := by
      unfold mE
      rw [if_neg (by omega), if_neg (by omega), if_pos k8]
    refine SimP.one ⟨h.fr, h.ah (by omega) (by omega) (by omega), h.kp⟩ (fun z => ?_) (fun z => ?_)
    · obtain ⟨y0, y1, y2⟩ := er_ord z
      rw [em, if_neg (by omega), y2]
      refine ⟨rfl, rfl, ?_⟩
      obtain ⟨h0, hc, hn, ho, h4, hr, hk⟩ := (h.adv (by omega) (by omega)).cgF (F' := mUp st.1 12 (mUp (st.1 12) st.2.toNat (K n : Int))) (fun k hk => mUp_ne (by omega)) (fun r _ => ⟨rfl, rfl, rfl⟩) (fun r _ => ⟨rfl, rfl⟩)
      refine ⟨h0, hc, hn, ⟨?_, ?_, ?_⟩, h4, hr, hk⟩
      · show st.2 + 1 = s.2.2.1 + 1
        omega
      · show 0 ≤ st.2 + 1
        omega
      · show st.2 + 1 ≤ 20
        omega
    · rw [em]
      unfold nOrd at z ⊢
      by_cases h1 : s.2.2.1 + 1 ≤ 20
      · rw [if_pos h1] at z
        exact absurd h0 z
      · rw [if_neg h1, if_pos (by omega)]
        unfold nNote
        rw [if_pos h0]
        exact ⟨rfl, rfl⟩
  refine A1.ct (b := 1) (m := n + 1) rfl rfl ek_find (fun _ z hz => ?_)
  obtain ⟨hz, hR⟩ := hz
  have hz2 : z.2 = st.2 + 1 := by rw [hz]
  have hz1 : z.1 = mUp st.1 12 (mUp (st.1 12) st.2.toNat (K n : Int)) := by rw [hz]
  have hix : (z.2 - 1).toNat = st.2.toNat := by
    rw [hz2, Int.add_sub_cancel]
  refine (s_findW cx hR (by omega) ht k42 (S := S) (kk := kk) (by omega) hst (Or.inr (Or.inr ⟨by rw [Nat.add_sub_cancel]; exact k8, rfl, by omega, rfl⟩))).wk (fun hy w hw => ⟨hw.1, hw.2.1.trans hz2, fun r hr i hi => ?_, ?_, ?_⟩)
  · by_cases h13 : r = 13
    · subst h13
      rw [hw.2.2.2, hix, mUp_ne (by omega), hz1]
      rfl
    · rw [hw.2.2.1 r (by omega) h13, hz1]
      by_cases h12 : r = 12
      · subst h12
        rw [mUp_self, mUp_ne (by omega)]
      · rw [mUp_ne h12]
  · rw [hw.2.2.1 12 (by decide) (by decide), hz1, mUp_self, mUp_self]
  · obtain ⟨y0, y1, y2⟩ := er_find hy
    rw [hw.2.2.2, hix, mUp_self, y2, nSet_n ht, spO_n ht]
    dsimp only
    rw [mUp_self, mUp_self]
theorem HdP.start (h : HdP tc K sp f4 P l st n s z m) (hk : K m = 9 ∨ K m = 12) (hst : 0 ≤ st.2) {w : Nat} (hw : w = 14 ∨ w = 15) : HdP tc K sp f4 P l st n s (mUp z.1 w (mUp (z.1 w) (z.2 - 1).toNat ((m : Int) + 1)), z.2) (m + 1) ∧ (mUp z.1 w (mUp (z.1 w) (z.2 - 1).toNat ((m : Int) + 1)) : Nat → Nat → Int) w st.2.toNat = ((m + 1 : Nat) : Int) ∧ ∀ r, r ≠ w → (mUp z.1 w (mUp (z.1 w) (z.2 - 1).toNat ((m : Int) + 1)) : Nat → Nat → Int) r = z.1 r := by
  obtain ⟨h1, h2, h3, h4, h5⟩ := h
  have hix : (z.2 - 1).toNat = st.2.toNat := by
    rw [h2, Int.add_sub_cancel]
  rw [hix]
  refine ⟨⟨(h1.adv (by omega) (by omega)).cgF (fun k hk => mUp_ne (by omega)) (fun r _ => ?_) (fun r _ => ?_), h2, fun r hr i hi => ?_, ?_, ?_⟩, ?_, fun r hr => mUp_ne hr⟩
  · rw [mUp_ne (by omega), mUp_ne (by omega), mUp_ne (by omega)]
    exact ⟨rfl, rfl, rfl⟩
  · rw [mUp_ne (by omega), mUp_ne (by omega)]
    exact ⟨rfl, rfl⟩
  · rw [← h3 r hr i hi]
    dsimp only
    by_cases hrw : r = w
    · subst hrw
      rw [mUp_self, mUp_ne (by omega)]
    · rw [mUp_ne hrw]
  · dsimp only
    rw [mUp_ne (by omega)]
    exact h4
  · dsimp only
    rw [mUp_ne (by omega)]
    exact h5
  · rw [mUp_self, mUp_self]
    omega
theorem HdP.exp (h : HdP tc K sp f4 P l st n s z m) {m' : Nat} (hR : RS tc K sp f4 P l 0 0 s' w m') (hK : KP z w) (h4 : s'.2.2.2.2.2.2.2 4 (n + 1) = s.2.2.2.2.2.2.2 4 (n + 1)) : HdP tc K sp f4 P l st n s' w m' := by
  obtain ⟨h1, h2, h3, h4', h5⟩ := h
  refine ⟨hR, hK.1.trans h2, fun r hr i hi => ?_, ?_, ?_⟩
  · rw [hK.2 r hr]
    exact h3 r hr i hi
  · rw [hK.2 12 (by decide)]
    exact h4'
  · rw [hK.2 13 (by decide), h4]
    exact h5
end SIM6
