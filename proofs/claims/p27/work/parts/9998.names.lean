/-! ===== THE NAMES OF THE LIST ===== -/
abbrev spN (k v : Nat) : Int := spW (ltr k :: dgL v)
/-- what is told: so many taverns, roads, rumours, orders -/
def NSk (fr to mi ba bo : Nat → Nat) (f4 vT : Nat → Int) (n c u o : Nat) (s : NSt) : Prop :=
  s.1 = 0 ∧ s.2.2.1 = (o : Int) ∧ (s.2.2.2.1 0 = (n : Int) ∧ s.2.2.2.1 1 = (c : Int) ∧ s.2.2.2.1 2 = (u : Int)) ∧ (∀ k, k < 3 → ∀ i : Nat, (i : Int) < s.2.2.2.1 k → s.2.2.2.2.1 k i = spN k i) ∧ s.2.2.2.2.2.1 = c ∧ s.2.2.2.2.2.2.1 = u ∧
  (∀ r, r < c → s.2.2.2.2.2.2.2 7 r = (fr r : Int) ∧ s.2.2.2.2.2.2.2 8 r = (to r : Int) ∧ s.2.2.2.2.2.2.2 9 r = (mi r : Int)) ∧ (∀ k, k < u → s.2.2.2.2.2.2.2 10 k = (ba k : Int) ∧ s.2.2.2.2.2.2.2 11 k = (bo k : Int)) ∧ ∀ x, s.2.2.2.2.2.2.2 4 x = f4 x ∨ s.2.2.2.2.2.2.2 4 x = vT x
abbrev ro4 (s : NSt) : Nat → Int := s.2.2.2.2.2.2.2 4
theorem ix_hit {r : Nat → Int} {x : Int} : ∀ {m j v : Nat}, j ≤ v → v < j + m → r v = x → (∀ i, j ≤ i → i < v → r i ≠ x) → ixF r x m j = (v : Int)
  | 0, j, v, h1, h2, _, _ => by omega
  | m + 1, j, v, h1, h2, h3, h4 => by
    unfold ixF
    by_cases hj : j = v
    · subst hj
      rw [if_pos h3]
    · rw [if_neg (h4 j (Nat.le_refl _) (by omega))]
      exact ix_hit (by omega) (by omega) h3 (fun i h5 h6 => h4 i (by omega) h6)
theorem ix_miss {r : Nat → Int} {x : Int} : ∀ {m j : Nat}, (∀ i, j ≤ i → i < j + m → r i ≠ x) → ixF r x m j = -1
  | 0, _, _ => rfl
  | m + 1, j, h => by
    unfold ixF
    rw [if_neg (h j (Nat.le_refl _) (by omega))]
    exact ix_miss (fun i h1 h2 => h i (by omega) (by omega))
section NMS
variable {fr to mi ba bo : Nat → Nat} {f4 vT : Nat → Int} {n c u o tc : Nat} {s : NSt} {sp : Nat → Int} {kd : Nat → Nat}
theorem NSk.hit (h : NSk fr to mi ba bo f4 vT n c u o s) {k v : Nat} (hk : k < 3) (hv : (v : Int) < s.2.2.2.1 k) (h14 : s.2.2.2.1 k ≤ 14) : nIx (spN k v) k s = (v : Int) := by
  obtain ⟨-, -, -, h4, -⟩ := h
  refine ix_hit (Nat.zero_le _) (by omega) (h4 k hk v hv) (fun i _ hi e => ?_)
  rw [h4 k hk i (by omega)] at e
  have := sp_in k hk i (by omega) v (by omega) e
  omega
theorem NSk.miss (h : NSk fr to mi ba bo f4 vT n c u o s) {k v : Nat} (hk : k < 3) (hv : s.2.2.2.1 k = (v : Int)) (h14 : v < 14) : nIx (spN k v) k s = -1 := by
  obtain ⟨-, -, -, h4, -⟩ := h
  refine ix_miss (fun i _ hi e => ?_)
  rw [h4 k hk i (by omega)] at e
  have := sp_in k hk i (by omega) v (by omega) e
  omega
theorem spO_at {t : Nat} (ht : t < tc) : spO tc sp (t : Int) = sp t := by
  unfold spO
  rw [if_pos ⟨by omega, by omega⟩, Int.toNat_natCast]
theorem vlO_at {va : Nat → Int} {t : Nat} (ht : t < tc) : vlO tc va (t : Int) = va t := by
  unfold vlO
  rw [if_pos ⟨by omega, by omega⟩, Int.toNat_natCast]
/-- a name is told -/
theorem NSk.tell (h : NSk fr to mi ba bo f4 vT n c u o s) {k v t : Nat} (hk : k < 3) (hv : s.2.2.2.1 k = (v : Int)) (hl : v < liV.getD k 0) (ht : t < tc) (hs : sp t = spN k v) :
    nTell tc sp k (t : Int) s = (s.1, s.2.1, s.2.2.1, mUp s.2.2.2.1 k ((v : Int) + 1), mUp s.2.2.2.2.1 k (mUp (s.2.2.2.2.1 k) v (spN k v)), s.2.2.2.2.2) := by
  have h14 : liV.getD k 0 ≤ 14 := by
    rcases (by omega : k = 0 ∨ k = 1 ∨ k = 2) with rfl | rfl | rfl <;> decide
  unfold nTell
  rw [spO_at ht, hs, if_pos (h.miss hk hv (by omega)), hv, if_neg (by omega), Int.toNat_natCast]
theorem NSk.tell0 (h : NSk fr to mi ba bo f4 vT n c u o s) {t : Nat} (hl : n < 10) (ht : t < tc) (hs : sp t = spN 0 n) : NSk fr to mi ba bo f4 vT (n + 1) c u o (nTell tc sp 0 (t : Int) s) := by
  rw [h.tell (tc := tc) (sp := sp) (k := 0) (v := n) (by omega) h.2.2.1.1 hl ht hs]
  obtain ⟨h1, h2, ⟨h3, h3b, h3c⟩, h4, h5⟩ := h
  refine ⟨h1, h2, ⟨by show mUp s.2.2.2.1 0 ((n : Int) + 1) 0 = _; rw [mUp_self]; omega, h3b, h3c⟩, fun k hk i hi => ?_, h5⟩
  show mUp s.2.2.2.2.1 0 (mUp (s.2.2.2.2.1 0) n (spN 0 n)) k i = _
  change (i : Int) < mUp s.2.2.2.1 0 ((n : Int) + 1) k at hi
  by_cases hk0 : k = 0
  · subst hk0
    rw [mUp_self] at hi ⊢
    by_cases hin : i = n
    · rw [hin, mUp_self]
    · rw [mUp_ne hin]
      exact h4 0 hk i (by omega)
  · rw [mUp_ne hk0] at hi ⊢
    exact h4 k hk i hi
/-- a name is found -/
theorem NSk.find (h : NSk fr to mi ba bo f4 vT n c u o s) {k v t : Nat} (hk : k < 3) (hv : (v : Int) < s.2.2.2.1 k) (h14 : s.2.2.2.1 k ≤ 14) (ht : t < tc) (hs : sp t = spN k v) (hvT : vT t = (v : Int)) :
    nIx (spO tc sp (t : Int)) k s = (v : Int) ∧ NSk fr to mi ba bo f4 vT n c u o (nFind tc sp k (t : Int) s) ∧ ro4 (nFind tc sp k (t : Int) s) t = (v : Int) ∧ (∀ x, x ≠ t → ro4 (nFind tc sp k (t : Int) s) x = ro4 s x) ∧ (nFind tc sp k (t : Int) s).2.2.2.1 = s.2.2.2.1 := by
  have hi := h.hit hk hv h14
  have e : nFind tc sp k (t : Int) s = (s.1, s.2.1, s.2.2.1, s.2.2.2.1, s.2.2.2.2.1, s.2.2.2.2.2.1, s.2.2.2.2.2.2.1, mUp s.2.2.2.2.2.2.2 4 (mUp (s.2.2.2.2.2.2.2 4) t (v : Int))) := by
    have hne : ¬ (v : Int) = -1 := by omega
    have hr : (0 : Int) ≤ (t : Int) ∧ (t : Int) < (tc : Int) := ⟨by omega, by omega⟩
    unfold nFind nSet
    rw [spO_at ht, hs, hi, if_neg hne, if_pos hr, Int.toNat_natCast]
  rw [e, spO_at ht, hs]
  obtain ⟨h1, h2, h3, h4, h5, h6, h7, h8, h9⟩ := h
  have r4 : ro4 ((s.1, s.2.1, s.2.2.1, s.2.2.2.1, s.2.2.2.2.1, s.2.2.2.2.2.1, s.2.2.2.2.2.2.1, mUp s.2.2.2.2.2.2.2 4 (mUp (s.2.2.2.2.2.2.2 4) t (v : Int))) : NSt) = mUp (s.2.2.2.2.2.2.2 4) t (v : Int) := by
    show mUp s.2.2.2.2.2.2.2 4 (mUp (s.2.2.2.2.2.2.2 4) t (v : Int)) 4 = _
    rw [mUp_self]
  refine ⟨hi, ⟨h1, h2, h3, h4, h5, h6, h7, h8, fun x => ?_⟩, by rw [r4, mUp_self], fun x hx => by rw [r4, mUp_ne hx], rfl⟩
  show ro4 _ x = _ ∨ ro4 _ x = _
  rw [r4]
  by_cases hx : x = t
  · rw [hx, mUp_self, hvT]
    exact Or.inr rfl
  · rw [mUp_ne hx]
    exact h9 x
/-- a number -/
theorem NSk.num (h : NSk fr to mi ba bo f4 vT n c u o s) {t : Nat} {v a b : Int} (ht : t < tc) (h4 : f4 t = v) (hvT : vT t = v) (h1 : a ≤ v) (h2 : v ≤ b) : nNum tc (t : Int) a b s = s ∧ vlO tc (s.2.2.2.2.2.2.2 4) (t : Int) = v := by
  have e : vlO tc (s.2.2.2.2.2.2.2 4) (t : Int) = v := by
    rw [vlO_at ht]
    rcases h.2.2.2.2.2.2.2.2 t with h5 | h5
    · rw [h5, h4]
    · rw [h5, hvT]
  refine ⟨?_, e⟩
  unfold nNum
  rw [e, if_pos ⟨h1, h2⟩]
theorem NSk.road (h : NSk fr to mi ba bo f4 vT n c u o s) {t : Nat} (hn : n ≤ 10) (hc : c < 14) (ht : t + 7 < tc) (s1 : sp (t + 1) = spN 1 c) (s3 : sp (t + 3) = spN 0 (fr c)) (s5 : sp (t + 5) = spN 0 (to c)) (v3 : vT (t + 3) = (fr c : Int)) (v5 : vT (t + 5) = (to c : Int)) (v7 : vT (t + 7) = (mi c : Int)) (f7 : f4 (t + 7) = (mi c : Int)) (hf : fr c < n) (hto : to c < n) (hft : fr c ≠ to c) (hm : 1 ≤ mi c ∧ mi c ≤ 30) :
    NSk fr to mi ba bo f4 vT n (c + 1) u o (nRoadAt tc sp (t : Int) s) := by
  have i1 : (t : Int) + 1 = ((t + 1 : Nat) : Int) := by omega
  have i3 : (t : Int) + 3 = ((t + 3 : Nat) : Int) := by omega
  have i5 : (t : Int) + 5 = ((t + 5 : Nat) : Int) := by omega
  have i7 : (t : Int) + 7 = ((t + 7 : Nat) : Int) := by omega
  have hT := h.tell (tc := tc) (sp := sp) (k := 1) (v := c) (by omega) h.2.2.1.2.1 hc (t := t + 1) (by omega) s1
  have h1 : NSk fr to mi ba bo f4 vT n (c + 1) u o (nTell tc sp 1 ((t + 1 : Nat) : Int) s) → True := fun _ => trivial
  -- the told road has no row yet: its state is told apart from the count
  generalize hs1 : nTell tc sp 1 ((t + 1 : Nat) : Int) s = sa at hT h1
  have ha : sa.1 = 0 ∧ sa.2.2.1 = (o : Int) ∧ (sa.2.2.2.1 0 = (n : Int) ∧ sa.2.2.2.1 1 = ((c + 1 : Nat) : Int) ∧ sa.2.2.2.1 2 = (u : Int)) ∧ (∀ k, k < 3 → ∀ i : Nat, (i : Int) < sa.2.2.2.1 k → sa.2.2.2.2.1 k i = spN k i) ∧ sa.2.2.2.2.2 = s.2.2.2.2.2 := by
    rw [hT]
    obtain ⟨g1, g2, ⟨g3, g3b, g3c⟩, g4, -⟩ := h
    refine ⟨g1, g2, ⟨g3, by show mUp s.2.2.2.1 1 ((c : Int) + 1) 1 = _; rw [mUp_self]; omega, g3c⟩, fun k hk i hi => ?_, rfl⟩
    show mUp s.2.2.2.2.1 1 (mUp (s.2.2.2.2.1 1) c (spN 1 c)) k i = _
    change (i : Int) < mUp s.2.2.2.1 1 ((c : Int) + 1) k at hi
    by_cases hk0 : k = 1
    · subst hk0
      rw [mUp_self] at hi ⊢
      by_cases hin : i = c
      · rw [hin, mUp_self]
      · rw [mUp_ne hin]
        exact g4 1 hk i (by omega)
    · rw [mUp_ne hk0] at hi ⊢
      exact g4 k hk i hi
  have hit : ∀ (q : NSt), q.2.2.2.1 = sa.2.2.2.1 → q.2.2.2.2.1 = sa.2.2.2.2.1 → ∀ v : Nat, v < n → nIx (spN 0 v) 0 q = (v : Int) := fun q e1 e2 v hv => by
    unfold nIx
    rw [e1, e2, ha.2.2.1.1, Int.toNat_natCast]
    refine ix_hit (Nat.zero_le _) (by omega) (ha.2.2.2.1 0 (by omega) v (by rw [ha.2.2.1.1]; omega)) (fun i _ hi e => ?_)
    rw [ha.2.2.2.1 0 (by omega) i (by rw [ha.2.2.1.1]; omega)] at e
    have := sp_in 0 (by omega) i (by omega) v (by omega) e
    omega
  have hset : ∀ (q : NSt) (x v : Nat), x < tc → nIx (spO tc sp (x : Int)) 0 q = (v : Int) → nFind tc sp 0 (x : Int) q = (q.1, q.2.1, q.2.2.1, q.2.2.2.1, q.2.2.2.2.1, q.2.2.2.2.2.1, q.2.2.2.2.2.2.1, mUp q.2.2.2.2.2.2.2 4 (mUp (q.2.2.2.2.2.2.2 4) x (v : Int))) := fun q x v hx e => by
    have hne : ¬ (v : Int) = -1 := by omega
    have hr : (0 : Int) ≤ (x : Int) ∧ (x : Int) < (tc : Int) := ⟨by omega, by omega⟩
    unfold nFind nSet
    rw [e, if_neg hne, if_pos hr, Int.toNat_natCast]
  have e3 : nIx (spO tc sp ((t + 3 : Nat) : Int)) 0 sa = (fr c : Int) := by rw [spO_at (by omega), s3]; exact hit sa rfl rfl _ hf
  have f3 := hset sa (t + 3) (fr c) (by omega) e3
  generalize hs2 : nFind tc sp 0 ((t + 3 : Nat) : Int) sa = sb at f3
  have e5 : nIx (spO tc sp ((t + 5 : Nat) : Int)) 0 sb = (to c : Int) := by rw [spO_at (by omega), s5]; exact hit sb (by rw [f3]) (by rw [f3]) _ hto
  have f5 := hset sb (t + 5) (to c) (by omega) e5
  generalize hs3 : nFind tc sp 0 ((t + 5 : Nat) : Int) sb = sd at f5
  obtain ⟨a1, a2, ⟨a3, a3b, a3c⟩, a4, a5⟩ := ha
  obtain ⟨g1, g2, g3, g4, g5, g6, g7, g8, g9⟩ := h
  have fb : sb.2.2.2.2.2.2.2 = mUp sa.2.2.2.2.2.2.2 4 (mUp (sa.2.2.2.2.2.2.2 4) (t + 3) (fr c : Int)) := by rw [f3]
  have rb : ∀ k, k ≠ 4 → sb.2.2.2.2.2.2.2 k = s.2.2.2.2.2.2.2 k := fun k hk => by
    rw [fb, mUp_ne hk, a5]
  have fd : sd.2.2.2.2.2.2.2 = mUp sb.2.2.2.2.2.2.2 4 (mUp (sb.2.2.2.2.2.2.2 4) (t + 5) (to c : Int)) := by rw [f5]
  have rd : ∀ k, k ≠ 4 → sd.2.2.2.2.2.2.2 k = s.2.2.2.2.2.2.2 k := fun k hk => by
    rw [fd, mUp_ne hk, rb k hk]
  have rb4 : sb.2.2.2.2.2.2.2 4 = mUp (s.2.2.2.2.2.2.2 4) (t + 3) (fr c : Int) := by
    rw [fb, mUp_self, a5]
  have rd4 : sd.2.2.2.2.2.2.2 4 = mUp (mUp (s.2.2.2.2.2.2.2 4) (t + 3) (fr c : Int)) (t + 5) (to c : Int) := by
    rw [fd, mUp_self, rb4]
  have cd : sd.1 = 0 ∧ sd.2.2.1 = (o : Int) ∧ sd.2.2.2.1 = sa.2.2.2.1 ∧ sd.2.2.2.2.1 = sa.2.2.2.2.1 ∧ sd.2.2.2.2.2.1 = c ∧ sd.2.2.2.2.2.2.1 = u := by
    rw [f5, f3]
    exact ⟨a1, a2, rfl, rfl, by show sa.2.2.2.2.2.1 = c; rw [a5]; exact g5, by show sa.2.2.2.2.2.2.1 = u; rw [a5]; exact g6⟩
  obtain ⟨d1, d2, d3, d4, d5, d6⟩ := cd
  have v7' : vlO tc (sd.2.2.2.2.2.2.2 4) ((t + 7 : Nat) : Int) = (mi c : Int) := by
    rw [vlO_at (by omega), rd4, mUp_ne (by omega), mUp_ne (by omega)]
    rcases g9 (t + 7) with h5 | h5
    · rw [h5, f7]
    · rw [h5, v7]
  have hnum : nNum tc ((t + 7 : Nat) : Int) 1 30 sd = sd := by
    unfold nNum
    rw [v7', if_pos ⟨by omega, by omega⟩]
  have hne : ¬ (fr c : Int) = (to c : Int) := by omega
  have hall : nRoadAt tc sp (t : Int) s = nRoad (fr c : Int) (to c : Int) (mi c : Int) sd := by
    unfold nRoadAt
    rw [i1, i3, i5, i7]
    dsimp only
    rw [hs1, e3, hs2, e5, hs3, if_neg hne, hnum, if_pos d1, v7']
  rw [hall]
  unfold nRoad
  rw [d5, if_pos hc]
  refine ⟨d1, d2, ⟨by rw [← a3]; exact congrFun d3 0, by rw [← a3b]; exact congrFun d3 1, by rw [← a3c]; exact congrFun d3 2⟩, fun k hk i hi => ?_, rfl, d6, fun r hr => ?_, fun k hk => ?_, fun x => ?_⟩
  · have e1 : sd.2.2.2.2.1 k i = sa.2.2.2.2.1 k i := by rw [d4]
    show sd.2.2.2.2.1 k i = _
    rw [e1]
    exact a4 k hk i (by rw [← d3]; exact hi)
  · show (mUp (mUp (mUp sd.2.2.2.2.2.2.2 7 (mUp (sd.2.2.2.2.2.2.2 7) c (fr c : Int))) 8 (mUp (sd.2.2.2.2.2.2.2 8) c (to c : Int))) 9 (mUp (sd.2.2.2.2.2.2.2 9) c (mi c : Int))) 7 r = _ ∧ (mUp (mUp (mUp sd.2.2.2.2.2.2.2 7 (mUp (sd.2.2.2.2.2.2.2 7) c (fr c : Int))) 8 (mUp (sd.2.2.2.2.2.2.2 8) c (to c : Int))) 9 (mUp (sd.2.2.2.2.2.2.2 9) c (mi c : Int))) 8 r = _ ∧ (mUp (mUp (mUp sd.2.2.2.2.2.2.2 7 (mUp (sd.2.2.2.2.2.2.2 7) c (fr c : Int))) 8 (mUp (sd.2.2.2.2.2.2.2 8) c (to c : Int))) 9 (mUp (sd.2.2.2.2.2.2.2 9) c (mi c : Int))) 9 r = _
    rw [mUp_ne (show 7 ≠ 9 by omega), mUp_ne (show 7 ≠ 8 by omega), mUp_self, mUp_ne (show 8 ≠ 9 by omega), mUp_self, mUp_self]
    by_cases hrc : r = c
    · subst hrc
      rw [mUp_self, mUp_self, mUp_self]
      exact ⟨rfl, rfl, rfl⟩
    · rw [mUp_ne hrc, mUp_ne hrc, mUp_ne hrc, rd 7 (by omega), rd 8 (by omega), rd 9 (by omega)]
      exact g7 r (by omega)
  · show (mUp (mUp (mUp sd.2.2.2.2.2.2.2 7 (mUp (sd.2.2.2.2.2.2.2 7) c (fr c : Int))) 8 (mUp (sd.2.2.2.2.2.2.2 8) c (to c : Int))) 9 (mUp (sd.2.2.2.2.2.2.2 9) c (mi c : Int))) 10 k = _ ∧ (mUp (mUp (mUp sd.2.2.2.2.2.2.2 7 (mUp (sd.2.2.2.2.2.2.2 7) c (fr c : Int))) 8 (mUp (sd.2.2.2.2.2.2.2 8) c (to c : Int))) 9 (mUp (sd.2.2.2.2.2.2.2 9) c (mi c : Int))) 11 k = _
    rw [mUp_ne (by omega), mUp_ne (by omega), mUp_ne (by omega), mUp_ne (by omega), mUp_ne (by omega), mUp_ne (by omega), rd 10 (by omega), rd 11 (by omega)]
    exact g8 k hk
  · show (mUp (mUp (mUp sd.2.2.2.2.2.2.2 7 (mUp (sd.2.2.2.2.2.2.2 7) c (fr c : Int))) 8 (mUp (sd.2.2.2.2.2.2.2 8) c (to c : Int))) 9 (mUp (sd.2.2.2.2.2.2.2 9) c (mi c : Int))) 4 x = _ ∨ (mUp (mUp (mUp sd.2.2.2.2.2.2.2 7 (mUp (sd.2.2.2.2.2.2.2 7) c (fr c : Int))) 8 (mUp (sd.2.2.2.2.2.2.2 8) c (to c : Int))) 9 (mUp (sd.2.2.2.2.2.2.2 9) c (mi c : Int))) 4 x = _
    rw [mUp_ne (by omega), mUp_ne (by omega), mUp_ne (by omega), rd4]
    by_cases x5 : x = t + 5
    · rw [x5, mUp_self, v5]
      exact Or.inr rfl
    · rw [mUp_ne x5]
      by_cases x3 : x = t + 3
      · rw [x3, mUp_self, v3]
        exact Or.inr rfl
      · rw [mUp_ne x3]
        exact g9 x
theorem NSk.rum (h : NSk fr to mi ba bo f4 vT n c u o s) {t : Nat} (hn : n ≤ 10) (hu : u < 6) (ht : t + 5 < tc) (s1 : sp (t + 1) = spN 2 u) (s3 : sp (t + 3) = spN 0 (ba u)) (v3 : vT (t + 3) = (ba u : Int)) (v5 : vT (t + 5) = (bo u : Int)) (f5 : f4 (t + 5) = (bo u : Int)) (hf : ba u < n) (hm : bo u ≤ 99) :
    NSk fr to mi ba bo f4 vT n c (u + 1) o (nRumAt tc sp (t : Int) s) := by
  have i1 : (t : Int) + 1 = ((t + 1 : Nat) : Int) := by omega
  have i3 : (t : Int) + 3 = ((t + 3 : Nat) : Int) := by omega
  have i5 : (t : Int) + 5 = ((t + 5 : Nat) : Int) := by omega
  have hT := h.tell (tc := tc) (sp := sp) (k := 2) (v := u) (by omega) h.2.2.1.2.2 hu (t := t + 1) (by omega) s1
  generalize hs1 : nTell tc sp 2 ((t + 1 : Nat) : Int) s = sa at hT
  have ha : sa.1 = 0 ∧ sa.2.2.1 = (o : Int) ∧ (sa.2.2.2.1 0 = (n : Int) ∧ sa.2.2.2.1 1 = (c : Int) ∧ sa.2.2.2.1 2 = ((u + 1 : Nat) : Int)) ∧ (∀ k, k < 3 → ∀ i : Nat, (i : Int) < sa.2.2.2.1 k → sa.2.2.2.2.1 k i = spN k i) ∧ sa.2.2.2.2.2 = s.2.2.2.2.2 := by
    rw [hT]
    obtain ⟨g1, g2, ⟨g3, g3b, g3c⟩, g4, -⟩ := h
    refine ⟨g1, g2, ⟨g3, g3b, by show mUp s.2.2.2.1 2 ((u : Int) + 1) 2 = _; rw [mUp_self]; omega⟩, fun k hk i hi => ?_, rfl⟩
    show mUp s.2.2.2.2.1 2 (mUp (s.2.2.2.2.1 2) u (spN 2 u)) k i = _
    change (i : Int) < mUp s.2.2.2.1 2 ((u : Int) + 1) k at hi
    by_cases hk0 : k = 2
    · subst hk0
      rw [mUp_self] at hi ⊢
      by_cases hin : i = u
      · rw [hin, mUp_self]
      · rw [mUp_ne hin]
        exact g4 2 hk i (by omega)
    · rw [mUp_ne hk0] at hi ⊢
      exact g4 k hk i hi
  have e3 : nIx (spO tc sp ((t + 3 : Nat) : Int)) 0 sa = (ba u : Int) := by
    rw [spO_at (by omega), s3]
    unfold nIx
    rw [ha.2.2.1.1, Int.toNat_natCast]
    refine ix_hit (Nat.zero_le _) (by omega) (ha.2.2.2.1 0 (by omega) _ (by rw [ha.2.2.1.1]; omega)) (fun i _ hi e => ?_)
    rw [ha.2.2.2.1 0 (by omega) i (by rw [ha.2.2.1.1]; omega)] at e
    have := sp_in 0 (by omega) i (by omega) (ba u) (by omega) e
    omega
  have f3 : nFind tc sp 0 ((t + 3 : Nat) : Int) sa = (sa.1, sa.2.1, sa.2.2.1, sa.2.2.2.1, sa.2.2.2.2.1, sa.2.2.2.2.2.1, sa.2.2.2.2.2.2.1, mUp sa.2.2.2.2.2.2.2 4 (mUp (sa.2.2.2.2.2.2.2 4) (t + 3) (ba u : Int))) := by
    have hne : ¬ (ba u : Int) = -1 := by omega
    have hr : (0 : Int) ≤ ((t + 3 : Nat) : Int) ∧ ((t + 3 : Nat) : Int) < (tc : Int) := ⟨by omega, by omega⟩
    unfold nFind nSet
    rw [e3, if_neg hne, if_pos hr, Int.toNat_natCast]
  generalize hs2 : nFind tc sp 0 ((t + 3 : Nat) : Int) sa = sb at f3
  obtain ⟨a1, a2, ⟨a3, a3b, a3c⟩, a4, a5⟩ := ha
  obtain ⟨g1, g2, g3, g4, g5, g6, g7, g8, g9⟩ := h
  have fb : sb.2.2.2.2.2.2.2 = mUp sa.2.2.2.2.2.2.2 4 (mUp (sa.2.2.2.2.2.2.2 4) (t + 3) (ba u : Int)) := by rw [f3]
  have rb : ∀ k, k ≠ 4 → sb.2.2.2.2.2.2.2 k = s.2.2.2.2.2.2.2 k := fun k hk => by
    rw [fb, mUp_ne hk, a5]
  have rb4 : sb.2.2.2.2.2.2.2 4 = mUp (s.2.2.2.2.2.2.2 4) (t + 3) (ba u : Int) := by
    rw [fb, mUp_self, a5]
  have cd : sb.1 = 0 ∧ sb.2.2.1 = (o : Int) ∧ sb.2.2.2.1 = sa.2.2.2.1 ∧ sb.2.2.2.2.1 = sa.2.2.2.2.1 ∧ sb.2.2.2.2.2.1 = c ∧ sb.2.2.2.2.2.2.1 = u := by
    rw [f3]
    exact ⟨a1, a2, rfl, rfl, by show sa.2.2.2.2.2.1 = c; rw [a5]; exact g5, by show sa.2.2.2.2.2.2.1 = u; rw [a5]; exact g6⟩
  obtain ⟨d1, d2, d3, d4, d5, d6⟩ := cd
  have v5' : vlO tc (sb.2.2.2.2.2.2.2 4) ((t + 5 : Nat) : Int) = (bo u : Int) := by
    rw [vlO_at (by omega), rb4, mUp_ne (by omega)]
    rcases g9 (t + 5) with h5 | h5
    · rw [h5, f5]
    · rw [h5, v5]
  have hnum : nNum tc ((t + 5 : Nat) : Int) 0 99 sb = sb := by
    unfold nNum
    rw [v5', if_pos ⟨by omega, by omega⟩]
  have hall : nRumAt tc sp (t : Int) s = nRum (ba u : Int) (bo u : Int) sb := by
    unfold nRumAt
    rw [i1, i3, i5]
    dsimp only
    rw [hs1, e3, hs2, hnum, if_pos d1, v5']
  rw [hall]
  unfold nRum
  rw [d6, if_pos hu]
  refine ⟨d1, d2, ⟨by rw [← a3]; exact congrFun d3 0, by rw [← a3b]; exact congrFun d3 1, by rw [← a3c]; exact congrFun d3 2⟩, fun k hk i hi => ?_, d5, rfl, fun r hr => ?_, fun k hk => ?_, fun x => ?_⟩
  · have e1 : sb.2.2.2.2.1 k i = sa.2.2.2.2.1 k i := by rw [d4]
    show sb.2.2.2.2.1 k i = _
    rw [e1]
    exact a4 k hk i (by rw [← d3]; exact hi)
  · show (mUp (mUp sb.2.2.2.2.2.2.2 10 (mUp (sb.2.2.2.2.2.2.2 10) u (ba u : Int))) 11 (mUp (sb.2.2.2.2.2.2.2 11) u (bo u : Int))) 7 r = _ ∧ (mUp (mUp sb.2.2.2.2.2.2.2 10 (mUp (sb.2.2.2.2.2.2.2 10) u (ba u : Int))) 11 (mUp (sb.2.2.2.2.2.2.2 11) u (bo u : Int))) 8 r = _ ∧ (mUp (mUp sb.2.2.2.2.2.2.2 10 (mUp (sb.2.2.2.2.2.2.2 10) u (ba u : Int))) 11 (mUp (sb.2.2.2.2.2.2.2 11) u (bo u : Int))) 9 r = _
    rw [mUp_ne (by omega), mUp_ne (by omega), mUp_ne (by omega), mUp_ne (by omega), mUp_ne (by omega), mUp_ne (by omega), rb 7 (by omega), rb 8 (by omega), rb 9 (by omega)]
    exact g7 r hr
  · show (mUp (mUp sb.2.2.2.2.2.2.2 10 (mUp (sb.2.2.2.2.2.2.2 10) u (ba u : Int))) 11 (mUp (sb.2.2.2.2.2.2.2 11) u (bo u : Int))) 10 k = _ ∧ (mUp (mUp sb.2.2.2.2.2.2.2 10 (mUp (sb.2.2.2.2.2.2.2 10) u (ba u : Int))) 11 (mUp (sb.2.2.2.2.2.2.2 11) u (bo u : Int))) 11 k = _
    rw [mUp_ne (show 10 ≠ 11 by omega), mUp_self, mUp_self]
    by_cases hku : k = u
    · subst hku
      rw [mUp_self, mUp_self]
      exact ⟨rfl, rfl⟩
    · rw [mUp_ne hku, mUp_ne hku, rb 10 (by omega), rb 11 (by omega)]
      exact g8 k (by omega)
  · show (mUp (mUp sb.2.2.2.2.2.2.2 10 (mUp (sb.2.2.2.2.2.2.2 10) u (ba u : Int))) 11 (mUp (sb.2.2.2.2.2.2.2 11) u (bo u : Int))) 4 x = _ ∨ (mUp (mUp sb.2.2.2.2.2.2.2 10 (mUp (sb.2.2.2.2.2.2.2 10) u (ba u : Int))) 11 (mUp (sb.2.2.2.2.2.2.2 11) u (bo u : Int))) 4 x = _
    rw [mUp_ne (by omega), mUp_ne (by omega), rb4]
    by_cases x3 : x = t + 3
    · rw [x3, mUp_self, v3]
      exact Or.inr rfl
    · rw [mUp_ne x3]
      exact g9 x
theorem NSk.ord (h : NSk fr to mi ba bo f4 vT n c u o s) {t : Int} (ho : o < 20) : NSk fr to mi ba bo f4 vT n c u (o + 1) (nOrd t s) ∧ ro4 (nOrd t s) = ro4 s ∧ (nOrd t s).2.2.2.1 = s.2.2.2.1 := by
  have e : nOrd t s = (s.1, s.2.1, s.2.2.1 + 1, s.2.2.2) := by
    unfold nOrd
    rw [if_pos (by rw [h.2.1]; omega)]
  rw [e]
  obtain ⟨h1, h2, h3⟩ := h
  exact ⟨⟨h1, by show s.2.2.1 + 1 = _; rw [h2]; omega, h3⟩, rfl, rfl⟩
end NMS
