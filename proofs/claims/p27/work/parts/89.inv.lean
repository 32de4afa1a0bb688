/-! ===== NAMES: what a good list has told ===== -/
theorem er_note {n t : Int} {s : NSt} (hn : n ≠ 0) : (nNote n t s).1 ≠ 0 := by
  unfold nNote
  split
  · exact hn
  · assumption
theorem er_set {tc : Nat} {t v : Int} {s : NSt} : (nSet tc t v s).1 = s.1 := by
  unfold nSet
  split <;> rfl
theorem er_find {tc k : Nat} {sp : Nat → Int} {t : Int} {s : NSt} (h : (nFind tc sp k t s).1 = 0) : s.1 = 0 ∧ nIx (spO tc sp t) k s ≠ -1 ∧ nFind tc sp k t s = nSet tc t (nIx (spO tc sp t) k s) s := by
  unfold nFind at h ⊢
  rw [er_set] at h
  by_cases h1 : nIx (spO tc sp t) k s = -1
  · rw [if_pos h1] at h
    exact absurd h (er_note (by decide))
  · rw [if_neg h1] at h ⊢
    exact ⟨h, h1, rfl⟩
theorem er_tell {tc k : Nat} {sp : Nat → Int} {t : Int} {s : NSt} (h : (nTell tc sp k t s).1 = 0) : s.1 = 0 ∧ nIx (spO tc sp t) k s = -1 ∧ s.2.2.2.1 k < ((liV.getD k 0 : Nat) : Int) ∧ nTell tc sp k t s = (s.1, s.2.1, s.2.2.1, mUp s.2.2.2.1 k (s.2.2.2.1 k + 1), mUp s.2.2.2.2.1 k (mUp (s.2.2.2.2.1 k) (s.2.2.2.1 k).toNat (spO tc sp t)), s.2.2.2.2.2) := by
  unfold nTell at h ⊢
  by_cases h1 : nIx (spO tc sp t) k s = -1
  · rw [if_pos h1] at h ⊢
    by_cases h2 : ((liV.getD k 0 : Nat) : Int) ≤ s.2.2.2.1 k
    · rw [if_pos h2] at h
      exact absurd h (er_note (by decide))
    · rw [if_neg h2] at h ⊢
      exact ⟨h, h1, by omega, rfl⟩
  · rw [if_neg h1] at h
    exact absurd h (er_note (by decide))
theorem er_num {tc : Nat} {t a b : Int} {s : NSt} (h : (nNum tc t a b s).1 = 0) : s.1 = 0 ∧ a ≤ vlO tc (s.2.2.2.2.2.2.2 4) t ∧ vlO tc (s.2.2.2.2.2.2.2 4) t ≤ b ∧ nNum tc t a b s = s := by
  unfold nNum at h ⊢
  by_cases h1 : a ≤ vlO tc (s.2.2.2.2.2.2.2 4) t ∧ vlO tc (s.2.2.2.2.2.2.2 4) t ≤ b
  · rw [if_pos h1] at h ⊢
    exact ⟨h, h1.1, h1.2, rfl⟩
  · rw [if_neg h1] at h
    exact absurd h (er_note (by decide))
theorem er_ord {t : Int} {s : NSt} (h : (nOrd t s).1 = 0) : s.1 = 0 ∧ s.2.2.1 + 1 ≤ 20 ∧ nOrd t s = (s.1, s.2.1, s.2.2.1 + 1, s.2.2.2) := by
  unfold nOrd at h ⊢
  by_cases h1 : s.2.2.1 + 1 ≤ 20
  · rw [if_pos h1] at h ⊢
    exact ⟨h, h1, rfl⟩
  · rw [if_neg h1] at h
    exact absurd h (er_note (by decide))
theorem er_road {f t m : Int} {s : NSt} : (nRoad f t m s).1 = s.1 := by
  unfold nRoad
  split <;> rfl
theorem er_rum {f t : Int} {s : NSt} : (nRum f t s).1 = s.1 := by
  unfold nRum
  split <;> rfl
theorem ixF_in {r : Nat → Int} {x : Int} : ∀ {m j : Nat}, ixF r x m j ≠ -1 → ∃ i : Nat, j ≤ i ∧ i < j + m ∧ ixF r x m j = (i : Int) ∧ r i = x
  | 0, j, h => absurd rfl h
  | m + 1, j, h => by
    unfold ixF at h ⊢
    by_cases h1 : r j = x
    · rw [if_pos h1]
      exact ⟨j, Nat.le_refl _, by omega, rfl, h1⟩
    · rw [if_neg h1] at h ⊢
      obtain ⟨i, a, b, c, d⟩ := ixF_in h
      exact ⟨i, by omega, by omega, c, d⟩
/-- an index of a name that is told -/
def InR (s : NSt) (k : Nat) (v : Int) : Prop := ∃ r : Nat, (r : Int) < s.2.2.2.1 k ∧ v = (r : Int)
theorem nIx_in {x : Int} {k : Nat} {s : NSt} (h : nIx x k s ≠ -1) : InR s k (nIx x k s) := by
  obtain ⟨i, a, b, c, d⟩ := ixF_in h
  refine ⟨i, ?_, c⟩
  have : i < (s.2.2.2.1 k).toNat := by omega
  omega
theorem InR.up {s s' : NSt} {k : Nat} {v : Int} (h : InR s k v) (hf : s.2.2.2.1 k ≤ s'.2.2.2.1 k) : InR s' k v := by
  obtain ⟨r, h1, h2⟩ := h
  exact ⟨r, by omega, h2⟩
/-- the names behind the token t are found -/
def Res (kd : Nat → Nat) (s : NSt) (p t : Nat) : Prop :=
  ((kd t = 8 ∨ kd t = 10 ∨ kd t = 14 ∨ kd t = 15 ∨ kd t = 18) → t + 1 < p ∧ InR s 1 (s.2.2.2.2.2.2.2 4 (t + 1))) ∧ (kd t = 11 → t + 1 < p ∧ InR s 0 (s.2.2.2.2.2.2.2 4 (t + 1))) ∧ (kd t = 17 → t + 1 < p ∧ InR s 2 (s.2.2.2.2.2.2.2 4 (t + 1))) ∧ ((kd t = 16 ∨ kd t = 20) → t + 2 < p ∧ InR s 0 (s.2.2.2.2.2.2.2 4 (t + 1)) ∧ InR s 0 (s.2.2.2.2.2.2.2 4 (t + 2))) ∧ (kd t = 19 → t + 2 < p ∧ InR s 0 (s.2.2.2.2.2.2.2 4 (t + 1)) ∧ InR s 2 (s.2.2.2.2.2.2.2 4 (t + 2)))
theorem Res.up {kd : Nat → Nat} {s s' : NSt} {p p' t : Nat} (h : Res kd s p t) (hf : ∀ k, s.2.2.2.1 k ≤ s'.2.2.2.1 k) (hp : p ≤ p') (h4 : ∀ j, j < p → s'.2.2.2.2.2.2.2 4 j = s.2.2.2.2.2.2.2 4 j) : Res kd s' p' t := by
  obtain ⟨h1, h2, h3, h4', h5⟩ := h
  refine ⟨fun z => ?_, fun z => ?_, fun z => ?_, fun z => ?_, fun z => ?_⟩
  · obtain ⟨a, b⟩ := h1 z
    exact ⟨by omega, by rw [h4 _ a]; exact b.up (hf _)⟩
  · obtain ⟨a, b⟩ := h2 z
    exact ⟨by omega, by rw [h4 _ a]; exact b.up (hf _)⟩
  · obtain ⟨a, b⟩ := h3 z
    exact ⟨by omega, by rw [h4 _ a]; exact b.up (hf _)⟩
  · obtain ⟨a, b, c⟩ := h4' z
    exact ⟨by omega, by rw [h4 _ (by omega)]; exact b.up (hf _), by rw [h4 _ a]; exact c.up (hf _)⟩
  · obtain ⟨a, b, c⟩ := h5 z
    exact ⟨by omega, by rw [h4 _ (by omega)]; exact b.up (hf _), by rw [h4 _ a]; exact c.up (hf _)⟩
/-- the tokens before p are looked at, those from q on are as they were -/
def NJ (kd : Nat → Nat) (P0 : Nat → Nat → Int) (e1 e2 p q : Nat) (s : NSt) : Prop :=
  (0 ≤ s.2.2.2.1 0 ∧ s.2.2.2.1 0 ≤ 10) ∧ (s.2.2.2.1 1 = ((s.2.2.2.2.2.1 + e1 : Nat) : Int) ∧ s.2.2.2.2.2.1 + e1 ≤ 14) ∧ (s.2.2.2.1 2 = ((s.2.2.2.2.2.2.1 + e2 : Nat) : Int) ∧ s.2.2.2.2.2.2.1 + e2 ≤ 6) ∧
  (∀ r, r < s.2.2.2.2.2.1 → InR s 0 (s.2.2.2.2.2.2.2 7 r) ∧ InR s 0 (s.2.2.2.2.2.2.2 8 r) ∧ s.2.2.2.2.2.2.2 7 r ≠ s.2.2.2.2.2.2.2 8 r ∧ 1 ≤ s.2.2.2.2.2.2.2 9 r ∧ s.2.2.2.2.2.2.2 9 r ≤ 30) ∧
  (∀ k, k < s.2.2.2.2.2.2.1 → InR s 0 (s.2.2.2.2.2.2.2 10 k) ∧ 0 ≤ s.2.2.2.2.2.2.2 11 k ∧ s.2.2.2.2.2.2.2 11 k ≤ 99) ∧
  (∀ t, kd t ≠ 42 → s.2.2.2.2.2.2.2 4 t = P0 4 t) ∧ (∀ t, q ≤ t → s.2.2.2.2.2.2.2 4 t = P0 4 t) ∧ (∀ t, t < p → Res kd s p t) ∧ (∀ k, k ≠ 4 → (k < 7 ∨ 12 ≤ k) → s.2.2.2.2.2.2.2 k = P0 k) ∧ p ≤ q
section NINV
variable {tc : Nat} {kd : Nat → Nat} {sp : Nat → Int} {P0 : Nat → Nat → Int} {e1 e2 p q : Nat} {s : NSt}
theorem NJ.er (hJ : NJ kd P0 e1 e2 p q s) {a b c : Int} : NJ kd P0 e1 e2 p q (a, b, c, s.2.2.2) := hJ
theorem NJ.set (hJ : NJ kd P0 e1 e2 p q s) {x : Nat} {v : Int} (hx : q ≤ x) (ht : x < tc) (hk : kd x = 42) : NJ kd P0 e1 e2 p (x + 1) (nSet tc x v s) ∧ (∀ j, j ≠ x → (nSet tc x v s).2.2.2.2.2.2.2 4 j = s.2.2.2.2.2.2.2 4 j) ∧ (nSet tc x v s).2.2.2.2.2.2.2 4 x = v ∧ (nSet tc x v s).2.2.2.1 = s.2.2.2.1 ∧ (nSet tc x v s).1 = s.1 ∧ (nSet tc x v s).2.2.2.2.2.1 = s.2.2.2.2.2.1 ∧ (nSet tc x v s).2.2.2.2.2.2.1 = s.2.2.2.2.2.2.1 := by
  obtain ⟨j1, j2, j3, j4, j5, j6, j7, j8, j9, j10⟩ := hJ
  unfold nSet
  rw [if_pos ⟨by omega, by omega⟩, Int.toNat_natCast]
  have hne : ∀ j, j ≠ x → mUp s.2.2.2.2.2.2.2 4 (mUp (s.2.2.2.2.2.2.2 4) x v) 4 j = s.2.2.2.2.2.2.2 4 j := fun j hj => by
    rw [mUp_self, mUp_ne hj]
  refine ⟨⟨j1, j2, j3, j4, j5, fun t ht => ?_, fun t ht => ?_, fun t ht => ?_, fun k hk hk2 => ?_, by omega⟩, hne, ?_, rfl, rfl, rfl, rfl⟩
  · show mUp s.2.2.2.2.2.2.2 4 (mUp (s.2.2.2.2.2.2.2 4) x v) 4 t = _
    rw [hne t (fun z => ht (z ▸ hk))]
    exact j6 t ht
  · show mUp s.2.2.2.2.2.2.2 4 (mUp (s.2.2.2.2.2.2.2 4) x v) 4 t = _
    rw [hne t (by omega)]
    exact j7 t (by omega)
  · exact (j8 t ht).up (fun _ => Int.le_refl _) (Nat.le_refl _) (fun j hj => hne j (by omega))
  · show mUp s.2.2.2.2.2.2.2 4 (mUp (s.2.2.2.2.2.2.2 4) x v) k = _
    rw [mUp_ne hk]
    exact j9 k hk hk2
  · show mUp s.2.2.2.2.2.2.2 4 (mUp (s.2.2.2.2.2.2.2 4) x v) 4 x = _
    rw [mUp_self, mUp_self]
theorem NJ.nx (hJ : NJ kd P0 e1 e2 p q s) {p' : Nat} (hq : q ≤ p') (h : ∀ t, p ≤ t → t < p' → Res kd s p' t) : NJ kd P0 e1 e2 p' p' s := by
  obtain ⟨j1, j2, j3, j4, j5, j6, j7, j8, j9, j10⟩ := hJ
  refine ⟨j1, j2, j3, j4, j5, j6, fun t ht => j7 t (by omega), fun t ht => ?_, j9, Nat.le_refl _⟩
  by_cases h1 : t < p
  · exact (j8 t h1).up (fun _ => Int.le_refl _) (by omega) (fun _ _ => rfl)
  · exact h t (by omega) ht
theorem NJ.tell (hJ : NJ kd P0 0 0 p q s) {k : Nat} {x : Int} {g : Nat → Nat → Int} (hk : k < 3) (hl : s.2.2.2.1 k < ((liV.getD k 0 : Nat) : Int)) : NJ kd P0 (if k = 1 then 1 else 0) (if k = 2 then 1 else 0) p q (s.1, s.2.1, s.2.2.1, mUp s.2.2.2.1 k (s.2.2.2.1 k + 1), g, s.2.2.2.2.2) := by
  obtain ⟨j1, j2, j3, j4, j5, j6, j7, j8, j9, j10⟩ := hJ
  have hf : ∀ j, s.2.2.2.1 j ≤ mUp s.2.2.2.1 k (s.2.2.2.1 k + 1) j := fun j => by
    by_cases h1 : j = k
    · subst h1
      rw [mUp_self]
      omega
    · rw [mUp_ne h1]
      exact Int.le_refl _
  have m0 : mUp s.2.2.2.1 k (s.2.2.2.1 k + 1) 0 = s.2.2.2.1 0 + (if k = 0 then 1 else 0) := by
    by_cases h1 : k = 0
    · subst h1
      rw [mUp_self, if_pos rfl]
    · rw [mUp_ne (Ne.symm h1), if_neg h1, Int.add_zero]
  have m1 : mUp s.2.2.2.1 k (s.2.2.2.1 k + 1) 1 = s.2.2.2.1 1 + (if k = 1 then 1 else 0) := by
    by_cases h1 : k = 1
    · subst h1
      rw [mUp_self, if_pos rfl]
    · rw [mUp_ne (Ne.symm h1), if_neg h1, Int.add_zero]
  have m2 : mUp s.2.2.2.1 k (s.2.2.2.1 k + 1) 2 = s.2.2.2.1 2 + (if k = 2 then 1 else 0) := by
    by_cases h1 : k = 2
    · subst h1
      rw [mUp_self, if_pos rfl]
    · rw [mUp_ne (Ne.symm h1), if_neg h1, Int.add_zero]
  have l0 : liV.getD 0 0 = 10 := rfl
  have l1 : liV.getD 1 0 = 14 := rfl
  have l2 : liV.getD 2 0 = 6 := rfl
  refine ⟨?_, ?_, ?_, fun r hr => ?_, fun r hr => ?_, j6, j7, fun t ht => (j8 t ht).up hf (Nat.le_refl _) (fun _ _ => rfl), j9, j10⟩
  · show 0 ≤ mUp s.2.2.2.1 k (s.2.2.2.1 k + 1) 0 ∧ mUp s.2.2.2.1 k (s.2.2.2.1 k + 1) 0 ≤ 10
    rw [m0]
    rcases (by omega : k = 0 ∨ k = 1 ∨ k = 2) with rfl | rfl | rfl <;> simp <;> omega
  · show mUp s.2.2.2.1 k (s.2.2.2.1 k + 1) 1 = ((s.2.2.2.2.2.1 + (if k = 1 then 1 else 0) : Nat) : Int) ∧ s.2.2.2.2.2.1 + (if k = 1 then 1 else 0) ≤ 14
    rw [m1]
    rcases (by omega : k = 0 ∨ k = 1 ∨ k = 2) with rfl | rfl | rfl <;> simp <;> omega
  · show mUp s.2.2.2.1 k (s.2.2.2.1 k + 1) 2 = ((s.2.2.2.2.2.2.1 + (if k = 2 then 1 else 0) : Nat) : Int) ∧ s.2.2.2.2.2.2.1 + (if k = 2 then 1 else 0) ≤ 6
    rw [m2]
    rcases (by omega : k = 0 ∨ k = 1 ∨ k = 2) with rfl | rfl | rfl <;> simp <;> omega
  · obtain ⟨a, b, c⟩ := j4 r hr
    exact ⟨a.up (hf 0), b.up (hf 0), c⟩
  · obtain ⟨a, b⟩ := j5 r hr
    exact ⟨a.up (hf 0), b⟩
theorem NJ.road (hJ : NJ kd P0 1 e2 p q s) {f t m : Int} (hf : InR s 0 f) (ht : InR s 0 t) (hne : f ≠ t) (hm : 1 ≤ m ∧ m ≤ 30) : NJ kd P0 0 e2 p q (nRoad f t m s) := by
  obtain ⟨j1, j2, j3, j4, j5, j6, j7, j8, j9, j10⟩ := hJ
  unfold nRoad
  rw [if_pos (by omega)]
  refine ⟨j1, ⟨by rw [show ((s.2.2.2.2.2.1 + 1 + 0 : Nat) : Int) = ((s.2.2.2.2.2.1 + 1 : Nat) : Int) from rfl]; exact j2.1, j2.2⟩, j3, fun r hr => ?_, j5, j6, j7, j8, fun k hk hk2 => ?_, j10⟩
  · show InR s 0 (mUp (s.2.2.2.2.2.2.2 7) s.2.2.2.2.2.1 f r) ∧ InR s 0 (mUp (s.2.2.2.2.2.2.2 8) s.2.2.2.2.2.1 t r) ∧ mUp (s.2.2.2.2.2.2.2 7) s.2.2.2.2.2.1 f r ≠ mUp (s.2.2.2.2.2.2.2 8) s.2.2.2.2.2.1 t r ∧ 1 ≤ mUp (s.2.2.2.2.2.2.2 9) s.2.2.2.2.2.1 m r ∧ mUp (s.2.2.2.2.2.2.2 9) s.2.2.2.2.2.1 m r ≤ 30
    have hr : r < s.2.2.2.2.2.1 + 1 := hr
    by_cases h1 : r = s.2.2.2.2.2.1
    · rw [h1, mUp_self, mUp_self, mUp_self]
      exact ⟨hf, ht, hne, hm⟩
    · rw [mUp_ne h1, mUp_ne h1, mUp_ne h1]
      exact j4 r (by omega)
  · show mUp (mUp (mUp s.2.2.2.2.2.2.2 7 _) 8 _) 9 _ k = _
    rw [mUp_ne (by omega), mUp_ne (by omega), mUp_ne (by omega)]
    exact j9 k hk hk2
theorem NJ.rum (hJ : NJ kd P0 e1 1 p q s) {f t : Int} (hf : InR s 0 f) (ht : 0 ≤ t ∧ t ≤ 99) : NJ kd P0 e1 0 p q (nRum f t s) := by
  obtain ⟨j1, j2, j3, j4, j5, j6, j7, j8, j9, j10⟩ := hJ
  unfold nRum
  rw [if_pos (by omega)]
  refine ⟨j1, j2, ⟨by rw [show ((s.2.2.2.2.2.2.1 + 1 + 0 : Nat) : Int) = ((s.2.2.2.2.2.2.1 + 1 : Nat) : Int) from rfl]; exact j3.1, j3.2⟩, j4, fun r hr => ?_, j6, j7, j8, fun k hk hk2 => ?_, j10⟩
  · show InR s 0 (mUp (s.2.2.2.2.2.2.2 10) s.2.2.2.2.2.2.1 f r) ∧ 0 ≤ mUp (s.2.2.2.2.2.2.2 11) s.2.2.2.2.2.2.1 t r ∧ mUp (s.2.2.2.2.2.2.2 11) s.2.2.2.2.2.2.1 t r ≤ 99
    have hr : r < s.2.2.2.2.2.2.1 + 1 := hr
    by_cases h1 : r = s.2.2.2.2.2.2.1
    · rw [h1, mUp_self, mUp_self]
      exact ⟨hf, ht⟩
    · rw [mUp_ne h1, mUp_ne h1]
      exact j5 r (by omega)
  · show mUp (mUp s.2.2.2.2.2.2.2 10 _) 11 _ k = _
    rw [mUp_ne (by omega), mUp_ne (by omega)]
    exact j9 k hk hk2
end NINV
