/-! ===== THE REFERENCE: parts ===== -/
def ptR (g : Gr) (P : Nat → Nat) (r : Nat) : Nat → Nat := if gu g r = true ∧ P (gf g r) ≠ P (gt g r) then mUp (mUp P (gf g r) (min (P (gf g r)) (P (gt g r)))) (gt g r) (min (P (gf g r)) (P (gt g r))) else P
def ptP (g : Gr) (P : Nat → Nat) : Nat → Nat → Nat
  | 0 => P
  | k + 1 => ptR g (ptP g P k) k
def ptF (g : Gr) (P : Nat → Nat) : Nat → Bool
  | 0 => false
  | k + 1 => ptF g P k || (decide (gu g k = true) && !decide (ptP g P k (gf g k) = ptP g P k (gt g k)))
/-- each tavern's number is one of its part, not above its own -/
def PI (g : Gr) (P : Nat → Nat) : Prop := ∀ t, P t ≤ t ∧ ∃ d, Wk g t (P t) d
theorem fstN_sp {p : Nat → Bool} : ∀ {m j : Nat}, (∃ i, j ≤ i ∧ i < j + m ∧ p i = true ∧ fstN p m j = i ∧ ∀ k, j ≤ k → k < i → p k = false) ∨ (fstN p m j = j + m ∧ ∀ k, j ≤ k → k < j + m → p k = false)
  | 0, j => Or.inr ⟨rfl, fun k h1 h2 => by omega⟩
  | m + 1, j => by
    unfold fstN
    by_cases h : p j = true
    · rw [if_pos h]
      exact Or.inl ⟨j, Nat.le_refl _, by omega, h, rfl, fun k h1 h2 => by omega⟩
    · rw [if_neg h]
      have hf : p j = false := by simpa using h
      rcases fstN_sp (p := p) (m := m) (j := j + 1) with ⟨i, a, b, c, d, e⟩ | ⟨a, b⟩
      · refine Or.inl ⟨i, by omega, by omega, c, d, fun k h1 h2 => ?_⟩
        by_cases hk : k = j
        · rw [hk]; exact hf
        · exact e k (by omega) h2
      · refine Or.inr ⟨by omega, fun k h1 h2 => ?_⟩
        by_cases hk : k = j
        · rw [hk]; exact hf
        · exact b k (by omega) (by omega)
section PART
variable {g : Gr} {n : Nat} {P : Nat → Nat}
theorem ptR_PI {r : Nat} (hg : GrOk g n) (hr : r < gc g) (hP : PI g P) : PI g (ptR g P r) := by
  unfold ptR
  split
  · rename_i h
    obtain ⟨a1, a2⟩ := hP (gf g r)
    obtain ⟨b1, b2⟩ := hP (gt g r)
    obtain ⟨da, wa⟩ := a2
    obtain ⟨db, wb⟩ := b2
    have wfb : Wk g (gf g r) (P (gt g r)) (0 + gl g r + db) := (Wk.s1 Wk.z hr h.1).tr wb
    have wta : Wk g (gt g r) (P (gf g r)) (0 + gl g r + da) := (Wk.s2 Wk.z hr h.1).tr wa
    intro t
    by_cases ht : t = gt g r
    · subst ht
      rw [mUp_self]
      refine ⟨by omega, ?_⟩
      rcases (by omega : min (P (gf g r)) (P (gt g r)) = P (gf g r) ∨ min (P (gf g r)) (P (gt g r)) = P (gt g r)) with h1 | h1 <;> rw [h1]
      · exact ⟨_, wta⟩
      · exact ⟨_, wb⟩
    · rw [mUp_ne ht]
      by_cases hf : t = gf g r
      · subst hf
        rw [mUp_self]
        refine ⟨by omega, ?_⟩
        rcases (by omega : min (P (gf g r)) (P (gt g r)) = P (gf g r) ∨ min (P (gf g r)) (P (gt g r)) = P (gt g r)) with h1 | h1 <;> rw [h1]
        · exact ⟨_, wa⟩
        · exact ⟨_, wfb⟩
      · rw [mUp_ne hf]
        exact hP t
  · exact hP
theorem ptP_PI (hg : GrOk g n) (hP : PI g P) : ∀ {k : Nat}, k ≤ gc g → PI g (ptP g P k)
  | 0, _ => hP
  | k + 1, hk => ptR_PI hg (by omega) (ptP_PI hg hP (by omega))
theorem ptF_f : ∀ {k : Nat}, ptF g P k = false → ptP g P k = P ∧ ∀ r, r < k → gu g r = true → P (gf g r) = P (gt g r)
  | 0, _ => ⟨rfl, fun r hr => absurd hr (Nat.not_lt_zero _)⟩
  | k + 1, h => by
    unfold ptF at h
    rw [Bool.or_eq_false_iff] at h
    obtain ⟨h1, h2⟩ := h
    obtain ⟨e1, e2⟩ := ptF_f h1
    rw [e1] at h2
    have h3 : ¬ (gu g k = true ∧ P (gf g k) ≠ P (gt g k)) := by
      intro z
      rw [decide_eq_true z.1, decide_eq_false z.2] at h2
      cases h2
    refine ⟨?_, fun r hr hu => ?_⟩
    · show ptR g (ptP g P k) k = P
      rw [e1]
      unfold ptR
      rw [if_neg h3]
    · by_cases hrk : r = k
      · subst hrk
        by_cases he : P (gf g r) = P (gt g r)
        · exact he
        · exact absurd ⟨hu, he⟩ h3
      · exact e2 r (by omega) hu
/-- the least number of each part -/
theorem part_eq (hg : GrOk g n) (hP : PI g P) (hs : ∀ r, r < gc g → gu g r = true → P (gf g r) = P (gt g r)) {t : Nat} (ht : t < n) : P t = partP g t := by
  have hc : ∀ {a v : Nat} {d : Int}, Wk g a v d → P v = P a := fun h => h (fun v _ => P v = P _) rfl (fun r x hr hu => ⟨fun z => by rw [← hs r hr hu]; exact z, fun z => by rw [hs r hr hu]; exact z⟩)
  obtain ⟨h1, d, h2⟩ := hP t
  have hr : ∀ {a v : Nat} {d : Int}, a < n → v < n → Wk g a v d → dst g a v ≠ -1 := fun ha hv hw z => by
    rcases dst_sp hg ha hv with ⟨a, b⟩ | ⟨a, b, c⟩
    · exact b _ hw
    · omega
  have hd : dst g t (P t) ≠ -1 := hr ht (by omega) h2
  have hlow : ∀ k, k < P t → decide (dst g t k ≠ -1) = false := fun k hk => by
    refine decide_eq_false (fun z => ?_)
    rcases dst_sp hg ht (by omega : k < n) with ⟨a, b⟩ | ⟨a, b, c⟩
    · exact z a
    · have := hc b
      have := (hP k).1
      omega
  unfold partP
  rcases fstN_sp (p := fun p => decide (dst g t p ≠ -1)) (m := t) (j := 0) with ⟨i, a, b, c, e, f⟩ | ⟨a, b⟩
  · rw [e]
    by_cases hi : i < P t
    · have := hlow i hi
      have c : decide (dst g t i ≠ -1) = true := c
      rw [this] at c
      cases c
    · by_cases hi2 : P t < i
      · have := f (P t) (Nat.zero_le _) hi2
        have this : decide (dst g t (P t) ≠ -1) = false := this
        rw [decide_eq_true hd] at this
        cases this
      · omega
  · rw [a]
    by_cases hi2 : P t < t
    · have := b (P t) (Nat.zero_le _) (by omega)
      have this : decide (dst g t (P t) ≠ -1) = false := this
      rw [decide_eq_true hd] at this
      cases this
    · omega
def sP (P : Nat → Nat) : Int := sumI (fun t => (P t : Int)) 10
theorem ptR_sP {r : Nat} (ha : gf g r < 10) (hb : gt g r < 10) (hab : gf g r ≠ gt g r) : sP (ptR g P r) ≤ sP P ∧ ((gu g r = true ∧ P (gf g r) ≠ P (gt g r)) → sP (ptR g P r) < sP P) := by
  unfold ptR sP
  split
  · rename_i h
    have u1 := sumI_upd (f := fun t => (P t : Int)) (g := fun t => ((mUp P (gf g r) (min (P (gf g r)) (P (gt g r))) t : Nat) : Int)) (i := gf g r) (m := 10) ha (fun j hj => by
      rw [mUp_ne hj])
    have u2 := sumI_upd (f := fun t => ((mUp P (gf g r) (min (P (gf g r)) (P (gt g r))) t : Nat) : Int)) (g := fun t => ((mUp (mUp P (gf g r) (min (P (gf g r)) (P (gt g r)))) (gt g r) (min (P (gf g r)) (P (gt g r))) t : Nat) : Int)) (i := gt g r) (m := 10) hb (fun j hj => by
      rw [mUp_ne hj])
    rw [mUp_self] at u1
    rw [mUp_self, mUp_ne (Ne.symm hab)] at u2
    have := h.2
    refine ⟨by omega, fun _ => by omega⟩
  · rename_i h
    exact ⟨Int.le_refl _, fun z => absurd z h⟩
theorem ptP_sP (hg : GrOk g n) (hn : n ≤ 10) : ∀ {k : Nat}, k ≤ gc g → sP (ptP g P k) ≤ sP P ∧ (ptF g P k = true → sP (ptP g P k) < sP P)
  | 0, _ => ⟨Int.le_refl _, fun z => by cases z⟩
  | k + 1, hk => by
    obtain ⟨i1, i2⟩ := ptP_sP hg hn (k := k) (by omega)
    obtain ⟨g1, g2, g3, -⟩ := hg k (by omega)
    obtain ⟨r1, r2⟩ := ptR_sP (P := ptP g P k) (r := k) (g := g) (by omega) (by omega) g3
    have e : ptP g P (k + 1) = ptR g (ptP g P k) k := rfl
    rw [e]
    refine ⟨by omega, fun z => ?_⟩
    unfold ptF at z
    rw [Bool.or_eq_true] at z
    rcases z with z | z
    · have := i2 z
      omega
    · rw [Bool.and_eq_true, decide_eq_true_eq] at z
      have := r2 ⟨z.1, fun y => by
        rw [decide_eq_true y] at z
        cases z.2⟩
      omega
end PART
