/-! ===== PURE: what the law asks of ways, parts, nets ===== -/
section FACTS
variable {g g' : Gr} {n a b o r u v : Nat} {p q : Nat → Bool}
theorem d_self (hg : GrOk g n) (_ha : a < n) : dst g a a = 0 := dst_eq (Or.inr ⟨Int.le_refl _, Wk.z, fun d hd => hd.nn hg⟩)
theorem d_pos (hg : GrOk g n) (ha : a < n) (hb : b < n) (h : dst g a b ≠ -1) : 0 ≤ dst g a b ∧ Wk g a b (dst g a b) ∧ ∀ d, Wk g a b d → dst g a b ≤ d := by
  rcases dst_sp hg ha hb with ⟨h1, -⟩ | h1
  · exact absurd h1 h
  · exact h1
theorem d_wk (hg : GrOk g n) (ha : a < n) (hb : b < n) {d : Int} (h : Wk g a b d) : 0 ≤ dst g a b ∧ dst g a b ≤ d := by
  rcases dst_sp hg ha hb with ⟨-, h1⟩ | ⟨h1, h2, h3⟩
  · exact absurd h (h1 d)
  · exact ⟨h1, h3 d h⟩
theorem d_zero (hg : GrOk g n) (ha : a < n) (hb : b < n) : dst g a b = 0 ↔ a = b := by
  constructor
  · intro h
    obtain ⟨-, h2, -⟩ := d_pos hg ha hb (by omega)
    rw [h] at h2
    rcases h2.last with ⟨h3, -⟩ | ⟨r, x, hr, hu, hx, h3⟩
    · exact h3.symm
    · have h4 := (hg r hr).2.2.2.1
      have h5 : 0 ≤ x := by
        rcases h3 with ⟨h3, -⟩ | ⟨h3, -⟩
        · exact h3.nn hg
        · exact h3.nn hg
      omega
  · intro h
    subst h
    exact d_self hg ha
theorem d_tri (hg : GrOk g n) (ha : a < n) (hb : b < n) (ho : o < n) (h1 : 0 ≤ dst g a o) (h2 : 0 ≤ dst g o b) : 0 ≤ dst g a b ∧ dst g a b ≤ dst g a o + dst g o b :=
  d_wk hg ha hb ((d_pos hg ha ho (by omega)).2.1.tr (d_pos hg ho hb (by omega)).2.1)
theorem wk_road (hr : r < gc g) (hu : gu g r = true) : Wk g (gf g r) (gt g r) (gl g r) := by
  have h1 : Wk g (gf g r) (gt g r) (0 + gl g r) := Wk.z.s1 hr hu
  rw [Int.zero_add] at h1
  exact h1
theorem d_road (hg : GrOk g n) (hr : r < gc g) (hu : gu g r = true) : 0 ≤ dst g (gf g r) (gt g r) ∧ dst g (gf g r) (gt g r) ≤ gl g r := d_wk hg (hg r hr).1 (hg r hr).2.1 (wk_road hr hu)
/-- a road on the way -/
def NxR (g : Gr) (a b r : Nat) : Prop := gu g r = true ∧ (gf g r = a ∨ gt g r = a) ∧ dst g (othE g a r) b ≠ -1 ∧ gl g r + dst g (othE g a r) b = dst g a b
theorem nx_ex (hg : GrOk g n) (ha : a < n) (hb : b < n) (h : 0 < dst g a b) : ∃ r, r < gc g ∧ NxR g a b r := by
  obtain ⟨-, h2, h3⟩ := d_pos hg ha hb (by omega)
  rcases h2.sym.last with ⟨-, h4⟩ | ⟨r, x, hr, hu, hx, h4⟩
  · omega
  · obtain ⟨g1, g2, g3, g4, -⟩ := hg r hr
    have hw := wk_road hr hu
    have key : ∀ e, e < n → Wk g b e x → Wk g a e (gl g r) → dst g e b ≠ -1 ∧ gl g r + dst g e b = dst g a b := by
      intro e he k1 k2
      obtain ⟨j1, j2⟩ := d_wk hg he hb k1.sym
      have j3 := h3 _ (k2.tr (d_pos hg he hb (by omega)).2.1)
      omega
    rcases h4 with ⟨h4, h5⟩ | ⟨h4, h5⟩
    · have e1 : othE g a r = gf g r := by
        unfold othE
        rw [if_neg (fun e => g3 (by rw [e, h5]))]
      refine ⟨r, hr, hu, Or.inr h5.symm, ?_⟩
      rw [e1]
      exact key _ g1 h4 (by rw [h5]; exact hw.sym)
    · have e1 : othE g a r = gt g r := by
        unfold othE
        rw [if_pos h5.symm]
      refine ⟨r, hr, hu, Or.inl h5.symm, ?_⟩
      rw [e1]
      exact key _ g2 h4 (by rw [h5]; exact hw)
theorem nx_sp : ∀ {k : Nat}, (nxK g a b k = -1 ∧ ∀ i, i < k → ¬ NxR g a b i) ∨ ∃ i, i < k ∧ NxR g a b i ∧ nxK g a b k = (othE g a i : Int)
  | 0 => Or.inl ⟨rfl, fun i h => absurd h (Nat.not_lt_zero _)⟩
  | k + 1 => by
    have ih := nx_sp (k := k)
    have e : nxK g a b (k + 1) = if gu g k = true ∧ (gf g k = a ∨ gt g k = a) ∧ dst g (othE g a k) b ≠ -1 ∧ gl g k + dst g (othE g a k) b = dst g a b ∧ (nxK g a b k = -1 ∨ (othE g a k : Int) < nxK g a b k) then (othE g a k : Int) else nxK g a b k := rfl
    rw [e]
    split
    · rename_i h
      exact Or.inr ⟨k, Nat.lt_succ_self k, ⟨h.1, h.2.1, h.2.2.1, h.2.2.2.1⟩, rfl⟩
    · rename_i h
      rcases ih with ⟨h1, h2⟩ | ⟨i, h1, h2, h3⟩
      · refine Or.inl ⟨h1, fun i hi hn => ?_⟩
        by_cases hik : i = k
        · subst hik
          exact h ⟨hn.1, hn.2.1, hn.2.2.1, hn.2.2.2, Or.inl h1⟩
        · exact h2 i (by omega) hn
      · exact Or.inr ⟨i, by omega, h2, h3⟩
/-- a step on a way -/
theorem nx_ok (hg : GrOk g n) (ha : a < n) (hb : b < n) (h : 0 < dst g a b) : ∃ r e : Nat, r < gc g ∧ gu g r = true ∧ nextT g a b = (e : Int) ∧ e < n ∧ e ≠ a ∧ 0 ≤ dst g e b ∧ gl g r = dst g a b - dst g e b ∧ ((gf g r = a ∧ gt g r = e) ∨ (gf g r = e ∧ gt g r = a)) := by
  obtain ⟨r0, hr0, hn0⟩ := nx_ex hg ha hb h
  rcases nx_sp (g := g) (a := a) (b := b) (k := gc g) with ⟨-, h2⟩ | ⟨r, h1, h2, h3⟩
  · exact absurd hn0 (h2 r0 hr0)
  · obtain ⟨g1, g2, g3, g4, -⟩ := hg r h1
    obtain ⟨k1, k2, k3, k4⟩ := h2
    have e1 : nextT g a b = (othE g a r : Int) := by
      unfold nextT
      have : a ≠ b := fun e => by have := (d_zero hg ha hb).mpr e; omega
      rw [if_neg this, if_neg (by omega), h3]
    by_cases hf : gf g r = a
    · have e2 : othE g a r = gt g r := by unfold othE; rw [if_pos hf]
      rw [e2] at e1 k3 k4
      have k5 := d_pos hg g2 hb k3
      exact ⟨r, gt g r, h1, k1, e1, g2, fun e => g3 (by rw [hf, e]), k5.1, by omega, Or.inl ⟨hf, rfl⟩⟩
    · have e2 : othE g a r = gf g r := by unfold othE; rw [if_neg hf]
      rw [e2] at e1 k3 k4
      have k5 := d_pos hg g1 hb k3
      exact ⟨r, gf g r, h1, k1, e1, g1, hf, k5.1, by omega, Or.inr ⟨rfl, k2.resolve_left hf⟩⟩
theorem nx_no (h : dst g a b ≤ 0) (h1 : -1 ≤ dst g a b) (hz : dst g a b = 0 ↔ a = b) : nextT g a b = if a = b then (a : Int) else -1 := by
  unfold nextT
  by_cases e : a = b
  · rw [if_pos e, if_pos e]
  · rw [if_neg e, if_neg e, if_pos]
    have : dst g a b ≠ 0 := fun k => e (hz.mp k)
    omega
theorem fstN_at {f : Nat} : ∀ {m j : Nat}, j ≤ f → f ≤ j + m → (f < j + m → p f = true) → (∀ i, j ≤ i → i < f → p i = false) → fstN p m j = f
  | 0, j, h1, h2, _, _ => by
    show j = f
    omega
  | m + 1, j, h1, h2, h3, h4 => by
    show (if p j = true then j else fstN p m (j + 1)) = f
    by_cases hj : j = f
    · subst hj
      rw [if_pos (h3 (by omega))]
    · rw [if_neg (by rw [h4 j (Nat.le_refl _) (by omega)]; decide)]
      exact fstN_at (by omega) (by omega) (fun h => h3 (by omega)) (fun i hi hf => h4 i (by omega) hf)
/-- the first tavern to which there is a way -/
theorem part_at {f : Nat} (hf : f ≤ a) (h1 : dst g a f ≠ -1) (h2 : ∀ i, i < f → dst g a i = -1) : partP g a = f := fstN_at (Nat.zero_le _) (by omega) (fun _ => decide_eq_true h1) (fun i _ hi => decide_eq_false (fun h => h (h2 i hi)))
theorem part_le : partP g a ≤ a := by
  have := (fstN_lt (p := fun p => decide (dst g a p ≠ -1)) (m := a) (j := 0)).2
  unfold partP
  omega
theorem fstI_sp : ∀ {m j : Nat}, (fstI p m j = -1 ∧ ∀ i, j ≤ i → i < j + m → p i = false) ∨ ∃ i, j ≤ i ∧ i < j + m ∧ p i = true ∧ fstI p m j = (i : Int)
  | 0, j => Or.inl ⟨rfl, fun i h1 h2 => by omega⟩
  | m + 1, j => by
    show ((if p j = true then (j : Int) else fstI p m (j + 1)) = -1 ∧ _) ∨ ∃ i, j ≤ i ∧ i < j + (m + 1) ∧ p i = true ∧ (if p j = true then (j : Int) else fstI p m (j + 1)) = (i : Int)
    by_cases h : p j = true
    · exact Or.inr ⟨j, Nat.le_refl _, by omega, h, by rw [if_pos h]⟩
    · rw [if_neg h]
      rcases fstI_sp (m := m) (j := j + 1) with ⟨h1, h2⟩ | ⟨i, h1, h2, h3, h4⟩
      · refine Or.inl ⟨h1, fun i hi hi2 => ?_⟩
        by_cases e : i = j
        · rw [e]; exact Bool.eq_false_iff.mpr h
        · exact h2 i (by omega) (by omega)
      · exact Or.inr ⟨i, by omega, by omega, h3, h4⟩
/-- joined with one road more: joined without it, or over it -/
theorem Jn.ovr (hm : ∀ i, i < gc g → p i = true → i ≠ r → q i = true) (h : Jn g p u v) : Jn g q u v ∨ (Jn g q u (gf g r) ∧ Jn g q (gt g r) v) ∨ (Jn g q u (gt g r) ∧ Jn g q (gf g r) v) := by
  refine h (fun x => Jn g q u x ∨ (Jn g q u (gf g r) ∧ Jn g q (gt g r) x) ∨ (Jn g q u (gt g r) ∧ Jn g q (gf g r) x)) (Or.inl Jn.rf) (fun i hi hp => ?_)
  by_cases hir : i = r
  · subst hir
    constructor
    · rintro (k | ⟨k1, k2⟩ | ⟨k1, k2⟩)
      · exact Or.inr (Or.inl ⟨k, Jn.rf⟩)
      · exact Or.inl (k1.tr k2.sy)
      · exact Or.inl k1
    · rintro (k | ⟨k1, k2⟩ | ⟨k1, k2⟩)
      · exact Or.inr (Or.inr ⟨k, Jn.rf⟩)
      · exact Or.inl k1
      · exact Or.inl (k1.tr k2.sy)
  · have hq := hm i hi hp hir
    have e1 := Jn.e1 (g := g) hi hq
    have e2 := Jn.e2 (g := g) hi hq
    constructor
    · rintro (k | ⟨k1, k2⟩ | ⟨k1, k2⟩)
      · exact Or.inl (k.tr e1)
      · exact Or.inr (Or.inl ⟨k1, k2.tr e1⟩)
      · exact Or.inr (Or.inr ⟨k1, k2.tr e1⟩)
    · rintro (k | ⟨k1, k2⟩ | ⟨k1, k2⟩)
      · exact Or.inl (k.tr e2)
      · exact Or.inr (Or.inl ⟨k1, k2.tr e2⟩)
      · exact Or.inr (Or.inr ⟨k1, k2.tr e2⟩)
end FACTS
