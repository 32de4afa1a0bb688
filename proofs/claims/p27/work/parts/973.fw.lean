/-! ===== PURE: ways over one more tavern at a time ===== -/
abbrev Mx : Type := Nat → Nat → Int
def fwS (k : Nat) (M : Mx) : Mx := fun a b => min (M a b) (M a k + M k b)
def fwK (M : Mx) : Nat → Mx
  | 0 => M
  | k + 1 => fwS k (fwK M k)
def mx0 : Mx := fun a b => if a = b then 0 else 9999
def mxR (g : Gr) (M : Mx) (r : Nat) : Mx := fun a b => if gu g r = true ∧ ((a = gf g r ∧ b = gt g r) ∨ (a = gt g r ∧ b = gf g r)) then min (gl g r) (M (gf g r) (gt g r)) else M a b
def mxK (g : Gr) : Nat → Mx
  | 0 => mx0
  | r + 1 => mxR g (mxK g r) r
/-- what holds of every matrix on the way -/
def MxOk (g : Gr) (n : Nat) (M : Mx) : Prop := (∀ a b, 0 ≤ M a b ∧ M a b ≤ 9999) ∧ (∀ a, M a a = 0) ∧ (∀ a b, M a b = M b a) ∧ ∀ a b, a < n → b < n → M a b < 9999 → Wk g a b (M a b)
section FWP
variable {g : Gr} {n : Nat} {M : Mx}
theorem mx0_ok : MxOk g n mx0 := by
  refine ⟨fun a b => ?_, fun a => if_pos rfl, fun a b => ?_, fun a b ha hb h => ?_⟩
  · unfold mx0
    split <;> omega
  · unfold mx0
    by_cases h : a = b
    · rw [if_pos h, if_pos h.symm]
    · rw [if_neg h, if_neg (fun e => h e.symm)]
  · unfold mx0 at h ⊢
    split at h
    · rename_i e
      rw [if_pos e, e]
      exact Wk.z
    · omega
theorem mxR_ok (hg : GrOk g n) (hM : MxOk g n M) {r : Nat} (hr : r < gc g) : MxOk g n (mxR g M r) := by
  obtain ⟨h1, h2, h3, h4⟩ := hM
  obtain ⟨q1, q2, q3, q4, q5⟩ := hg r hr
  have hb := h1 (gf g r) (gt g r)
  refine ⟨fun a b => ?_, fun a => ?_, fun a b => ?_, fun a b ha hb' h => ?_⟩
  · unfold mxR
    split
    · omega
    · exact h1 a b
  · unfold mxR
    rw [if_neg (fun e => by omega)]
    exact h2 a
  · unfold mxR
    by_cases e : gu g r = true ∧ ((a = gf g r ∧ b = gt g r) ∨ (a = gt g r ∧ b = gf g r))
    · rw [if_pos e, if_pos ⟨e.1, by omega⟩]
    · rw [if_neg e, if_neg (fun e2 => e ⟨e2.1, by omega⟩)]
      exact h3 a b
  · unfold mxR at h ⊢
    by_cases e : gu g r = true ∧ ((a = gf g r ∧ b = gt g r) ∨ (a = gt g r ∧ b = gf g r))
    · have e0 : Wk g (gf g r) (gt g r) (min (gl g r) (M (gf g r) (gt g r))) := by
        by_cases hm : gl g r ≤ M (gf g r) (gt g r)
        · rw [Int.min_eq_left hm]
          have := (Wk.z (g := g) (s := gf g r)).s1 hr e.1
          rw [Int.zero_add] at this
          exact this
        · rw [Int.min_eq_right (by omega)]
          exact h4 _ _ q1 q2 (by omega)
      rw [if_pos e]
      rcases e.2 with ⟨rfl, rfl⟩ | ⟨rfl, rfl⟩
      · exact e0
      · exact e0.sym
    · rw [if_neg e] at h ⊢
      exact h4 a b ha hb' h
theorem mxK_ok (hg : GrOk g n) : ∀ r, r ≤ gc g → MxOk g n (mxK g r)
  | 0, _ => mx0_ok
  | r + 1, h => mxR_ok hg (mxK_ok hg r (by omega)) (by omega)
theorem mxR_le (hM : MxOk g n M) {r : Nat} (a b : Nat) : mxR g M r a b ≤ M a b := by
  obtain ⟨-, -, h3, -⟩ := hM
  unfold mxR
  split
  · rename_i e
    rcases e.2 with ⟨rfl, rfl⟩ | ⟨rfl, rfl⟩
    · omega
    · rw [h3 (gt g r) (gf g r)]
      omega
  · exact Int.le_refl _
theorem mxK_ed (hg : GrOk g n) : ∀ r, r ≤ gc g → ∀ x, x < r → gu g x = true → mxK g r (gf g x) (gt g x) ≤ gl g x
  | 0, _, x, hx, _ => absurd hx (Nat.not_lt_zero _)
  | r + 1, h, x, hx, hu => by
    by_cases hxr : x = r
    · subst hxr
      show mxR g (mxK g x) x _ _ ≤ _
      unfold mxR
      rw [if_pos ⟨hu, Or.inl ⟨rfl, rfl⟩⟩]
      omega
    · have := mxK_ed hg r (by omega) x (by omega) hu
      have h2 := mxR_le (mxK_ok hg r (by omega)) (r := r) (gf g x) (gt g x)
      exact Int.le_trans h2 this
theorem fwS_ok {k : Nat} (hM : MxOk g n M) (hk : k < n) : MxOk g n (fwS k M) := by
  obtain ⟨h1, h2, h3, h4⟩ := hM
  refine ⟨fun a b => ?_, fun a => ?_, fun a b => ?_, fun a b ha hb h => ?_⟩
  · have := h1 a b
    have := h1 a k
    have := h1 k b
    unfold fwS
    omega
  · have := h1 a k
    have := h1 k a
    have := h2 a
    unfold fwS
    omega
  · unfold fwS
    rw [h3 a b, h3 a k, h3 k b, Int.add_comm]
  · have i1 := h1 a k
    have i2 := h1 k b
    unfold fwS at h ⊢
    by_cases hm : M a b ≤ M a k + M k b
    · rw [Int.min_eq_left hm] at h ⊢
      exact h4 a b ha hb h
    · rw [Int.min_eq_right (by omega)] at h ⊢
      exact (h4 a k ha hk (by omega)).tr (h4 k b hk hb (by omega))
theorem fwK_ok (hM : MxOk g n M) : ∀ k, k ≤ n → MxOk g n (fwK M k)
  | 0, _ => hM
  | k + 1, h => fwS_ok (fwK_ok hM k (by omega)) (by omega)
theorem fwK_le : ∀ k a b, fwK M k a b ≤ M a b
  | 0, _, _ => Int.le_refl _
  | k + 1, a, b => by
    have := fwK_le k a b
    show min _ _ ≤ _
    omega
/-- the triangle, over all that were gone through -/
theorem fwK_tri (hM : MxOk g n M) : ∀ k, k ≤ n → ∀ c, c < k → ∀ a b, fwK M k a b ≤ fwK M k a c + fwK M k c b
  | 0, _, c, hc, _, _ => absurd hc (Nat.not_lt_zero _)
  | k + 1, h, c, hc, a, b => by
    obtain ⟨h1, h2, h3, -⟩ := fwK_ok hM k (by omega)
    have e : ∀ x y, fwK M (k + 1) x y = min (fwK M k x y) (fwK M k x k + fwK M k k y) := fun x y => rfl
    rw [e a b, e a c, e c b]
    have hkk := h2 k
    by_cases hck : c = k
    · subst hck
      have := h1 a c
      have := h1 c b
      omega
    · have ih := fwK_tri hM k (by omega) c (by omega)
      have t1 := ih a b
      have t2 := ih a k
      have t3 := ih k b
      have t4 := ih k k
      have p1 := h1 k c
      have p2 := h1 c k
      omega
theorem fw_dst (hg : GrOk g n) (hn : n ≤ 10) {a b : Nat} (ha : a < n) (hb : b < n) : fwK (mxK g (gc g)) n a b = if dst g a b = -1 then 9999 else dst g a b := by
  have hM := mxK_ok hg (gc g) (Nat.le_refl _)
  obtain ⟨h1, h2, h3, h4⟩ := fwK_ok hM n (Nat.le_refl _)
  have tri := fwK_tri hM n (Nat.le_refl _)
  have ed : ∀ r, r < gc g → gu g r = true → fwK (mxK g (gc g)) n (gf g r) (gt g r) ≤ gl g r := fun r hr hu => Int.le_trans (fwK_le n _ _) (mxK_ed hg (gc g) (Nat.le_refl _) r hr hu)
  have wk : ∀ d, Wk g a b d → fwK (mxK g (gc g)) n a b ≤ d := fun d hd => (hd (fun v x => v < n ∧ fwK (mxK g (gc g)) n a v ≤ x) ⟨ha, by rw [h2]; exact Int.le_refl _⟩ (fun r x hr hu => by
    obtain ⟨q1, q2, -⟩ := hg r hr
    have e1 := ed r hr hu
    have e2 := h3 (gf g r) (gt g r)
    have t1 := tri (gf g r) q1 a (gt g r)
    have t2 := tri (gt g r) q2 a (gf g r)
    exact ⟨fun h => ⟨q2, by omega⟩, fun h => ⟨q1, by omega⟩⟩)).2
  have hr := dst_rng hg hn ha hb
  have hb0 := h1 a b
  rcases dst_sp hg ha hb with ⟨e1, e2⟩ | ⟨e1, e2, e3⟩
  · rw [if_pos e1]
    by_cases hlt : fwK (mxK g (gc g)) n a b < 9999
    · exact absurd (h4 a b ha hb hlt) (e2 _)
    · omega
  · rw [if_neg (by omega)]
    have i1 := wk _ e2
    have i2 := e3 _ (h4 a b ha hb (by omega))
    omega
end FWP
