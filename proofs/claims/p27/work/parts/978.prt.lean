/-! ===== PURE: so many parts as taverns without a road of the net each ===== -/
/-- the least of its label -/
noncomputable def lsB (f : Nat → Nat) (v : Nat) : Bool := bl (∀ p, p < v → f p ≠ f v)
theorem ls_ex (f : Nat → Nat) (v : Nat) : ∃ m, m ≤ v ∧ f m = f v ∧ ∀ p, p < m → f p ≠ f v := by
  have key : ∀ k, (∀ p, p < k → f p ≠ f v) ∨ ∃ m, m < k ∧ f m = f v ∧ ∀ p, p < m → f p ≠ f v := by
    intro k
    induction k with
    | zero => exact Or.inl (fun p hp => absurd hp (Nat.not_lt_zero _))
    | succ k ih =>
      rcases ih with h | ⟨m, h1, h2, h3⟩
      · by_cases hk : f k = f v
        · exact Or.inr ⟨k, Nat.lt_succ_self _, hk, h⟩
        · refine Or.inl (fun p hp => ?_)
          by_cases hpk : p = k
          · rw [hpk]; exact hk
          · exact h p (by omega)
      · exact Or.inr ⟨m, by omega, h2, h3⟩
  rcases key (v + 1) with h | ⟨m, h1, h2, h3⟩
  · exact absurd rfl (h v (Nat.lt_succ_self _))
  · exact ⟨m, by omega, h2, h3⟩
section PRT
variable {g : Gr} {n : Nat}
theorem ksp_ls {S : NS} {x : Nat} (hg : GrOk g n) (hx : x < gc g) (hl : S.1 (gf g x) ≠ S.1 (gt g x)) : cnt (lsB S.1) n = cnt (lsB (ksp g S x).1) n + 1 := by
  obtain ⟨k1, k2, -⟩ := hg x hx
  obtain ⟨a, a1, a2, a3⟩ := ls_ex S.1 (gf g x)
  obtain ⟨b, b1, b2, b3⟩ := ls_ex S.1 (gt g x)
  have hab : a ≠ b := fun h => hl (by rw [← a2, ← b2, h])
  have e : ∀ v, (ksp g S x).1 v = if S.1 v = S.1 (gt g x) then S.1 (gf g x) else S.1 v := fun v => by
    unfold ksp
    rw [if_neg hl]
  have same : ∀ u v, (ksp g S x).1 u = (ksp g S x).1 v ↔ (S.1 u = S.1 v ∨ (S.1 u = S.1 (gf g x) ∧ S.1 v = S.1 (gt g x)) ∨ (S.1 u = S.1 (gt g x) ∧ S.1 v = S.1 (gf g x))) := fun u v => by
    rw [e u, e v]
    split <;> split <;> omega
  have hmax : ∀ M m, (M = max a b) → (m = min a b) → cnt (lsB S.1) n = cnt (lsB (ksp g S x).1) n + 1 := by
    intro M m hM hm
    refine cnt_set (i := M) (by omega) ?_ ?_ (fun v hv => ?_)
    · refine bl_f.mpr (fun h => ?_)
      have := h m (by omega)
      apply this
      rw [same]
      by_cases hc : a < b
      · have e1 : M = b := by omega
        have e2 : m = a := by omega
        rw [e1, e2, a2, b2]
        exact Or.inr (Or.inl ⟨rfl, rfl⟩)
      · have e1 : M = a := by omega
        have e2 : m = b := by omega
        rw [e1, e2, a2, b2]
        exact Or.inr (Or.inr ⟨rfl, rfl⟩)
    · refine bl_t.mpr (fun p hp => ?_)
      by_cases hc : a < b
      · have e1 : M = b := by omega
        rw [e1, b2]
        exact b3 p (by omega)
      · have e1 : M = a := by omega
        rw [e1, a2]
        exact a3 p (by omega)
    · have : (∀ p, p < v → S.1 p ≠ S.1 v) ↔ (∀ p, p < v → (ksp g S x).1 p ≠ (ksp g S x).1 v) := by
        constructor
        · intro h p hp h2
          rw [same] at h2
          rcases h2 with h2 | ⟨h2, h3⟩ | ⟨h2, h3⟩
          · exact h p hp h2
          · have hvb : v = b := by
              have c1 : ¬ b < v := fun hc => h b hc (by rw [b2, h3])
              have c2 : ¬ v < b := fun hc => b3 v hc h3
              omega
            have c3 : ¬ p < a := fun hc => a3 p hc h2
            omega
          · have hva : v = a := by
              have c1 : ¬ a < v := fun hc => h a hc (by rw [a2, h3])
              have c2 : ¬ v < a := fun hc => a3 v hc h3
              omega
            have c3 : ¬ p < b := fun hc => b3 p hc h2
            omega
        · intro h p hp h2
          exact h p hp ((same p v).mpr (Or.inl h2))
      unfold lsB
      by_cases h9 : ∀ p, p < v → S.1 p ≠ S.1 v
      · rw [bl_t.mpr h9, bl_t.mpr (this.mp h9)]
      · rw [bl_f.mpr h9, bl_f.mpr (fun h => h9 (this.mpr h))]
  exact hmax _ _ rfl rfl
theorem fold_ls (hg : GrOk g n) : ∀ {l : List Nat} {S : NS}, (∀ x, x ∈ l → x < gc g) → cnt (lsB (l.foldl (ksp g) S).1) n + (l.foldl (ksp g) S).2.2.2 = cnt (lsB S.1) n + S.2.2.2
  | [], _, _ => rfl
  | x :: l, S, h => by
    rw [List.foldl_cons, fold_ls hg (fun y hy => h y (List.mem_cons_of_mem _ hy))]
    by_cases hl : S.1 (gf g x) = S.1 (gt g x)
    · have : ksp g S x = S := if_pos hl
      rw [this]
    · have := ksp_ls hg (h x List.mem_cons_self) hl
      have e2 : (ksp g S x).2.2.2 = S.2.2.2 + 1 := by
        unfold ksp
        rw [if_neg hl]
      omega
theorem net_jn {u v : Nat} : (net g).1 u = (net g).1 v ↔ Jn g (gu g) u v := by
  have := fold_jn0 (g := g) (l := srt g (gc g)) (fun x hx => (mem_srt.mp hx).1) u v
  unfold net
  rw [this]
  exact ⟨fun h => h.mo (fun i _ hp => (mem_srt.mp (of_decide_eq_true hp)).2), fun h => h.mo (fun i hi hp => decide_eq_true (mem_srt.mpr ⟨hi, hp⟩))⟩
theorem cnt_one {p : Nat → Bool} : ∀ {n : Nat}, (∀ i, i < n → p i = true) → cnt p n = n
  | 0, _ => rfl
  | n + 1, h => by
    unfold cnt
    rw [cnt_one (fun i hi => h i (by omega)), if_pos (h n (by omega))]
theorem net_ls (hg : GrOk g n) : cnt (lsB (net g).1) n + (net g).2.2.2 = n := by
  have := fold_ls hg (l := srt g (gc g)) (S := (fun t => t, fun _ => false, 0, 0)) (fun x hx => (mem_srt.mp hx).1)
  have e2 : cnt (lsB (fun t => t)) n = n := cnt_one (fun i _ => bl_t.mpr (fun p hp => by show p ≠ i; omega))
  unfold net
  rw [this]
  show cnt (lsB (fun t => t)) n + 0 = n
  rw [e2]
  rfl
theorem dst_jn (hg : GrOk g n) {u v : Nat} (hu : u < n) (hv : v < n) : dst g u v ≠ -1 ↔ Jn g (gu g) u v := by
  rcases dst_sp hg hu hv with ⟨e1, e2⟩ | ⟨e1, e2, e3⟩
  · exact ⟨fun h => absurd e1 h, fun h => by
      obtain ⟨d, hd⟩ := h.wk
      exact absurd hd (e2 d)⟩
  · exact ⟨fun _ => e2.jn, fun _ => by omega⟩
theorem fstN_end {p : Nat → Bool} : ∀ {m j : Nat}, fstN p m j = j + m ↔ ∀ i, i < m → p (j + i) = false
  | 0, j => ⟨fun _ i hi => absurd hi (Nat.not_lt_zero _), fun _ => rfl⟩
  | m + 1, j => by
    unfold fstN
    split
    · rename_i h
      refine ⟨fun h2 => by omega, fun h2 => ?_⟩
      have := h2 0 (by omega)
      rw [Nat.add_zero, h] at this
      cases this
    · rename_i h
      have ih := fstN_end (p := p) (m := m) (j := j + 1)
      rw [show j + (m + 1) = j + 1 + m by omega, ih]
      constructor
      · intro h2 i hi
        by_cases hi0 : i = 0
        · subst hi0
          rw [Nat.add_zero]
          exact Bool.eq_false_iff.mpr h
        · have := h2 (i - 1) (by omega)
          rw [show j + 1 + (i - 1) = j + i by omega] at this
          exact this
      · intro h2 i hi
        have := h2 (i + 1) (by omega)
        rw [show j + (i + 1) = j + 1 + i by omega] at this
        exact this
theorem part_ls (hg : GrOk g n) {t : Nat} (ht : t < n) : partP g t = t ↔ lsB (net g).1 t = true := by
  have h1 := fstN_end (p := fun p => decide (dst g t p ≠ -1)) (m := t) (j := 0)
  rw [Nat.zero_add] at h1
  unfold partP lsB
  rw [h1, bl_t]
  constructor
  · intro h p hp h2
    have := h p hp
    rw [Nat.zero_add] at this
    have := of_decide_eq_false this
    exact this ((dst_jn hg ht (by omega)).mpr (net_jn.mp h2).sy)
  · intro h p hp
    rw [Nat.zero_add]
    exact decide_eq_false (fun h2 => h p hp (net_jn.mpr ((dst_jn hg ht (by omega)).mp h2).sy))
theorem sumI_cnt {p : Nat → Bool} : ∀ {n : Nat}, sumI (fun i => if p i = true then (1 : Int) else 0) n = (cnt p n : Int)
  | 0 => rfl
  | n + 1 => by
    have e : cnt p (n + 1) = cnt p n + (if p n = true then 1 else 0) := rfl
    rw [sumI_s, sumI_cnt, e]
    by_cases h : p n = true
    · rw [if_pos h, if_pos h]; rfl
    · rw [if_neg h, if_neg h]; rfl
/-- parts -/
theorem prt_net {Q : Pn} {S : St8} (hS : SOk Q S) : prtS Q S Q.1 = paS Q S := by
  have hg : GrOk (gra Q S (-1)) Q.1 := hS.1.gr
  have h1 := net_ls hg
  have h2 : prtS Q S Q.1 = sumI (fun t => if lsB (net (gra Q S (-1))).1 t = true then (1 : Int) else 0) Q.1 := sumI_congr (fun t ht => by
    have := part_ls hg ht
    by_cases h9 : partP (gra Q S (-1)) t = t
    · rw [if_pos h9, if_pos (this.mp h9)]
    · rw [if_neg h9, if_neg (fun h => h9 (this.mpr h))])
  rw [h2, sumI_cnt]
  unfold paS
  omega
end PRT
