/-! ===== picking the shortest again and again sorts ===== -/
def Lx (le : Nat → Int) (x y : Nat) : Prop := le x < le y ∨ (le x = le y ∧ x < y)
theorem Lx.irr {le : Nat → Int} {x y : Nat} (h1 : Lx le x y) (h2 : Lx le y x) : False := by
  unfold Lx at h1 h2
  omega
theorem ins_lx {le : Nat → Int} {r : Nat} : ∀ {l : List Nat}, (∀ x, x ∈ l → x < r) → l.Pairwise (Lx le) → (ins le r l).Pairwise (Lx le)
  | [], _, _ => List.pairwise_singleton _ _
  | x :: t, h, hp => by
    unfold ins
    obtain ⟨h1, h2⟩ := List.pairwise_cons.mp hp
    by_cases hlt : le r < le x
    · rw [if_pos hlt]
      refine List.pairwise_cons.mpr ⟨fun y hy => ?_, hp⟩
      rcases List.mem_cons.mp hy with rfl | hy
      · exact Or.inl hlt
      · have := h1 y hy
        unfold Lx at this ⊢
        omega
    · rw [if_neg hlt]
      refine List.pairwise_cons.mpr ⟨fun y hy => ?_, ins_lx (fun y hy => h y (List.mem_cons_of_mem _ hy)) h2⟩
      rcases mem_ins.mp hy with rfl | hy
      · have := h x List.mem_cons_self
        unfold Lx
        omega
      · exact h1 y hy
theorem srt_lx {g : Gr} : ∀ {k : Nat}, (srt g k).Pairwise (Lx (gl g))
  | 0 => List.Pairwise.nil
  | k + 1 => by
    unfold srt
    split
    · exact ins_lx (fun x hx => (mem_srt.mp hx).1) srt_lx
    · exact srt_lx
theorem pk_spec {g : Gr} {lk : Nat → Bool} : ∀ {k : Nat}, (pkN g lk k = -1 ∧ ∀ r, r < k → gu g r = true → lk r = true) ∨ ∃ p : Nat, p < k ∧ pkN g lk k = (p : Int) ∧ ¬ lk p = true ∧ gu g p = true ∧ ∀ r, r < k → ¬ lk r = true → gu g r = true → r ≠ p → Lx (gl g) p r
  | 0 => Or.inl ⟨rfl, fun r hr => absurd hr (Nat.not_lt_zero _)⟩
  | k + 1 => by
    have ih := pk_spec (g := g) (lk := lk) (k := k)
    unfold pkN
    by_cases h1 : lk k = true
    · rw [if_pos (Or.inl h1)]
      rcases ih with ⟨a, b⟩ | ⟨p, a, b, c, d, e⟩
      · refine Or.inl ⟨a, fun r hr hu => ?_⟩
        by_cases hrk : r = k
        · rw [hrk]; exact h1
        · exact b r (by omega) hu
      · refine Or.inr ⟨p, by omega, b, c, d, fun r hr hl hu hp => ?_⟩
        by_cases hrk : r = k
        · rw [hrk] at hl; exact absurd h1 hl
        · exact e r (by omega) hl hu hp
    · by_cases h2 : gu g k = true
      · rcases ih with ⟨a, b⟩ | ⟨p, a, b, c, d, e⟩
        · rw [if_neg (by
            intro z
            rcases z with z | z | z
            · exact h1 z
            · exact z h2
            · exact z.1 a)]
          refine Or.inr ⟨k, by omega, rfl, h1, h2, fun r hr hl hu hp => ?_⟩
          exact absurd (b r (by omega) hu) hl
        · rw [b, Int.toNat_natCast]
          by_cases hle : gl g p ≤ gl g k
          · rw [if_pos (Or.inr (Or.inr ⟨by omega, hle⟩))]
            refine Or.inr ⟨p, by omega, rfl, c, d, fun r hr hl hu hp => ?_⟩
            by_cases hrk : r = k
            · subst hrk
              unfold Lx
              omega
            · exact e r (by omega) hl hu hp
          · rw [if_neg (by
              intro z
              rcases z with z | z | z
              · exact h1 z
              · exact z h2
              · exact hle z.2)]
            refine Or.inr ⟨k, by omega, rfl, h1, h2, fun r hr hl hu hp => ?_⟩
            by_cases hrp : r = p
            · subst hrp
              exact Or.inl (by omega)
            · have := e r (by omega) hl hu hrp
              unfold Lx at this ⊢
              omega
      · rw [if_pos (Or.inr (Or.inl h2))]
        rcases ih with ⟨a, b⟩ | ⟨p, a, b, c, d, e⟩
        · refine Or.inl ⟨a, fun r hr hu => ?_⟩
          by_cases hrk : r = k
          · rw [hrk] at hu; exact absurd hu h2
          · exact b r (by omega) hu
        · refine Or.inr ⟨p, by omega, b, c, d, fun r hr hl hu hp => ?_⟩
          by_cases hrk : r = k
          · rw [hrk] at hu; exact absurd hu h2
          · exact e r (by omega) hl hu hp
theorem pk_srt {g : Gr} {lk : Nat → Bool} {A B : List Nat} {x : Nat} (hl : srt g (gc g) = A ++ x :: B) (hk : ∀ r, r < gc g → (lk r = true ↔ r ∈ A)) : pkN g lk (gc g) = (x : Int) := by
  have hp := srt_lx (g := g) (k := gc g)
  rw [hl] at hp
  have hmem : ∀ r, r ∈ A ++ x :: B ↔ r < gc g ∧ gu g r = true := fun r => by
    rw [← hl]
    exact mem_srt
  obtain ⟨p1, p2, p3⟩ := List.pairwise_append.mp hp
  obtain ⟨p4, p5⟩ := List.pairwise_cons.mp p2
  have hx := (hmem x).mp (List.mem_append_right _ List.mem_cons_self)
  have hxA : ¬ x ∈ A := fun hA => (p3 x hA x List.mem_cons_self).irr (p3 x hA x List.mem_cons_self)
  have hxl : ¬ lk x = true := fun h => hxA ((hk x hx.1).mp h)
  rcases pk_spec (g := g) (lk := lk) (k := gc g) with ⟨a, b⟩ | ⟨p, a, b, c, d, e⟩
  · exact absurd (b x hx.1 hx.2) hxl
  · by_cases hpx : p = x
    · rw [b, hpx]
    · have h1 := e x hx.1 hxl hx.2 (Ne.symm hpx)
      have h2 : p ∈ A ++ x :: B := (hmem p).mpr ⟨a, d⟩
      rcases List.mem_append.mp h2 with h2 | h2
      · exact absurd ((hk p a).mpr h2) c
      · rcases List.mem_cons.mp h2 with h2 | h2
        · exact absurd h2 hpx
        · exact (h1.irr (p4 p h2)).elim
theorem pk_end {g : Gr} {lk : Nat → Bool} (hk : ∀ r, r < gc g → (lk r = true ↔ r ∈ srt g (gc g))) : pkN g lk (gc g) = -1 := by
  rcases pk_spec (g := g) (lk := lk) (k := gc g) with ⟨a, b⟩ | ⟨p, a, b, c, d, e⟩
  · exact a
  · exact absurd ((hk p a).mpr (mem_srt.mpr ⟨a, d⟩)) c
