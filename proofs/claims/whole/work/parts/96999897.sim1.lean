/-! ===== PURE: what the class is told, and what the reference ===== -/
/-- the reference's tokens one after another, up to the first error -/
def mAll (K : Nat → Nat) (eq : Nat → Nat → Bool) (nv : Nat → Int) : Nat → Nat → MSt → Int × Nat × MSt
  | 0, k, st => (0, k, st)
  | m + 1, k, st => if (mE K eq nv st k).1 = 0 then mAll K eq nv m (k + 1) (mE K eq nv st k).2 else ((mE K eq nv st k).1, k, st)
/-- all goes on in the sheet's ranges -/
def GdM (tc : Nat) (K : Nat → Nat) (P l : Nat → Nat) (eq : Nat → Nat → Bool) (nv : Nat → Int) : Nat → Nat → MSt → Prop
  | 0, _, _ => True
  | m + 1, k, st => (FrM (tc - 1) P l st.1 ∧ AhM K st.1 st.2 k ∧ ∀ t, t < tc → st.1 1 t = ((kap (K t) : Nat) : Int)) ∧ ((mE K eq nv st k).1 = 0 → GdM tc K P l eq nv m (k + 1) (mE K eq nv st k).2)
/-- the class' state and the reference's, at a token -/
def RS (tc : Nat) (K : Nat → Nat) (sp f4 : Nat → Int) (P l : Nat → Nat) (dr du : Int) (s : NSt) (st : MSt) (n : Nat) : Prop :=
  s.1 = 0 ∧ (st.1 5 0 = s.2.2.2.1 0 ∧ st.1 5 1 = s.2.2.2.1 1 ∧ st.1 5 5 = s.2.2.2.1 2 ∧ (0 ≤ s.2.2.2.1 0 ∧ s.2.2.2.1 0 ≤ 10) ∧ (0 ≤ s.2.2.2.1 1 ∧ s.2.2.2.1 1 ≤ 14) ∧ (0 ≤ s.2.2.2.1 2 ∧ s.2.2.2.1 2 ≤ 6)) ∧
  (∀ S kk : Nat, (S = 0 ∧ kk = 0 ∨ S = 1 ∧ kk = 1 ∨ S = 5 ∧ kk = 2) → ∀ i : Nat, (i : Int) < s.2.2.2.1 kk → ∃ t : Nat, st.1 6 (14 * S + i) = (t : Int) ∧ t < n ∧ t < tc - 1 ∧ K t = 42 ∧ s.2.2.2.2.1 kk i = sp t) ∧
  (st.2 = s.2.2.1 ∧ 0 ≤ st.2 ∧ st.2 ≤ 20) ∧
  ((∀ t, t < n → t < tc → K t = 42 ∨ K t = 43 → st.1 4 t = s.2.2.2.2.2.2.2 4 t) ∧ (∀ t, n ≤ t → st.1 4 t = 0 ∧ s.2.2.2.2.2.2.2 4 t = f4 t) ∧ ∀ t, K t = 43 → s.2.2.2.2.2.2.2 4 t = f4 t) ∧
  ((s.2.2.2.2.2.1 : Int) + dr = s.2.2.2.1 1 ∧ (∀ r, r < s.2.2.2.2.2.1 → st.1 7 r = s.2.2.2.2.2.2.2 7 r ∧ st.1 8 r = s.2.2.2.2.2.2.2 8 r ∧ st.1 9 r = s.2.2.2.2.2.2.2 9 r) ∧ (s.2.2.2.2.2.2.1 : Int) + du = s.2.2.2.1 2 ∧ ∀ r, r < s.2.2.2.2.2.2.1 → st.1 10 r = s.2.2.2.2.2.2.2 10 r ∧ st.1 11 r = s.2.2.2.2.2.2.2 11 r) ∧
  (∀ t, t < tc → st.1 2 t = (P t : Int) ∧ st.1 3 t = (l t : Int) ∧ st.1 1 t = ((kap (K t) : Nat) : Int))
section SIM1
variable {tc n k : Nat} {K : Nat → Nat} {sp f4 : Nat → Int} {P l : Nat → Nat} {dr du : Int} {s : NSt} {st : MSt} {eq : Nat → Nat → Bool} {nv : Nat → Int}
theorem mAll_app : ∀ {a b k : Nat} {st : MSt}, mAll K eq nv (a + b) k st = if (mAll K eq nv a k st).1 = 0 then mAll K eq nv b (k + a) (mAll K eq nv a k st).2.2 else mAll K eq nv a k st
  | 0, b, k, st => by
    rw [Nat.zero_add, Nat.add_zero]
    rfl
  | a + 1, b, k, st => by
    rw [show a + 1 + b = a + b + 1 by omega]
    show (if (mE K eq nv st k).1 = 0 then mAll K eq nv (a + b) (k + 1) (mE K eq nv st k).2 else ((mE K eq nv st k).1, k, st)) = if (if (mE K eq nv st k).1 = 0 then mAll K eq nv a (k + 1) (mE K eq nv st k).2 else ((mE K eq nv st k).1, k, st)).1 = 0 then mAll K eq nv b (k + (a + 1)) (if (mE K eq nv st k).1 = 0 then mAll K eq nv a (k + 1) (mE K eq nv st k).2 else ((mE K eq nv st k).1, k, st)).2.2 else (if (mE K eq nv st k).1 = 0 then mAll K eq nv a (k + 1) (mE K eq nv st k).2 else ((mE K eq nv st k).1, k, st))
    by_cases h : (mE K eq nv st k).1 = 0
    · rw [if_pos h, if_pos h, mAll_app (a := a), show k + (a + 1) = k + 1 + a by omega]
    · rw [if_neg h, if_neg h, if_neg h]
theorem GdM_app : ∀ {a b k : Nat} {st : MSt}, GdM tc K P l eq nv a k st → ((mAll K eq nv a k st).1 = 0 → GdM tc K P l eq nv b (k + a) (mAll K eq nv a k st).2.2) → GdM tc K P l eq nv (a + b) k st
  | 0, b, k, st, _, h2 => by
    rw [Nat.zero_add]
    exact h2 rfl
  | a + 1, b, k, st, h1, h2 => by
    rw [show a + 1 + b = a + b + 1 by omega]
    refine ⟨h1.1, fun z => GdM_app (h1.2 z) (fun y => ?_)⟩
    have e : mAll K eq nv (a + 1) k st = mAll K eq nv a (k + 1) (mE K eq nv st k).2 := if_pos z
    rw [e] at h2
    have := h2 y
    rw [show k + (a + 1) = k + 1 + a by omega] at this
    exact this
/-- the reference at a token -/
theorem RS.fr (h : RS tc K sp f4 P l dr du s st n) : FrM (tc - 1) P l st.1 := by
  obtain ⟨h0, ⟨c0, c1, c2, c3, c4, c5⟩, hn, ho, h4, hr, hk⟩ := h
  refine ⟨⟨(s.2.2.2.1 0).toNat, (s.2.2.2.1 1).toNat, (s.2.2.2.1 2).toNat, by omega, by omega, by omega, by omega, by omega, by omega⟩, fun S i hS hi => ?_, fun t ht => ⟨(hk t (by omega)).1, (hk t (by omega)).2.1⟩⟩
  rcases hS with rfl | rfl | rfl
  · obtain ⟨t, a, -, b, -⟩ := hn 0 0 (Or.inl ⟨rfl, rfl⟩) i (by omega)
    exact ⟨t, a, b⟩
  · obtain ⟨t, a, -, b, -⟩ := hn 1 1 (Or.inr (Or.inl ⟨rfl, rfl⟩)) i (by omega)
    exact ⟨t, a, b⟩
  · obtain ⟨t, a, -, b, -⟩ := hn 5 2 (Or.inr (Or.inr ⟨rfl, rfl⟩)) i (by omega)
    exact ⟨t, a, b⟩
theorem RS.adv (h : RS tc K sp f4 P l dr du s st n) (h1 : K n ≠ 42) (h2 : K n ≠ 43) : RS tc K sp f4 P l dr du s st (n + 1) := by
  obtain ⟨h0, hc, hn, ho, ⟨h4a, h4b, h4c⟩, hr, hk⟩ := h
  refine ⟨h0, hc, fun S kk hS i hi => ?_, ho, ⟨fun t ht htc hKt => ?_, fun t ht => h4b t (by omega), h4c⟩, hr, hk⟩
  · obtain ⟨t, a, b, c⟩ := hn S kk hS i hi
    exact ⟨t, a, by omega, c⟩
  · by_cases htn : t = n
    · subst htn
      omega
    · exact h4a t (by omega) htc hKt
/-- a name that was looked for -/
theorem RS.nm (h : RS tc K sp f4 P l dr du s st n) (hk42 : K n = 42) {x : Int} : RS tc K sp f4 P l dr du (s.1, s.2.1, s.2.2.1, s.2.2.2.1, s.2.2.2.2.1, s.2.2.2.2.2.1, s.2.2.2.2.2.2.1, mUp s.2.2.2.2.2.2.2 4 (mUp (s.2.2.2.2.2.2.2 4) n x)) (mUp st.1 4 (mUp (st.1 4) n x), st.2) (n + 1) := by
  obtain ⟨h0, hc, hn, ho, ⟨h4a, h4b, h4c⟩, hr, hk⟩ := h
  refine ⟨h0, hc, fun S kk hS i hi => ?_, ho, ⟨fun t ht htc hKt => ?_, fun t ht => ?_, fun t ht => ?_⟩, hr, hk⟩
  · obtain ⟨t, a, b, c⟩ := hn S kk hS i hi
    exact ⟨t, a, by omega, c⟩
  · show mUp (st.1 4) n x t = mUp (s.2.2.2.2.2.2.2 4) n x t
    by_cases htn : t = n
    · rw [htn, mUp_self, mUp_self]
    · rw [mUp_ne htn, mUp_ne htn]
      exact h4a t (by omega) htc hKt
  · show mUp (st.1 4) n x t = 0 ∧ mUp (s.2.2.2.2.2.2.2 4) n x t = f4 t
    rw [mUp_ne (by omega), mUp_ne (by omega)]
    exact h4b t (by omega)
  · show mUp (s.2.2.2.2.2.2.2 4) n x t = f4 t
    rw [mUp_ne (fun z => by
      rw [z] at ht
      omega)]
    exact h4c t ht
/-- a number -/
theorem RS.num (h : RS tc K sp f4 P l dr du s st n) (hk43 : K n = 43) : RS tc K sp f4 P l dr du s (mUp st.1 4 (mUp (st.1 4) n (f4 n)), st.2) (n + 1) := by
  obtain ⟨h0, hc, hn, ho, ⟨h4a, h4b, h4c⟩, hr, hk⟩ := h
  refine ⟨h0, hc, fun S kk hS i hi => ?_, ho, ⟨fun t ht htc hKt => ?_, fun t ht => ?_, h4c⟩, hr, hk⟩
  · obtain ⟨t, a, b, c⟩ := hn S kk hS i hi
    exact ⟨t, a, by omega, c⟩
  · show mUp (st.1 4) n (f4 n) t = s.2.2.2.2.2.2.2 4 t
    by_cases htn : t = n
    · rw [htn, mUp_self, h4c n hk43]
    · rw [mUp_ne htn]
      exact h4a t (by omega) htc hKt
  · show mUp (st.1 4) n (f4 n) t = 0 ∧ _
    rw [mUp_ne (by omega)]
    exact h4b t (by omega)
/-- a name that was told -/
theorem RS.told (h : RS tc K sp f4 P l dr du s st n) (hk42 : K n = 42) (hf : f4 n = 0) : RS tc K sp f4 P l dr du s st (n + 1) := by
  obtain ⟨h0, hc, hn, ho, ⟨h4a, h4b, h4c⟩, hr, hk⟩ := h
  refine ⟨h0, hc, fun S kk hS i hi => ?_, ho, ⟨fun t ht htc hKt => ?_, fun t ht => h4b t (by omega), h4c⟩, hr, hk⟩
  · obtain ⟨t, a, b, c⟩ := hn S kk hS i hi
    exact ⟨t, a, by omega, c⟩
  · by_cases htn : t = n
    · subst htn
      obtain ⟨a, b⟩ := h4b t (Nat.le_refl _)
      rw [a, b, hf]
    · exact h4a t (by omega) htc hKt
theorem ix_fst {r : Nat → Int} {x : Int} {p : Nat → Bool} : ∀ {m j : Nat}, (∀ i, j ≤ i → i < j + m → (r i = x ↔ p i = true)) → ixF r x m j = fstI p m j
  | 0, _, _ => rfl
  | m + 1, j, h => by
    unfold ixF fstI
    have hj := h j (Nat.le_refl _) (by omega)
    by_cases hp : p j = true
    · rw [if_pos (hj.mpr hp), if_pos hp]
    · rw [if_neg (fun z => hp (hj.mp z)), if_neg hp]
      exact ix_fst (fun i h1 h2 => h i (by omega) (by omega))
/-- the same place in the lists of names -/
theorem RS.fd (h : RS tc K sp f4 P l dr du s st n) (heq : ∀ i t, i < tc → t < tc → K i = 42 → K t = 42 → (eq i t = true ↔ sp i = sp t)) {S kk t : Nat} (hS : S = 0 ∧ kk = 0 ∨ S = 1 ∧ kk = 1 ∨ S = 5 ∧ kk = 2) (ht : t < tc) (h42 : K t = 42) : fdM eq st.1 S t = nIx (sp t) kk s := by
  obtain ⟨h0, ⟨c0, c1, c2, c3, c4, c5⟩, hn, ho, h4, hr, hk⟩ := h
  have hc : st.1 5 S = s.2.2.2.1 kk := by
    rcases hS with ⟨rfl, rfl⟩ | ⟨rfl, rfl⟩ | ⟨rfl, rfl⟩
    · exact c0
    · exact c1
    · exact c2
  have hnn : 0 ≤ s.2.2.2.1 kk := by
    rcases hS with ⟨rfl, rfl⟩ | ⟨rfl, rfl⟩ | ⟨rfl, rfl⟩ <;> omega
  unfold fdM nIx
  rw [hc]
  refine (ix_fst (fun i h1 h2 => ?_)).symm
  obtain ⟨t', a, b, c, d, e⟩ := hn S kk hS i (by omega)
  rw [a, Int.toNat_natCast, e]
  exact (heq t' t (by omega) ht d h42).symm
end SIM1
