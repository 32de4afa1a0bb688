/-! ===== PURE: counting, ways ===== -/
/-- how many numbers below n have p -/
def cnt (p : Nat → Bool) : Nat → Nat
  | 0 => 0
  | n + 1 => cnt p n + (if p n = true then 1 else 0)
theorem cnt_le (p : Nat → Bool) : ∀ n, cnt p n ≤ n
  | 0 => Nat.le_refl _
  | n + 1 => by
    have := cnt_le p n
    unfold cnt
    split <;> omega
theorem cnt_mono {p q : Nat → Bool} : ∀ {n : Nat}, (∀ i, i < n → p i = true → q i = true) → cnt p n ≤ cnt q n
  | 0, _ => Nat.le_refl _
  | n + 1, h => by
    have h1 := cnt_mono (p := p) (q := q) (n := n) (fun i hi => h i (by omega))
    have h2 := h n (by omega)
    unfold cnt
    split
    · rename_i hp
      rw [if_pos (h2 hp)]
      omega
    · split <;> omega
theorem cnt_lt {p q : Nat → Bool} {i : Nat} : ∀ {n : Nat}, (∀ i, i < n → p i = true → q i = true) → i < n → p i = false → q i = true → cnt p n < cnt q n
  | 0, _, hi, _, _ => absurd hi (Nat.not_lt_zero _)
  | n + 1, h, hi, hp, hq => by
    by_cases hin : i = n
    · subst hin
      have h1 := cnt_mono (p := p) (q := q) (n := i) (fun j hj => h j (by omega))
      unfold cnt
      rw [if_pos hq, if_neg (by rw [hp]; decide)]
      omega
    · have h1 := cnt_lt (p := p) (q := q) (i := i) (n := n) (fun j hj => h j (by omega)) (by omega) hp hq
      have h2 := h n (by omega)
      unfold cnt
      split
      · rename_i hp2
        rw [if_pos (h2 hp2)]
        omega
      · split <;> omega
theorem cnt_all {p : Nat → Bool} : ∀ {n : Nat}, n ≤ cnt p n → ∀ i, i < n → p i = true
  | 0, _, i, hi => absurd hi (Nat.not_lt_zero _)
  | n + 1, h, i, hi => by
    unfold cnt at h
    have h1 := cnt_le p n
    split at h
    · rename_i hp
      by_cases hin : i = n
      · rw [hin]; exact hp
      · exact cnt_all (n := n) (by omega) i (by omega)
    · omega
theorem cnt_congr {p q : Nat → Bool} {n : Nat} (h : ∀ i, i < n → p i = q i) : cnt p n = cnt q n :=
  Nat.le_antisymm (cnt_mono (fun i hi hp => by rw [← h i hi]; exact hp)) (cnt_mono (fun i hi hp => by rw [h i hi]; exact hp))
theorem cnt_pos {p : Nat → Bool} {i n : Nat} (hi : i < n) (hp : p i = true) : 1 ≤ cnt p n := by
  have := cnt_lt (p := fun _ => false) (q := p) (i := i) (n := n) (fun _ _ h => by cases h) hi rfl hp
  omega
/-- setting one more -/
theorem cnt_set {p q : Nat → Bool} {i : Nat} : ∀ {n : Nat}, i < n → p i = false → q i = true → (∀ j, j ≠ i → q j = p j) → cnt q n = cnt p n + 1
  | 0, hi, _, _, _ => absurd hi (Nat.not_lt_zero _)
  | n + 1, hi, hp, hq, h => by
    by_cases hin : i = n
    · subst hin
      have h1 : cnt q i = cnt p i := cnt_congr (fun j hj => h j (by omega))
      unfold cnt
      rw [if_pos hq, if_neg (by rw [hp]; decide), h1]
    · have h1 := cnt_set (p := p) (q := q) (i := i) (n := n) (by omega) hp hq h
      unfold cnt
      rw [h n (fun z => hin z.symm), h1]
      omega
noncomputable def bl (p : Prop) : Bool := @decide p (Classical.propDecidable p)
theorem bl_t {p : Prop} : bl p = true ↔ p := by
  unfold bl
  exact @decide_eq_true_iff p (Classical.propDecidable p)
theorem bl_f {p : Prop} : bl p = false ↔ ¬ p := by
  unfold bl
  exact @decide_eq_false_iff_not p (Classical.propDecidable p)
/-- roads: how many, from, to, length, whether one may go there -/
abbrev Gr : Type := Nat × (Nat → Nat) × (Nat → Nat) × (Nat → Int) × (Nat → Bool)
abbrev gc (g : Gr) : Nat := g.1
abbrev gf (g : Gr) : Nat → Nat := g.2.1
abbrev gt (g : Gr) : Nat → Nat := g.2.2.1
abbrev gl (g : Gr) : Nat → Int := g.2.2.2.1
abbrev gu (g : Gr) : Nat → Bool := g.2.2.2.2
/-- a way of this length -/
def Wk (g : Gr) (s v : Nat) (d : Int) : Prop := ∀ S : Nat → Int → Prop, S s 0 → (∀ r x, r < gc g → gu g r = true → (S (gf g r) x → S (gt g r) (x + gl g r)) ∧ (S (gt g r) x → S (gf g r) (x + gl g r))) → S v d
/-- roads between taverns of n, none a loop, of 1 to 36 miles -/
def GrOk (g : Gr) (n : Nat) : Prop := ∀ r, r < gc g → gf g r < n ∧ gt g r < n ∧ gf g r ≠ gt g r ∧ 1 ≤ gl g r ∧ gl g r ≤ 36
section WAYS
variable {g : Gr} {n s v a b : Nat} {d x y : Int}
theorem Wk.z : Wk g s s 0 := fun _ h _ => h
theorem Wk.s1 {r : Nat} (h : Wk g s (gf g r) x) (hr : r < gc g) (hu : gu g r = true) : Wk g s (gt g r) (x + gl g r) := fun S h0 hs => (hs r x hr hu).1 (h S h0 hs)
theorem Wk.s2 {r : Nat} (h : Wk g s (gt g r) x) (hr : r < gc g) (hu : gu g r = true) : Wk g s (gf g r) (x + gl g r) := fun S h0 hs => (hs r x hr hu).2 (h S h0 hs)
theorem Wk.nn (hg : GrOk g n) (h : Wk g s v d) : 0 ≤ d := h (fun _ x => 0 ≤ x) (Int.le_refl _) (fun r x hr _ => by
  have := (hg r hr).2.2.2.1
  exact ⟨fun h => by omega, fun h => by omega⟩)
theorem Wk.lt (hg : GrOk g n) (hs : s < n) (h : Wk g s v d) : v < n := h (fun v _ => v < n) hs (fun r x hr _ => ⟨fun _ => (hg r hr).2.1, fun _ => (hg r hr).1⟩)
theorem Wk.tr (h1 : Wk g a b x) (h2 : Wk g b v y) : Wk g a v (x + y) := h2 (fun v d => Wk g a v (x + d)) (by rw [Int.add_zero]; exact h1) (fun r z hr hu => by
  rw [← Int.add_assoc]
  exact ⟨fun h => h.s1 hr hu, fun h => h.s2 hr hu⟩)
theorem Wk.sym (h : Wk g a b x) : Wk g b a x := h (fun v d => Wk g v a d) Wk.z (fun r z hr hu => by
  rw [Int.add_comm]
  refine ⟨fun h => Wk.tr ?_ h, fun h => Wk.tr ?_ h⟩
  · have h1 : Wk g (gt g r) (gf g r) (0 + gl g r) := Wk.z.s2 hr hu
    rw [Int.zero_add] at h1
    exact h1
  · have h1 : Wk g (gf g r) (gt g r) (0 + gl g r) := Wk.z.s1 hr hu
    rw [Int.zero_add] at h1
    exact h1)
/-- the last road of a way -/
theorem Wk.last (h : Wk g s v d) : (v = s ∧ d = 0) ∨ ∃ (r : Nat) (x : Int), r < gc g ∧ gu g r = true ∧ d = x + gl g r ∧ ((Wk g s (gf g r) x ∧ v = gt g r) ∨ (Wk g s (gt g r) x ∧ v = gf g r)) := by
  have := h (fun v d => Wk g s v d ∧ ((v = s ∧ d = 0) ∨ ∃ (r : Nat) (x : Int), r < gc g ∧ gu g r = true ∧ d = x + gl g r ∧ ((Wk g s (gf g r) x ∧ v = gt g r) ∨ (Wk g s (gt g r) x ∧ v = gf g r)))) ⟨Wk.z, Or.inl ⟨rfl, rfl⟩⟩ (fun r x hr hu => ⟨fun h => ⟨h.1.s1 hr hu, Or.inr ⟨r, x, hr, hu, rfl, Or.inl ⟨h.1, rfl⟩⟩⟩, fun h => ⟨h.1.s2 hr hu, Or.inr ⟨r, x, hr, hu, rfl, Or.inr ⟨h.1, rfl⟩⟩⟩⟩)
  exact this.2
/-- how far; -1 without a way -/
def IsD (g : Gr) (s v : Nat) (x : Int) : Prop := (x = -1 ∧ ∀ d, ¬ Wk g s v d) ∨ (0 ≤ x ∧ Wk g s v x ∧ ∀ d, Wk g s v d → x ≤ d)
theorem IsD.uq (h1 : IsD g s v x) (h2 : IsD g s v y) : x = y := by
  rcases h1 with ⟨rfl, h1⟩ | ⟨a1, b1, c1⟩ <;> rcases h2 with ⟨rfl, h2⟩ | ⟨a2, b2, c2⟩
  · rfl
  · exact absurd b2 (h1 _)
  · exact absurd b1 (h2 _)
  · exact Int.le_antisymm (c1 _ b2) (c2 _ b1)
theorem IsD.sy (h : IsD g a b x) : IsD g b a x := by
  rcases h with ⟨h1, h2⟩ | ⟨h1, h2, h3⟩
  · exact Or.inl ⟨h1, fun d hd => h2 d hd.sym⟩
  · exact Or.inr ⟨h1, h2.sym, fun d hd => h3 d hd.sym⟩
noncomputable def dst (g : Gr) (s v : Nat) : Int := Classical.epsilon (fun x => IsD g s v x)
theorem dst_eq (h : IsD g s v x) : dst g s v = x := IsD.uq (Classical.epsilon_spec (p := fun x => IsD g s v x) ⟨x, h⟩) h
end WAYS
/-! rows of ways, made better road by road -/
abbrev Row : Type := Nat → Option Int
def rlx (w : Row) (a b : Nat) (l : Int) : Row := match w a with
  | none => w
  | some x => match w b with
    | some y => if y ≤ x + l then w else mUp w b (some (x + l))
    | none => mUp w b (some (x + l))
def rl2 (g : Gr) (w : Row) (r : Nat) : Row := if gu g r = true then rlx (rlx w (gf g r) (gt g r) (gl g r)) (gt g r) (gf g r) (gl g r) else w
def rnd (g : Gr) (w : Row) : Nat → Row
  | 0 => w
  | k + 1 => rl2 g (rnd g w k) k
def rw0 (s : Nat) : Row := fun v => if v = s then some 0 else none
def RI (g : Gr) (n s : Nat) (w : Row) : Prop := w s = some 0 ∧ ∀ v x, w v = some x → v < n ∧ 0 ≤ x ∧ x + 36 ≤ 36 * (cnt (fun v => (w v).isSome) n : Int) ∧ Wk g s v x
def LeR (w' w : Row) : Prop := ∀ v x, w v = some x → ∃ y, w' v = some y ∧ y ≤ x
theorem LeR.rf {w : Row} : LeR w w := fun v x h => ⟨x, h, Int.le_refl _⟩
theorem LeR.tr {a b c : Row} (h1 : LeR a b) (h2 : LeR b c) : LeR a c := fun v x h => by
  obtain ⟨y, e1, e2⟩ := h2 v x h
  obtain ⟨z, e3, e4⟩ := h1 v y e1
  exact ⟨z, e3, Int.le_trans e4 e2⟩
section RELAX
variable {g : Gr} {n s : Nat} {w : Row}
theorem RI.z (hs : s < n) : RI g n s (rw0 s) := by
  refine ⟨if_pos rfl, fun v x h => ?_⟩
  unfold rw0 at h
  split at h
  · rename_i hv
    subst hv
    cases h
    have h1 : 1 ≤ cnt (fun u => (rw0 v u).isSome) n := cnt_pos hs (by unfold rw0; rw [if_pos rfl]; rfl)
    exact ⟨hs, Int.le_refl _, by omega, Wk.z⟩
  · cases h
theorem rlx_cases (w : Row) (a b : Nat) (l : Int) : (rlx w a b l = w ∧ ∀ x, w a = some x → ∃ y, w b = some y ∧ y ≤ x + l) ∨ ∃ x, w a = some x ∧ rlx w a b l = mUp w b (some (x + l)) ∧ ∀ y, w b = some y → x + l < y := by
  unfold rlx
  cases ha : w a with
  | none => exact Or.inl ⟨rfl, fun x h => by cases h⟩
  | some x =>
    cases hb : w b with
    | none => exact Or.inr ⟨x, rfl, rfl, fun y h => by cases h⟩
    | some y =>
      dsimp only
      by_cases h : y ≤ x + l
      · rw [if_pos h]
        exact Or.inl ⟨rfl, fun z hz => by cases hz; exact ⟨y, rfl, h⟩⟩
      · rw [if_neg h]
        exact Or.inr ⟨x, rfl, rfl, fun z hz => by cases hz; omega⟩
theorem rlx_le (w : Row) (a b : Nat) (l : Int) : LeR (rlx w a b l) w := by
  rcases rlx_cases w a b l with ⟨h, -⟩ | ⟨x, h1, h2, h3⟩
  · rw [h]; exact LeR.rf
  · intro v y hv
    rw [h2]
    by_cases hb : v = b
    · subst hb
      exact ⟨x + l, mUp_self _ _ _, by have := h3 y hv; omega⟩
    · exact ⟨y, by rw [mUp_ne hb]; exact hv, Int.le_refl _⟩
theorem rlx_to {a b : Nat} {l x : Int} (hab : a ≠ b) (h : w a = some x) : ∃ y, rlx w a b l b = some y ∧ y ≤ x + l := by
  rcases rlx_cases w a b l with ⟨h1, h2⟩ | ⟨z, h1, h2, h3⟩
  · rw [h1]; exact h2 x h
  · rw [h] at h1
    cases h1
    rw [h2]
    exact ⟨x + l, mUp_self _ _ _, Int.le_refl _⟩
theorem rlx_RI {a b : Nat} {l : Int} (hw : RI g n s w) (hb : b < n) (h1 : 1 ≤ l) (h36 : l ≤ 36) (hk : ∀ x, Wk g s a x → Wk g s b (x + l)) : RI g n s (rlx w a b l) := by
  rcases rlx_cases w a b l with ⟨h, -⟩ | ⟨x, e1, e2, e3⟩
  · rw [h]; exact hw
  · rw [e2]
    obtain ⟨f1, f2⟩ := hw
    obtain ⟨k1, k2, k3, k4⟩ := f2 a x e1
    have hbs : b ≠ s := by
      intro h
      subst h
      have := e3 0 f1
      omega
    have hcn : (cnt (fun v => (w v).isSome) n : Int) + (if (w b).isSome = true then 0 else 1) = (cnt (fun v => (mUp w b (some (x + l)) v).isSome) n : Int) := by
      cases hwb : w b with
      | none =>
        have := cnt_set (p := fun v => (w v).isSome) (q := fun v => (mUp w b (some (x + l)) v).isSome) (i := b) (n := n) hb (by show (w b).isSome = false; rw [hwb]; rfl) (by show (mUp w b _ b).isSome = true; rw [mUp_self]; rfl) (fun j hj => by show (mUp w b _ j).isSome = _; rw [mUp_ne hj])
        rw [this]
        simp
      | some z =>
        have : cnt (fun v => (w v).isSome) n = cnt (fun v => (mUp w b (some (x + l)) v).isSome) n := cnt_congr (fun j hj => by
          by_cases hjb : j = b
          · subst hjb
            show (w j).isSome = (mUp w j _ j).isSome
            rw [mUp_self, hwb]
            rfl
          · show (w j).isSome = (mUp w b _ j).isSome
            rw [mUp_ne hjb])
        rw [this]
        simp
    refine ⟨by rw [mUp_ne (fun h => hbs h.symm)]; exact f1, fun v y hv => ?_⟩
    by_cases hvb : v = b
    · subst hvb
      rw [mUp_self] at hv
      cases hv
      refine ⟨hb, by omega, ?_, hk x k4⟩
      cases hwb : w v with
      | none =>
        rw [hwb] at hcn
        simp at hcn
        omega
      | some z =>
        have h9 := e3 z hwb
        have h8 := (f2 v z hwb).2.2.1
        rw [hwb] at hcn
        simp at hcn
        omega
    · rw [mUp_ne hvb] at hv
      obtain ⟨j1, j2, j3, j4⟩ := f2 v y hv
      refine ⟨j1, j2, ?_, j4⟩
      split at hcn <;> omega
theorem rl2_le (g : Gr) (w : Row) (r : Nat) : LeR (rl2 g w r) w := by
  unfold rl2
  split
  · exact (rlx_le _ _ _ _).tr (rlx_le _ _ _ _)
  · exact LeR.rf
theorem rl2_RI {r : Nat} (hg : GrOk g n) (hw : RI g n s w) (hr : r < gc g) : RI g n s (rl2 g w r) := by
  obtain ⟨h1, h2, h3, h4, h5⟩ := hg r hr
  unfold rl2
  split
  · rename_i hu
    exact rlx_RI (rlx_RI hw h2 h4 h5 (fun x hx => hx.s1 hr hu)) h1 h4 h5 (fun x hx => hx.s2 hr hu)
  · exact hw
theorem rnd_le (g : Gr) (w : Row) : ∀ k, LeR (rnd g w k) w
  | 0 => LeR.rf
  | k + 1 => (rl2_le g _ k).tr (rnd_le g w k)
theorem rnd_RI (hg : GrOk g n) (hw : RI g n s w) : ∀ k, k ≤ gc g → RI g n s (rnd g w k)
  | 0, _ => hw
  | k + 1, hk => rl2_RI hg (rnd_RI hg hw k (by omega)) (by omega)
theorem rnd_st (hg : GrOk g n) : ∀ {k r : Nat}, k ≤ gc g → r < k → gu g r = true → (∀ x, w (gf g r) = some x → ∃ y, rnd g w k (gt g r) = some y ∧ y ≤ x + gl g r) ∧ (∀ x, w (gt g r) = some x → ∃ y, rnd g w k (gf g r) = some y ∧ y ≤ x + gl g r)
  | 0, r, _, hr, _ => absurd hr (Nat.not_lt_zero _)
  | k + 1, r, hk, hr, hu => by
    by_cases hrk : r = k
    · subst hrk
      obtain ⟨h1, h2, h3, h4, h5⟩ := hg r (by omega)
      have hl := rnd_le g w r
      show (∀ x, w (gf g r) = some x → ∃ y, rl2 g (rnd g w r) r (gt g r) = some y ∧ y ≤ x + gl g r) ∧ (∀ x, w (gt g r) = some x → ∃ y, rl2 g (rnd g w r) r (gf g r) = some y ∧ y ≤ x + gl g r)
      unfold rl2
      rw [if_pos hu]
      refine ⟨fun x hx => ?_, fun x hx => ?_⟩
      · obtain ⟨y, e1, e2⟩ := hl _ x hx
        obtain ⟨z, e3, e4⟩ := rlx_to (l := gl g r) h3 e1
        obtain ⟨u, e5, e6⟩ := rlx_le (rlx (rnd g w r) (gf g r) (gt g r) (gl g r)) (gt g r) (gf g r) (gl g r) _ z e3
        exact ⟨u, e5, by omega⟩
      · obtain ⟨y, e1, e2⟩ := hl _ x hx
        obtain ⟨z, e3, e4⟩ := rlx_le (rnd g w r) (gf g r) (gt g r) (gl g r) _ y e1
        obtain ⟨u, e5, e6⟩ := rlx_to (w := rlx (rnd g w r) (gf g r) (gt g r) (gl g r)) (l := gl g r) (fun z => h3 z.symm) e3
        exact ⟨u, e5, by omega⟩
    · obtain ⟨i1, i2⟩ := rnd_st hg (k := k) (r := r) (by omega) (by omega) hu
      have hl := rl2_le g (rnd g w k) k
      refine ⟨fun x hx => ?_, fun x hx => ?_⟩
      · obtain ⟨y, e1, e2⟩ := i1 x hx
        obtain ⟨z, e3, e4⟩ := hl _ y e1
        exact ⟨z, e3, by omega⟩
      · obtain ⟨y, e1, e2⟩ := i2 x hx
        obtain ⟨z, e3, e4⟩ := hl _ y e1
        exact ⟨z, e3, by omega⟩
/-- no way is shorter -/
def Fin1 (g : Gr) (s : Nat) (w : Row) (v : Nat) : Prop := ∀ d, Wk g s v d → ∃ y, w v = some y ∧ y ≤ d
theorem Fin1.le {w' : Row} {v : Nat} (hl : LeR w' w) (h : Fin1 g s w v) : Fin1 g s w' v := fun d hd => by
  obtain ⟨y, e1, e2⟩ := h d hd
  obtain ⟨z, e3, e4⟩ := hl v y e1
  exact ⟨z, e3, by omega⟩
/-- a round that changes nothing: all is done -/
theorem rnd_same (hg : GrOk g n) (h0 : w s = some 0) (hsame : rnd g w (gc g) = w) : ∀ v, Fin1 g s w v := by
  intro v d hd
  refine hd (fun v d => ∃ y, w v = some y ∧ y ≤ d) ⟨0, h0, Int.le_refl _⟩ (fun r x hr hu => ?_)
  obtain ⟨i1, i2⟩ := rnd_st hg (w := w) (k := gc g) (Nat.le_refl _) hr hu
  rw [hsame] at i1 i2
  refine ⟨fun ⟨y, e1, e2⟩ => ?_, fun ⟨y, e1, e2⟩ => ?_⟩
  · obtain ⟨z, e3, e4⟩ := i1 y e1
    exact ⟨z, e3, by omega⟩
  · obtain ⟨z, e3, e4⟩ := i2 y e1
    exact ⟨z, e3, by omega⟩
/-- one more is done behind each round -/
theorem rnd_more (hg : GrOk g n) (hs : s < n) (hw : RI g n s w) (hno : ∃ v, v < n ∧ ¬ Fin1 g s w v) : ∃ v, v < n ∧ ¬ Fin1 g s w v ∧ Fin1 g s (rnd g w (gc g)) v := by
  have key : ∀ (k : Nat) (v : Nat) (d : Int), d.toNat ≤ k → Wk g s v d → (¬ ∃ y, w v = some y ∧ y ≤ d) → ∃ v, v < n ∧ ¬ Fin1 g s w v ∧ Fin1 g s (rnd g w (gc g)) v := by
    intro k
    induction k with
    | zero =>
      intro v d hk hd hb
      have hd0 := hd.nn hg
      rcases hd.last with ⟨rfl, rfl⟩ | ⟨r, x, hr, hu, rfl, h⟩
      · exact absurd ⟨0, hw.1, Int.le_refl _⟩ hb
      · have h1 := (hg r hr).2.2.2.1
        rcases h with ⟨h, -⟩ | ⟨h, -⟩
        · have := h.nn hg; omega
        · have := h.nn hg; omega
    | succ k ih =>
      intro v d hk hd hb
      have hd0 := hd.nn hg
      by_cases hmin : ∃ (v' : Nat) (d' : Int), d' < d ∧ Wk g s v' d' ∧ ¬ ∃ y, w v' = some y ∧ y ≤ d'
      · obtain ⟨v', d', h1, h2, h3⟩ := hmin
        have := h2.nn hg
        exact ih v' d' (by omega) h2 h3
      · refine ⟨v, hd.lt hg hs, fun hf => hb (hf d hd), fun d' hd' => ?_⟩
        have hgood : ∀ v' d', d' < d → Wk g s v' d' → ∃ y, w v' = some y ∧ y ≤ d' := fun v' d' h1 h2 => Classical.byContradiction fun h3 => hmin ⟨v', d', h1, h2, h3⟩
        by_cases hdd : d' < d
        · obtain ⟨y, e1, e2⟩ := hgood v d' hdd hd'
          obtain ⟨z, e3, e4⟩ := rnd_le g w (gc g) v y e1
          exact ⟨z, e3, by omega⟩
        · rcases hd.last with ⟨rfl, rfl⟩ | ⟨r, x, hr, hu, rfl, h⟩
          · exact absurd ⟨0, hw.1, Int.le_refl _⟩ hb
          · have h1 := (hg r hr).2.2.2.1
            obtain ⟨i1, i2⟩ := rnd_st hg (w := w) (k := gc g) (Nat.le_refl _) hr hu
            rcases h with ⟨h, rfl⟩ | ⟨h, rfl⟩
            · obtain ⟨y, e1, e2⟩ := hgood _ x (by omega) h
              obtain ⟨z, e3, e4⟩ := i1 y e1
              exact ⟨z, e3, by omega⟩
            · obtain ⟨y, e1, e2⟩ := hgood _ x (by omega) h
              obtain ⟨z, e3, e4⟩ := i2 y e1
              exact ⟨z, e3, by omega⟩
  obtain ⟨v, hv, hf⟩ := hno
  have : ∃ d, Wk g s v d ∧ ¬ ∃ y, w v = some y ∧ y ≤ d := Classical.byContradiction fun h => hf (fun d hd => Classical.byContradiction fun h2 => h ⟨d, hd, h2⟩)
  obtain ⟨d, h1, h2⟩ := this
  exact key d.toNat v d (Nat.le_refl _) h1 h2
noncomputable def nfin (g : Gr) (s n : Nat) (w : Row) : Nat := cnt (fun v => bl (Fin1 g s w v)) n
theorem nfin_z (hs : s < n) (h0 : w s = some 0) (hg : GrOk g n) : 1 ≤ nfin g s n w := cnt_pos hs (bl_t.mpr (fun d hd => ⟨0, h0, hd.nn hg⟩))
theorem nfin_rnd {k : Nat} (hg : GrOk g n) (hs : s < n) (hw : RI g n s w) (hk : k ≤ nfin g s n w) (hkn : k < n) : k + 1 ≤ nfin g s n (rnd g w (gc g)) := by
  by_cases hno : ∃ v, v < n ∧ ¬ Fin1 g s w v
  · obtain ⟨v, h1, h2, h3⟩ := rnd_more hg hs hw hno
    have := cnt_lt (p := fun v => bl (Fin1 g s w v)) (q := fun v => bl (Fin1 g s (rnd g w (gc g)) v)) (i := v) (n := n) (fun i _ hi => bl_t.mpr ((bl_t.mp hi).le (rnd_le g w _))) h1 (bl_f.mpr h2) (bl_t.mpr h3)
    exact Nat.lt_of_le_of_lt hk this
  · have : n ≤ nfin g s n (rnd g w (gc g)) := by
      have h1 : nfin g s n (rnd g w (gc g)) = cnt (fun _ => true) n := cnt_congr (fun i hi => bl_t.mpr (Fin1.le (rnd_le g w _) (Classical.byContradiction fun h => hno ⟨i, hi, h⟩)))
      rw [h1]
      have : ∀ m, m ≤ cnt (fun _ => true) m := by
        intro m
        induction m with
        | zero => exact Nat.le_refl _
        | succ m ih => unfold cnt; rw [if_pos rfl]; omega
      exact this n
    omega
theorem fin_all (h : n ≤ nfin g s n w) : ∀ v, v < n → Fin1 g s w v := fun v hv => bl_t.mp (cnt_all h v hv)
/-- where all is done, nothing changes any more -/
theorem rlx_fin {a b : Nat} {l : Int} (hw : RI g n s w) (hb : Fin1 g s w b) (hk : ∀ x, Wk g s a x → Wk g s b (x + l)) : rlx w a b l = w := by
  rcases rlx_cases w a b l with ⟨h, -⟩ | ⟨x, e1, e2, e3⟩
  · exact h
  · obtain ⟨y, e4, e5⟩ := hb _ (hk x (hw.2 a x e1).2.2.2)
    have := e3 y e4
    omega
theorem rnd_fin (hg : GrOk g n) (hw : RI g n s w) (hf : ∀ v, v < n → Fin1 g s w v) : ∀ k, k ≤ gc g → rnd g w k = w
  | 0, _ => rfl
  | k + 1, hk => by
    have hr : k < gc g := by omega
    obtain ⟨h1, h2, h3, h4, h5⟩ := hg k hr
    show rl2 g (rnd g w k) k = w
    rw [rnd_fin hg hw hf k (by omega)]
    unfold rl2
    split
    · rename_i hu
      rw [rlx_fin (a := gf g k) (b := gt g k) hw (hf _ h2) (fun x hx => hx.s1 hr hu)]
      exact rlx_fin hw (hf _ h1) (fun x hx => hx.s2 hr hu)
    · rfl
theorem fin_D (hw : RI g n s w) (hf : ∀ v, v < n → Fin1 g s w v) {v : Nat} (hv : v < n) : IsD g s v ((w v).getD (-1)) := by
  cases hx : w v with
  | none =>
    refine Or.inl ⟨rfl, fun d hd => ?_⟩
    obtain ⟨y, e1, -⟩ := hf v hv d hd
    rw [hx] at e1
    cases e1
  | some x =>
    obtain ⟨-, h2, -, h4⟩ := hw.2 v x hx
    refine Or.inr ⟨h2, h4, fun d hd => ?_⟩
    obtain ⟨y, e1, e2⟩ := hf v hv d hd
    rw [hx] at e1
    cases e1
    exact e2
end RELAX
