/-! ===== PURE: spellings tell names apart ===== -/
def dgC (x : Int) : Int := if isL x = true then x - 97 + 11 else x - 48 + 1
def spV (B : Nat → Int) (p : Nat) : Nat → Int
  | 0 => 0
  | l + 1 => 37 * spV B p l + dgC (B (p + l))
def pw37 : Nat → Int
  | 0 => 1
  | l + 1 => 37 * pw37 l
section SPELL
variable {B tp T : Nat → Int} {len p l : Nat}
theorem pw37_le : ∀ l, l ≤ 10 → 1 ≤ pw37 l ∧ pw37 l ≤ 4808584372417849 := by
  have h : ∀ l, l < 11 → 1 ≤ pw37 l ∧ pw37 l ≤ 4808584372417849 := by decide
  exact fun l hl => h l (by omega)
theorem ld_cases {x : Int} (h : ldP x = true) : (isL x = true ∧ 97 ≤ x ∧ x ≤ 122) ∨ (isL x = false ∧ 48 ≤ x ∧ x ≤ 57) := by
  unfold ldP at h
  rw [Bool.or_eq_true] at h
  by_cases hl : isL x = true
  · left
    refine ⟨hl, ?_⟩
    unfold isL at hl
    rw [Bool.and_eq_true, decide_eq_true_eq, decide_eq_true_eq] at hl
    exact hl
  · right
    refine ⟨by simpa using hl, ?_⟩
    have hd := h.resolve_left hl
    unfold isDg at hd
    rw [Bool.and_eq_true, decide_eq_true_eq, decide_eq_true_eq] at hd
    exact hd
theorem dgC_rng {x : Int} (h : ldP x = true) : 1 ≤ dgC x ∧ dgC x ≤ 36 := by
  unfold dgC
  rcases ld_cases h with ⟨h1, h2⟩ | ⟨h1, h2⟩
  · rw [if_pos h1]
    omega
  · rw [if_neg (by rw [h1]; decide)]
    omega
theorem dgC_inj {x y : Int} (hx : ldP x = true) (hy : ldP y = true) (h : dgC x = dgC y) : x = y := by
  unfold dgC at h
  rcases ld_cases hx with ⟨h1, h2⟩ | ⟨h1, h2⟩ <;> rcases ld_cases hy with ⟨h3, h4⟩ | ⟨h3, h4⟩
  · rw [if_pos h1, if_pos h3] at h
    omega
  · rw [if_pos h1, if_neg (by rw [h3]; decide)] at h
    omega
  · rw [if_neg (by rw [h1]; decide), if_pos h3] at h
    omega
  · rw [if_neg (by rw [h1]; decide), if_neg (by rw [h3]; decide)] at h
    omega
theorem spV_rng : ∀ {l : Nat}, (∀ i, i < l → ldP (B (p + i)) = true) → 0 ≤ spV B p l ∧ spV B p l < pw37 l ∧ (1 ≤ l → 1 ≤ spV B p l)
  | 0, _ => ⟨Int.le_refl _, (by decide : (0 : Int) < 1), fun h => absurd h (by decide)⟩
  | l + 1, h => by
    obtain ⟨h1, h2, -⟩ := spV_rng (l := l) (fun i hi => h i (by omega))
    have := dgC_rng (h l (by omega))
    show 0 ≤ 37 * spV B p l + dgC (B (p + l)) ∧ 37 * spV B p l + dgC (B (p + l)) < 37 * pw37 l ∧ (1 ≤ l + 1 → 1 ≤ 37 * spV B p l + dgC (B (p + l)))
    omega
theorem spF_V : ∀ {m j : Nat}, j + m ≤ 10 → (∀ i, i < j + m → ldP (B (p + i)) = true) → spF B m (p + j) (spV B p j) = spV B p (j + m)
  | 0, j, _, _ => rfl
  | m + 1, j, h10, h => by
    obtain ⟨h1, h2, -⟩ := spV_rng (B := B) (p := p) (l := j) (fun i hi => h i (by omega))
    have hd := dgC_rng (h j (by omega))
    have hp := pw37_le (j + 1) (by omega)
    have hp1 : pw37 (j + 1) = 37 * pw37 j := rfl
    have e1 : w64 (spV B p j * 37) = spV B p j * 37 := by
      unfold w64
      rw [Int.bmod_def]
      split <;> omega
    have e2 : w64 (spV B p j * 37 + dgC (B (p + j))) = spV B p j * 37 + dgC (B (p + j)) := by
      unfold w64
      rw [Int.bmod_def]
      split <;> omega
    have e3 : spV B p (j + 1) = spV B p j * 37 + dgC (B (p + j)) := by
      show 37 * spV B p j + dgC (B (p + j)) = _
      omega
    have ih := spF_V (m := m) (j := j + 1) (by omega) (fun i hi => h i (by omega))
    show spF B m (p + j + 1) (w64 (w64 (spV B p j * 37) + dgC (B (p + j)))) = spV B p (j + (m + 1))
    rw [e1, e2, ← e3, show j + (m + 1) = j + 1 + m by omega]
    exact ih
theorem spV_inj {B : Nat → Int} : ∀ {l1 l2 p1 p2 : Nat}, (∀ i, i < l1 → ldP (B (p1 + i)) = true) → (∀ i, i < l2 → ldP (B (p2 + i)) = true) → (spV B p1 l1 = spV B p2 l2 ↔ l1 = l2 ∧ ∀ i, i < l1 → B (p1 + i) = B (p2 + i))
  | 0, 0, _, _, _, _ => ⟨fun _ => ⟨rfl, fun i hi => absurd hi (Nat.not_lt_zero _)⟩, fun _ => rfl⟩
  | 0, l2 + 1, p1, p2, _, h2 => by
    have := (spV_rng (B := B) (p := p2) (l := l2 + 1) h2).2.2 (by omega)
    have h0 : spV B p1 0 = 0 := rfl
    constructor
    · intro z
      omega
    · intro z
      omega
  | l1 + 1, 0, p1, p2, h1, _ => by
    have := (spV_rng (B := B) (p := p1) (l := l1 + 1) h1).2.2 (by omega)
    have h0 : spV B p2 0 = 0 := rfl
    constructor
    · intro z
      omega
    · intro z
      omega
  | l1 + 1, l2 + 1, p1, p2, h1, h2 => by
    have ih := spV_inj (l1 := l1) (l2 := l2) (p1 := p1) (p2 := p2) (fun i hi => h1 i (by omega)) (fun i hi => h2 i (by omega))
    have d1 := dgC_rng (h1 l1 (by omega))
    have d2 := dgC_rng (h2 l2 (by omega))
    have e1 : spV B p1 (l1 + 1) = 37 * spV B p1 l1 + dgC (B (p1 + l1)) := rfl
    have e2 : spV B p2 (l2 + 1) = 37 * spV B p2 l2 + dgC (B (p2 + l2)) := rfl
    rw [e1, e2]
    constructor
    · intro z
      have z1 : spV B p1 l1 = spV B p2 l2 := by omega
      have z2 : dgC (B (p1 + l1)) = dgC (B (p2 + l2)) := by omega
      obtain ⟨a, c⟩ := ih.mp z1
      have hb := dgC_inj (h1 l1 (by omega)) (h2 l2 (by omega)) z2
      refine ⟨by omega, fun i hi => ?_⟩
      by_cases hil : i = l1
      · rw [hil, hb, a]
      · exact c i (by omega)
    · rintro ⟨a, c⟩
      have a : l1 = l2 := by omega
      have z1 := ih.mpr ⟨a, fun i hi => c i (by omega)⟩
      have := c l1 (by omega)
      rw [z1, this, a]
theorem scan_all {f : Int → Bool} : ∀ {m p i : Nat}, p ≤ i → i < scan f B m p → f (B i) = true
  | 0, p, i, h1, h2 => by
    have h2 : i < p := h2
    omega
  | m + 1, p, i, h1, h2 => by
    unfold scan at h2
    split at h2
    · rename_i hf
      by_cases hi : i = p
      · rw [hi]
        exact hf
      · exact scan_all (by omega) h2
    · omega
/-- a name or a word: letters and digits, ten at most -/
theorem nm_ch {t : Nat} (h : tkK tp len t = 42) : tkP tp len t < len ∧ tkP tp len t < tkE tp len (t + 1) ∧ tkE tp len (t + 1) ≤ len ∧ tkE tp len (t + 1) - tkP tp len t ≤ 10 ∧ ∀ i, tkP tp len t ≤ i → i < tkE tp len (t + 1) → ldP (tp i) = true := by
  have hkn : knT tp (tkP tp len t) (tkE tp len (t + 1)) = 42 := by
    unfold tkK at h
    split at h
    · cases h
    · exact h
  have hE : tkE tp len (t + 1) = endT tp len (tkP tp len t) := rfl
  have hEl := (tkE_le (B := tp) (len := len) (t := t + 1)).1
  unfold knT at hkn
  by_cases h1 : tkE tp len (t + 1) ≤ tkP tp len t
  · rw [if_pos h1] at hkn
    cases hkn
  rw [if_neg h1] at hkn
  by_cases hL : isL (tp (tkP tp len t)) = true
  · rw [if_pos hL] at hkn
    by_cases h10 : 10 < tkE tp len (t + 1) - tkP tp len t
    · rw [if_pos h10] at hkn
      cases hkn
    · refine ⟨by omega, by omega, hEl, by omega, fun i hi1 hi2 => ?_⟩
      by_cases hip : i = tkP tp len t
      · rw [hip]
        unfold ldP
        rw [hL, Bool.true_or]
      · rw [hE] at hi2
        unfold endT at hi2
        rw [if_neg (by omega), if_pos hL] at hi2
        exact scan_all (by omega) hi2
  · rw [if_neg hL] at hkn
    exfalso
    split at hkn
    · split at hkn <;> cases hkn
    · have hno : ∀ m a, a + m ≤ 46 → spK tp (tkP tp len t) (tkE tp len (t + 1)) 44 m a ≠ 42 := by
        intro m
        induction m with
        | zero =>
          intro a _ z
          cases z
        | succ m ih =>
          intro a ha z
          unfold spK at z
          split at z
          · rename_i hm
            subst z
            unfold mtB at hm
            have h42 : (txt 42).length = 0 := by decide
            rw [h42, decide_eq_false (by omega)] at hm
            cases hm
          · exact ih (a + 1) (by omega) z
      exact hno 46 0 (by omega) hkn
theorem nm_ln {t : Nat} (h : tkK tp len t = 42) : lnM tp len (tkP tp len t) = tkE tp len (t + 1) - tkP tp len t := by
  unfold lnM
  rw [if_pos (nm_ch h).1]
  rfl
/-- two names are the same where their spellings are -/
theorem nm_eq (hT : Tp T tp len) {i k : Nat} (hi : tkK tp len i = 42) (hk : tkK tp len k = 42) : eqM T (tkP tp len) (fun t => lnM tp len (tkP tp len t)) i k = true ↔ tkS tp len i = tkS tp len k := by
  obtain ⟨a1, a2, a3, a4, a5⟩ := nm_ch hi
  obtain ⟨b1, b2, b3, b4, b5⟩ := nm_ch hk
  have s1 : tkS tp len i = spV tp (tkP tp len i) (tkE tp len (i + 1) - tkP tp len i) := by
    unfold tkS
    rw [if_pos hi]
    have := spF_V (B := tp) (p := tkP tp len i) (m := tkE tp len (i + 1) - tkP tp len i) (j := 0) (by omega) (fun x hx => a5 _ (by omega) (by omega))
    rw [Nat.add_zero, Nat.zero_add] at this
    exact this
  have s2 : tkS tp len k = spV tp (tkP tp len k) (tkE tp len (k + 1) - tkP tp len k) := by
    unfold tkS
    rw [if_pos hk]
    have := spF_V (B := tp) (p := tkP tp len k) (m := tkE tp len (k + 1) - tkP tp len k) (j := 0) (by omega) (fun x hx => b5 _ (by omega) (by omega))
    rw [Nat.add_zero, Nat.zero_add] at this
    exact this
  rw [s1, s2, spV_inj (fun x hx => a5 _ (by omega) (by omega)) (fun x hx => b5 _ (by omega) (by omega))]
  have tT : ∀ x, x < len → ldP (tp x) = true → T x = tp x := fun x hx hl => by
    obtain ⟨t1, t2, t3, t4⟩ := hT x hx
    by_cases h128 : T x < 128
    · exact (t3 h128).symm
    · have := t4 (by omega)
      rcases ld_cases hl with ⟨-, y, -⟩ | ⟨-, y, -⟩ <;> omega
  unfold eqM smT
  dsimp only
  rw [Bool.and_eq_true, decide_eq_true_eq, decide_eq_true_eq, nm_ln hi, nm_ln hk]
  constructor
  · rintro ⟨h1, h2⟩
    refine ⟨h1, fun x hx => ?_⟩
    rw [← tT _ (by omega) (a5 _ (by omega) (by omega)), ← tT _ (by omega) (b5 _ (by omega) (by omega))]
    exact h2 x hx
  · rintro ⟨h1, h2⟩
    refine ⟨h1, fun x hx => ?_⟩
    rw [tT _ (by omega) (a5 _ (by omega) (by omega)), tT _ (by omega) (b5 _ (by omega) (by omega))]
    exact h2 x hx
/-- a number: digits -/
theorem nu_ch (hT : Tp T tp len) {t : Nat} (h : tkK tp len t = 43) : tkP tp len t < len ∧ lnM tp len (tkP tp len t) = tkE tp len (t + 1) - tkP tp len t ∧ tkP tp len t < tkE tp len (t + 1) ∧ tkE tp len (t + 1) ≤ len ∧ ∀ i, tkP tp len t ≤ i → i < tkE tp len (t + 1) → T i = tp i := by
  have hkn : knT tp (tkP tp len t) (tkE tp len (t + 1)) = 43 := by
    unfold tkK at h
    split at h
    · cases h
    · exact h
  have hE : tkE tp len (t + 1) = endT tp len (tkP tp len t) := rfl
  have hEl := (tkE_le (B := tp) (len := len) (t := t + 1)).1
  have h43 : ∀ o m a, o ≠ 43 → a + m ≤ 46 → tkP tp len t < tkE tp len (t + 1) → spK tp (tkP tp len t) (tkE tp len (t + 1)) o m a ≠ 43 := by
    intro o m
    induction m with
    | zero =>
      intro a ho _ _
      exact ho
    | succ m ih =>
      intro a ho ha hlt z
      unfold spK at z
      split at z
      · rename_i hm
        subst z
        unfold mtB at hm
        have h42 : (txt 43).length = 0 := by decide
        rw [h42, decide_eq_false (by omega)] at hm
        cases hm
      · exact ih (a + 1) ho (by omega) hlt z
  unfold knT at hkn
  by_cases h1 : tkE tp len (t + 1) ≤ tkP tp len t
  · rw [if_pos h1] at hkn
    cases hkn
  rw [if_neg h1] at hkn
  by_cases hL : isL (tp (tkP tp len t)) = true
  · rw [if_pos hL] at hkn
    exfalso
    split at hkn
    · cases hkn
    · exact h43 42 46 0 (by decide) (by omega) (by omega) hkn
  rw [if_neg hL] at hkn
  by_cases hD : isDg (tp (tkP tp len t)) = true
  · refine ⟨by omega, ?_, by omega, hEl, fun i hi1 hi2 => ?_⟩
    · unfold lnM
      rw [if_pos (by omega)]
      rfl
    · have hd : isDg (tp i) = true := by
        by_cases hip : i = tkP tp len t
        · rw [hip]
          exact hD
        · rw [hE] at hi2
          unfold endT at hi2
          rw [if_neg (by omega), if_neg hL, if_pos hD] at hi2
          exact scan_all (by omega) hi2
      obtain ⟨t1, t2, t3, t4⟩ := hT i (by omega)
      unfold isDg at hd
      rw [Bool.and_eq_true, decide_eq_true_eq, decide_eq_true_eq] at hd
      by_cases h128 : T i < 128
      · exact (t3 h128).symm
      · have := t4 (by omega)
        omega
  · rw [if_neg hD] at hkn
    exact absurd hkn (h43 44 46 0 (by decide) (by omega) (by omega))
end SPELL
