/-! ===== TOKENS OF A TEXT THAT IS MADE OF WORDS ===== -/
abbrev Pw : Type := List Nat × List Nat × List Nat
/-- blanks, a word, blanks -/
def flat : List Pw → List Nat
  | [] => []
  | p :: ps => p.1 ++ (p.2.1 ++ (p.2.2 ++ flat ps))
theorem flat_app : ∀ {a b : List Pw}, flat (a ++ b) = flat a ++ flat b
  | [], _ => rfl
  | p :: a, b => by
    show p.1 ++ (p.2.1 ++ (p.2.2 ++ flat (a ++ b))) = (p.1 ++ (p.2.1 ++ (p.2.2 ++ flat a))) ++ flat b
    rw [flat_app (a := a), List.append_assoc, List.append_assoc, List.append_assoc]
def blkB (g : List Nat) : Bool := g.all (fun x => bkP (x : Int))
def isWord (w : List Nat) : Bool := match w with
  | [] => false
  | c :: t => if isL (c : Int) = true then t.all (fun x => ldP (x : Int)) else if isDg (c : Int) = true then t.all (fun x => isDg (x : Int)) else !bkP (c : Int) && (t.isEmpty || ((c == 60 || c == 62) && t == [61]))
/-- what may not follow a word -/
def stopB (w : List Nat) (c : Nat) : Bool := match w with
  | [] => true
  | a :: t => if isL (a : Int) = true then !ldP (c : Int) else if isDg (a : Int) = true then !isDg (c : Int) else if (a == 60 || a == 62) && t.isEmpty then !(c == 61) else true
def stopO (w : List Nat) (o : Option Nat) : Bool := match o with
  | none => true
  | some c => stopB w c
def orE (a b : Option Nat) : Option Nat := match a with
  | none => b
  | some c => some c
def hdO (ps : List Pw) (nx : Option Nat) : Option Nat := orE (flat ps).head? nx
def good : List Pw → Option Nat → Prop
  | [], _ => True
  | p :: ps, nx => blkB p.1 = true ∧ blkB p.2.2 = true ∧ isWord p.2.1 = true ∧ stopO p.2.1 (orE p.2.2.head? (hdO ps nx)) = true ∧ good ps nx
theorem hdO_app {a b : List Pw} {nx : Option Nat} : hdO (a ++ b) nx = hdO a (hdO b nx) := by
  unfold hdO
  rw [flat_app]
  cases h : flat a with
  | nil => rfl
  | cons c t => rfl
theorem good_app : ∀ {a b : List Pw} {nx : Option Nat}, good (a ++ b) nx ↔ good a (hdO b nx) ∧ good b nx
  | [], _, _ => ⟨fun h => ⟨trivial, h⟩, fun h => h.2⟩
  | p :: a, b, nx => by
    show (_ ∧ _ ∧ _ ∧ stopO p.2.1 (orE p.2.2.head? (hdO (a ++ b) nx)) = true ∧ good (a ++ b) nx) ↔ (_ ∧ _ ∧ _ ∧ stopO p.2.1 (orE p.2.2.head? (hdO a (hdO b nx))) = true ∧ good a (hdO b nx)) ∧ _
    rw [hdO_app, good_app (a := a)]
    exact ⟨fun ⟨h1, h2, h3, h4, h5, h6⟩ => ⟨⟨h1, h2, h3, h4, h5⟩, h6⟩, fun ⟨⟨h1, h2, h3, h4, h5⟩, h6⟩ => ⟨h1, h2, h3, h4, h5, h6⟩⟩
/-! one word -/
theorem scan_to {f : Int → Bool} {B : Nat → Int} : ∀ {k m p : Nat}, k ≤ m → (∀ i, i < k → f (B (p + i)) = true) → (k < m → f (B (p + k)) = false) → scan f B m p = p + k
  | 0, 0, p, _, _, _ => rfl
  | 0, m + 1, p, _, _, h => by
    unfold scan
    have := h (by omega)
    rw [Nat.add_zero] at this
    rw [this, if_neg (by decide)]
    rfl
  | k + 1, 0, _, h, _, _ => by omega
  | k + 1, m + 1, p, h1, h2, h3 => by
    unfold scan
    have := h2 0 (by omega)
    rw [Nat.add_zero] at this
    rw [this, if_pos rfl, scan_to (k := k) (m := m) (p := p + 1) (by omega) (fun i hi => by rw [show p + 1 + i = p + (i + 1) by omega]; exact h2 (i + 1) (by omega)) (fun h => by rw [show p + 1 + k = p + (k + 1) by omega]; exact h3 (by omega))]
    omega
/-- the text at a place -/
def At (B : Nat → Int) (p : Nat) (W : List Nat) : Prop := ∀ i, i < W.length → B (p + i) = tx W i
theorem At.l {B : Nat → Int} {p : Nat} {W V : List Nat} (h : At B p (W ++ V)) : At B p W := fun i hi => by
  rw [h i (by rw [List.length_append]; omega), tx_l hi]
theorem At.r {B : Nat → Int} {p : Nat} {W V : List Nat} (h : At B p (W ++ V)) : At B (p + W.length) V := fun i hi => by
  have := h (W.length + i) (by rw [List.length_append]; omega)
  rw [tx_r (by omega), Nat.add_sub_cancel_left] at this
  rw [Nat.add_assoc]
  exact this
theorem At.hd {B : Nat → Int} {p c : Nat} {W : List Nat} (h : At B p W) (hc : W.head? = some c) : B p = (c : Int) ∧ 1 ≤ W.length := by
  cases W with
  | nil => cases hc
  | cons a t =>
    have ha : a = c := Option.some.inj hc
    subst ha
    exact ⟨h 0 (Nat.succ_pos _), Nat.succ_pos _⟩
theorem all_tx {f : Int → Bool} {W : List Nat} (h : W.all (fun x => f (x : Int)) = true) {i : Nat} (hi : i < W.length) : f (tx W i) = true := by
  rw [List.all_eq_true] at h
  have := h W[i] (List.getElem_mem hi)
  show f ((W.getD i 0 : Nat) : Int) = true
  rw [List.getD_eq_getElem?_getD, List.getElem?_eq_getElem hi]
  exact this
/-- blanks, then something else -/
theorem plc_at {B : Nat → Int} {len p : Nat} {g V : List Nat} (hA : At B p (g ++ V)) (hl : p + (g ++ V).length = len) (hg : blkB g = true) (hV : ∀ c, V.head? = some c → bkP (c : Int) = false) : plcT B len p = p + g.length := by
  rw [List.length_append] at hl
  refine scan_to (by omega) (fun i hi => ?_) (fun h => ?_)
  · rw [hA.l i hi]
    exact all_tx hg hi
  · cases V with
    | nil => rw [List.length_nil] at hl; omega
    | cons c t =>
      have := (hA.r.hd (c := c) rfl).1
      rw [this]
      exact hV c rfl
theorem word_hd {w : List Nat} (h : isWord w = true) : ∃ c, w.head? = some c ∧ bkP (c : Int) = false := by
  cases w with
  | nil => cases h
  | cons c t =>
    refine ⟨c, rfl, ?_⟩
    unfold isWord at h
    dsimp only at h
    unfold bkP
    by_cases h1 : isL (c : Int) = true
    · unfold isL at h1
      simp only [Bool.and_eq_true, decide_eq_true_eq] at h1
      rw [decide_eq_false (by omega), decide_eq_false (by omega)]
      rfl
    · rw [if_neg h1] at h
      by_cases h2 : isDg (c : Int) = true
      · unfold isDg at h2
        simp only [Bool.and_eq_true, decide_eq_true_eq] at h2
        rw [decide_eq_false (by omega), decide_eq_false (by omega)]
        rfl
      · rw [if_neg h2] at h
        rw [Bool.and_eq_true] at h
        have := h.1
        unfold bkP at this
        revert this
        generalize (decide ((c : Int) = 32) || decide ((c : Int) = 10)) = b
        intro hb
        cases b
        · rfl
        · cases hb
theorem end_at {B : Nat → Int} {len p : Nat} {w V : List Nat} (hA : At B p (w ++ V)) (hl : p + (w ++ V).length = len) (hw : isWord w = true) (hs : stopO w V.head? = true) : endT B len p = p + w.length := by
  rw [List.length_append] at hl
  cases w with
  | nil => cases hw
  | cons c t =>
    have hB : B p = (c : Int) := (hA.hd (c := c) rfl).1
    have hA1 : At B (p + 1) (t ++ V) := by
      have := At.r (W := [c]) (V := t ++ V) hA
      exact this
    rw [List.length_cons] at hl
    have hp : ¬ len ≤ p := by omega
    have hnx : t.length < len - (p + 1) → ∃ d, V.head? = some d ∧ B (p + 1 + t.length) = (d : Int) := fun h => by
      cases V with
      | nil => rw [List.length_nil] at hl; omega
      | cons d u => exact ⟨d, rfl, (hA1.r.hd (c := d) rfl).1⟩
    unfold endT
    rw [if_neg hp, hB]
    unfold isWord at hw
    unfold stopO stopB at hs
    dsimp only at hw hs
    by_cases h1 : isL (c : Int) = true
    · rw [if_pos h1] at hw ⊢
      rw [scan_to (k := t.length) (by omega) (fun i hi => ?_) (fun h => ?_)]
      · rw [List.length_cons]; omega
      · rw [hA1.l i hi]
        exact all_tx hw hi
      · obtain ⟨d, e1, e2⟩ := hnx h
        rw [e1] at hs
        dsimp only at hs
        rw [if_pos h1] at hs
        rw [e2]
        revert hs
        cases ldP (d : Int) <;> intro hs <;> first | rfl | cases hs
    · rw [if_neg h1] at hw ⊢
      by_cases h2 : isDg (c : Int) = true
      · rw [if_pos h2] at hw ⊢
        rw [scan_to (k := t.length) (by omega) (fun i hi => ?_) (fun h => ?_)]
        · rw [List.length_cons]; omega
        · rw [hA1.l i hi]
          exact all_tx hw hi
        · obtain ⟨d, e1, e2⟩ := hnx h
          rw [e1] at hs
          dsimp only at hs
          rw [if_neg h1, if_pos h2] at hs
          rw [e2]
          revert hs
          cases isDg (d : Int) <;> intro hs <;> first | rfl | cases hs
      · rw [if_neg h2] at hw ⊢
        rw [Bool.and_eq_true, Bool.or_eq_true] at hw
        have hw2 := hw.2
        rcases hw2 with h3 | h3
        · have ht : t = [] := List.isEmpty_iff.mp h3
          subst ht
          rw [if_neg]
          · rfl
          · rintro ⟨h4, h5, h6⟩
            obtain ⟨d, e1, e2⟩ := hnx (by rw [List.length_nil]; omega)
            rw [List.length_nil, Nat.add_zero] at e2
            rw [h6] at e2
            have hd : d = 61 := by omega
            subst hd
            rw [e1] at hs
            dsimp only at hs
            rw [if_neg h1, if_neg h2] at hs
            have h7 : (c == 60 || c == 62) = true := by
              rcases h4 with h4 | h4
              · have : c = 60 := by omega
                rw [this]; rfl
              · have : c = 62 := by omega
                rw [this]; rfl
            rw [h7] at hs
            cases hs
        · rw [Bool.and_eq_true, Bool.or_eq_true] at h3
          obtain ⟨h4, h5⟩ := h3
          have ht : t = [61] := eq_of_beq h5
          subst ht
          have e1 : B (p + 1) = 61 := (hA1.l.hd (c := 61) rfl).1
          have hl1 : ([61] : List Nat).length = 1 := rfl
          rw [hl1] at hl
          rw [if_pos]
          · rfl
          · refine ⟨?_, by omega, e1⟩
            rcases h4 with h4 | h4
            · have := eq_of_beq h4
              omega
            · have := eq_of_beq h4
              omega
/-! what is read of a word -/
def kndW (w : List Nat) : Nat := knT (tx w) 0 w.length
def valW (w : List Nat) : Int := nmF (tx w) w.length 0 0
def spW (w : List Nat) : Int := spF (tx w) w.length 0 0
theorem mtB_at {B : Nat → Int} {p a : Nat} {w : List Nat} (hA : At B p w) : mtB B p (p + w.length) a = mtB (tx w) 0 w.length a := by
  unfold mtB
  rw [Nat.add_sub_cancel_left, Nat.sub_zero]
  by_cases h : (txt a).length = w.length
  · congr 1
    refine decide_eq_decide.mpr ⟨fun g i hi => ?_, fun g i hi => ?_⟩
    · rw [g i hi, hA i (by omega), Nat.zero_add]
    · rw [g i hi, hA i (by omega), Nat.zero_add]
  · rw [decide_eq_false h]
    rfl
theorem spK_at {B : Nat → Int} {p o : Nat} {w : List Nat} (hA : At B p w) : ∀ {m a : Nat}, spK B p (p + w.length) o m a = spK (tx w) 0 w.length o m a
  | 0, _ => rfl
  | m + 1, a => by
    unfold spK
    rw [mtB_at hA, spK_at hA (m := m)]
theorem knT_at {B : Nat → Int} {p : Nat} {w : List Nat} (hA : At B p w) (h1 : 1 ≤ w.length) : knT B p (p + w.length) = kndW w := by
  unfold kndW knT
  have hB : B p = tx w 0 := hA 0 (by omega)
  have hn : ¬ w.length ≤ 0 := by omega
  have hn2 : ¬ p + w.length ≤ p := by omega
  rw [if_neg hn2, if_neg hn, hB, Nat.add_sub_cancel_left, Nat.sub_zero]
  simp only [spK_at hA]
theorem nmF_at {B : Nat → Int} : ∀ {m p q : Nat} {x : Int} {A : Nat → Int}, (∀ i, i < m → B (p + i) = A (q + i)) → nmF B m p x = nmF A m q x
  | 0, _, _, _, _, _ => rfl
  | m + 1, p, q, x, A, h => by
    unfold nmF
    have h0 := h 0 (by omega)
    rw [Nat.add_zero, Nat.add_zero] at h0
    rw [h0]
    exact nmF_at (fun i hi => by rw [show p + 1 + i = p + (i + 1) by omega, show q + 1 + i = q + (i + 1) by omega]; exact h (i + 1) (by omega))
theorem spF_at {B : Nat → Int} : ∀ {m p q : Nat} {x : Int} {A : Nat → Int}, (∀ i, i < m → B (p + i) = A (q + i)) → spF B m p x = spF A m q x
  | 0, _, _, _, _, _ => rfl
  | m + 1, p, q, x, A, h => by
    unfold spF
    have h0 := h 0 (by omega)
    rw [Nat.add_zero, Nat.add_zero] at h0
    rw [h0]
    exact spF_at (fun i hi => by rw [show p + 1 + i = p + (i + 1) by omega, show q + 1 + i = q + (i + 1) by omega]; exact h (i + 1) (by omega))
theorem blkB_app {a b : List Nat} (h1 : blkB a = true) (h2 : blkB b = true) : blkB (a ++ b) = true := by
  unfold blkB at h1 h2 ⊢
  rw [List.all_append, h1, h2]
  rfl
abbrev p0 : Pw := ([], [], [])
/-- all tokens of a text -/
theorem lex {B : Nat → Int} {len : Nat} : ∀ {ps : List Pw} {t P : Nat} {c : List Nat}, blkB c = true → good ps none → tkE B len t = P → At B P (c ++ flat ps) → P + (c ++ flat ps).length = len →
    (∀ j, j < ps.length → knT B (tkP B len (t + j)) (tkE B len (t + j + 1)) = kndW (ps.getD j p0).2.1 ∧ nmF B (tkE B len (t + j + 1) - tkP B len (t + j)) (tkP B len (t + j)) 0 = valW (ps.getD j p0).2.1 ∧ spF B (tkE B len (t + j + 1) - tkP B len (t + j)) (tkP B len (t + j)) 0 = spW (ps.getD j p0).2.1) ∧ knT B (tkP B len (t + ps.length)) (tkE B len (t + ps.length + 1)) = 45
  | [], t, P, c, hc, _, hE, hA, hl => by
    refine ⟨fun j hj => absurd hj (Nat.not_lt_zero _), ?_⟩
    have e : c ++ flat [] = c := List.append_nil c
    rw [e] at hA hl
    have hp : tkP B len t = len := by
      show plcT B len (tkE B len t) = len
      rw [hE, plc_at (g := c) (V := []) (by rw [List.append_nil]; exact hA) (by rw [List.append_nil]; exact hl) hc (fun c h => by cases h)]
      exact hl
    show knT B (tkP B len t) (endT B len (tkP B len t)) = 45
    rw [hp]
    unfold endT
    rw [if_pos (Nat.le_refl _)]
    unfold knT
    rw [if_pos (Nat.le_refl _)]
  | p :: ps, t, P, c, hc, hg, hE, hA, hl => by
    obtain ⟨g1, g2', g2, g3, g4⟩ := hg
    have e : c ++ flat (p :: ps) = (c ++ p.1) ++ (p.2.1 ++ (p.2.2 ++ flat ps)) := (List.append_assoc _ _ _).symm
    rw [e] at hA hl
    obtain ⟨d, c1, c2⟩ := word_hd g2
    have hw1 : 1 ≤ p.2.1.length := by
      cases h : p.2.1 with
      | nil => rw [h] at c1; cases c1
      | cons a b => exact Nat.succ_pos _
    have hp : tkP B len t = P + (c ++ p.1).length := by
      show plcT B len (tkE B len t) = _
      rw [hE]
      refine plc_at hA hl (blkB_app hc g1) (fun d' hd => ?_)
      have : (p.2.1 ++ (p.2.2 ++ flat ps)).head? = some d := by
        cases h : p.2.1 with
        | nil => rw [h] at c1; cases c1
        | cons a b => rw [h] at c1; exact c1
      rw [this] at hd
      cases hd
      exact c2
    have hA1 := hA.r
    have hl1 : P + (c ++ p.1).length + (p.2.1 ++ (p.2.2 ++ flat ps)).length = len := by
      rw [List.length_append] at hl
      omega
    have hst : stopO p.2.1 (p.2.2 ++ flat ps).head? = true := by
      have : (p.2.2 ++ flat ps).head? = orE p.2.2.head? (hdO ps none) := by
        unfold hdO
        cases p.2.2 with
        | nil => cases flat ps <;> rfl
        | cons a b => rfl
      rw [this]
      exact g3
    have hE1 : tkE B len (t + 1) = P + (c ++ p.1).length + p.2.1.length := by
      show endT B len (tkP B len t) = _
      rw [hp]
      exact end_at hA1 hl1 g2 hst
    obtain ⟨i1, i2⟩ := lex (ps := ps) (t := t + 1) g2' g4 hE1 hA1.r (by rw [show (p.2.1 ++ (p.2.2 ++ flat ps)).length = p.2.1.length + (p.2.2 ++ flat ps).length from List.length_append] at hl1; omega)
    have hAw : At B (P + (c ++ p.1).length) p.2.1 := hA1.l
    refine ⟨fun j hj => ?_, ?_⟩
    · cases j with
      | zero =>
        show knT B (tkP B len t) (tkE B len (t + 1)) = kndW p.2.1 ∧ nmF B (tkE B len (t + 1) - tkP B len t) (tkP B len t) 0 = valW p.2.1 ∧ spF B (tkE B len (t + 1) - tkP B len t) (tkP B len t) 0 = spW p.2.1
        rw [hp, hE1, Nat.add_sub_cancel_left]
        exact ⟨knT_at hAw hw1, nmF_at (fun i hi => by rw [hAw i hi, Nat.zero_add]), spF_at (fun i hi => by rw [hAw i hi, Nat.zero_add])⟩
      | succ j =>
        have := i1 j (by rw [List.length_cons] at hj; omega)
        rw [show t + 1 + j = t + (j + 1) by omega] at this
        exact this
    · rw [List.length_cons, show t + (ps.length + 1) = t + 1 + ps.length by omega]
      exact i2
