/-! ===== THE HAND-MADE LAND ON M: its cells =====
   ad 0 the object, 1 roads, 2 rumours, 3 since, 4 sent, 5 hushed, 6 the list of travellers, 7 its row, 8 orders; 16 + r a road, 32 + k a rumour, 48 + t since of a tavern, 64 + t sent of one, 80 + j an order; wa i a traveller; tg tells the cells apart -/
def SimO (hc : Nat → MC) (ad : Nat → Nat) (n : Nat) (hr ca lo : Int) : Prop := hc (ad 0) = cO 10 [qI hr, qI ca, qI lo, qI n, qR (ad 1), qR (ad 2), qR (ad 3), qR (ad 4), qR (ad 5), qR (ad 6), qR (ad 8)]
/-- a row of rows -/
def RowsA (hc : Nat → MC) (ty : FieldType) (a : Nat) (R : Nat → Nat) (n m : Nat) (G : Nat → Nat → Int) : Prop :=
  (∃ f : Nat → MV, hc a = cQ (.array ty) n f ∧ ∀ i, i < n → f i = qR (R i)) ∧ ∀ i, i < n → ∃ g : Nat → Int, hc (R i) = cI ty m g ∧ ∀ j, j < m → g j = G i j
def rdG (fr to : Nat → Nat) (mi wo : Nat → Int) (r j : Nat) : Int := if j = 0 then (fr r : Int) else if j = 1 then (to r : Int) else if j = 2 then mi r else wo r
def ruG (ba : Nat → Nat) (bo : Nat → Int) (k j : Nat) : Int := if j = 0 then (ba k : Int) else bo k
def heG (he : Nat → Int) (t k : Nat) : Int := he (t * 6 + k)
def RowA (hc : Nat → MC) (ty : FieldType) (a m : Nat) (G : Nat → Int) : Prop := ∃ g : Nat → Int, hc a = cI ty m g ∧ ∀ j, j < m → g j = G j
/-- travellers: rumour, road, the end from which it came, miles -/
def wrG (to : Nat → Nat) (x : Wr) (j : Nat) : Int := if j = 0 then (x.2.2.1 : Int) else if j = 1 then (x.1 : Int) else if j = 2 then (if to x.1 = x.2.1 then 0 else 1) else x.2.2.2
def LstA (hc : Nat → MC) (a : Nat) (ev : MV) (ra : Nat) (mc : Int) (wa : Nat → Nat) (len : Nat) : Prop :=
  hc a = cO 12 [qI mc, ev, qI len] ∧ ((ev = qS 301 ∧ len = 0) ∨ (ev = qR ra ∧ ∃ (cap : Nat) (f : Nat → MV), hc ra = cQ tOb cap f ∧ len ≤ cap ∧ 1 ≤ cap ∧ cap ≤ 300 ∧ ∀ i, i < len → f i = qR (wa i)))
def Us (n c u q i : Nat) : Prop := (i ≤ 8 ∧ i ≠ 7) ∨ (16 ≤ i ∧ i < 16 + c) ∨ (32 ≤ i ∧ i < 32 + u) ∨ (48 ≤ i ∧ i < 48 + n) ∨ (64 ≤ i ∧ i < 64 + n) ∨ (80 ≤ i ∧ i < 80 + q)
def SepA (tg ad wa : Nat → Nat) (n c u q len nx : Nat) : Prop :=
  (∀ i, Us n c u q i → tg (ad i) = i ∧ 107 ≤ ad i ∧ ad i < nx) ∧ (∀ i, i < len → tg (wa i) = 200 ∧ 107 ≤ wa i ∧ wa i < nx) ∧ ∀ i j, i < j → j < len → wa i < wa j
theorem tg_ne {tg : Nat → Nat} {a b i j : Nat} (h1 : tg a = i) (h2 : tg b = j) (h : i ≠ j) : a ≠ b := fun e => h (by rw [← h1, ← h2, e])
/-- the land: the plan's numbers, its orders' own rows, a state, what is hushed -/
def SimA (h : MH) (tg ad wa : Nat → Nat) (ev : MV) (mc : Int) (Q : Pn) (oz : Nat → Nat → Int) (S : St8) (hu : Nat → Int) : Prop :=
  SimO h.1 ad Q.1 S.1 S.2.1 S.2.2.1 ∧ RowsA h.1 .int (ad 1) (fun r => ad (16 + r)) Q.2.1 4 (rdG Q.2.2.2.2.1 Q.2.2.2.2.2.1 S.2.2.2.1 S.2.2.2.2.1) ∧ RowsA h.1 .int (ad 2) (fun k => ad (32 + k)) Q.2.2.1 2 (ruG Q.2.2.2.2.2.2.1 Q.2.2.2.2.2.2.2.1) ∧
  RowsA h.1 .int (ad 3) (fun t => ad (48 + t)) Q.1 Q.2.2.1 (heG S.2.2.2.2.2.1) ∧ RowsA h.1 .boolean (ad 4) (fun t => ad (64 + t)) Q.1 Q.2.2.1 (heG S.2.2.2.2.2.2.1) ∧ RowA h.1 .boolean (ad 5) Q.1 hu ∧
  LstA h.1 (ad 6) ev (ad 7) mc wa S.2.2.2.2.2.2.2.length ∧ (∀ i x, S.2.2.2.2.2.2.2[i]? = some x → RowA h.1 .int (wa i) 4 (wrG Q.2.2.2.2.2.1 x)) ∧ RowsA h.1 .int (ad 8) (fun j => ad (80 + j)) Q.2.2.2.1 9 oz ∧
  SepA tg ad wa Q.1 Q.2.1 Q.2.2.1 Q.2.2.2.1 S.2.2.2.2.2.2.2.length h.2.1 ∧ (ev = qS 301 ∨ (tg (ad 7) = 7 ∧ 107 ≤ ad 7 ∧ ad 7 < h.2.1))
section SIMA
variable {h h2 : MH} {hc hc' : Nat → MC} {tg ad wa : Nat → Nat} {ev : MV} {mc : Int} {Q : Pn} {oz : Nat → Nat → Int} {S : St8} {hu : Nat → Int} {ty : FieldType} {a n m ra len : Nat} {R : Nat → Nat} {G : Nat → Nat → Int} {g : Nat → Int}
theorem RowsA.cg (h0 : RowsA hc ty a R n m G) (e1 : hc' a = hc a) (e2 : ∀ i, i < n → hc' (R i) = hc (R i)) : RowsA hc' ty a R n m G := by
  obtain ⟨⟨f, h1, h2⟩, h3⟩ := h0
  refine ⟨⟨f, by rw [e1]; exact h1, h2⟩, fun i hi => ?_⟩
  obtain ⟨g, h4, h5⟩ := h3 i hi
  exact ⟨g, by rw [e2 i hi]; exact h4, h5⟩
theorem RowA.cg (h0 : RowA hc ty a m g) (e1 : hc' a = hc a) : RowA hc' ty a m g := by
  obtain ⟨f, h1, h2⟩ := h0
  exact ⟨f, by rw [e1]; exact h1, h2⟩
theorem LstA.cg (h0 : LstA hc a ev ra mc wa len) (e1 : hc' a = hc a) (e2 : ev ≠ qS 301 → hc' ra = hc ra) : LstA hc' a ev ra mc wa len := by
  obtain ⟨h1, h2⟩ := h0
  refine ⟨by rw [e1]; exact h1, ?_⟩
  rcases h2 with h2 | ⟨h2, cap, f, h3, h4⟩
  · exact Or.inl h2
  · exact Or.inr ⟨h2, cap, f, by rw [e2 (by rw [h2]; intro q; cases q)]; exact h3, h4⟩
theorem SepA.up {wa : Nat → Nat} {n c u q len nx nx' : Nat} (h0 : SepA tg ad wa n c u q len nx) (hn : nx ≤ nx') : SepA tg ad wa n c u q len nx' := by
  obtain ⟨h1, h2, h3⟩ := h0
  exact ⟨fun i hi => ⟨(h1 i hi).1, (h1 i hi).2.1, Nat.lt_of_lt_of_le (h1 i hi).2.2 hn⟩, fun i hi => ⟨(h2 i hi).1, (h2 i hi).2.1, Nat.lt_of_lt_of_le (h2 i hi).2.2 hn⟩, h3⟩
theorem us8 {n c u q i : Nat} (h1 : i ≤ 8) (h7 : i ≠ 7) : Us n c u q i := Or.inl ⟨h1, h7⟩
theorem usR {n c u q i : Nat} (hi : i < c) : Us n c u q (16 + i) := Or.inr (Or.inl ⟨by omega, by omega⟩)
theorem usK {n c u q i : Nat} (hi : i < u) : Us n c u q (32 + i) := Or.inr (Or.inr (Or.inl ⟨by omega, by omega⟩))
theorem usS {n c u q i : Nat} (hi : i < n) : Us n c u q (48 + i) := Or.inr (Or.inr (Or.inr (Or.inl ⟨by omega, by omega⟩)))
theorem usT {n c u q i : Nat} (hi : i < n) : Us n c u q (64 + i) := Or.inr (Or.inr (Or.inr (Or.inr (Or.inl ⟨by omega, by omega⟩))))
theorem usD {n c u q i : Nat} (hi : i < q) : Us n c u q (80 + i) := Or.inr (Or.inr (Or.inr (Or.inr (Or.inr ⟨by omega, by omega⟩))))
/-- cells behind the class' are as they were: so is the land -/
theorem SimA.cg (hA : SimA h tg ad wa ev mc Q oz S hu) (hn : h.2.1 ≤ h2.2.1) (e : ∀ a, 107 ≤ a → a < h.2.1 → h2.1 a = h.1 a) : SimA h2 tg ad wa ev mc Q oz S hu := by
  obtain ⟨a1, a2, a3, a4, a5, a6, a7, a8, a9, a10, a11⟩ := hA
  obtain ⟨s1, s2, s3⟩ := id a10
  have q : ∀ {i}, Us Q.1 Q.2.1 Q.2.2.1 Q.2.2.2.1 i → h2.1 (ad i) = h.1 (ad i) := fun hi => e _ (s1 _ hi).2.1 (s1 _ hi).2.2
  refine ⟨(q (us8 (by omega) (by omega))).trans a1, a2.cg (q (us8 (by omega) (by omega))) (fun i hi => q (usR hi)), a3.cg (q (us8 (by omega) (by omega))) (fun i hi => q (usK hi)), a4.cg (q (us8 (by omega) (by omega))) (fun i hi => q (usS hi)), a5.cg (q (us8 (by omega) (by omega))) (fun i hi => q (usT hi)), a6.cg (q (us8 (by omega) (by omega))), a7.cg (q (us8 (by omega) (by omega))) (fun h9 => ?_), fun i x hx => ?_, a9.cg (q (us8 (by omega) (by omega))) (fun i hi => q (usD hi)), a10.up hn, ?_⟩
  · have := a11.resolve_left h9
    exact e _ this.2.1 this.2.2
  · have hl : i < S.2.2.2.2.2.2.2.length := (List.getElem?_eq_some_iff.mp hx).1
    exact (a8 i x hx).cg (e _ (s2 i hl).2.1 (s2 i hl).2.2)
  · rcases a11 with h9 | ⟨h9, h10, h11⟩
    · exact Or.inl h9
    · exact Or.inr ⟨h9, h10, Nat.lt_of_lt_of_le h11 hn⟩
end SIMA
