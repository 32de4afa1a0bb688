section FACTS3
variable {Q : Pn} {S : St8} {r o a b : Nat}
theorem sumI_one {a : Nat} : ∀ {m : Nat}, a < m → sumI (fun i => if a = i then (1 : Int) else 0) m = 1
  | 0, h => absurd h (Nat.not_lt_zero _)
  | m + 1, h => by
    rw [sumI_s]
    by_cases e : a = m
    · subst e
      rw [if_pos rfl, sumI_congr (g := fun _ => (0 : Int)) (fun i hi => if_neg (by omega)), sumI_z]
      rfl
    · rw [sumI_one (by omega), if_neg e]
      rfl
theorem fil_all {f : Wr → Nat} {m : Nat} : ∀ {l : List Wr}, (∀ x, x ∈ l → f x < m) → sumI (fun r => ((l.filter (fun x => decide (f x = r))).length : Int)) m = (l.length : Int)
  | [], _ => sumI_z
  | x :: l, h => by
    have ih := fil_all (f := f) (m := m) (l := l) (fun y hy => h y (List.mem_cons_of_mem _ hy))
    have h1 := sumI_one (h x List.mem_cons_self)
    have e : ∀ r, (((x :: l).filter (fun x => decide (f x = r))).length : Int) = (if f x = r then (1 : Int) else 0) + ((l.filter (fun x => decide (f x = r))).length : Int) := by
      intro r
      by_cases hr : f x = r
      · rw [List.filter_cons, if_pos (decide_eq_true hr), if_pos hr, List.length_cons]
        omega
      · rw [List.filter_cons, if_neg (fun k => hr (of_decide_eq_true k)), if_neg hr]
        omega
    rw [sumI_congr (fun r _ => e r), sumI_add, ih, h1, List.length_cons]
    omega
/-- travellers by roads and by rumours -/
theorem on_sum (hS : SOk Q S) : sumI (onS S) Q.2.1 = ((wlS S).length : Int) := fil_all (f := fun x => x.1) (fun x hx => (hS.2.1 x hx).1)
theorem wi_sum (hS : SOk Q S) : sumI (wiS S) Q.2.2.1 = ((wlS S).length : Int) := fil_all (f := fun x => x.2.2.1) (fun x hx => (hS.2.1 x hx).2.2.1)
theorem c12_6 {len : Nat} : countS Q S len 12 ≤ countS Q S len 6 := sumI_le (fun r _ => by
  by_cases h : (1 : Int) ≤ S.2.2.2.2.1 r ∧ spanB Q.2.1 Q.2.2.2.2.1 Q.2.2.2.2.2.1 S.2.2.2.1 S.2.2.2.2.1 r = true
  · rw [if_pos h, if_pos ⟨by omega, h.2⟩]
    exact Int.le_refl _
  · rw [if_neg h]
    split <;> omega)
theorem c6_eq (hS : SOk Q S) {len : Nat} : countS Q S len 6 = sumI (fun r => if spnS Q S r = true then (1 : Int) else 0) Q.2.1 := sumI_congr (fun r hr => by
  have h1 := (hS.rb hr).2.2.2.2.2.1
  by_cases h : spnS Q S r = true
  · rw [if_pos h, if_pos ⟨h1, h⟩]
  · rw [if_neg h, if_neg (fun k => h k.2)])
theorem c9_eq {len : Nat} : countS Q S len 9 = allK (heS6 S) Q.1 Q.2.2.1 := allK_knb.symm
/-- the best road to mend has a wound -/
theorem bs_ok : ∀ {k : Nat}, (bsK Q S k).1 = -1 ∨ ∃ r : Nat, r < k ∧ (bsK Q S k).1 = (r : Int) ∧ 0 < woS S r
  | 0 => Or.inl rfl
  | k + 1 => by
    have ih : (bsK Q S k).1 = -1 ∨ ∃ r : Nat, r < k ∧ (bsK Q S k).1 = (r : Int) ∧ 0 < woS S r := bs_ok
    have ih2 : (bsK Q S k).1 = -1 ∨ ∃ r : Nat, r < k + 1 ∧ (bsK Q S k).1 = (r : Int) ∧ 0 < woS S r := by
      rcases ih with h | ⟨r, h1, h2⟩
      · exact Or.inl h
      · exact Or.inr ⟨r, by omega, h2⟩
    unfold bsK
    split
    · rename_i h
      split
      · exact Or.inr ⟨k, Nat.lt_succ_self k, rfl, h⟩
      · exact ih2
    · exact ih2
/-- no later hour than this one -/
def HeB (Q : Pn) (S : St8) : Prop := ∀ t k, t < Q.1 → k < Q.2.2.1 → heS6 S (t * 6 + k) ≤ S.1
/-- what an hour does to a hearing -/
def HeN (lo hi : Int) (he he' : Nat → Int) : Prop := ∀ i, (he i ≠ -1 → he' i = he i) ∧ (he i = -1 → he' i = -1 ∨ (lo ≤ he' i ∧ he' i < hi))
theorem HeN.rf {lo hi : Int} {he : Nat → Int} : HeN lo hi he he := fun _ => ⟨fun _ => rfl, fun h => Or.inl h⟩
theorem HeN.tr {lo hi : Int} {he h2 h3 : Nat → Int} (f : HeN lo hi he h2) (g : HeN lo hi h2 h3) : HeN lo hi he h3 := fun i => by
  obtain ⟨f1, f2⟩ := f i
  obtain ⟨g1, g2⟩ := g i
  refine ⟨fun h => by rw [g1 (by rw [f1 h]; exact h), f1 h], fun h => ?_⟩
  by_cases h9 : h2 i = -1
  · exact g2 h9
  · rw [g1 h9]
    exact f2 h
theorem HeN.up {lo hi lo' hi' : Int} {he h2 : Nat → Int} (f : HeN lo hi he h2) (i1 : lo' ≤ lo) (i2 : hi ≤ hi') : HeN lo' hi' he h2 := fun i => ⟨(f i).1, fun h => by
  rcases (f i).2 h with k | k
  · exact Or.inl k
  · exact Or.inr ⟨by omega, by omega⟩⟩
theorem hen_hrs {he : Nat → Int} {j : Nat} {hr : Int} : HeN hr (hr + 1) he (hrs he j hr) := fun i => by
  unfold hrs
  by_cases h : he j = -1
  · rw [if_pos h]
    by_cases hij : i = j
    · subst hij
      rw [mUp_self]
      exact ⟨fun k => absurd h k, fun _ => Or.inr ⟨Int.le_refl _, by omega⟩⟩
    · rw [mUp_ne hij]
      exact ⟨fun _ => rfl, fun k => Or.inl k⟩
  · rw [if_neg h]
    exact ⟨fun _ => rfl, fun k => Or.inl k⟩
theorem hen_bg {ba : Nat → Nat} {bo : Nat → Int} {hr : Int} {he : Nat → Int} : ∀ k, HeN hr (hr + 1) he (bgK ba bo hr he k).1
  | 0 => HeN.rf
  | k + 1 => by
    have ih := hen_bg (ba := ba) (bo := bo) (hr := hr) (he := he) k
    unfold bgK
    split
    · exact ih.tr hen_hrs
    · exact ih
theorem hen_mv {mi wo : Nat → Int} {hr : Int} : ∀ {l : List Wr} {he : Nat → Int}, HeN hr (hr + 1) he (mvW mi wo hr l he).2.1
  | [], _ => HeN.rf
  | x :: l, he => by
    unfold mvW
    split
    · exact hen_mv
    · exact hen_hrs.tr hen_mv
theorem hen_hour : HeN S.1 (S.1 + 1) (heS6 S) (heS6 (hourS Q S)) := (hen_bg _).tr hen_mv
theorem hen_hours (hQ : PnOk Q) (hM : SmOk Q S) (h0 : 0 ≤ S.1) : ∀ K : Nat, S.1 + K ≤ 1000000 → HeN S.1 (S.1 + K) (heS6 S) (heS6 (hoursS Q S K))
  | 0, _ => HeN.rf
  | K + 1, hK => by
    have ih := hen_hours hQ hM h0 K (by omega)
    have h2 := (hours_ok hQ hM h0 K (by omega)).2
    exact (ih.up (Int.le_refl _) (by omega)).tr ((hen_hour (Q := Q) (S := hoursS Q S K)).up (by omega) (by omega))
theorem heb_hours (hQ : PnOk Q) (hM : SmOk Q S) (h0 : 0 ≤ S.1) (hB : HeB Q S) {K : Nat} (hK : S.1 + K ≤ 1000000) : HeB Q (hoursS Q S K) := fun t k ht hk => by
  have h2 := (hours_ok hQ hM h0 K hK).2
  obtain ⟨h3, h4⟩ := hen_hours hQ hM h0 K hK (t * 6 + k)
  have h5 := hB t k ht hk
  by_cases h9 : heS6 S (t * 6 + k) = -1
  · rcases h4 h9 with h | ⟨-, h⟩ <;> omega
  · rw [h3 h9]
    omega
/-- what every act keeps -/
def SmI (Q : Pn) (S : St8) (m : Nat) : Prop := SmOk Q S ∧ HeB Q S ∧ 0 ≤ S.1 ∧ S.1 ≤ m
theorem SmI.hours (hQ : PnOk Q) {m K : Nat} (h : SmI Q S m) (hK : m + K ≤ 1000000) : SmI Q (hoursS Q S K) (m + K) := by
  obtain ⟨h1, h2, h3, h4⟩ := h
  obtain ⟨k1, k2⟩ := hours_ok hQ h1 h3 K (by omega)
  exact ⟨k1, heb_hours hQ h1 h3 h2 (by omega), by omega, by omega⟩
theorem SmI.rd {m : Nat} {mi wo : Nat → Int} (h : SmI Q S m) (hR : RdOk Q.1 Q.2.1 (frP Q) (toP Q) mi wo) : SmI Q (rdS S mi wo) m := ⟨⟨rdS_ok h.1.1 hR, h.1.2⟩, h.2⟩
theorem SmI.hurt {m : Nat} {x : Int} (h : SmI Q S m) (hx : 0 ≤ x) : SmI Q (hurtS S r x) m := h.rd (hurtS_ok h.1.1 hx).1
theorem SmI.mend {m : Nat} (h : SmI Q S m) (hx : 0 < woS S r) : SmI Q (mendS S r) m := h.rd (mendS_ok h.1.1 hx).1
theorem SmI.miles {m : Nat} {x : Int} (h : SmI Q S m) (hx : 1 ≤ x ∧ x ≤ 30) : SmI Q (milesS S r x) m := h.rd (milesS_ok h.1.1 hx).1
theorem SmI.tell {m j : Nat} (h : SmI Q S m) : SmI Q (heS S (hrs (heS6 S) j S.1)) m := by
  obtain ⟨⟨h1, h2, h3⟩, h4, h5, h6⟩ := h
  refine ⟨⟨h1, fun t k ht hk => ?_, h3⟩, fun t k ht hk => ?_, h5, h6⟩
  · show -1 ≤ hrs (heS6 S) j S.1 (t * 6 + k)
    have := h2 t k ht hk
    obtain ⟨n1, n2⟩ := hen_hrs (he := heS6 S) (j := j) (hr := S.1) (t * 6 + k)
    by_cases h9 : heS6 S (t * 6 + k) = -1
    · rcases n2 h9 with e | e <;> omega
    · rw [n1 h9]; exact this
  · show hrs (heS6 S) j S.1 (t * 6 + k) ≤ S.1
    have := h4 t k ht hk
    obtain ⟨n1, n2⟩ := hen_hrs (he := heS6 S) (j := j) (hr := S.1) (t * 6 + k)
    by_cases h9 : heS6 S (t * 6 + k) = -1
    · rcases n2 h9 with e | e <;> omega
    · rw [n1 h9]; exact this
theorem SmI.beg {m0 : Nat → Int} (hQ : PnOk Q) (hm : ∀ r, r < Q.2.1 → 1 ≤ m0 r ∧ m0 r ≤ 30) : SmI Q (begS 0 m0) 0 := ⟨⟨begS_ok hQ hm, fun _ _ _ _ => Int.le_refl _, (fun x hx => by cases hx), ⟨by show (-2147483648 : Int) ≤ 0; decide, by show (0 : Int) < 2147483648; decide⟩, ⟨by show (-2147483648 : Int) ≤ 0; decide, by show (0 : Int) < 2147483648; decide⟩⟩, fun _ _ _ _ => (by show (-1 : Int) ≤ 0; decide), Int.le_refl _, Int.le_refl _⟩
/-- what is foreseen is no less -/
theorem fore_ok (hQ : PnOk Q) {m K : Nat} (h : SmI Q S m) (hK : m + K ≤ 1000000) : allK (heS6 S) Q.1 Q.2.2.1 ≤ tallyS Q (hoursS Q S K) 9 := by
  have h1 := hours_news hQ h.1 h.2.2.1 K (by have := h.2.2.2; omega)
  have h2 := (hoursN_bd hQ h.1.1 K).1
  have h3 : tallyS Q (hoursS Q S K) 9 = allK (heS6 (hoursS Q S K)) Q.1 Q.2.2.1 := allK_knb.symm
  omega
end FACTS3
