/-! ===== THE HAND-MADE LAND: one sets out; nobody is hushed any more ===== -/
section SIMV
variable {L : Nat} {xs : Nat → Int} {fm : Bool} {h h2 : MH} {tg ad wa : Nat → Nat} {ev : MV} {mc : Int} {Q : Pn} {oz : Nat → Nat → Int} {S : St8} {hu : Nat → Int}
/-- a row of four behind all -/
abbrev r4H (h : MH) (g : Nat → Int) : MH := (mUp h.1 h.2.1 (cI .int 4 g), h.2.1 + 1, h.2.2.1 + 1, h.2.2.2 + 4)
theorem SimA.al (hA : SimA h tg ad wa ev mc Q oz S hu) (hQ : PnOk Q) (h168 : (wlS S).length ≤ 168) (g : Nat → Int) : Sp (GG L xs fm) 5 mJx4a65c_add_9ea2d [qR (ad 6), qR h.2.1] (r4H h g) (fun v h2 => v = .inl (some (qI 1)) ∧ AlP (r4H h g) (ad 6) h.2.1 (ad 7) (wlS S).length (w32 (mc + 1)) ev wa h2) := by
  obtain ⟨a1, a2, a3, a4, a5, a6, a7, a8, a9, ⟨s1, s2, s3⟩, a11⟩ := id hA
  have k6 := s1 6 (us8 (by omega) (by omega))
  have ne : ∀ {x}, x < h.2.1 → mUp h.1 h.2.1 (cI .int 4 g) x = h.1 x := fun hx => mUp_ne (by omega)
  refine al_add (g := g) (a7.cg (ne k6.2.2) (fun h9 => ne (a11.resolve_left h9).2.2)) (mUp_self _ _ _) (by show ad 6 < h.2.1 + 1; omega) (fun h9 => ?_) (Nat.lt_succ_self _) (by omega) (fun i hi => ?_) (Nat.le_trans h168 (by omega))
  · have := (a11.resolve_left h9).2.2
    exact ⟨by show ad 7 < h.2.1 + 1; omega, hA.n67 h9, by omega⟩
  · obtain ⟨w1, w2, w3⟩ := s2 i hi
    obtain ⟨g', e1, -⟩ := a8 i (wlS S)[i] (List.getElem?_eq_getElem hi)
    exact ⟨by show wa i < h.2.1 + 1; omega, hA.nw (us8 (by omega) (by omega)) hi (by omega), 4, g', (ne w3).trans e1⟩
theorem SimA.adl (hA : SimA h tg ad wa ev mc Q oz S hu) (hQ : PnOk Q) {g : Nat → Int} {x : Wr} (hg : ∀ j, j < 4 → g j = wrG Q.2.2.2.2.2.1 x j) (hP : AlP (r4H h g) (ad 6) h.2.1 (ad 7) (wlS S).length (w32 (mc + 1)) ev wa h2) :
    ∃ tg' ra' wa' ev', SimA h2 tg' (mUp ad 7 ra') wa' ev' (w32 (mc + 1)) Q oz (lsS S (wlS S ++ [x])) hu ∧ Fx tg tg' 2 304 h h2 := by
  obtain ⟨a1, a2, a3, a4, a5, a6, a7, a8, a9, ⟨s1, s2, s3⟩, a11⟩ := id hA
  obtain ⟨ev', ra', p1, p2, p3, p4, p5, p6, p7, p8⟩ := hP
  change ra' = ad 7 ∧ ev' = ev ∨ ra' = h.2.1 + 1 at p3
  change h.2.1 + 1 ≤ h2.2.1 at p5
  change h2.2.2.1 ≤ h.2.2.1 + 1 + 1 at p6
  change h2.2.2.2 ≤ h.2.2.2 + 4 + 300 at p7
  have hl : (wlS S ++ [x]).length = (wlS S).length + 1 := by simp
  have k6 := s1 6 (us8 (by omega) (by omega))
  have keep : ∀ y, y < h.2.1 → y ≠ ad 6 → (ev = qS 301 ∨ y ≠ ad 7) → h2.1 y = h.1 y := fun y hy h6 h7 => (p8 y (by show y < h.2.1 + 1; omega) h6 h7).trans (mUp_ne (by omega))
  have t7 : ra' = h.2.1 + 1 ∨ (ra' < h.2.1 ∧ tg ra' = 7 ∧ 107 ≤ ra') := by
    rcases p3 with ⟨e1, e2⟩ | e1
    · have := a11.resolve_left (by rw [← e2]; exact p2)
      rw [e1]
      exact Or.inr ⟨this.2.2, this.1, this.2.1⟩
    · exact Or.inl e1
  have n0 : 107 ≤ h.2.1 := by omega
  refine ⟨fun a => if a < h.2.1 then tg a else if a = h.2.1 then 200 else 7, ra', mUp wa (wlS S).length h.2.1, ev', SimA.lst hA hQ (by omega) (fun y _ hy h6 h7 => keep y hy h6 h7) (by rw [hl]; exact p1) (fun i y hy => ?_) (fun a ha => if_pos ha) (fun i hi => ?_) (fun i j hij hj => ?_) (Or.inr ?_), by omega, by omega, by omega, fun a ha => if_pos ha, fun y hy h300 => ?_⟩
  · by_cases hi : i < (wlS S).length
    · rw [List.getElem?_append_left hi] at hy
      rw [mUp_ne (by omega)]
      have w := s2 i hi
      exact (a8 i y hy).cg (keep _ w.2.2 (hA.nw (us8 (by omega) (by omega)) hi (by omega)) (by
        by_cases h9 : ev = qS 301
        · exact Or.inl h9
        · exact Or.inr (tg_ne w.1 (a11.resolve_left h9).1 (by omega))))
    · have hi2 := (List.getElem?_eq_some_iff.mp hy).1
      rw [hl] at hi2
      obtain rfl : i = (wlS S).length := by omega
      rw [List.getElem?_append_right (Nat.le_refl _), Nat.sub_self] at hy
      cases hy
      rw [mUp_self]
      refine ⟨g, ?_, fun j hj => hg j hj⟩
      have : h2.1 h.2.1 = (r4H h g).1 h.2.1 := p8 h.2.1 (by show h.2.1 < h.2.1 + 1; omega) (by omega) (by
        by_cases h9 : ev = qS 301
        · exact Or.inl h9
        · have := (a11.resolve_left h9).2.2
          exact Or.inr (by omega))
      rw [this]
      exact mUp_self _ _ _
  · rw [hl] at hi
    by_cases hi2 : i = (wlS S).length
    · rw [hi2, mUp_self]
      refine ⟨?_, n0, by omega⟩
      try dsimp only
      rw [if_neg (by omega), if_pos rfl]
    · rw [mUp_ne hi2]
      have w := s2 i (by show i < (wlS S).length; omega)
      refine ⟨?_, w.2.1, by omega⟩
      try dsimp only
      rw [if_pos w.2.2]
      exact w.1
  · rw [hl] at hj
    rw [mUp_ne (show i ≠ (wlS S).length by omega)]
    by_cases hj2 : j = (wlS S).length
    · rw [hj2, mUp_self]
      exact (s2 i (by show i < (wlS S).length; omega)).2.2
    · rw [mUp_ne hj2]
      exact s3 i j hij (by show j < (wlS S).length; omega)
  · try dsimp only
    rcases t7 with t7 | ⟨t7, t8, t9⟩
    · rw [if_neg (by omega), if_neg (by omega)]
      exact ⟨rfl, by omega, p4⟩
    · rw [if_pos t7]
      exact ⟨t8, t9, p4⟩
  · have h6 := hA.tgl hQ (us8 (i := 6) (by omega) (by omega))
    refine keep y hy (fun e => by rw [e] at h300; omega) ?_
    by_cases h9 : ev = qS 301
    · exact Or.inl h9
    · have := (a11.resolve_left h9).1
      exact Or.inr (fun e => by rw [e] at h300; omega)
/-- a new row of who is hushed, an hour later -/
theorem SimA.hsh (hA : SimA h tg ad wa ev mc Q oz S hu) (hQ : PnOk Q) {hr : Int} : SimA (mUp (mUp h.1 h.2.1 (cI .boolean Q.1 (fun _ => 0))) (ad 0) (cO 10 [qI hr, qI S.2.1, qI S.2.2.1, qI Q.1, qR (ad 1), qR (ad 2), qR (ad 3), qR (ad 4), qR h.2.1, qR (ad 6), qR (ad 8)]), h.2.1 + 1, h.2.2.1 + 1, h.2.2.2 + Q.1) (mUp tg h.2.1 5) (mUp ad 5 h.2.1) wa ev mc Q oz (obS S hr S.2.1 S.2.2.1) (fun _ => 0) ∧ Fx tg (mUp tg h.2.1 5) 1 10 h (mUp (mUp h.1 h.2.1 (cI .boolean Q.1 (fun _ => 0))) (ad 0) (cO 10 [qI hr, qI S.2.1, qI S.2.2.1, qI Q.1, qR (ad 1), qR (ad 2), qR (ad 3), qR (ad 4), qR h.2.1, qR (ad 6), qR (ad 8)]), h.2.1 + 1, h.2.2.1 + 1, h.2.2.2 + Q.1) := by
  obtain ⟨q1, q2, q3, q4, -⟩ := id hQ
  obtain ⟨a1, a2, a3, a4, a5, a6, a7, a8, a9, ⟨s1, s2, s3⟩, a11⟩ := id hA
  have k0 := s1 0 (us8 (by omega) (by omega))
  have e : ∀ {x}, x < h.2.1 → x ≠ ad 0 → mUp (mUp h.1 h.2.1 (cI .boolean Q.1 (fun _ => 0))) (ad 0) (cO 10 [qI hr, qI S.2.1, qI S.2.2.1, qI Q.1, qR (ad 1), qR (ad 2), qR (ad 3), qR (ad 4), qR h.2.1, qR (ad 6), qR (ad 8)]) x = h.1 x := fun h1 h2 => (mUp_ne h2).trans (mUp_ne (by omega))
  have q : ∀ {i}, Us Q.1 Q.2.1 Q.2.2.1 Q.2.2.2.1 i → i ≠ 0 → mUp (mUp h.1 h.2.1 (cI .boolean Q.1 (fun _ => 0))) (ad 0) (cO 10 [qI hr, qI S.2.1, qI S.2.2.1, qI Q.1, qR (ad 1), qR (ad 2), qR (ad 3), qR (ad 4), qR h.2.1, qR (ad 6), qR (ad 8)]) (ad i) = h.1 (ad i) := fun {i} hi h0 => e (s1 i hi).2.2 (hA.ne hi (us8 (by omega) (by omega)) h0)
  have nd : ∀ {i}, i ≠ 5 → mUp ad 5 h.2.1 i = ad i := fun h => mUp_ne h
  have r1 : ∀ i, mUp ad 5 h.2.1 (16 + i) = ad (16 + i) := fun i => nd (by omega)
  have r2 : ∀ i, mUp ad 5 h.2.1 (32 + i) = ad (32 + i) := fun i => nd (by omega)
  have r3 : ∀ i, mUp ad 5 h.2.1 (48 + i) = ad (48 + i) := fun i => nd (by omega)
  have r4 : ∀ i, mUp ad 5 h.2.1 (64 + i) = ad (64 + i) := fun i => nd (by omega)
  have r8 : ∀ i, mUp ad 5 h.2.1 (80 + i) = ad (80 + i) := fun i => nd (by omega)
  refine ⟨?_, Nat.le_succ _, Nat.le_refl _, by show h.2.2.2 + Q.1 ≤ h.2.2.2 + 10; omega, fun x hx => mUp_ne (by omega), fun x hx h300 => e hx (fun e => by rw [e, k0.1] at h300; omega)⟩
  unfold SimA SimO
  simp only [r1, r2, r3, r4, r8, nd (show (0 : Nat) ≠ 5 by omega), nd (show (1 : Nat) ≠ 5 by omega), nd (show (2 : Nat) ≠ 5 by omega), nd (show (3 : Nat) ≠ 5 by omega), nd (show (4 : Nat) ≠ 5 by omega), nd (show (6 : Nat) ≠ 5 by omega), nd (show (7 : Nat) ≠ 5 by omega), nd (show (8 : Nat) ≠ 5 by omega), mUp_self]
  refine ⟨True.intro, a2.cg (q (us8 (by omega) (by omega)) (by omega)) (fun i hi => q (usR hi) (by omega)), a3.cg (q (us8 (by omega) (by omega)) (by omega)) (fun i hi => q (usK hi) (by omega)), a4.cg (q (us8 (by omega) (by omega)) (by omega)) (fun i hi => q (usS hi) (by omega)), a5.cg (q (us8 (by omega) (by omega)) (by omega)) (fun i hi => q (usT hi) (by omega)), ⟨fun _ => 0, (mUp_ne (by omega)).trans (mUp_self _ _ _), fun _ _ => rfl⟩, a7.cg (q (us8 (by omega) (by omega)) (by omega)) (fun h9 => e (a11.resolve_left h9).2.2 (hA.n7 (us8 (by omega) (by omega)) h9 (by omega))), fun i x hx => (a8 i x hx).cg (e (s2 i (List.getElem?_eq_some_iff.mp hx).1).2.2 (hA.nw (us8 (by omega) (by omega)) (List.getElem?_eq_some_iff.mp hx).1 (by omega))), a9.cg (q (us8 (by omega) (by omega)) (by omega)) (fun i hi => q (usD hi) (by omega)), ⟨fun i hi => ?_, fun i hi => ?_, s3⟩, ?_⟩
  · by_cases h5 : i = 5
    · rw [h5, mUp_self, mUp_self]
      exact ⟨rfl, by omega, Nat.lt_succ_self _⟩
    · rw [nd h5]
      obtain ⟨t1, t2, t3⟩ := s1 i hi
      rw [mUp_ne (by omega)]
      exact ⟨t1, t2, Nat.lt_succ_of_lt t3⟩
  · obtain ⟨t1, t2, t3⟩ := s2 i hi
    rw [mUp_ne (by omega)]
    exact ⟨t1, t2, Nat.lt_succ_of_lt t3⟩
  · rcases a11 with h9 | ⟨t1, t2, t3⟩
    · exact Or.inl h9
    · refine Or.inr ⟨?_, t2, Nat.lt_succ_of_lt t3⟩
      rw [mUp_ne (by omega)]
      exact t1
end SIMV
