/-! ===== THE HAND-MADE LAND: its travellers change ===== -/
abbrev wlS (S : St8) : List Wr := S.2.2.2.2.2.2.2
abbrev lsS (S : St8) (l : List Wr) : St8 := (S.1, S.2.1, S.2.2.1, S.2.2.2.1, S.2.2.2.2.1, S.2.2.2.2.2.1, S.2.2.2.2.2.2.1, l)
theorem mUp_sam {α : Type} {f : Nat → α} {a : Nat} : mUp f a (f a) = f := by
  funext j
  unfold mUp
  split
  · rename_i h
    rw [h]
  · rfl
section SIMU
variable {L : Nat} {xs : Nat → Int} {fm : Bool} {h h2 : MH} {tg tg' ad wa wa' : Nat → Nat} {ev ev' : MV} {mc mc' : Int} {Q : Pn} {oz : Nat → Nat → Int} {S : St8} {hu : Nat → Int} {l' : List Wr} {ra' : Nat}
theorem SimA.lst (hA : SimA h tg ad wa ev mc Q oz S hu) (hQ : PnOk Q) (hn : h.2.1 ≤ h2.2.1) (he : ∀ x, 107 ≤ x → x < h.2.1 → x ≠ ad 6 → (ev = qS 301 ∨ x ≠ ad 7) → h2.1 x = h.1 x)
    (hL : LstA h2.1 (ad 6) ev' ra' mc' wa' l'.length) (hrow : ∀ i x, l'[i]? = some x → RowA h2.1 .int (wa' i) 4 (wrG Q.2.2.2.2.2.1 x)) (htg : ∀ a, a < h.2.1 → tg' a = tg a) (hw : ∀ i, i < l'.length → tg' (wa' i) = 200 ∧ 107 ≤ wa' i ∧ wa' i < h2.2.1) (hso : ∀ i j, i < j → j < l'.length → wa' i < wa' j)
    (hev : ev' = qS 301 ∨ (tg' ra' = 7 ∧ 107 ≤ ra' ∧ ra' < h2.2.1)) : SimA h2 tg' (mUp ad 7 ra') wa' ev' mc' Q oz (lsS S l') hu := by
  obtain ⟨q1, q2, q3, q4, -⟩ := id hQ
  obtain ⟨a1, a2, a3, a4, a5, a6, a7, a8, a9, ⟨s1, s2, s3⟩, a11⟩ := id hA
  have nd : ∀ {i}, i ≠ 7 → mUp ad 7 ra' i = ad i := fun h => mUp_ne h
  have q : ∀ {i}, Us Q.1 Q.2.1 Q.2.2.1 Q.2.2.2.1 i → i ≠ 6 → i ≠ 7 → h2.1 (ad i) = h.1 (ad i) := fun {i} hi h6 h7 => he _ (s1 _ hi).2.1 (s1 _ hi).2.2 (hA.ne hi (us8 (by omega) (by omega)) h6) (by
    by_cases h9 : ev = qS 301
    · exact Or.inl h9
    · exact Or.inr (fun e => hA.n7 hi h9 h7 e.symm))
  have r1 : ∀ i, mUp ad 7 ra' (16 + i) = ad (16 + i) := fun i => nd (by omega)
  have r2 : ∀ i, mUp ad 7 ra' (32 + i) = ad (32 + i) := fun i => nd (by omega)
  have r3 : ∀ i, mUp ad 7 ra' (48 + i) = ad (48 + i) := fun i => nd (by omega)
  have r4 : ∀ i, mUp ad 7 ra' (64 + i) = ad (64 + i) := fun i => nd (by omega)
  have r8 : ∀ i, mUp ad 7 ra' (80 + i) = ad (80 + i) := fun i => nd (by omega)
  unfold SimA SimO
  simp only [r1, r2, r3, r4, r8, nd (show (0 : Nat) ≠ 7 by omega), nd (show (1 : Nat) ≠ 7 by omega), nd (show (2 : Nat) ≠ 7 by omega), nd (show (3 : Nat) ≠ 7 by omega), nd (show (4 : Nat) ≠ 7 by omega), nd (show (5 : Nat) ≠ 7 by omega), nd (show (6 : Nat) ≠ 7 by omega), nd (show (8 : Nat) ≠ 7 by omega), mUp_self]
  refine ⟨(q (us8 (by omega) (by omega)) (by omega) (by omega)).trans a1, a2.cg (q (us8 (by omega) (by omega)) (by omega) (by omega)) (fun i hi => q (usR hi) (by omega) (by omega)), a3.cg (q (us8 (by omega) (by omega)) (by omega) (by omega)) (fun i hi => q (usK hi) (by omega) (by omega)), a4.cg (q (us8 (by omega) (by omega)) (by omega) (by omega)) (fun i hi => q (usS hi) (by omega) (by omega)), a5.cg (q (us8 (by omega) (by omega)) (by omega) (by omega)) (fun i hi => q (usT hi) (by omega) (by omega)), a6.cg (q (us8 (by omega) (by omega)) (by omega) (by omega)), hL, hrow, a9.cg (q (us8 (by omega) (by omega)) (by omega) (by omega)) (fun i hi => q (usD hi) (by omega) (by omega)), ⟨fun i hi => ?_, hw, hso⟩, hev⟩
  have h7 : i ≠ 7 := by
    unfold Us at hi
    omega
  rw [nd h7]
  obtain ⟨t1, t2, t3⟩ := s1 i hi
  exact ⟨by rw [htg _ t3]; exact t1, t2, by omega⟩
theorem SimA.lrow (hA : SimA h tg ad wa ev mc Q oz S hu) {i : Nat} (hi : i < (wlS S).length) : ev = qR (ad 7) ∧ h.1 (ad 6) = cO 12 [qI mc, qR (ad 7), qI (wlS S).length] ∧ ∃ (cap : Nat) (f : Nat → MV), h.1 (ad 7) = cQ tOb cap f ∧ (wlS S).length ≤ cap ∧ 1 ≤ cap ∧ cap ≤ 300 ∧ ∀ i, i < (wlS S).length → f i = qR (wa i) := by
  obtain ⟨a1, a2, a3, a4, a5, a6, ⟨b1, b2⟩, -⟩ := id hA
  rcases b2 with ⟨-, b2⟩ | ⟨rfl, b2⟩
  · change (wlS S).length = 0 at b2
    omega
  · exact ⟨rfl, b1, b2⟩
theorem SimA.n67 (hA : SimA h tg ad wa ev mc Q oz S hu) (he : ev ≠ qS 301) : ad 7 ≠ ad 6 := hA.n7 (us8 (by omega) (by omega)) he (by omega)
theorem SimA.tw (hA : SimA h tg ad wa ev mc Q oz S hu) {i : Nat} (hi : i < (wlS S).length) : tg (wa i) = 200 ∧ 107 ≤ wa i ∧ wa i < h.2.1 := hA.2.2.2.2.2.2.2.2.2.1.2.1 i hi
theorem SimA.row (hA : SimA h tg ad wa ev mc Q oz S hu) {i : Nat} {x : Wr} (hx : (wlS S)[i]? = some x) : ∃ g : Nat → Int, h.1 (wa i) = cI .int 4 g ∧ g 0 = (x.2.2.1 : Int) ∧ g 1 = (x.1 : Int) ∧ g 2 = (if toP Q x.1 = x.2.1 then 0 else 1) ∧ g 3 = x.2.2.2 := by
  obtain ⟨-, -, -, -, -, -, -, a8, -⟩ := hA
  obtain ⟨g, e1, e2⟩ := a8 i x hx
  exact ⟨g, e1, e2 0 (by omega), e2 1 (by omega), e2 2 (by omega), e2 3 (by omega)⟩
theorem SimA.hel (hA : SimA h tg ad wa ev mc Q oz S hu) {f : Nat → MV} (hf : ∀ i, i < (wlS S).length → f i = qR (wa i)) : ∀ j, j < (wlS S).length → ∃ b n g, f j = qR b ∧ h.1 b = cI .int n g ∧ b ≠ ad 6 := fun j hj => by
  obtain ⟨g, e1, -⟩ := hA.row (x := (wlS S)[j]) (List.getElem?_eq_getElem hj)
  exact ⟨wa j, 4, g, hf j hj, e1, hA.nw (us8 (by omega) (by omega)) hj (by omega)⟩
/-- one leaves the list -/
theorem SimA.rmv (hA : SimA h tg ad wa ev mc Q oz S hu) (hQ : PnOk Q) {i cap : Nat} {f : Nat → MV} (hi : i < (wlS S).length) (hr : h.1 (ad 7) = cQ tOb cap f) (hc : (wlS S).length ≤ cap) (h1 : 1 ≤ cap) (h3 : cap ≤ 300) (hf : ∀ i, i < (wlS S).length → f i = qR (wa i)) :
    SimA (mUp (mUp h.1 (ad 6) (cO 12 [qI (w32 (mc + 1)), qR (ad 7), qI ((wlS S).length - 1 : Nat)])) (ad 7) (cQ tOb cap (alR f (wlS S).length i)), h.2) tg ad (fun j => if j < i then wa j else wa (j + 1)) (qR (ad 7)) (w32 (mc + 1)) Q oz (lsS S ((wlS S).eraseIdx i)) hu ∧ Fx tg tg 0 0 h (mUp (mUp h.1 (ad 6) (cO 12 [qI (w32 (mc + 1)), qR (ad 7), qI ((wlS S).length - 1 : Nat)])) (ad 7) (cQ tOb cap (alR f (wlS S).length i)), h.2) := by
  obtain ⟨hev, -, -⟩ := hA.lrow hi
  have hne : ev ≠ qS 301 := by rw [hev]; intro q; cases q
  have h67 := hA.n67 hne
  obtain ⟨t1, t2, t3⟩ := hA.2.2.2.2.2.2.2.2.2.2.resolve_left hne
  have hlen : ((wlS S).eraseIdx i).length = (wlS S).length - 1 := List.length_eraseIdx_of_lt hi
  have hso := hA.2.2.2.2.2.2.2.2.2.1.2.2
  have tw := fun {j} (hj : j < (wlS S).length) => hA.tw hj
  refine ⟨?_, Nat.le_refl _, Nat.le_refl _, Nat.le_refl _, fun _ _ => rfl, fun x hx h300 => ?_⟩
  · have nx := SimA.lst (h2 := (mUp (mUp h.1 (ad 6) (cO 12 [qI (w32 (mc + 1)), qR (ad 7), qI ((wlS S).length - 1 : Nat)])) (ad 7) (cQ tOb cap (alR f (wlS S).length i)), h.2)) (tg' := tg) (wa' := fun j => if j < i then wa j else wa (j + 1)) (ev' := qR (ad 7)) (mc' := w32 (mc + 1)) (l' := (wlS S).eraseIdx i) (ra' := ad 7) hA hQ (Nat.le_refl _) (fun x _ _ h6 h7 => (mUp_ne (h7.resolve_left hne)).trans (mUp_ne h6)) ?_ (fun j x hx => ?_) (fun _ _ => rfl) (fun j hj => ?_) (fun j k hjk hk => ?_) (Or.inr ⟨t1, t2, t3⟩)
    · rw [mUp_sam] at nx
      exact nx
    · refine ⟨?_, Or.inr ⟨rfl, cap, _, mUp_self _ _ _, by omega, h1, h3, fun j hj => ?_⟩⟩
      · rw [hlen]
        exact (mUp_ne (fun e => h67 e.symm)).trans (mUp_self _ _ _)
      · unfold alR
        dsimp only
        by_cases c1 : j < i
        · rw [if_pos c1, if_pos c1]
          exact hf j (by omega)
        · rw [if_neg c1, if_neg c1, if_pos (by omega)]
          exact hf (j + 1) (by omega)
    · dsimp only
      have hj : j < ((wlS S).eraseIdx i).length := (List.getElem?_eq_some_iff.mp hx).1
      rw [List.getElem?_eraseIdx] at hx
      obtain ⟨-, -, -, -, -, -, -, a8, -⟩ := id hA
      split
      · rename_i c1
        rw [if_pos c1] at hx
        exact (a8 j x hx).cg ((mUp_ne (tg_ne (tw (j := j) (by omega)).1 t1 (by omega))).trans (mUp_ne (hA.nw (us8 (by omega) (by omega)) (show j < (wlS S).length by omega) (by omega))))
      · rename_i c1
        rw [if_neg c1] at hx
        exact (a8 (j + 1) x hx).cg ((mUp_ne (tg_ne (tw (j := j + 1) (by omega)).1 t1 (by omega))).trans (mUp_ne (hA.nw (us8 (by omega) (by omega)) (show j + 1 < (wlS S).length by omega) (by omega))))
    · dsimp only
      split
      · exact tw (by omega)
      · exact tw (by omega)
    · try dsimp only
      split <;> split
      · exact hso j k hjk (by show k < (wlS S).length; omega)
      · exact hso j (k + 1) (by omega) (by show k + 1 < (wlS S).length; omega)
      · omega
      · exact hso (j + 1) (k + 1) (by omega) (by show k + 1 < (wlS S).length; omega)
  · have h6 := hA.tgl hQ (us8 (i := 6) (by omega) (by omega))
    show mUp (mUp h.1 _ _) _ _ x = _
    rw [mUp_ne (fun e => by rw [e] at h300; omega), mUp_ne (fun e => by rw [e] at h300; omega)]
/-- one goes a mile on -/
theorem SimA.mile (hA : SimA h tg ad wa ev mc Q oz S hu) (hQ : PnOk Q) {i : Nat} {x : Wr} (hx : (wlS S)[i]? = some x) {g : Nat → Int} (hg : h.1 (wa i) = cI .int 4 g) {v : Int} :
    SimA (mUp h.1 (wa i) (cI .int 4 (mUp g 3 v)), h.2) tg ad wa ev mc Q oz (lsS S ((wlS S).set i (x.1, x.2.1, x.2.2.1, v))) hu ∧ Fx tg tg 0 0 h (mUp h.1 (wa i) (cI .int 4 (mUp g 3 v)), h.2) := by
  have hi : i < (wlS S).length := (List.getElem?_eq_some_iff.mp hx).1
  obtain ⟨a1, a2, a3, a4, a5, a6, a7, a8, a9, ⟨s1, s2, s3⟩, a11⟩ := id hA
  have t200 := (hA.tw hi).1
  have ne : ∀ {j}, Us Q.1 Q.2.1 Q.2.2.1 Q.2.2.2.1 j → ad j ≠ wa i := fun {j} hj e => by
    have h1 := (s1 j hj).1
    obtain ⟨q1, q2, q3, q4, -⟩ := id hQ
    rw [e, t200] at h1
    unfold Us at hj
    omega
  have hl : ((wlS S).set i (x.1, x.2.1, x.2.2.1, v)).length = (wlS S).length := List.length_set
  refine ⟨⟨(mUp_ne (ne (us8 (by omega) (by omega)))).trans a1, a2.cg (mUp_ne (ne (us8 (by omega) (by omega)))) (fun j hj => mUp_ne (ne (usR hj))), a3.cg (mUp_ne (ne (us8 (by omega) (by omega)))) (fun j hj => mUp_ne (ne (usK hj))), a4.cg (mUp_ne (ne (us8 (by omega) (by omega)))) (fun j hj => mUp_ne (ne (usS hj))), a5.cg (mUp_ne (ne (us8 (by omega) (by omega)))) (fun j hj => mUp_ne (ne (usT hj))), a6.cg (mUp_ne (ne (us8 (by omega) (by omega)))), ?_, fun j y hy => ?_, a9.cg (mUp_ne (ne (us8 (by omega) (by omega)))) (fun j hj => mUp_ne (ne (usD hj))), ?_, a11⟩, Fx.st (by omega)⟩
  · show LstA _ _ _ _ _ _ ((wlS S).set i (x.1, x.2.1, x.2.2.1, v)).length
    rw [hl]
    refine a7.cg (mUp_ne (ne (us8 (by omega) (by omega)))) (fun h9 => mUp_ne (fun e => ?_))
    have := (a11.resolve_left h9).1
    rw [e, t200] at this
    omega
  · change ((wlS S).set i (x.1, x.2.1, x.2.2.1, v))[j]? = some y at hy
    by_cases hij : i = j
    · subst hij
      rw [List.getElem?_set_self hi] at hy
      cases hy
      obtain ⟨g', e1, e2⟩ := a8 i x hx
      rw [hg] at e1
      cases e1
      refine ⟨_, mUp_self _ _ _, fun k hk => ?_⟩
      by_cases hk3 : k = 3
      · rw [hk3, mUp_self]
        rfl
      · rw [mUp_ne hk3, e2 k hk]
        unfold wrG
        split
        · rfl
        · split
          · rfl
          · split
            · rfl
            · omega
    · rw [List.getElem?_set_ne hij] at hy
      have hj : j < (wlS S).length := (List.getElem?_eq_some_iff.mp hy).1
      refine (a8 j y hy).cg (mUp_ne (fun e => ?_))
      rcases Nat.lt_or_gt_of_ne hij with h9 | h9
      · have := s3 i j h9 hj
        omega
      · have := s3 j i h9 hi
        omega
  · show SepA _ _ _ _ _ _ _ ((wlS S).set i (x.1, x.2.1, x.2.2.1, v)).length _
    rw [hl]
    exact ⟨s1, s2, s3⟩
end SIMU
