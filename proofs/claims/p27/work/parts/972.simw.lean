/-! ===== THE HAND-MADE LAND: writing ===== -/
/-- what is kept: addresses only grow, so many cells and places more, told cells stay told, cells told 300 or more are untouched -/
def Fx (tg tg' : Nat → Nat) (kc ks : Nat) (h h2 : MH) : Prop := h.2.1 ≤ h2.2.1 ∧ h2.2.2.1 ≤ h.2.2.1 + kc ∧ h2.2.2.2 ≤ h.2.2.2 + ks ∧ (∀ a, a < h.2.1 → tg' a = tg a) ∧ ∀ a, a < h.2.1 → 300 ≤ tg a → h2.1 a = h.1 a
theorem Fx.rf {tg : Nat → Nat} {h : MH} : Fx tg tg 0 0 h h := ⟨Nat.le_refl _, Nat.le_refl _, Nat.le_refl _, fun _ _ => rfl, fun _ _ _ => rfl⟩
theorem Fx.tr {tg tg1 tg2 : Nat → Nat} {a b c d : Nat} {h h1 h2 : MH} (f : Fx tg tg1 a b h h1) (g : Fx tg1 tg2 c d h1 h2) : Fx tg tg2 (a + c) (b + d) h h2 := by
  obtain ⟨f1, f2, f3, f4, f5⟩ := f
  obtain ⟨g1, g2, g3, g4, g5⟩ := g
  refine ⟨Nat.le_trans f1 g1, by omega, by omega, fun x hx => (g4 x (by omega)).trans (f4 x hx), fun x hx h3 => ?_⟩
  rw [g5 x (by omega) (by rw [f4 x hx]; exact h3), f5 x hx h3]
theorem Fx.up {tg tg1 : Nat → Nat} {a b c d : Nat} {h h1 : MH} (f : Fx tg tg1 a b h h1) (i1 : a ≤ c) (i2 : b ≤ d) : Fx tg tg1 c d h h1 := by
  obtain ⟨f1, f2, f3, f4, f5⟩ := f
  exact ⟨f1, by omega, by omega, f4, f5⟩
theorem Fx.st {tg : Nat → Nat} {h : MH} {a : Nat} {c : MC} (ha : tg a < 300) : Fx tg tg 0 0 h (mUp h.1 a c, h.2) := ⟨Nat.le_refl _, Nat.le_refl _, Nat.le_refl _, fun _ _ => rfl, fun x hx h3 => by
  show mUp h.1 a c x = _
  rw [mUp_ne (fun e => by rw [e] at h3; omega)]⟩
section SIMW
variable {h : MH} {tg ad wa : Nat → Nat} {ev : MV} {mc : Int} {Q : Pn} {oz : Nat → Nat → Int} {S : St8} {hu : Nat → Int}
theorem SimA.ne (hA : SimA h tg ad wa ev mc Q oz S hu) {i j : Nat} (hi : Us Q.1 Q.2.1 Q.2.2.1 Q.2.2.2.1 i) (hj : Us Q.1 Q.2.1 Q.2.2.1 Q.2.2.2.1 j) (hij : i ≠ j) : ad i ≠ ad j := by
  obtain ⟨-, -, -, -, -, -, -, -, -, ⟨s1, -⟩, -⟩ := hA
  exact tg_ne (s1 i hi).1 (s1 j hj).1 hij
theorem SimA.nw (hA : SimA h tg ad wa ev mc Q oz S hu) {i j : Nat} (hi : Us Q.1 Q.2.1 Q.2.2.1 Q.2.2.2.1 i) (hj : j < S.2.2.2.2.2.2.2.length) (h20 : i ≠ 200) : wa j ≠ ad i := by
  obtain ⟨-, -, -, -, -, -, -, -, -, ⟨s1, s2, -⟩, -⟩ := hA
  exact tg_ne (s2 j hj).1 (s1 i hi).1 (fun e => h20 e.symm)
theorem SimA.n7 (hA : SimA h tg ad wa ev mc Q oz S hu) {i : Nat} (hi : Us Q.1 Q.2.1 Q.2.2.1 Q.2.2.2.1 i) (he : ev ≠ qS 301) (h7 : i ≠ 7) : ad 7 ≠ ad i := by
  obtain ⟨-, -, -, -, -, -, -, -, -, ⟨s1, -⟩, s3⟩ := hA
  exact tg_ne (s3.resolve_left he).1 (s1 i hi).1 (fun e => h7 e.symm)
theorem SimA.tgl (hA : SimA h tg ad wa ev mc Q oz S hu) (hQ : PnOk Q) {i : Nat} (hi : Us Q.1 Q.2.1 Q.2.2.1 Q.2.2.2.1 i) : tg (ad i) < 300 := by
  obtain ⟨-, -, -, -, -, -, -, -, -, ⟨s1, -⟩, -⟩ := hA
  obtain ⟨q1, q2, q3, q4, -⟩ := hQ
  rw [(s1 i hi).1]
  unfold Us at hi
  omega
/-- one place of a row of rows is written -/
theorem RowsA.wr {hc : Nat → MC} {ty : FieldType} {a n m r k : Nat} {R : Nat → Nat} {G G' : Nat → Nat → Int} {g : Nat → Int} {v : Int} (h0 : RowsA hc ty a R n m G) (hr : r < n) (hk : k < m) (hg : hc (R r) = cI ty m g) (hv : G' r k = v) (hs : ∀ i j, i < n → j < m → (i ≠ r ∨ j ≠ k) → G' i j = G i j) (e1 : a ≠ R r) (e2 : ∀ i, i < n → i ≠ r → R i ≠ R r) : RowsA (mUp hc (R r) (cI ty m (mUp g k v))) ty a R n m G' := by
  obtain ⟨⟨f, h1, h2⟩, h3⟩ := h0
  refine ⟨⟨f, by rw [mUp_ne e1]; exact h1, h2⟩, fun i hi => ?_⟩
  obtain ⟨g', h4, h5⟩ := h3 i hi
  by_cases hir : i = r
  · subst hir
    rw [hg] at h4
    cases h4
    refine ⟨_, mUp_self _ _ _, fun j hj => ?_⟩
    by_cases hjk : j = k
    · subst hjk
      rw [mUp_self, hv]
    · rw [mUp_ne hjk, hs i j hi hj (Or.inr hjk)]
      exact h5 j hj
  · exact ⟨g', by rw [mUp_ne (e2 i hi hir)]; exact h4, fun j hj => by rw [hs i j hi hj (Or.inl hir)]; exact h5 j hj⟩
theorem SimA.whe (hA : SimA h tg ad wa ev mc Q oz S hu) (hQ : PnOk Q) {t k : Nat} (ht : t < Q.1) (hk : k < Q.2.2.1) {g : Nat → Int} (hg : h.1 (ad (48 + t)) = cI .int Q.2.2.1 g) {v : Int} : SimA (mUp h.1 (ad (48 + t)) (cI .int Q.2.2.1 (mUp g k v)), h.2) tg ad wa ev mc Q oz (heS S (mUp S.2.2.2.2.2.1 (t * 6 + k) v)) hu := by
  obtain ⟨q1, q2, q3, q4, -⟩ := id hQ
  obtain ⟨a1, a2, a3, a4, a5, a6, a7, a8, a9, a10, a11⟩ := id hA
  exact ⟨(mUp_ne (hA.ne (us8 (by omega) (by omega)) (usS ht) (by omega))).trans a1, a2.cg (mUp_ne (hA.ne (us8 (by omega) (by omega)) (usS ht) (by omega))) (fun i hi => mUp_ne (hA.ne (usR hi) (usS ht) (by omega))), a3.cg (mUp_ne (hA.ne (us8 (by omega) (by omega)) (usS ht) (by omega))) (fun i hi => mUp_ne (hA.ne (usK hi) (usS ht) (by omega))), a4.wr (G' := heG (mUp S.2.2.2.2.2.1 (t * 6 + k) v)) ht hk hg (by unfold heG; rw [mUp_self]) (fun i j hi hj hij => by unfold heG; rw [mUp_ne (by omega)]) (hA.ne (us8 (by omega) (by omega)) (usS ht) (by omega)) (fun i hi hir => hA.ne (usS hi) (usS ht) (by omega)), a5.cg (mUp_ne (hA.ne (us8 (by omega) (by omega)) (usS ht) (by omega))) (fun i hi => mUp_ne (hA.ne (usT hi) (usS ht) (by omega))), a6.cg (mUp_ne (hA.ne (us8 (by omega) (by omega)) (usS ht) (by omega))), a7.cg (mUp_ne (hA.ne (us8 (by omega) (by omega)) (usS ht) (by omega))) (fun h9 => mUp_ne (hA.n7 (usS ht) h9 (by omega))), (fun i x hx => (a8 i x hx).cg (mUp_ne (hA.nw (usS ht) (List.getElem?_eq_some_iff.mp hx).1 (by omega)))), a9.cg (mUp_ne (hA.ne (us8 (by omega) (by omega)) (usS ht) (by omega))) (fun i hi => mUp_ne (hA.ne (usD hi) (usS ht) (by omega))), a10, a11⟩
abbrev seS (S : St8) (se : Nat → Int) : St8 := (S.1, S.2.1, S.2.2.1, S.2.2.2.1, S.2.2.2.2.1, S.2.2.2.2.2.1, se, S.2.2.2.2.2.2.2)
theorem SimA.wse (hA : SimA h tg ad wa ev mc Q oz S hu) (hQ : PnOk Q) {t k : Nat} (ht : t < Q.1) (hk : k < Q.2.2.1) {g : Nat → Int} (hg : h.1 (ad (64 + t)) = cI .boolean Q.2.2.1 g) {v : Int} : SimA (mUp h.1 (ad (64 + t)) (cI .boolean Q.2.2.1 (mUp g k v)), h.2) tg ad wa ev mc Q oz (seS S (mUp S.2.2.2.2.2.2.1 (t * 6 + k) v)) hu := by
  obtain ⟨q1, q2, q3, q4, -⟩ := id hQ
  obtain ⟨a1, a2, a3, a4, a5, a6, a7, a8, a9, a10, a11⟩ := id hA
  exact ⟨(mUp_ne (hA.ne (us8 (by omega) (by omega)) (usT ht) (by omega))).trans a1, a2.cg (mUp_ne (hA.ne (us8 (by omega) (by omega)) (usT ht) (by omega))) (fun i hi => mUp_ne (hA.ne (usR hi) (usT ht) (by omega))), a3.cg (mUp_ne (hA.ne (us8 (by omega) (by omega)) (usT ht) (by omega))) (fun i hi => mUp_ne (hA.ne (usK hi) (usT ht) (by omega))), a4.cg (mUp_ne (hA.ne (us8 (by omega) (by omega)) (usT ht) (by omega))) (fun i hi => mUp_ne (hA.ne (usS hi) (usT ht) (by omega))), a5.wr (G' := heG (mUp S.2.2.2.2.2.2.1 (t * 6 + k) v)) ht hk hg (by unfold heG; rw [mUp_self]) (fun i j hi hj hij => by unfold heG; rw [mUp_ne (by omega)]) (hA.ne (us8 (by omega) (by omega)) (usT ht) (by omega)) (fun i hi hir => hA.ne (usT hi) (usT ht) (by omega)), a6.cg (mUp_ne (hA.ne (us8 (by omega) (by omega)) (usT ht) (by omega))), a7.cg (mUp_ne (hA.ne (us8 (by omega) (by omega)) (usT ht) (by omega))) (fun h9 => mUp_ne (hA.n7 (usT ht) h9 (by omega))), (fun i x hx => (a8 i x hx).cg (mUp_ne (hA.nw (usT ht) (List.getElem?_eq_some_iff.mp hx).1 (by omega)))), a9.cg (mUp_ne (hA.ne (us8 (by omega) (by omega)) (usT ht) (by omega))) (fun i hi => mUp_ne (hA.ne (usD hi) (usT ht) (by omega))), a10, a11⟩
theorem SimA.wwo (hA : SimA h tg ad wa ev mc Q oz S hu) (hQ : PnOk Q) {r : Nat} (hr : r < Q.2.1) {g : Nat → Int} (hg : h.1 (ad (16 + r)) = cI .int 4 g) {v : Int} : SimA (mUp h.1 (ad (16 + r)) (cI .int 4 (mUp g 3 v)), h.2) tg ad wa ev mc Q oz (rdS S S.2.2.2.1 (mUp S.2.2.2.2.1 r v)) hu := by
  obtain ⟨q1, q2, q3, q4, -⟩ := id hQ
  obtain ⟨a1, a2, a3, a4, a5, a6, a7, a8, a9, a10, a11⟩ := id hA
  exact ⟨(mUp_ne (hA.ne (us8 (by omega) (by omega)) (usR hr) (by omega))).trans a1, a2.wr (k := 3) (G' := rdG Q.2.2.2.2.1 Q.2.2.2.2.2.1 S.2.2.2.1 (mUp S.2.2.2.2.1 r v)) hr (by omega) hg (by unfold rdG; rw [if_neg (by omega), if_neg (by omega), if_neg (by omega), mUp_self]) (fun i j hi hj hij => by unfold rdG; split <;> first | rfl | (split <;> first | rfl | (split <;> first | rfl | (rw [mUp_ne (by omega)])))) (hA.ne (us8 (by omega) (by omega)) (usR hr) (by omega)) (fun i hi hir => hA.ne (usR hi) (usR hr) (by omega)), a3.cg (mUp_ne (hA.ne (us8 (by omega) (by omega)) (usR hr) (by omega))) (fun i hi => mUp_ne (hA.ne (usK hi) (usR hr) (by omega))), a4.cg (mUp_ne (hA.ne (us8 (by omega) (by omega)) (usR hr) (by omega))) (fun i hi => mUp_ne (hA.ne (usS hi) (usR hr) (by omega))), a5.cg (mUp_ne (hA.ne (us8 (by omega) (by omega)) (usR hr) (by omega))) (fun i hi => mUp_ne (hA.ne (usT hi) (usR hr) (by omega))), a6.cg (mUp_ne (hA.ne (us8 (by omega) (by omega)) (usR hr) (by omega))), a7.cg (mUp_ne (hA.ne (us8 (by omega) (by omega)) (usR hr) (by omega))) (fun h9 => mUp_ne (hA.n7 (usR hr) h9 (by omega))), (fun i x hx => (a8 i x hx).cg (mUp_ne (hA.nw (usR hr) (List.getElem?_eq_some_iff.mp hx).1 (by omega)))), a9.cg (mUp_ne (hA.ne (us8 (by omega) (by omega)) (usR hr) (by omega))) (fun i hi => mUp_ne (hA.ne (usD hi) (usR hr) (by omega))), a10, a11⟩
theorem SimA.wmi (hA : SimA h tg ad wa ev mc Q oz S hu) (hQ : PnOk Q) {r : Nat} (hr : r < Q.2.1) {g : Nat → Int} (hg : h.1 (ad (16 + r)) = cI .int 4 g) {v : Int} : SimA (mUp h.1 (ad (16 + r)) (cI .int 4 (mUp g 2 v)), h.2) tg ad wa ev mc Q oz (rdS S (mUp S.2.2.2.1 r v) S.2.2.2.2.1) hu := by
  obtain ⟨q1, q2, q3, q4, -⟩ := id hQ
  obtain ⟨a1, a2, a3, a4, a5, a6, a7, a8, a9, a10, a11⟩ := id hA
  exact ⟨(mUp_ne (hA.ne (us8 (by omega) (by omega)) (usR hr) (by omega))).trans a1, a2.wr (k := 2) (G' := rdG Q.2.2.2.2.1 Q.2.2.2.2.2.1 (mUp S.2.2.2.1 r v) S.2.2.2.2.1) hr (by omega) hg (by unfold rdG; rw [if_neg (by omega), if_neg (by omega), if_pos rfl, mUp_self]) (fun i j hi hj hij => by unfold rdG; split <;> first | rfl | (split <;> first | rfl | (split <;> first | (rw [mUp_ne (by omega)]) | rfl))) (hA.ne (us8 (by omega) (by omega)) (usR hr) (by omega)) (fun i hi hir => hA.ne (usR hi) (usR hr) (by omega)), a3.cg (mUp_ne (hA.ne (us8 (by omega) (by omega)) (usR hr) (by omega))) (fun i hi => mUp_ne (hA.ne (usK hi) (usR hr) (by omega))), a4.cg (mUp_ne (hA.ne (us8 (by omega) (by omega)) (usR hr) (by omega))) (fun i hi => mUp_ne (hA.ne (usS hi) (usR hr) (by omega))), a5.cg (mUp_ne (hA.ne (us8 (by omega) (by omega)) (usR hr) (by omega))) (fun i hi => mUp_ne (hA.ne (usT hi) (usR hr) (by omega))), a6.cg (mUp_ne (hA.ne (us8 (by omega) (by omega)) (usR hr) (by omega))), a7.cg (mUp_ne (hA.ne (us8 (by omega) (by omega)) (usR hr) (by omega))) (fun h9 => mUp_ne (hA.n7 (usR hr) h9 (by omega))), (fun i x hx => (a8 i x hx).cg (mUp_ne (hA.nw (usR hr) (List.getElem?_eq_some_iff.mp hx).1 (by omega)))), a9.cg (mUp_ne (hA.ne (us8 (by omega) (by omega)) (usR hr) (by omega))) (fun i hi => mUp_ne (hA.ne (usD hi) (usR hr) (by omega))), a10, a11⟩
theorem SimA.whu (hA : SimA h tg ad wa ev mc Q oz S hu) (hQ : PnOk Q) {t : Nat} {g : Nat → Int} (hg : h.1 (ad 5) = cI .boolean Q.1 g) {v : Int} : SimA (mUp h.1 (ad (5)) (cI .boolean Q.1 (mUp g t v)), h.2) tg ad wa ev mc Q oz S (mUp hu t v) := by
  obtain ⟨q1, q2, q3, q4, -⟩ := id hQ
  obtain ⟨a1, a2, a3, a4, a5, a6, a7, a8, a9, a10, a11⟩ := id hA
  exact ⟨(mUp_ne (hA.ne (us8 (by omega) (by omega)) (us8 (by omega) (by omega)) (by omega))).trans a1, a2.cg (mUp_ne (hA.ne (us8 (by omega) (by omega)) (us8 (by omega) (by omega)) (by omega))) (fun i hi => mUp_ne (hA.ne (usR hi) (us8 (by omega) (by omega)) (by omega))), a3.cg (mUp_ne (hA.ne (us8 (by omega) (by omega)) (us8 (by omega) (by omega)) (by omega))) (fun i hi => mUp_ne (hA.ne (usK hi) (us8 (by omega) (by omega)) (by omega))), a4.cg (mUp_ne (hA.ne (us8 (by omega) (by omega)) (us8 (by omega) (by omega)) (by omega))) (fun i hi => mUp_ne (hA.ne (usS hi) (us8 (by omega) (by omega)) (by omega))), a5.cg (mUp_ne (hA.ne (us8 (by omega) (by omega)) (us8 (by omega) (by omega)) (by omega))) (fun i hi => mUp_ne (hA.ne (usT hi) (us8 (by omega) (by omega)) (by omega))), (by
    obtain ⟨g9, b1, b2⟩ := a6
    rw [hg] at b1
    cases b1
    exact ⟨_, mUp_self _ _ _, fun j hj => by
      by_cases hjt : j = t
      · rw [hjt, mUp_self, mUp_self]
      · rw [mUp_ne hjt, mUp_ne hjt]; exact b2 j hj⟩), a7.cg (mUp_ne (hA.ne (us8 (by omega) (by omega)) (us8 (by omega) (by omega)) (by omega))) (fun h9 => mUp_ne (hA.n7 (us8 (by omega) (by omega)) h9 (by omega))), (fun i x hx => (a8 i x hx).cg (mUp_ne (hA.nw (us8 (by omega) (by omega)) (List.getElem?_eq_some_iff.mp hx).1 (by omega)))), a9.cg (mUp_ne (hA.ne (us8 (by omega) (by omega)) (us8 (by omega) (by omega)) (by omega))) (fun i hi => mUp_ne (hA.ne (usD hi) (us8 (by omega) (by omega)) (by omega))), a10, a11⟩
abbrev obS (S : St8) (hr ca lo : Int) : St8 := (hr, ca, lo, S.2.2.2)
theorem SimA.wob (hA : SimA h tg ad wa ev mc Q oz S hu) (hQ : PnOk Q) {hr ca lo : Int} : SimA (mUp h.1 (ad (0)) (cO 10 [qI hr, qI ca, qI lo, qI Q.1, qR (ad 1), qR (ad 2), qR (ad 3), qR (ad 4), qR (ad 5), qR (ad 6), qR (ad 8)]), h.2) tg ad wa ev mc Q oz (obS S hr ca lo) hu := by
  obtain ⟨q1, q2, q3, q4, -⟩ := id hQ
  obtain ⟨a1, a2, a3, a4, a5, a6, a7, a8, a9, a10, a11⟩ := id hA
  exact ⟨mUp_self _ _ _, a2.cg (mUp_ne (hA.ne (us8 (by omega) (by omega)) (us8 (by omega) (by omega)) (by omega))) (fun i hi => mUp_ne (hA.ne (usR hi) (us8 (by omega) (by omega)) (by omega))), a3.cg (mUp_ne (hA.ne (us8 (by omega) (by omega)) (us8 (by omega) (by omega)) (by omega))) (fun i hi => mUp_ne (hA.ne (usK hi) (us8 (by omega) (by omega)) (by omega))), a4.cg (mUp_ne (hA.ne (us8 (by omega) (by omega)) (us8 (by omega) (by omega)) (by omega))) (fun i hi => mUp_ne (hA.ne (usS hi) (us8 (by omega) (by omega)) (by omega))), a5.cg (mUp_ne (hA.ne (us8 (by omega) (by omega)) (us8 (by omega) (by omega)) (by omega))) (fun i hi => mUp_ne (hA.ne (usT hi) (us8 (by omega) (by omega)) (by omega))), a6.cg (mUp_ne (hA.ne (us8 (by omega) (by omega)) (us8 (by omega) (by omega)) (by omega))), a7.cg (mUp_ne (hA.ne (us8 (by omega) (by omega)) (us8 (by omega) (by omega)) (by omega))) (fun h9 => mUp_ne (hA.n7 (us8 (by omega) (by omega)) h9 (by omega))), (fun i x hx => (a8 i x hx).cg (mUp_ne (hA.nw (us8 (by omega) (by omega)) (List.getElem?_eq_some_iff.mp hx).1 (by omega)))), a9.cg (mUp_ne (hA.ne (us8 (by omega) (by omega)) (us8 (by omega) (by omega)) (by omega))) (fun i hi => mUp_ne (hA.ne (usD hi) (us8 (by omega) (by omega)) (by omega))), a10, a11⟩
end SIMW
