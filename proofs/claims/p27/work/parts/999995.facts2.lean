section FACTS2
variable {Q : Pn} {S : St8} {r o a b : Nat}
theorem gra_u {w : Int} {i : Nat} : gu (gra Q S w) i = true ↔ woS S i < 3 ∧ (i : Int) ≠ w := by
  show (decide (woS S i < 3) && !decide ((i : Int) = w)) = true ↔ _
  simp
theorem gra_g (hS : SOk Q S) {w : Int} : GrOk (gra Q S w) Q.1 := hS.1.gr
theorem Wk.sub {w : Int} {d : Int} {u v : Nat} (h : Wk (gra Q S w) u v d) : Wk (gra Q S (-1)) u v d := h (fun x d => Wk (gra Q S (-1)) u x d) Wk.z (fun i x hi hu => by
  have h2 : gu (gra Q S (-1)) i = true := gra_u.mpr ⟨(gra_u.mp hu).1, by omega⟩
  exact ⟨fun k => k.s1 hi h2, fun k => k.s2 hi h2⟩)
theorem Wk.sup {d : Int} {u v : Nat} (hr : ¬ woS S r < 3) (h : Wk (gra Q S (-1)) u v d) : Wk (gra Q S r) u v d := h (fun x d => Wk (gra Q S r) u x d) Wk.z (fun i x hi hu => by
  have h2 : gu (gra Q S r) i = true := gra_u.mpr ⟨(gra_u.mp hu).1, fun e => hr (by rw [← Int.ofNat.inj e]; exact (gra_u.mp hu).1)⟩
  exact ⟨fun k => k.s1 hi h2, fun k => k.s2 hi h2⟩)
noncomputable abbrev wyR (Q : Pn) (S : St8) (r : Nat) : Int := dst (gra Q S (-1)) (frP Q r) (toP Q r)
/-- a detour is no shorter than the way; where the road is shut, it is the way -/
theorem det_ok (hS : SOk Q S) (hr : r < Q.2.1) : -1 ≤ detS Q S r ∧ (0 ≤ detS Q S r → 0 ≤ wyR Q S r ∧ wyR Q S r ≤ detS Q S r) ∧ (detS Q S r < 0 → ¬ woS S r < 3 → wyR Q S r < 0) := by
  obtain ⟨g1, g2, g3, -⟩ := hS.rb hr
  refine ⟨(dst_rng (gra_g hS) hS.1.1 g1 g2).1, fun h => ?_, fun h h3 => ?_⟩
  · exact d_wk (gra_g hS) g1 g2 (d_pos (gra_g hS) g1 g2 (show detS Q S r ≠ -1 by omega)).2.1.sub
  · by_cases h9 : wyR Q S r = -1
    · omega
    · have k1 := d_pos (gra_g hS) g1 g2 h9
      have k2 := d_wk (gra_g (w := (r : Int)) hS) g1 g2 (k1.2.1.sup h3)
      have k3 : dst (gra Q S r) (frP Q r) (toP Q r) < 0 := h
      omega
theorem open_ok (hS : SOk Q S) (hr : r < Q.2.1) (h : woS S r < 3) : wyR Q S r ≤ miS S r + 2 * woS S r := (d_road (gra_g hS) hr (gra_u.mpr ⟨h, by omega⟩)).2
theorem ahd_i {g : Gr} {i : Nat} : ahd g r i = true ↔ gu g i = true ∧ Lx g i r := by
  unfold ahd Lx
  simp
abbrev nN (Q : Pn) (S : St8) (w : Int) (r : Nat) : Prop := (net (gra Q S w)).2.1 r = true
theorem net_i {w : Int} (hr : r < Q.2.1) : nN Q S w r ↔ gu (gra Q S w) r = true ∧ ¬ Jn (gra Q S w) (ahd (gra Q S w) r) (frP Q r) (toP Q r) := net_iff (g := gra Q S w) hr
theorem net_open (hr : r < Q.2.1) (h : nN Q S (-1) r) : woS S r < 3 := (gra_u.mp ((net_i hr).mp h).1).1
theorem span_i : spnS Q S r = true ↔ woS S r < 3 ∧ detS Q S r = -1 := by
  rw [spnS_eq]
  simp
theorem det_jn (hS : SOk Q S) (hr : r < Q.2.1) : detS Q S r ≠ -1 ↔ Jn (gra Q S r) (gu (gra Q S r)) (frP Q r) (toP Q r) := dst_jn (gra_g hS) (hS.rb hr).1 (hS.rb hr).2.1
theorem lx_ne {g : Gr} {i : Nat} (h : Lx g i r) : i ≠ r := fun e => by
  subst e
  rcases h with h | ⟨-, h⟩ <;> omega
/-- joined by the same roads, whatever road is left out -/
theorem Jn.gw {w w2 : Int} {p : Nat → Bool} {u v : Nat} (h : Jn (gra Q S w) p u v) : Jn (gra Q S w2) p u v := h
/-- a span belongs to the net -/
theorem span_net (hS : SOk Q S) (hr : r < Q.2.1) (h : spnS Q S r = true) : nN Q S (-1) r := by
  obtain ⟨h1, h2⟩ := span_i.mp h
  refine (net_i hr).mpr ⟨gra_u.mpr ⟨h1, by omega⟩, fun hj => (det_jn hS hr).mpr ?_ h2⟩
  refine Jn.mo (g := gra Q S r) (fun i hi hp => ?_) hj
  obtain ⟨k1, k2⟩ := ahd_i.mp hp
  exact gra_u.mpr ⟨(gra_u.mp k1).1, fun e => lx_ne k2 (Int.ofNat.inj e)⟩
/-- what takes a road's place is no shorter -/
theorem rep_len (hr : r < Q.2.1) (ho : o < Q.2.1) (h1 : nN Q S r o) (h2 : ¬ nN Q S (-1) o) : miS S r + 2 * woS S r ≤ miS S o + 2 * woS S o := by
  obtain ⟨k1, k2⟩ := (net_i ho).mp h1
  by_cases hx : Lx (gra Q S (-1)) o r
  · refine absurd ((net_i ho).mpr ⟨gra_u.mpr ⟨(gra_u.mp k1).1, by omega⟩, fun hj => k2 ?_⟩) h2
    refine Jn.mo (g := gra Q S r) (fun i hi hp => ?_) hj
    obtain ⟨j1, j2⟩ := ahd_i.mp hp
    refine ahd_i.mpr ⟨gra_u.mpr ⟨(gra_u.mp j1).1, fun e => ?_⟩, j2⟩
    have e := Int.ofNat.inj e
    subst e
    rcases j2 with j2 | ⟨j2, j3⟩ <;> rcases hx with j4 | ⟨j4, j5⟩ <;> first | omega | (rw [j2] at j4; omega) | (rw [j4] at j2; omega)
  · have h3 : ¬ (gl (gra Q S (-1)) o < gl (gra Q S (-1)) r) := fun h => hx (Or.inl h)
    exact Int.not_lt.mp h3
/-- nothing takes a span's place -/
theorem rep_span (hS : SOk Q S) (hr : r < Q.2.1) (ho : o < Q.2.1) (h : spnS Q S r = true) (h1 : nN Q S r o) : nN Q S (-1) o := by
  obtain ⟨s1, s2⟩ := span_i.mp h
  obtain ⟨k1, k2⟩ := (net_i ho).mp h1
  have hor : (o : Int) ≠ r := (gra_u.mp k1).2
  refine (net_i ho).mpr ⟨gra_u.mpr ⟨(gra_u.mp k1).1, by omega⟩, fun hj => ?_⟩
  have hno : ¬ Jn (gra Q S r) (gu (gra Q S r)) (frP Q r) (toP Q r) := fun h => (det_jn hS hr).mpr h s2
  have hm : ∀ i, i < gc (gra Q S r) → ahd (gra Q S (-1)) o i = true → i ≠ r → ahd (gra Q S r) o i = true := fun i _ hp hir => by
    obtain ⟨j1, j2⟩ := ahd_i.mp hp
    exact ahd_i.mpr ⟨gra_u.mpr ⟨(gra_u.mp j1).1, fun e => hir (Int.ofNat.inj e)⟩, j2⟩
  have hup : ∀ {u v : Nat}, Jn (gra Q S r) (ahd (gra Q S r) o) u v → Jn (gra Q S r) (gu (gra Q S r)) u v := fun h => h.mo (fun i _ hp => (ahd_i.mp hp).1)
  have he : Jn (gra Q S r) (gu (gra Q S r)) (frP Q o) (toP Q o) := Jn.e1 (g := gra Q S r) ho k1
  rcases Jn.ovr (g := gra Q S r) (r := r) hm hj with j | ⟨j1, j2⟩ | ⟨j1, j2⟩
  · exact k2 j
  · exact hno (((hup j1).sy.tr he).tr (hup j2).sy)
  · exact hno (((hup j2).tr he.sy).tr (hup j1))
/-- a road of the net that is no span has something to take its place -/
theorem rep_ex (hS : SOk Q S) (hr : r < Q.2.1) (h : nN Q S (-1) r) (h2 : spnS Q S r = false) : ∃ o, o < Q.2.1 ∧ nN Q S r o ∧ ¬ nN Q S (-1) o := by
  apply Classical.byContradiction
  intro hno
  have hsub : ∀ o, o < Q.2.1 → nN Q S r o → nN Q S (-1) o := fun o ho h1 => Classical.byContradiction (fun h3 => hno ⟨o, ho, h1, h3⟩)
  have hop := net_open hr h
  have hd : detS Q S r ≠ -1 := fun e => by
    have := span_i.mpr ⟨hop, e⟩
    rw [h2] at this
    cases this
  have hj := (det_jn hS hr).mp hd
  have hjn : ∀ u v, Jn (gra Q S (-1)) (gu (gra Q S (-1))) u v ↔ Jn (gra Q S r) (gu (gra Q S r)) u v := by
    intro u v
    constructor
    · intro k
      rcases Jn.ovr (g := gra Q S r) (q := gu (gra Q S r)) (r := r) (fun i _ hp hir => gra_u.mpr ⟨(gra_u.mp hp).1, fun e => hir (Int.ofNat.inj e)⟩) k with j | ⟨j1, j2⟩ | ⟨j1, j2⟩
      · exact j
      · exact (j1.tr hj).tr j2
      · exact (j1.tr hj.sy).tr j2
    · intro k
      exact Jn.mo (g := gra Q S (-1)) (fun i _ hp => gra_u.mpr ⟨(gra_u.mp hp).1, by omega⟩) k
  have hls : ∀ v, lsB (net (gra Q S (-1))).1 v = lsB (net (gra Q S r)).1 v := fun v => by
    unfold lsB
    congr 1
    refine propext ⟨fun k p hp e => k p hp ?_, fun k p hp e => k p hp ?_⟩
    · exact net_jn.mpr ((hjn p v).mpr (net_jn.mp e))
    · exact net_jn.mpr ((hjn p v).mp (net_jn.mp e))
  have n1 := net_ls (gra_g (w := -1) hS)
  have n2 := net_ls (gra_g (w := (r : Int)) hS)
  rw [cnt_congr (fun v _ => hls v)] at n1
  have s1 := (net_sum (g := gra Q S (-1))).2
  have s2 := (net_sum (g := gra Q S r)).2
  rw [sumI_cnt] at s1 s2
  have hlt : cnt (fun i => (net (gra Q S r)).2.1 i) Q.2.1 < cnt (fun i => (net (gra Q S (-1))).2.1 i) Q.2.1 := cnt_lt (i := r) hsub hr (by
    apply Bool.eq_false_iff.mpr
    intro hk
    exact (gra_u.mp ((net_i (w := (r : Int)) hr).mp hk).1).2 rfl) h
  have e1 : ((net (gra Q S (-1))).2.2.2 : Int) = (cnt (fun i => (net (gra Q S (-1))).2.1 i) Q.2.1 : Int) := s1
  have e2 : ((net (gra Q S r)).2.2.2 : Int) = (cnt (fun i => (net (gra Q S r)).2.1 i) Q.2.1 : Int) := s2
  omega
/-- what takes a road's place -/
theorem rep_ok (hS : SOk Q S) (hr : r < Q.2.1) : (nN Q S (-1) r ∧ spnS Q S r = false ∧ ∃ o : Nat, o < Q.2.1 ∧ repS Q S r = (o : Int) ∧ ¬ nN Q S (-1) o ∧ miS S r + 2 * woS S r ≤ miS S o + 2 * woS S o) ∨ (¬ (nN Q S (-1) r ∧ spnS Q S r = false) ∧ repS Q S r = -1) := by
  have e : repS Q S r = if nN Q S (-1) r then fstI (fun o => (net (gra Q S r)).2.1 o && !(net (gra Q S (-1))).2.1 o) Q.2.1 0 else -1 := rfl
  have hp : ∀ o, ((net (gra Q S r)).2.1 o && !(net (gra Q S (-1))).2.1 o) = true ↔ nN Q S r o ∧ ¬ nN Q S (-1) o := fun o => by simp
  by_cases hn : nN Q S (-1) r
  · rw [if_pos hn] at e
    rcases fstI_sp (p := fun o => (net (gra Q S r)).2.1 o && !(net (gra Q S (-1))).2.1 o) (m := Q.2.1) (j := 0) with ⟨h1, h2⟩ | ⟨i, h1, h2, h3, h4⟩
    · refine Or.inr ⟨fun hk => ?_, by rw [e, h1]⟩
      obtain ⟨o, ho, h3⟩ := rep_ex hS hr hn hk.2
      have := h2 o (Nat.zero_le _) (by omega)
      rw [(hp o).mpr h3] at this
      cases this
    · have h3 := (hp i).mp h3
      have hi : i < Q.2.1 := by omega
      refine Or.inl ⟨hn, ?_, i, hi, by rw [e, h4], h3.2, rep_len hr hi h3.1 h3.2⟩
      apply Bool.eq_false_iff.mpr
      intro hs
      exact h3.2 (rep_span hS hr hi hs h3.1)
  · rw [if_neg hn] at e
    exact Or.inr ⟨fun h => hn h.1, e⟩
end FACTS2
