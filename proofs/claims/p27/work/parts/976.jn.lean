/-! ===== PURE: joined; the net's roads; parts ===== -/
/-- joined by the roads p -/
def Jn (g : Gr) (p : Nat → Bool) (u v : Nat) : Prop := ∀ R : Nat → Prop, R u → (∀ i, i < gc g → p i = true → (R (gf g i) ↔ R (gt g i))) → R v
def rns (g : Gr) (w : Row) : Nat → Row
  | 0 => w
  | k + 1 => rnd g (rns g w k) (gc g)
/-- the roads ahead of r -/
def ahd (g : Gr) (r i : Nat) : Bool := gu g i && (decide (gl g i < gl g r) || (decide (gl g i = gl g r) && decide (i < r)))
abbrev Lx (g : Gr) (x y : Nat) : Prop := gl g x < gl g y ∨ (gl g x = gl g y ∧ x < y)
def lstB (S : NS) (v : Nat) : Bool := fstN (fun p => decide (S.1 p = S.1 v)) v 0 == v
section JN
variable {g : Gr} {n : Nat} {p q : Nat → Bool} {u v w s r : Nat}
theorem Jn.rf : Jn g p u u := fun _ h _ => h
theorem Jn.tr (h1 : Jn g p u v) (h2 : Jn g p v w) : Jn g p u w := fun R r e => h2 R (h1 R r e) e
theorem Jn.e1 (hr : r < gc g) (hp : p r = true) : Jn g p (gf g r) (gt g r) := fun _ h e => (e r hr hp).mp h
theorem Jn.e2 (hr : r < gc g) (hp : p r = true) : Jn g p (gt g r) (gf g r) := fun _ h e => (e r hr hp).mpr h
theorem Jn.sy (h : Jn g p u v) : Jn g p v u := h (fun x => Jn g p x u) Jn.rf (fun i hi hp => ⟨fun k => (Jn.e2 hi hp).tr k, fun k => (Jn.e1 hi hp).tr k⟩)
theorem Jn.mo (hm : ∀ i, i < gc g → p i = true → q i = true) (h : Jn g p u v) : Jn g q u v := fun R r e => h R r (fun i hi hp => e i hi (hm i hi hp))
theorem Jn.wk (h : Jn g (gu g) u v) : ∃ d, Wk g u v d := h (fun x => ∃ d, Wk g u x d) ⟨0, Wk.z⟩ (fun i hi hp => ⟨fun ⟨_, k⟩ => ⟨_, k.s1 hi hp⟩, fun ⟨_, k⟩ => ⟨_, k.s2 hi hp⟩⟩)
theorem Wk.jn {d : Int} (h : Wk g u v d) : Jn g (gu g) u v := h (fun x _ => Jn g (gu g) u x) Jn.rf (fun i x hi hp => ⟨fun k => k.tr (Jn.e1 hi hp), fun k => k.tr (Jn.e2 hi hp)⟩)
theorem rns_RI (hg : GrOk g n) (hs : s < n) : ∀ k, RI g n s (rns g (rw0 s) k)
  | 0 => RI.z hs
  | k + 1 => rnd_RI hg (rns_RI hg hs k) _ (Nat.le_refl _)
theorem rns_fin (hg : GrOk g n) (hs : s < n) : ∀ v, v < n → Fin1 g s (rns g (rw0 s) n) v := by
  have key : ∀ k, k < n → k + 1 ≤ nfin g s n (rns g (rw0 s) k) := by
    intro k
    induction k with
    | zero => exact fun _ => nfin_z hs (if_pos rfl) hg
    | succ k ih => exact fun hk => nfin_rnd hg hs (rns_RI hg hs k) (ih (by omega)) (by omega)
  obtain ⟨m, rfl⟩ : ∃ m, n = m + 1 := ⟨n - 1, by omega⟩
  intro v hv
  exact (fin_all (key m (by omega)) v hv).le (rnd_le g _ _)
/-- n rounds find all that is joined -/
theorem rns_jn (hg : GrOk g n) (hs : s < n) (hv : v < n) : (rns g (rw0 s) n v).isSome = true ↔ Jn g (gu g) s v := by
  constructor
  · intro h
    obtain ⟨x, hx⟩ := Option.isSome_iff_exists.mp h
    exact ((rns_RI hg hs n).2 v x hx).2.2.2.jn
  · intro h
    obtain ⟨d, hd⟩ := h.wk
    obtain ⟨y, e1, -⟩ := rns_fin hg hs v hv d hd
    rw [e1]
    rfl
theorem rlx_some {w : Row} {a b v : Nat} {l : Int} : (rlx w a b l v).isSome = if v = b ∧ (w a).isSome = true then true else (w v).isSome := by
  rcases rlx_cases w a b l with ⟨h1, h2⟩ | ⟨x, h1, h2, h3⟩
  · rw [h1]
    split
    · rename_i h
      obtain ⟨rfl, h⟩ := h
      obtain ⟨x, hx⟩ := Option.isSome_iff_exists.mp h
      obtain ⟨y, hy, -⟩ := h2 x hx
      rw [hy]
      rfl
    · rfl
  · rw [h2]
    by_cases hv : v = b
    · rw [hv, mUp_self, if_pos ⟨rfl, by rw [h1]; rfl⟩]
      rfl
    · rw [mUp_ne hv, if_neg (fun h => hv h.1)]
/-- a road makes both its ends reached, or neither -/
theorem rl2_some {w : Row} {r v : Nat} : (rl2 g w r v).isSome = if gu g r = true ∧ (v = gf g r ∨ v = gt g r) then ((w (gf g r)).isSome || (w (gt g r)).isSome) else (w v).isSome := by
  unfold rl2
  by_cases hu : gu g r = true
  · rw [if_pos hu, rlx_some, rlx_some, rlx_some]
    cases hf : (w (gf g r)).isSome <;> cases ht : (w (gt g r)).isSome <;> by_cases h1 : v = gf g r <;> by_cases h2 : v = gt g r <;> simp_all
  · rw [if_neg hu, if_neg (fun h => hu h.1)]
/-! roads in their order -/
theorem lx_ins {k : Nat} : ∀ {l : List Nat}, (∀ x, x ∈ l → x < k) → l.Pairwise (Lx g) → (ins (gl g) k l).Pairwise (Lx g)
  | [], _, _ => by simp [ins]
  | y :: l, hk, h => by
    obtain ⟨h1, h2⟩ := List.pairwise_cons.mp h
    unfold ins
    split
    · rename_i hlt
      refine List.pairwise_cons.mpr ⟨fun x hx => ?_, h⟩
      rcases List.mem_cons.mp hx with rfl | hx
      · exact Or.inl hlt
      · have := h1 x hx
        unfold Lx at this ⊢
        omega
    · rename_i hlt
      refine List.pairwise_cons.mpr ⟨fun x hx => ?_, lx_ins (fun x hx => hk x (List.mem_cons_of_mem _ hx)) h2⟩
      rcases mem_ins.mp hx with rfl | hx
      · have := hk y List.mem_cons_self
        unfold Lx
        omega
      · exact h1 x hx
theorem lx_srt : ∀ {k : Nat}, (srt g k).Pairwise (Lx g)
  | 0 => List.Pairwise.nil
  | k + 1 => by
    unfold srt
    split
    · exact lx_ins (fun x hx => (mem_srt.mp hx).1) lx_srt
    · exact lx_srt
/-- what is before r in the order are the roads ahead of it -/
theorem srt_at (hr : r < gc g) (hu : gu g r = true) : ∃ a d, srt g (gc g) = a ++ r :: d ∧ (∀ i, i ∈ a ↔ i < gc g ∧ ahd g r i = true) ∧ (∀ i, i ∈ d → i ≠ r) := by
  obtain ⟨a, d, e⟩ := List.append_of_mem (mem_srt.mpr ⟨hr, hu⟩ : r ∈ srt g (gc g))
  have hp : (srt g (gc g)).Pairwise (Lx g) := lx_srt
  rw [e] at hp
  obtain ⟨-, p2, p3⟩ := List.pairwise_append.mp hp
  have p4 := (List.pairwise_cons.mp p2).1
  refine ⟨a, d, e, fun i => ⟨fun hi => ?_, fun hi => ?_⟩, fun i hi h => ?_⟩
  · have h1 := p3 i hi r List.mem_cons_self
    have h2 := mem_srt.mp (by rw [e]; exact List.mem_append_left _ hi : i ∈ srt g (gc g))
    refine ⟨h2.1, ?_⟩
    unfold ahd
    rw [h2.2]
    unfold Lx at h1
    simpa using h1
  · obtain ⟨h1, h2⟩ := hi
    unfold ahd at h2
    simp only [Bool.and_eq_true, Bool.or_eq_true, decide_eq_true_eq] at h2
    have h3 : i ∈ srt g (gc g) := mem_srt.mpr ⟨h1, h2.1⟩
    rw [e] at h3
    rcases List.mem_append.mp h3 with h3 | h3
    · exact h3
    · rcases List.mem_cons.mp h3 with h3 | h3
      · subst h3
        omega
      · have := p4 i h3
        unfold Lx at this
        omega
  · have := p4 i hi
    subst h
    unfold Lx at this
    omega
/-- labels tell what is joined -/
theorem ksp_jn {S : NS} {x : Nat} (hx : x < gc g) (hS : ∀ u v, S.1 u = S.1 v ↔ Jn g p u v) : ∀ u v, (ksp g S x).1 u = (ksp g S x).1 v ↔ Jn g (fun i => p i || decide (i = x)) u v := by
  intro u v
  have mo : ∀ {u v}, Jn g p u v → Jn g (fun i => p i || decide (i = x)) u v := fun h => h.mo (fun i _ hp => by rw [hp]; rfl)
  unfold ksp
  by_cases hl : S.1 (gf g x) = S.1 (gt g x)
  · rw [if_pos hl, hS]
    refine ⟨mo, fun h => h (fun z => Jn g p u z) Jn.rf (fun i hi hp => ?_)⟩
    have hj : Jn g p (gf g i) (gt g i) := by
      rcases Bool.or_eq_true _ _ ▸ hp with h1 | h1
      · exact Jn.e1 hi h1
      · have := of_decide_eq_true h1
        subst this
        exact (hS _ _).mp hl
    exact ⟨fun k => k.tr hj, fun k => k.tr hj.sy⟩
  · rw [if_neg hl]
    show (if S.1 u = S.1 (gt g x) then S.1 (gf g x) else S.1 u) = (if S.1 v = S.1 (gt g x) then S.1 (gf g x) else S.1 v) ↔ _
    have x1 : Jn g (fun i => p i || decide (i = x)) (gf g x) (gt g x) := Jn.e1 hx (by simp)
    constructor
    · intro h
      split at h <;> split at h <;> rename_i a b
      · exact mo (((hS _ _).mp a).tr ((hS _ _).mp b).sy)
      · exact (mo ((hS _ _).mp a)).tr (x1.sy.tr (mo ((hS _ _).mp h)))
      · exact (mo ((hS _ _).mp h)).tr (x1.tr (mo ((hS _ _).mp b).sy))
      · exact mo ((hS _ _).mp h)
    · intro h
      refine h (fun z => (if S.1 u = S.1 (gt g x) then S.1 (gf g x) else S.1 u) = (if S.1 z = S.1 (gt g x) then S.1 (gf g x) else S.1 z)) rfl (fun i hi hp => ?_)
      have hj : (if S.1 (gf g i) = S.1 (gt g x) then S.1 (gf g x) else S.1 (gf g i)) = (if S.1 (gt g i) = S.1 (gt g x) then S.1 (gf g x) else S.1 (gt g i)) := by
        rcases Bool.or_eq_true _ _ ▸ hp with h1 | h1
        · rw [(hS _ _).mpr (Jn.e1 hi h1)]
        · have := of_decide_eq_true h1
          subst this
          rw [if_neg hl, if_pos rfl]
      try dsimp only
      rw [hj]
theorem fold_jn : ∀ {l : List Nat} {S : NS} {p : Nat → Bool}, (∀ x, x ∈ l → x < gc g) → (∀ u v, S.1 u = S.1 v ↔ Jn g p u v) → ∀ u v, (l.foldl (ksp g) S).1 u = (l.foldl (ksp g) S).1 v ↔ Jn g (fun i => p i || decide (i ∈ l)) u v
  | [], S, p, _, hS, u, v => by
    have : (fun i => p i || decide (i ∈ ([] : List Nat))) = p := by funext i; simp
    rw [this]
    exact hS u v
  | x :: l, S, p, hl, hS, u, v => by
    have := fold_jn (l := l) (fun y hy => hl y (List.mem_cons_of_mem _ hy)) (ksp_jn (hl x List.mem_cons_self) hS) u v
    have e : (fun i => p i || decide (i ∈ x :: l)) = (fun i => (p i || decide (i = x)) || decide (i ∈ l)) := by
      funext i
      simp [Bool.or_assoc]
    rw [e]
    exact this
theorem fold_jn0 {l : List Nat} (hl : ∀ x, x ∈ l → x < gc g) (u v : Nat) : (l.foldl (ksp g) (fun t => t, fun _ => false, 0, 0)).1 u = (l.foldl (ksp g) (fun t => t, fun _ => false, 0, 0)).1 v ↔ Jn g (fun i => decide (i ∈ l)) u v := by
  have := fold_jn (g := g) (l := l) (S := (fun t => t, fun _ => false, 0, 0)) (p := fun _ => false) hl (fun u v => ⟨fun h => by
    have h : u = v := h
    rw [h]
    exact Jn.rf, fun h => h (fun z => u = z) rfl (fun _ _ hp => by cases hp)⟩) u v
  simpa using this
theorem fold_mk : ∀ {l : List Nat} {S : NS} {r : Nat}, (∀ i, i ∈ l → i ≠ r) → (l.foldl (ksp g) S).2.1 r = S.2.1 r
  | [], _, _, _ => rfl
  | x :: l, S, r, h => by
    rw [List.foldl_cons, fold_mk (fun i hi => h i (List.mem_cons_of_mem _ hi))]
    unfold ksp
    split
    · rfl
    · show mUp S.2.1 x true r = _
      rw [mUp_ne (fun e => h x List.mem_cons_self e.symm)]
/-- a road of the net: open, and its ends not joined by the roads ahead -/
theorem net_iff (hr : r < gc g) : (net g).2.1 r = true ↔ gu g r = true ∧ ¬ Jn g (ahd g r) (gf g r) (gt g r) := by
  by_cases hu : gu g r = true
  · obtain ⟨a, d, e, ha, hd⟩ := srt_at hr hu
    have h1 : (net g).2.1 r = (ksp g (a.foldl (ksp g) (fun t => t, fun _ => false, 0, 0)) r).2.1 r := by
      unfold net
      rw [e, List.foldl_append, List.foldl_cons, fold_mk hd]
    have h2 := fold_jn0 (g := g) (l := a) (fun x hx => ((ha x).mp hx).1) (gf g r) (gt g r)
    have h4 : (a.foldl (ksp g) (fun t => t, fun _ => false, 0, 0)).2.1 r = false := by
      rw [fold_mk]
      intro i hi h
      subst h
      have := ((ha i).mp hi).2
      unfold ahd at this
      simp at this
    have h5 : Jn g (fun i => decide (i ∈ a)) (gf g r) (gt g r) ↔ Jn g (ahd g r) (gf g r) (gt g r) := ⟨fun h => h.mo (fun i _ hp => ((ha i).mp (of_decide_eq_true hp)).2), fun h => h.mo (fun i hi hp => decide_eq_true ((ha i).mpr ⟨hi, hp⟩))⟩
    rw [h1]
    generalize a.foldl (ksp g) (fun t => t, fun _ => false, 0, 0) = S at *
    unfold ksp
    by_cases hl : S.1 (gf g r) = S.1 (gt g r)
    · rw [if_pos hl, h4]
      exact ⟨fun h => absurd h (by decide), fun h => absurd (h5.mp (h2.mp hl)) h.2⟩
    · rw [if_neg hl]
      exact ⟨fun _ => ⟨hu, fun h => hl (h2.mpr (h5.mpr h))⟩, fun _ => mUp_self _ _ _⟩
  · refine ⟨fun h => ?_, fun h => absurd h.1 hu⟩
    have : (net g).2.1 r = false := by
      unfold net
      rw [fold_mk]
      intro i hi h
      subst h
      exact hu (mem_srt.mp hi).2
    rw [this] at h
    cases h
/-- its length and number -/
theorem fold_sum : ∀ {l : List Nat} {S : NS} {c : Nat}, (∀ i, i ∈ l → i < c ∧ S.2.1 i = false) → l.Pairwise (Lx g) → S.2.2.1 = sumI (fun r => if S.2.1 r = true then gl g r else 0) c → (S.2.2.2 : Int) = sumI (fun r => if S.2.1 r = true then 1 else 0) c → (l.foldl (ksp g) S).2.2.1 = sumI (fun r => if (l.foldl (ksp g) S).2.1 r = true then gl g r else 0) c ∧ ((l.foldl (ksp g) S).2.2.2 : Int) = sumI (fun r => if (l.foldl (ksp g) S).2.1 r = true then 1 else 0) c
  | [], _, _, _, _, h1, h2 => ⟨h1, h2⟩
  | x :: l, S, c, hl, hp, h1, h2 => by
    obtain ⟨p1, p2⟩ := List.pairwise_cons.mp hp
    rw [List.foldl_cons]
    obtain ⟨x1, x2⟩ := hl x List.mem_cons_self
    refine fold_sum (fun i hi => ⟨(hl i (List.mem_cons_of_mem _ hi)).1, ?_⟩) p2 ?_ ?_
    · have := p1 i hi
      unfold ksp
      split
      · exact (hl i (List.mem_cons_of_mem _ hi)).2
      · show mUp S.2.1 x true i = false
        rw [mUp_ne (fun e => by subst e; unfold Lx at this; omega)]
        exact (hl i (List.mem_cons_of_mem _ hi)).2
    · unfold ksp
      split
      · exact h1
      · show S.2.2.1 + gl g x = sumI (fun r => if mUp S.2.1 x true r = true then gl g r else 0) c
        have := sumI_upd (f := fun r => if S.2.1 r = true then gl g r else 0) (g := fun r => if mUp S.2.1 x true r = true then gl g r else 0) (i := x) (m := c) x1 (fun j hj => by rw [mUp_ne hj])
        try dsimp only at this
        rw [mUp_self, x2, if_pos rfl, if_neg (by decide)] at this
        omega
    · unfold ksp
      split
      · exact h2
      · show ((S.2.2.2 + 1 : Nat) : Int) = sumI (fun r => if mUp S.2.1 x true r = true then 1 else 0) c
        have := sumI_upd (f := fun r => if S.2.1 r = true then (1 : Int) else 0) (g := fun r => if mUp S.2.1 x true r = true then (1 : Int) else 0) (i := x) (m := c) x1 (fun j hj => by rw [mUp_ne hj])
        try dsimp only at this
        rw [mUp_self, x2, if_pos rfl, if_neg (by decide)] at this
        omega
theorem sumI_z : ∀ {c : Nat}, sumI (fun _ => (0 : Int)) c = 0
  | 0 => rfl
  | c + 1 => by
    rw [sumI_s, sumI_z]
    rfl
theorem net_sum : (net g).2.2.1 = sumI (fun r => if (net g).2.1 r = true then gl g r else 0) (gc g) ∧ ((net g).2.2.2 : Int) = sumI (fun r => if (net g).2.1 r = true then 1 else 0) (gc g) := by
  unfold net
  refine fold_sum (fun i hi => ⟨(mem_srt.mp hi).1, rfl⟩) lx_srt ?_ ?_
  · show (0 : Int) = sumI (fun _ => 0) _
    exact sumI_z.symm
  · show (0 : Int) = sumI (fun _ => 0) _
    exact sumI_z.symm
end JN
