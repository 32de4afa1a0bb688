/-! ===== THE LIST OF A DRAWN LAND: its lines, what is read of it ===== -/
def tavP (j : Nat) : List Pk := [([], (0, 0, 0), []), ([32], (42, 0, j), if j % 3 = 0 then [32] else []), ([], (30, 0, 0), if j % 3 = 0 then [10] else [])]
def roaP (fr to mi : Nat → Nat) (r : Nat) : List Pk := [([], (1, 0, 0), []), ([32], (42, 1, r), []), ([32], (2, 0, 0), []), ([32], (42, 0, fr r), []), ([32], (3, 0, 0), []), ([32], (42, 0, to r), []), ([32], (4, 0, 0), []), ([32], (43, 0, mi r), []), ([], (30, 0, 0), [])]
def rumP (ba bo : Nat → Nat) (k : Nat) : List Pk := [([], (5, 0, 0), []), ([32], (42, 2, k), []), ([32], (6, 0, 0), []), ([32], (42, 0, ba k), []), ([32], (7, 0, 0), []), ([32], (43, 0, bo k), []), ([], (30, 0, 0), [])]
def hdP (z : Nat → Nat) : List Pk := if z 0 = 0 then ([([], (8, 0, 0), []), ([32], (42, 1, z 1), []), ([32], (9, 0, 0), [])] : List Pk) ++ sumP z else if z 0 = 1 then [([], (10, 0, 0), []), ([32], (42, 1, z 1), [])] else [([], (11, 0, 0), []), ([32], (42, 0, z 1), [])]
def ordP (z : Nat → Nat) : List Pk := hdP z ++ (whnP z ++ [([], (30, 0, 0), [10])])
def catP (f : Nat → List Pk) : Nat → List Pk
  | 0 => []
  | k + 1 => catP f k ++ f k
abbrev psP (f : Nat → List Pk) (k : Nat) : Nat := (catP f k).length
theorem psP_s {f : Nat → List Pk} {k : Nat} : psP f (k + 1) = psP f k + (f k).length := List.length_append
theorem catP_at {f : Nat → List Pk} {j : Nat} : ∀ {k : Nat}, j < k → ∃ R, catP f k = catP f j ++ (f j ++ R)
  | 0, h => by omega
  | k + 1, h => by
    by_cases hj : j = k
    · subst hj
      exact ⟨[], by rw [List.append_nil]; rfl⟩
    · obtain ⟨R, hR⟩ := catP_at (f := f) (j := j) (k := k) (by omega)
      exact ⟨R ++ f k, by show catP f k ++ f k = _; rw [hR, List.append_assoc, List.append_assoc]⟩
theorem tkOk.knd {x : Tk3} (h : tkOk x) : kndW (wdT x) = x.1 ∧ isWord (wdT x) = true := by
  obtain ⟨a, k, v⟩ := x
  rcases h with ⟨h1, h2, h3⟩ | ⟨h1, h2⟩ | h1
  · have h1 : a = 42 := h1
    subst h1
    have e : wdT (42, k, v) = ltr k :: dgL v := if_pos rfl
    rw [e]
    exact kw_nm k h2 v h3
  · have h1 : a = 43 := h1
    subst h1
    have e : wdT (43, k, v) = dgL v := rfl
    rw [e]
    have := kw_nb v h2
    exact ⟨this.1, this.2.1⟩
  · have h1 : a < 41 := h1
    have e : wdT (a, k, v) = txt a := by
      unfold wdT
      dsimp only
      rw [if_neg (by omega), if_neg (by omega)]
    rw [e]
    exact kw_tx a h1
theorem tkOk.lt {x : Tk3} (h : tkOk x) : x.1 < 44 := by
  rcases h with ⟨h1, _⟩ | ⟨h1, _⟩ | h1 <;> omega
/-- the rows of tokens hold the list -/
def RdT (T : List Pk) (tc : Nat) (K : Nat → Nat) (f4 sp : Nat → Int) : Prop := tc = T.length + 1 ∧ (∀ i, i < T.length → K i = kdT T i ∧ (kdT T i = 42 → sp i = spW (wdT (T.getD i dPk).2.1)) ∧ (kdT T i = 43 → f4 i = vlT T i)) ∧ K T.length = 45
theorem pwT_get {T : List Pk} {i : Nat} (hi : i < T.length) : ((pwT T).getD i p0).2.1 = wdT (T.getD i dPk).2.1 := by
  unfold pwT
  rw [List.getD_eq_getElem?_getD, List.getD_eq_getElem?_getD, List.getElem?_map, List.getElem?_eq_getElem hi]
  rfl
theorem getD_mem {T : List Pk} {i : Nat} (hi : i < T.length) : T.getD i dPk ∈ T := by
  rw [List.getD_eq_getElem?_getD, List.getElem?_eq_getElem hi]
  exact List.getElem_mem hi
theorem rdT_of {T : List Pk} {tp : Nat → Int} {len tc : Nat} {K : Nat → Nat} {f3 f4 sp : Nat → Int} (hT : TokOk tp len tc K f3 f4 sp) (hg : good (pwT T) none) (hA : At tp 0 (flat (pwT T))) (hl : (flat (pwT T)).length = len) (h400 : T.length < 400) (hk : ∀ p, p ∈ T → tkOk p.2.1) : RdT T tc K f4 sp := by
  obtain ⟨⟨t1, t1b⟩, t2, t3, t4⟩ := hT
  have hpl : (pwT T).length = T.length := List.length_map ..
  obtain ⟨l1, l2⟩ := lex (B := tp) (len := len) (ps := pwT T) (t := 0) (P := 0) (c := []) rfl hg rfl hA (by rw [Nat.zero_add]; exact hl)
  rw [hpl] at l1 l2
  have kk : ∀ i, i < T.length → tkK tp len i = kdT T i := fun i hi => by
    have := (l1 i hi).1
    rw [Nat.zero_add, pwT_get hi, (hk _ (getD_mem hi)).knd.1] at this
    unfold tkK
    rw [if_neg (by omega)]
    exact this
  have ke : tkK tp len T.length = 45 := by
    rw [Nat.zero_add] at l2
    unfold tkK
    rw [if_neg (by omega)]
    exact l2
  have k44 : ∀ i, i < T.length → kdT T i < 44 := fun i hi => (hk _ (getD_mem hi)).lt
  have htc : tc = T.length + 1 := by
    rcases Nat.lt_trichotomy tc (T.length + 1) with h | h | h
    · have h2 := kk (tc - 1) (by omega)
      have h3 := k44 (tc - 1) (by omega)
      omega
    · exact h
    · have := (t3 T.length (by omega)).2
      exact absurd ke this
  refine ⟨htc, fun i hi => ?_, by rw [(t2 T.length (by omega)).1]; exact ke⟩
  obtain ⟨a1, -, a3, a4⟩ := t2 i (by omega)
  have hki := kk i hi
  refine ⟨a1.trans hki, fun h42 => ?_, fun h43 => ?_⟩
  · rw [a4]
    unfold tkS
    rw [hki, if_pos h42]
    have := (l1 i hi).2.2
    rw [Nat.zero_add, pwT_get hi] at this
    exact this
  · rw [a3]
    unfold tkV
    rw [hki, if_pos h43]
    have := (l1 i hi).2.1
    rw [Nat.zero_add, pwT_get hi] at this
    refine this.trans ?_
    have h5 := hk _ (getD_mem hi)
    rcases hx : (T.getD i dPk).2.1 with ⟨x1, x2, x3⟩
    have e1 : kdT T i = x1 := congrArg (fun q : Tk3 => q.1) hx
    have e2 : vlT T i = ((x3 : Nat) : Int) := congrArg (fun q : Tk3 => ((q.2.2 : Nat) : Int)) hx
    rw [hx] at h5
    rw [e2]
    have h6 : x1 = 43 := by omega
    subst h6
    rcases h5 with ⟨h, _⟩ | ⟨_, h⟩ | h
    · cases h
    · exact (kw_nb x3 h).2.2
    · exact absurd h (by decide : ¬ (43 : Nat) < 41)
theorem kdT_r {A B : List Pk} {i : Nat} : kdT (A ++ B) (A.length + i) = kdT B i ∧ vlT (A ++ B) (A.length + i) = vlT B i ∧ (A ++ B).getD (A.length + i) dPk = B.getD i dPk := by
  have e : (A ++ B).getD (A.length + i) dPk = B.getD i dPk := by
    rw [List.getD_eq_getElem?_getD, List.getD_eq_getElem?_getD, List.getElem?_append_right (by omega), Nat.add_sub_cancel_left]
  refine ⟨?_, ?_, e⟩
  · show ((A ++ B).getD (A.length + i) dPk).2.1.1 = (B.getD i dPk).2.1.1
    rw [e]
  · show (((A ++ B).getD (A.length + i) dPk).2.1.2.2 : Int) = ((B.getD i dPk).2.1.2.2 : Int)
    rw [e]
theorem kdT_l {A B : List Pk} {i : Nat} (hi : i < A.length) : kdT (A ++ B) i = kdT A i ∧ vlT (A ++ B) i = vlT A i ∧ (A ++ B).getD i dPk = A.getD i dPk := by
  have e : (A ++ B).getD i dPk = A.getD i dPk := by
    rw [List.getD_eq_getElem?_getD, List.getD_eq_getElem?_getD, List.getElem?_append_left hi]
  refine ⟨?_, ?_, e⟩
  · show ((A ++ B).getD i dPk).2.1.1 = (A.getD i dPk).2.1.1
    rw [e]
  · show (((A ++ B).getD i dPk).2.1.2.2 : Int) = ((A.getD i dPk).2.1.2.2 : Int)
    rw [e]
/-- a piece of the list at a place -/
def Seg (l : List Pk) (a tc : Nat) (K : Nat → Nat) (f4 vT sp : Nat → Int) : Prop := a + l.length < tc ∧ ∀ i, i < l.length → K (a + i) = kdT l i ∧ (kdT l i = 42 → sp (a + i) = spW (wdT (l.getD i dPk).2.1)) ∧ (kdT l i = 43 → f4 (a + i) = vlT l i) ∧ vT (a + i) = vlT l i
theorem RdT.seg {T A l R : List Pk} {tc : Nat} {K : Nat → Nat} {f4 sp : Nat → Int} (h : RdT T tc K f4 sp) (e : T = A ++ (l ++ R)) : Seg l A.length tc K f4 (vlT T) sp := by
  obtain ⟨h1, h2, -⟩ := h
  have hl : T.length = A.length + (l.length + R.length) := by rw [e, List.length_append, List.length_append]
  refine ⟨by omega, fun i hi => ?_⟩
  obtain ⟨k1, k2, k3⟩ := h2 (A.length + i) (by omega)
  have e1 := kdT_r (A := A) (B := l ++ R) (i := i)
  have e2 := kdT_l (A := l) (B := R) hi
  rw [e, e1.1, e2.1] at k1
  rw [e, e1.1, e2.1, e1.2.2, e2.2.2] at k2
  rw [e, e1.1, e2.1, e1.2.1, e2.2.1] at k3
  rw [e, e1.2.1, e2.2.1]
  exact ⟨k1, k2, k3, rfl⟩
theorem Seg.l {l R : List Pk} {a tc : Nat} {K : Nat → Nat} {f4 vT sp : Nat → Int} (h : Seg (l ++ R) a tc K f4 vT sp) : Seg l a tc K f4 vT sp := by
  obtain ⟨h1, h2⟩ := h
  rw [List.length_append] at h1 h2
  refine ⟨by omega, fun i hi => ?_⟩
  obtain ⟨k1, k2, k3, k4⟩ := h2 i (by omega)
  have e2 := kdT_l (A := l) (B := R) hi
  rw [e2.1] at k1 k2 k3
  rw [e2.2.2] at k2
  rw [e2.2.1] at k3 k4
  exact ⟨k1, k2, k3, k4⟩
theorem Seg.r {l R : List Pk} {a tc : Nat} {K : Nat → Nat} {f4 vT sp : Nat → Int} (h : Seg (l ++ R) a tc K f4 vT sp) : Seg R (a + l.length) tc K f4 vT sp := by
  obtain ⟨h1, h2⟩ := h
  rw [List.length_append] at h1 h2
  refine ⟨by omega, fun i hi => ?_⟩
  obtain ⟨k1, k2, k3, k4⟩ := h2 (l.length + i) (by omega)
  have e1 := kdT_r (A := l) (B := R) (i := i)
  rw [e1.1] at k1 k2 k3
  rw [e1.2.2] at k2
  rw [e1.2.1] at k3 k4
  rw [Nat.add_assoc]
  exact ⟨k1, k2, k3, k4⟩
theorem Seg.tl {p : Pk} {R : List Pk} {a tc : Nat} {K : Nat → Nat} {f4 vT sp : Nat → Int} (h : Seg (p :: R) a tc K f4 vT sp) : Seg R (a + 1) tc K f4 vT sp := Seg.r (l := [p]) h
/-! parsing, line by line -/
theorem pLs_st {K : Nat → Nat} {F m n n1 e : Nat} {o : Option Or} {os : List Or} (h1 : pLine K F n = some (true, n1, o)) (h2 : K n1 = 30) (h3 : K n ≠ 45) (h4 : pLs K F m (n1 + 1) = some (true, e, os)) : pLs K F (m + 1) n = some (true, e, o.toList ++ os) := by
  unfold pLs
  rw [if_neg h3, h1]
  dsimp only
  rw [if_pos h2, h4]
def catO (o : Nat → Option Or) : Nat → List Or
  | 0 => []
  | k + 1 => catO o k ++ (o k).toList
theorem pLs_grp {K : Nat → Nat} {F a e : Nat} {f : Nat → List Pk} {o : Nat → Option Or} : ∀ {k m : Nat} {os : List Or}, (∀ j, j < k → ∃ n1, pLine K F (a + psP f j) = some (true, n1, o j) ∧ K n1 = 30 ∧ n1 + 1 = a + psP f (j + 1) ∧ K (a + psP f j) ≠ 45) → pLs K F m (a + psP f k) = some (true, e, os) → pLs K F (m + k) a = some (true, e, catO o k ++ os)
  | 0, _, _, _, h => h
  | k + 1, m, os, hl, h => by
    obtain ⟨n1, h1, h2, h3, h4⟩ := hl k (Nat.lt_succ_self k)
    rw [← h3] at h
    have h5 := pLs_st h1 h2 h4 h
    have h6 := pLs_grp (k := k) (m := m + 1) (fun j hj => hl j (by omega)) h5
    rw [show m + (k + 1) = m + 1 + k by omega]
    show _ = some (true, e, (catO o k ++ (o k).toList) ++ os)
    rw [List.append_assoc]
    exact h6
theorem nAll_grp {tc : Nat} {kd : Nat → Nat} {sp : Nat → Int} {f : Nat → List Pk} {a : Nat} {I : Nat → NSt → Prop} : ∀ {k : Nat} {s : NSt}, (∀ j s, j < k → I j s → ∃ s', I (j + 1) s' ∧ ∀ m, nAll tc kd sp ((f j).length + m) (a + psP f j) s = nAll tc kd sp m (a + psP f (j + 1)) s') → I 0 s → ∃ s', I k s' ∧ ∀ m, nAll tc kd sp (psP f k + m) a s = nAll tc kd sp m (a + psP f k) s'
  | 0, s, _, h0 => ⟨s, h0, fun m => by
    show nAll tc kd sp (0 + m) a s = _
    rw [Nat.zero_add]
    rfl⟩
  | k + 1, s, hs, h0 => by
    obtain ⟨s1, i1, e1⟩ := nAll_grp (k := k) (fun j s hj => hs j s (by omega)) h0
    obtain ⟨s2, i2, e2⟩ := hs k s1 (Nat.lt_succ_self k) i1
    refine ⟨s2, i2, fun m => ?_⟩
    rw [psP_s, Nat.add_assoc, e1, e2, psP_s]
theorem nAll_1 {tc m t : Nat} {kd : Nat → Nat} {sp : Nat → Int} {s : NSt} (h : s.1 = 0) : nAll tc kd sp (m + 1) t s = nAll tc kd sp m (t + 1) (nAt tc kd sp t s) := by
  show (if s.1 = 0 then nAll tc kd sp m (t + 1) (nAt tc kd sp t s) else s) = _
  rw [if_pos h]
theorem nAt_nx {tc t : Nat} {kd : Nat → Nat} {sp : Nat → Int} {s : NSt} (h0 : kd t ≠ 0) (h1 : kd t ≠ 1) (h5 : kd t ≠ 5) (h8 : kd t ≠ 8) (h10 : kd t ≠ 10) (h11 : kd t ≠ 11) (hx : kd t < 14 ∨ 20 < kd t) : nAt tc kd sp t s = s := by
  unfold nAt
  rw [if_neg h0, if_neg h1, if_neg h5, if_neg (by omega), if_neg h11, if_neg (by omega), if_neg (by omega), if_neg (by omega), if_neg (by omega)]
/-- tokens that tell nothing -/
theorem nAll_sk {tc : Nat} {kd : Nat → Nat} {sp : Nat → Int} {s : NSt} (h : s.1 = 0) : ∀ {j m t : Nat}, (∀ i, i < j → kd (t + i) ≠ 0 ∧ kd (t + i) ≠ 1 ∧ kd (t + i) ≠ 5 ∧ kd (t + i) ≠ 8 ∧ kd (t + i) ≠ 10 ∧ kd (t + i) ≠ 11 ∧ (kd (t + i) < 14 ∨ 20 < kd (t + i))) → nAll tc kd sp (j + m) t s = nAll tc kd sp m (t + j) s
  | 0, m, t, _ => by rw [Nat.zero_add]; rfl
  | j + 1, m, t, hk => by
    obtain ⟨a1, a2, a3, a4, a5, a6, a7⟩ := hk 0 (by omega)
    rw [Nat.add_zero] at a1 a2 a3 a4 a5 a6 a7
    rw [show j + 1 + m = j + m + 1 by omega, nAll_1 h, nAt_nx a1 a2 a3 a4 a5 a6 a7, nAll_sk h (j := j) (fun i hi => by rw [show t + 1 + i = t + (i + 1) by omega]; exact hk (i + 1) (by omega)), show t + 1 + j = t + (j + 1) by omega]
section PLAN
variable {fr to mi ba bo : Nat → Nat} {f4 vT sp : Nat → Int} {n c u o tc a : Nat} {s : NSt} {K kd : Nat → Nat} {z : Nat → Nat} {l : List Pk}
/-- words of the list's own kinds -/
theorem KEq.eq (h : KEq K kd) {i k : Nat} (hk : K i = k) (h33 : k ≠ 33) : kd i = k := by
  rcases h i with h1 | ⟨_, h1⟩
  · omega
  · omega
/-! orders: what is told of names -/
theorem nmA.sg {i k m : Nat} (h : nmA l i k m) (hS : Seg l a tc K f4 vT sp) : ∃ v, v < m ∧ sp (a + i) = spN k v ∧ vT (a + i) = (v : Int) ∧ a + i < tc := by
  obtain ⟨v, h1, h2⟩ := h
  have hi : i < l.length := by
    rcases Nat.lt_or_ge i l.length with h3 | h3
    · exact h3
    · rw [List.getD_eq_getElem?_getD, List.getElem?_eq_none h3] at h2
      cases h2
  obtain ⟨s1, s2⟩ := hS
  obtain ⟨k1, k2, k3, k4⟩ := s2 i hi
  have e1 : kdT l i = 42 := congrArg (fun q : Tk3 => q.1) h2
  have e2 : vlT l i = (v : Int) := congrArg (fun q : Tk3 => ((q.2.2 : Nat) : Int)) h2
  refine ⟨v, h1, ?_, by rw [k4, e2], by omega⟩
  rw [k2 e1, h2]
  rfl
theorem ord_names (hE : KEq K kd) (hn : n ≤ 10) (hc : c ≤ 14) (hu : u ≤ 6) : ∀ {l : List Pk} {a o : Nat} {s : NSt}, Seg l a tc K f4 vT sp → nmOk n c u l → NSk fr to mi ba bo f4 vT n c u o s → o + oc l ≤ 20 →
    ∃ s', NSk fr to mi ba bo f4 vT n c u (o + oc l) s' ∧ (∀ m, nAll tc kd sp (l.length + m) a s = nAll tc kd sp m (a + l.length) s') ∧ (∀ x, ro4 s' x = ro4 s x ∨ ro4 s' x = vT x) ∧ ((∀ x, a ≤ x → x < a + lead l → ro4 s x = vT x) → ∀ i, i < l.length → kdT l i = 42 → ro4 s' (a + i) = vT (a + i))
  | [], a, o, s, _, _, hN, _ => ⟨s, hN, fun m => by rw [List.length_nil, Nat.zero_add]; rfl, fun x => Or.inl rfl, fun _ i hi => absurd hi (Nat.not_lt_zero _)⟩
  | p :: l, a, o, s, hS, hO, hN, ho => by
    obtain ⟨o1, o2⟩ := hO
    have hS1 := hS.tl
    have k0 := (hS.2 0 (by rw [List.length_cons]; omega)).1
    rw [Nat.add_zero] at k0
    have k0 : K a = p.2.1.1 := k0
    have c0 : s.2.2.2.1 0 = (n : Int) := hN.2.2.1.1
    have c1 : s.2.2.2.1 1 = (c : Int) := hN.2.2.1.2.1
    have c2 : s.2.2.2.1 2 = (u : Int) := hN.2.2.1.2.2
    -- the state behind this token
    have step : ∀ (s1 : NSt) (o' : Nat), nAt tc kd sp a s = s1 → NSk fr to mi ba bo f4 vT n c u o' s1 → o' = o + (if p.2.1.1 = 8 ∨ p.2.1.1 = 10 ∨ p.2.1.1 = 11 then 1 else 0) → (∀ x, ro4 s1 x = ro4 s x ∨ ro4 s1 x = vT x) → ((∀ x, a ≤ x → x < a + lead (p :: l) → ro4 s x = vT x) → (∀ x, a + 1 ≤ x → x < a + 1 + lead l → ro4 s1 x = vT x) ∧ (p.2.1.1 = 42 → ro4 s1 a = vT a)) →
        ∃ s', NSk fr to mi ba bo f4 vT n c u (o + oc (p :: l)) s' ∧ (∀ m, nAll tc kd sp ((p :: l).length + m) a s = nAll tc kd sp m (a + (p :: l).length) s') ∧ (∀ x, ro4 s' x = ro4 s x ∨ ro4 s' x = vT x) ∧ ((∀ x, a ≤ x → x < a + lead (p :: l) → ro4 s x = vT x) → ∀ i, i < (p :: l).length → kdT (p :: l) i = 42 → ro4 s' (a + i) = vT (a + i)) := by
      intro s1 o' e1 hN1 ho' hv hld
      have hoc : oc (p :: l) = (if p.2.1.1 = 8 ∨ p.2.1.1 = 10 ∨ p.2.1.1 = 11 then 1 else 0) + oc l := rfl
      obtain ⟨s', i1, i2, i3, i4⟩ := ord_names hE hn hc hu (l := l) (a := a + 1) (o := o') (s := s1) hS1 o2 hN1 (by omega)
      refine ⟨s', by rw [hoc, ← Nat.add_assoc, ← ho']; exact i1, fun m => ?_, fun x => ?_, fun hp i hi h42 => ?_⟩
      · rw [List.length_cons, show l.length + 1 + m = l.length + m + 1 by omega, nAll_1 hN.1, e1, i2, show a + 1 + l.length = a + (l.length + 1) by omega]
      · rcases i3 x with h1 | h1
        · rw [h1]
          exact hv x
        · exact Or.inr h1
      · obtain ⟨j1, j2⟩ := hld hp
        cases i with
        | zero =>
          rw [Nat.add_zero]
          have h42 : p.2.1.1 = 42 := h42
          rcases i3 a with h1 | h1
          · rw [h1]
            exact j2 h42
          · exact h1
        | succ i =>
          rw [show a + (i + 1) = a + 1 + i by omega]
          exact i4 j1 i (by rw [List.length_cons] at hi; omega) h42
    unfold nmC at o1
    have i1 : (a : Int) + 1 = ((a + 1 : Nat) : Int) := by omega
    have i2 : (a : Int) + 2 = ((a + 2 : Nat) : Int) := by omega
    by_cases h42 : p.2.1.1 = 42
    · have hkd : kd a = 42 := hE.eq (k0.trans h42) (by decide)
      refine step s o (nAt_nx (by omega) (by omega) (by omega) (by omega) (by omega) (by omega) (by omega)) hN (by rw [if_neg (by omega), Nat.add_zero]) (fun _ => Or.inl rfl) (fun hp => ?_)
      have hl : lead (p :: l) = lead l + 1 := if_pos h42
      rw [hl] at hp
      exact ⟨fun x h1 h2 => hp x (by omega) (by omega), fun _ => hp a (Nat.le_refl _) (by omega)⟩
    rw [if_neg h42] at o1
    have hkd : p.2.1.1 ≠ 33 → kd a = p.2.1.1 := fun h => hE.eq k0 h
    by_cases q1 : p.2.1.1 = 8 ∨ p.2.1.1 = 10 ∨ p.2.1.1 = 14 ∨ p.2.1.1 = 15 ∨ p.2.1.1 = 18
    · rw [if_pos q1] at o1
      obtain ⟨hl, hA⟩ := o1
      obtain ⟨v, v1, v2, v3, v4⟩ := hA.sg hS1
      rw [Nat.add_zero] at v2 v3 v4
      have hkd := hkd (by omega)
      have fin : ∀ (sq : NSt) (oq : Nat), NSk fr to mi ba bo f4 vT n c u oq sq → ro4 sq = ro4 s → sq.2.2.2.1 = s.2.2.2.1 → nAt tc kd sp a s = nFind tc sp 1 ((a + 1 : Nat) : Int) sq → oq = o + (if p.2.1.1 = 8 ∨ p.2.1.1 = 10 ∨ p.2.1.1 = 11 then 1 else 0) → _ := fun sq oq hq e1 e2 e3 e4 => by
        obtain ⟨-, f1, f2, f3, -⟩ := hq.find (k := 1) (v := v) (t := a + 1) (by omega) (by rw [e2, c1]; omega) (by rw [e2, c1]; omega) v4 v2 v3
        exact step _ oq e3 f1 e4 (fun x => by
          by_cases hx : x = a + 1
          · rw [hx, f2, v3]; exact Or.inr rfl
          · rw [f3 x hx, e1]; exact Or.inl rfl) (fun _ => ⟨fun x h1 h2 => by
            obtain rfl : x = a + 1 := by omega
            rw [f2, v3], fun h => absurd h h42⟩)
      by_cases q2 : p.2.1.1 = 8 ∨ p.2.1.1 = 10
      · obtain ⟨g1, g2, g3⟩ := hN.ord (t := (a : Int)) (by have : oc (p :: l) = (if p.2.1.1 = 8 ∨ p.2.1.1 = 10 ∨ p.2.1.1 = 11 then 1 else 0) + oc l := rfl; rw [if_pos (by omega)] at this; omega)
        refine fin _ (o + 1) g1 g2 g3 ?_ (by rw [if_pos (by omega)])
        unfold nAt
        rw [if_neg (by omega), if_neg (by omega), if_neg (by omega), if_pos (by omega), i1]
      · refine fin s o hN rfl rfl ?_ (by rw [if_neg (by omega), Nat.add_zero])
        unfold nAt
        rw [if_neg (by omega), if_neg (by omega), if_neg (by omega), if_neg (by omega), if_neg (by omega), if_pos (by omega), i1]
    rw [if_neg q1] at o1
    by_cases q11 : p.2.1.1 = 11
    · rw [if_pos q11] at o1
      obtain ⟨hl, hA⟩ := o1
      obtain ⟨v, v1, v2, v3, v4⟩ := hA.sg hS1
      rw [Nat.add_zero] at v2 v3 v4
      have hkd := hkd (by omega)
      obtain ⟨g1, g2, g3⟩ := hN.ord (t := (a : Int)) (by have : oc (p :: l) = (if p.2.1.1 = 8 ∨ p.2.1.1 = 10 ∨ p.2.1.1 = 11 then 1 else 0) + oc l := rfl; rw [if_pos (by omega)] at this; omega)
      obtain ⟨-, f1, f2, f3, -⟩ := g1.find (k := 0) (v := v) (t := a + 1) (by omega) (by rw [g3, c0]; omega) (by rw [g3, c0]; omega) v4 v2 v3
      refine step _ (o + 1) ?_ f1 (by rw [if_pos (by omega)]) (fun x => ?_) (fun _ => ⟨fun x h1 h2 => ?_, fun h => absurd h h42⟩)
      · unfold nAt
        rw [if_neg (by omega), if_neg (by omega), if_neg (by omega), if_neg (by omega), if_pos (by omega), i1]
      · by_cases hx : x = a + 1
        · rw [hx, f2, v3]; exact Or.inr rfl
        · rw [f3 x hx, g2]; exact Or.inl rfl
      · obtain rfl : x = a + 1 := by omega
        rw [f2, v3]
    rw [if_neg q11] at o1
    by_cases q17 : p.2.1.1 = 17
    · rw [if_pos q17] at o1
      obtain ⟨hl, hA⟩ := o1
      obtain ⟨v, v1, v2, v3, v4⟩ := hA.sg hS1
      rw [Nat.add_zero] at v2 v3 v4
      have hkd := hkd (by omega)
      obtain ⟨-, f1, f2, f3, -⟩ := hN.find (k := 2) (v := v) (t := a + 1) (by omega) (by rw [c2]; omega) (by rw [c2]; omega) v4 v2 v3
      refine step _ o ?_ f1 (by rw [if_neg (by omega), Nat.add_zero]) (fun x => ?_) (fun _ => ⟨fun x h1 h2 => ?_, fun h => absurd h h42⟩)
      · unfold nAt
        rw [if_neg (by omega), if_neg (by omega), if_neg (by omega), if_neg (by omega), if_neg (by omega), if_neg (by omega), if_pos (by omega), i1]
      · by_cases hx : x = a + 1
        · rw [hx, f2, v3]; exact Or.inr rfl
        · rw [f3 x hx]; exact Or.inl rfl
      · obtain rfl : x = a + 1 := by omega
        rw [f2, v3]
    rw [if_neg q17] at o1
    by_cases q16 : p.2.1.1 = 16 ∨ p.2.1.1 = 20
    · rw [if_pos q16] at o1
      obtain ⟨hl, hA, hA2⟩ := o1
      obtain ⟨v, v1, v2, v3, v4⟩ := hA.sg hS1
      obtain ⟨w, w1, w2, w3, w4⟩ := hA2.sg hS1
      rw [Nat.add_zero] at v2 v3 v4
      have hkd := hkd (by omega)
      obtain ⟨-, f1, f2, f3, f5⟩ := hN.find (k := 0) (v := v) (t := a + 1) (by omega) (by rw [c0]; omega) (by rw [c0]; omega) v4 v2 v3
      obtain ⟨-, g1, g2, g3, -⟩ := f1.find (k := 0) (v := w) (t := a + 1 + 1) (by omega) (by rw [f5, c0]; omega) (by rw [f5, c0]; omega) w4 w2 w3
      refine step _ o ?_ g1 (by rw [if_neg (by omega), Nat.add_zero]) (fun x => ?_) (fun _ => ⟨fun x h1 h2 => ?_, fun h => absurd h h42⟩)
      · unfold nAt
        rw [if_neg (by omega), if_neg (by omega), if_neg (by omega), if_neg (by omega), if_neg (by omega), if_neg (by omega), if_neg (by omega), if_pos (by omega), i1, i2]
      · by_cases hx2 : x = a + 1 + 1
        · rw [hx2, g2, w3]; exact Or.inr rfl
        · rw [g3 x hx2]
          by_cases hx : x = a + 1
          · rw [hx, f2, v3]; exact Or.inr rfl
          · rw [f3 x hx]; exact Or.inl rfl
      · rcases (by omega : x = a + 1 ∨ x = a + 1 + 1) with rfl | rfl
        · rw [g3 _ (by omega), f2, v3]
        · rw [g2, w3]
    rw [if_neg q16] at o1
    by_cases q19 : p.2.1.1 = 19
    · rw [if_pos q19] at o1
      obtain ⟨hl, hA, hA2⟩ := o1
      obtain ⟨v, v1, v2, v3, v4⟩ := hA.sg hS1
      obtain ⟨w, w1, w2, w3, w4⟩ := hA2.sg hS1
      rw [Nat.add_zero] at v2 v3 v4
      have hkd := hkd (by omega)
      obtain ⟨-, f1, f2, f3, f5⟩ := hN.find (k := 0) (v := v) (t := a + 1) (by omega) (by rw [c0]; omega) (by rw [c0]; omega) v4 v2 v3
      obtain ⟨-, g1, g2, g3, -⟩ := f1.find (k := 2) (v := w) (t := a + 1 + 1) (by omega) (by rw [f5, c2]; omega) (by rw [f5, c2]; omega) w4 w2 w3
      refine step _ o ?_ g1 (by rw [if_neg (by omega), Nat.add_zero]) (fun x => ?_) (fun _ => ⟨fun x h1 h2 => ?_, fun h => absurd h h42⟩)
      · unfold nAt
        rw [if_neg (by omega), if_neg (by omega), if_neg (by omega), if_neg (by omega), if_neg (by omega), if_neg (by omega), if_neg (by omega), if_neg (by omega), if_pos (by omega), i1, i2]
      · by_cases hx2 : x = a + 1 + 1
        · rw [hx2, g2, w3]; exact Or.inr rfl
        · rw [g3 x hx2]
          by_cases hx : x = a + 1
          · rw [hx, f2, v3]; exact Or.inr rfl
          · rw [f3 x hx]; exact Or.inl rfl
      · rcases (by omega : x = a + 1 ∨ x = a + 1 + 1) with rfl | rfl
        · rw [g3 _ (by omega), f2, v3]
        · rw [g2, w3]
    rw [if_neg q19] at o1
    obtain ⟨hl, h0, h1, h5⟩ := o1
    refine step s o ?_ hN (by rw [if_neg (by omega), Nat.add_zero]) (fun _ => Or.inl rfl) (fun _ => ⟨fun x h1 h2 => by omega, fun h => absurd h h42⟩)
    by_cases h33 : p.2.1.1 = 33
    · have : kd a = 33 ∨ kd a = 41 := by
        rcases hE a with h | ⟨h, _⟩ <;> omega
      exact nAt_nx (by omega) (by omega) (by omega) (by omega) (by omega) (by omega) (by omega)
    · have hkd := hkd h33
      exact nAt_nx (by omega) (by omega) (by omega) (by omega) (by omega) (by omega) (by omega)
end PLAN
