/-! ===== THE LINES OF THE LIST ===== -/
theorem pSeq_t {K : Nat → Nat} : ∀ {l : List Nat} {n : Nat}, (∀ i, i < l.length → K (n + i) = l.getD i 0) → pSeq K l n = (true, n + l.length)
  | [], _, _ => rfl
  | a :: l, n, h => by
    unfold pSeq
    have h0 := h 0 (by rw [List.length_cons]; omega)
    rw [Nat.add_zero] at h0
    have h0 : K n = a := h0
    rw [if_pos h0, pSeq_t (fun i hi => by rw [show n + 1 + i = n + (i + 1) by omega]; exact h (i + 1) (by rw [List.length_cons]; omega)), List.length_cons]
    congr 1
    omega
section PLAN2
variable {fr to mi ba bo : Nat → Nat} {f4 vT sp : Nat → Int} {n c u o tc a : Nat} {s : NSt} {K kd : Nat → Nat} {z : Nat → Nat} {l : List Pk}
theorem ln_tav {j : Nat} (hS : Seg (tavP j) a tc K f4 vT sp) : ∃ n1, pLine K 6500 a = some (true, n1, none) ∧ K n1 = 30 ∧ n1 + 1 = a + (tavP j).length ∧ K a ≠ 45 := by
  have k0 : K (a + 0) = 0 := (hS.2 0 (show 0 < 3 by decide)).1
  have k1 : K (a + 1) = 42 := (hS.2 1 (show 1 < 3 by decide)).1
  have k2 : K (a + 2) = 30 := (hS.2 2 (show 2 < 3 by decide)).1
  rw [Nat.add_zero] at k0
  refine ⟨a + 2, ?_, k2, rfl, by omega⟩
  unfold pLine
  rw [if_pos k0, pSeq_t (l := [0, 42]) (fun i hi => ?_)]
  · rfl
  · have hi : i < 2 := hi
    rcases (by omega : i = 0 ∨ i = 1) with rfl | rfl
    · exact k0
    · exact k1
theorem ln_roa {r : Nat} (hS : Seg (roaP fr to mi r) a tc K f4 vT sp) : ∃ n1, pLine K 6500 a = some (true, n1, none) ∧ K n1 = 30 ∧ n1 + 1 = a + (roaP fr to mi r).length ∧ K a ≠ 45 := by
  have k0 : K (a + 0) = 1 := (hS.2 0 (show 0 < 9 by decide)).1
  have k1 : K (a + 1) = 42 := (hS.2 1 (show 1 < 9 by decide)).1
  have k2 : K (a + 2) = 2 := (hS.2 2 (show 2 < 9 by decide)).1
  have k3 : K (a + 3) = 42 := (hS.2 3 (show 3 < 9 by decide)).1
  have k4 : K (a + 4) = 3 := (hS.2 4 (show 4 < 9 by decide)).1
  have k5 : K (a + 5) = 42 := (hS.2 5 (show 5 < 9 by decide)).1
  have k6 : K (a + 6) = 4 := (hS.2 6 (show 6 < 9 by decide)).1
  have k7 : K (a + 7) = 43 := (hS.2 7 (show 7 < 9 by decide)).1
  have k8 : K (a + 8) = 30 := (hS.2 8 (show 8 < 9 by decide)).1
  rw [Nat.add_zero] at k0
  refine ⟨a + 8, ?_, k8, rfl, by omega⟩
  unfold pLine
  rw [if_neg (by omega), if_pos k0, pSeq_t (l := [1, 42, 2, 42, 3, 42, 4, 43]) (fun i hi => ?_)]
  · rfl
  · have hi : i < 8 := hi
    rcases (by omega : i = 0 ∨ i = 1 ∨ i = 2 ∨ i = 3 ∨ i = 4 ∨ i = 5 ∨ i = 6 ∨ i = 7) with rfl | rfl | rfl | rfl | rfl | rfl | rfl | rfl
    · exact k0
    · exact k1
    · exact k2
    · exact k3
    · exact k4
    · exact k5
    · exact k6
    · exact k7
theorem ln_rum {k : Nat} (hS : Seg (rumP ba bo k) a tc K f4 vT sp) : ∃ n1, pLine K 6500 a = some (true, n1, none) ∧ K n1 = 30 ∧ n1 + 1 = a + (rumP ba bo k).length ∧ K a ≠ 45 := by
  have k0 : K (a + 0) = 5 := (hS.2 0 (show 0 < 7 by decide)).1
  have k1 : K (a + 1) = 42 := (hS.2 1 (show 1 < 7 by decide)).1
  have k2 : K (a + 2) = 6 := (hS.2 2 (show 2 < 7 by decide)).1
  have k3 : K (a + 3) = 42 := (hS.2 3 (show 3 < 7 by decide)).1
  have k4 : K (a + 4) = 7 := (hS.2 4 (show 4 < 7 by decide)).1
  have k5 : K (a + 5) = 43 := (hS.2 5 (show 5 < 7 by decide)).1
  have k6 : K (a + 6) = 30 := (hS.2 6 (show 6 < 7 by decide)).1
  rw [Nat.add_zero] at k0
  refine ⟨a + 6, ?_, k6, rfl, by omega⟩
  unfold pLine
  rw [if_neg (by omega), if_neg (by omega), if_pos k0, pSeq_t (l := [5, 42, 6, 42, 7, 43]) (fun i hi => ?_)]
  · rfl
  · have hi : i < 6 := hi
    rcases (by omega : i = 0 ∨ i = 1 ∨ i = 2 ∨ i = 3 ∨ i = 4 ∨ i = 5) with rfl | rfl | rfl | rfl | rfl | rfl
    · exact k0
    · exact k1
    · exact k2
    · exact k3
    · exact k4
    · exact k5
/-- an order as it is read at a -/
def ordO (z : Nat → Nat) (a : Nat) : Or := (a, if z 0 = 0 then shf (a + 3) (sumL z) else [], shf (a + (hdP z).length + 1) (tstL z))
theorem ln_ord (h0 : z 0 ≤ 2) (h2 : z 2 ≤ 7) (h3 : z 3 ≤ 8) (hS : Seg (ordP z) a tc K f4 vT sp) : ∃ n1, pLine K 6500 a = some (true, n1, some (ordO z a)) ∧ K n1 = 30 ∧ n1 + 1 = a + (ordP z).length ∧ K a ≠ 45 := by
  have S1 : Seg (hdP z) a tc K f4 vT sp := Seg.l hS
  have S2 : Seg (whnP z ++ [([], (30, 0, 0), [10])]) (a + (hdP z).length) tc K f4 vT sp := Seg.r hS
  have S3 := Seg.l S2
  have S4 := Seg.r S2
  have S5 := S3.tl
  have k12 : K (a + (hdP z).length) = 12 := (S3.2 0 (by show 0 < (tstP z).length + 1; omega)).1
  have k30 : K (a + (hdP z).length + (whnP z).length + 0) = 30 := (S4.2 0 (show 0 < 1 by decide)).1
  have hwl : (whnP z).length = (tstP z).length + 1 := rfl
  have hol : (ordP z).length = (hdP z).length + ((tstP z).length + 1 + 1) := by
    unfold ordP
    rw [List.length_append, List.length_append, hwl]
    rfl
  rw [hwl] at k30
  have pt := tst_par (K := K) (n := a + (hdP z).length + 1) (z := z) h3 (fun i hi => (S5.2 i hi).1) (by rw [← k30]; congr 1; omega)
  have e30 : K (a + (hdP z).length + 1 + (tstP z).length) = 30 := by rw [← k30]; congr 1; omega
  refine ⟨a + (hdP z).length + 1 + (tstP z).length, ?_, e30, by omega, ?_⟩
  · rcases (by omega : z 0 = 0 ∨ z 0 = 1 ∨ z 0 = 2) with hz | hz | hz
    · have eh : hdP z = ([([], (8, 0, 0), []), ([32], (42, 1, z 1), []), ([32], (9, 0, 0), [])] : List Pk) ++ sumP z := if_pos hz
      rw [eh] at S1
      have S6 := Seg.l S1
      have S7 : Seg (sumP z) (a + 3) tc K f4 vT sp := Seg.r S1
      have k0 : K (a + 0) = 8 := (S6.2 0 (show 0 < 3 by decide)).1
      have k1 : K (a + 1) = 42 := (S6.2 1 (show 1 < 3 by decide)).1
      have k2 : K (a + 2) = 9 := (S6.2 2 (show 2 < 3 by decide)).1
      rw [Nat.add_zero] at k0
      have hhl : (hdP z).length = 3 + (sumP z).length := by rw [eh, List.length_append]; rfl
      have e12 : K (a + 3 + (sumP z).length) = 12 := by rw [← k12, hhl]; congr 1; omega
      have ps := sum_par (K := K) (n := a + 3) (z := z) h2 (fun i hi => (S7.2 i hi).1) e12
      unfold pLine pOrder
      rw [if_neg (by omega), if_neg (by omega), if_neg (by omega), if_pos k0, if_pos k1, if_pos k2, ps]
      dsimp only
      rw [if_pos e12, show a + 3 + (sumP z).length + 1 = a + (hdP z).length + 1 by omega, pt]
      unfold ordO
      rw [if_pos hz]
      rfl
    · have eh : hdP z = ([([], (10, 0, 0), []), ([32], (42, 1, z 1), [])] : List Pk) := by unfold hdP; rw [if_neg (by omega), if_pos hz]
      rw [eh] at S1
      have k0 : K (a + 0) = 10 := (S1.2 0 (show 0 < 2 by decide)).1
      have k1 : K (a + 1) = 42 := (S1.2 1 (show 1 < 2 by decide)).1
      rw [Nat.add_zero] at k0
      have hhl : (hdP z).length = 2 := by rw [eh]; rfl
      have e12 : K (a + 2) = 12 := by rw [← k12, hhl]
      unfold pLine pOrder
      rw [if_neg (by omega), if_neg (by omega), if_neg (by omega), if_neg (by omega), if_pos (Or.inl k0), if_pos k1, if_pos e12, show a + 3 = a + (hdP z).length + 1 by omega, pt]
      unfold ordO
      rw [if_neg (by omega)]
      rfl
    · have eh : hdP z = ([([], (11, 0, 0), []), ([32], (42, 0, z 1), [])] : List Pk) := by unfold hdP; rw [if_neg (by omega), if_neg (by omega)]
      rw [eh] at S1
      have k0 : K (a + 0) = 11 := (S1.2 0 (show 0 < 2 by decide)).1
      have k1 : K (a + 1) = 42 := (S1.2 1 (show 1 < 2 by decide)).1
      rw [Nat.add_zero] at k0
      have hhl : (hdP z).length = 2 := by rw [eh]; rfl
      have e12 : K (a + 2) = 12 := by rw [← k12, hhl]
      unfold pLine pOrder
      rw [if_neg (by omega), if_neg (by omega), if_neg (by omega), if_neg (by omega), if_pos (Or.inr k0), if_pos k1, if_pos e12, show a + 3 = a + (hdP z).length + 1 by omega, pt]
      unfold ordO
      rw [if_neg (by omega)]
      rfl
  · have hl : 0 < (hdP z).length := by
      unfold hdP
      split
      · rw [List.length_append]; exact Nat.lt_of_lt_of_le (show 0 < 3 by decide) (Nat.le_add_right _ _)
      · split <;> exact Nat.succ_pos _
    have k0 : K (a + 0) = kdT (hdP z) 0 := (S1.2 0 hl).1
    rw [Nat.add_zero] at k0
    rw [k0]
    unfold hdP
    split
    · exact (by decide : (8 : Nat) ≠ 45)
    · split
      · exact (by decide : (10 : Nat) ≠ 45)
      · exact (by decide : (11 : Nat) ≠ 45)
/-! names of the lines -/
theorem na_tav (hE : KEq K kd) {j : Nat} (hj : j < 10) (hS : Seg (tavP j) a tc K f4 vT sp) (hN : NSk fr to mi ba bo f4 vT j c u o s) : ∃ s', NSk fr to mi ba bo f4 vT (j + 1) c u o s' ∧ ∀ m, nAll tc kd sp ((tavP j).length + m) a s = nAll tc kd sp m (a + (tavP j).length) s' := by
  have k0 : K (a + 0) = 0 := (hS.2 0 (show 0 < 3 by decide)).1
  have k1 : K (a + 1) = 42 := (hS.2 1 (show 1 < 3 by decide)).1
  have k2 : K (a + 2) = 30 := (hS.2 2 (show 2 < 3 by decide)).1
  rw [Nat.add_zero] at k0
  have s1 : sp (a + 1) = spN 0 j := (hS.2 1 (show 1 < 3 by decide)).2.1 rfl
  have hl : a + 3 < tc := hS.1
  have e0 := hE.eq k0 (by decide)
  have e1 := hE.eq k1 (by decide)
  have e2 := hE.eq k2 (by decide)
  have hN1 := hN.tell0 (tc := tc) (t := a + 1) hj (by omega) s1
  refine ⟨_, hN1, fun m => ?_⟩
  show nAll tc kd sp (3 + m) a s = nAll tc kd sp m (a + 3) _
  rw [show 3 + m = 2 + m + 1 by omega, nAll_1 hN.1]
  have ea : nAt tc kd sp a s = nTell tc sp 0 ((a + 1 : Nat) : Int) s := by
    unfold nAt
    rw [if_pos e0, show (a : Int) + 1 = ((a + 1 : Nat) : Int) by omega]
  rw [ea, nAll_sk hN1.1 (j := 2) (fun i hi => ?_)]
  rcases (by omega : i = 0 ∨ i = 1) with rfl | rfl
  · rw [Nat.add_zero, e1]; decide
  · rw [show a + 1 + 1 = a + 2 by omega, e2]; decide
theorem na_roa (hE : KEq K kd) {r : Nat} (hn : n ≤ 10) (hr : r < 14) (hf : fr r < n) (hto : to r < n) (hft : fr r ≠ to r) (hm : 1 ≤ mi r ∧ mi r ≤ 30) (hS : Seg (roaP fr to mi r) a tc K f4 vT sp) (hN : NSk fr to mi ba bo f4 vT n r u o s) : ∃ s', NSk fr to mi ba bo f4 vT n (r + 1) u o s' ∧ ∀ m, nAll tc kd sp ((roaP fr to mi r).length + m) a s = nAll tc kd sp m (a + (roaP fr to mi r).length) s' := by
  have k0 : K (a + 0) = 1 := (hS.2 0 (show 0 < 9 by decide)).1
  have k1 : K (a + 1) = 42 := (hS.2 1 (show 1 < 9 by decide)).1
  have k2 : K (a + 2) = 2 := (hS.2 2 (show 2 < 9 by decide)).1
  have k3 : K (a + 3) = 42 := (hS.2 3 (show 3 < 9 by decide)).1
  have k4 : K (a + 4) = 3 := (hS.2 4 (show 4 < 9 by decide)).1
  have k5 : K (a + 5) = 42 := (hS.2 5 (show 5 < 9 by decide)).1
  have k6 : K (a + 6) = 4 := (hS.2 6 (show 6 < 9 by decide)).1
  have k7 : K (a + 7) = 43 := (hS.2 7 (show 7 < 9 by decide)).1
  have k8 : K (a + 8) = 30 := (hS.2 8 (show 8 < 9 by decide)).1
  rw [Nat.add_zero] at k0
  have hl : a + 9 < tc := hS.1
  have hN1 := hN.road (tc := tc) (t := a) hn hr (by omega) ((hS.2 1 (show 1 < 9 by decide)).2.1 rfl) ((hS.2 3 (show 3 < 9 by decide)).2.1 rfl) ((hS.2 5 (show 5 < 9 by decide)).2.1 rfl) (hS.2 3 (show 3 < 9 by decide)).2.2.2 (hS.2 5 (show 5 < 9 by decide)).2.2.2 (hS.2 7 (show 7 < 9 by decide)).2.2.2 ((hS.2 7 (show 7 < 9 by decide)).2.2.1 rfl) hf hto hft hm
  refine ⟨_, hN1, fun m => ?_⟩
  show nAll tc kd sp (9 + m) a s = nAll tc kd sp m (a + 9) _
  have e0 := hE.eq k0 (by decide)
  rw [show 9 + m = 8 + m + 1 by omega, nAll_1 hN.1]
  have ea : nAt tc kd sp a s = nRoadAt tc sp (a : Int) s := by
    unfold nAt
    rw [if_neg (by omega), if_pos e0]
  rw [ea, nAll_sk hN1.1 (j := 8) (fun i hi => ?_)]
  rcases (by omega : i = 0 ∨ i = 1 ∨ i = 2 ∨ i = 3 ∨ i = 4 ∨ i = 5 ∨ i = 6 ∨ i = 7) with rfl | rfl | rfl | rfl | rfl | rfl | rfl | rfl
  · rw [show a + 1 + 0 = a + 1 by omega, hE.eq k1 (by decide)]; decide
  · rw [show a + 1 + 1 = a + 2 by omega, hE.eq k2 (by decide)]; decide
  · rw [show a + 1 + 2 = a + 3 by omega, hE.eq k3 (by decide)]; decide
  · rw [show a + 1 + 3 = a + 4 by omega, hE.eq k4 (by decide)]; decide
  · rw [show a + 1 + 4 = a + 5 by omega, hE.eq k5 (by decide)]; decide
  · rw [show a + 1 + 5 = a + 6 by omega, hE.eq k6 (by decide)]; decide
  · rw [show a + 1 + 6 = a + 7 by omega, hE.eq k7 (by decide)]; decide
  · rw [show a + 1 + 7 = a + 8 by omega, hE.eq k8 (by decide)]; decide
theorem na_rum (hE : KEq K kd) {k : Nat} (hn : n ≤ 10) (hk : k < 6) (hf : ba k < n) (hm : bo k ≤ 99) (hS : Seg (rumP ba bo k) a tc K f4 vT sp) (hN : NSk fr to mi ba bo f4 vT n c k o s) : ∃ s', NSk fr to mi ba bo f4 vT n c (k + 1) o s' ∧ ∀ m, nAll tc kd sp ((rumP ba bo k).length + m) a s = nAll tc kd sp m (a + (rumP ba bo k).length) s' := by
  have k0 : K (a + 0) = 5 := (hS.2 0 (show 0 < 7 by decide)).1
  have k1 : K (a + 1) = 42 := (hS.2 1 (show 1 < 7 by decide)).1
  have k2 : K (a + 2) = 6 := (hS.2 2 (show 2 < 7 by decide)).1
  have k3 : K (a + 3) = 42 := (hS.2 3 (show 3 < 7 by decide)).1
  have k4 : K (a + 4) = 7 := (hS.2 4 (show 4 < 7 by decide)).1
  have k5 : K (a + 5) = 43 := (hS.2 5 (show 5 < 7 by decide)).1
  have k6 : K (a + 6) = 30 := (hS.2 6 (show 6 < 7 by decide)).1
  rw [Nat.add_zero] at k0
  have hl : a + 7 < tc := hS.1
  have hN1 := hN.rum (tc := tc) (t := a) hn hk (by omega) ((hS.2 1 (show 1 < 7 by decide)).2.1 rfl) ((hS.2 3 (show 3 < 7 by decide)).2.1 rfl) (hS.2 3 (show 3 < 7 by decide)).2.2.2 (hS.2 5 (show 5 < 7 by decide)).2.2.2 ((hS.2 5 (show 5 < 7 by decide)).2.2.1 rfl) hf hm
  refine ⟨_, hN1, fun m => ?_⟩
  show nAll tc kd sp (7 + m) a s = nAll tc kd sp m (a + 7) _
  have e0 := hE.eq k0 (by decide)
  rw [show 7 + m = 6 + m + 1 by omega, nAll_1 hN.1]
  have ea : nAt tc kd sp a s = nRumAt tc sp (a : Int) s := by
    unfold nAt
    rw [if_neg (by omega), if_neg (by omega), if_pos e0]
  rw [ea, nAll_sk hN1.1 (j := 6) (fun i hi => ?_)]
  rcases (by omega : i = 0 ∨ i = 1 ∨ i = 2 ∨ i = 3 ∨ i = 4 ∨ i = 5) with rfl | rfl | rfl | rfl | rfl | rfl
  · rw [show a + 1 + 0 = a + 1 by omega, hE.eq k1 (by decide)]; decide
  · rw [show a + 1 + 1 = a + 2 by omega, hE.eq k2 (by decide)]; decide
  · rw [show a + 1 + 2 = a + 3 by omega, hE.eq k3 (by decide)]; decide
  · rw [show a + 1 + 3 = a + 4 by omega, hE.eq k4 (by decide)]; decide
  · rw [show a + 1 + 4 = a + 5 by omega, hE.eq k5 (by decide)]; decide
  · rw [show a + 1 + 5 = a + 6 by omega, hE.eq k6 (by decide)]; decide
/-! orders together -/
theorem lead_app : ∀ {A B : List Pk}, lead B = 0 → lead (A ++ B) = lead A
  | [], B, h => h
  | p :: A, B, h => by
    show (if p.2.1.1 = 42 then lead (A ++ B) + 1 else 0) = if p.2.1.1 = 42 then lead A + 1 else 0
    rw [lead_app h]
theorem nmA.app {A B : List Pk} {i k m : Nat} (h : nmA A i k m) : nmA (A ++ B) i k m := by
  obtain ⟨v, h1, h2⟩ := h
  have hi : i < A.length := by
    rcases Nat.lt_or_ge i A.length with h3 | h3
    · exact h3
    · rw [List.getD_eq_getElem?_getD, List.getElem?_eq_none h3] at h2
      cases h2
  exact ⟨v, h1, by rw [(kdT_l (B := B) hi).2.2]; exact h2⟩
theorem nmC.app {A B : List Pk} {x : Nat} (hB : lead B = 0) (h : nmC n c u x A) : nmC n c u x (A ++ B) := by
  unfold nmC at h ⊢
  rw [lead_app hB]
  split
  · trivial
  · rename_i h1
    rw [if_neg h1] at h
    split
    · rename_i h2
      rw [if_pos h2] at h
      exact ⟨h.1, h.2.app⟩
    · rename_i h2
      rw [if_neg h2] at h
      split
      · rename_i h3
        rw [if_pos h3] at h
        exact ⟨h.1, h.2.app⟩
      · rename_i h3
        rw [if_neg h3] at h
        split
        · rename_i h4
          rw [if_pos h4] at h
          exact ⟨h.1, h.2.app⟩
        · rename_i h4
          rw [if_neg h4] at h
          split
          · rename_i h5
            rw [if_pos h5] at h
            exact ⟨h.1, h.2.1.app, h.2.2.app⟩
          · rename_i h5
            rw [if_neg h5] at h
            split
            · rename_i h6
              rw [if_pos h6] at h
              exact ⟨h.1, h.2.1.app, h.2.2.app⟩
            · rename_i h6
              rw [if_neg h6] at h
              exact h
theorem nmOk.app : ∀ {A B : List Pk}, lead B = 0 → nmOk n c u A → nmOk n c u B → nmOk n c u (A ++ B)
  | [], _, _, _, h => h
  | _ :: _, _, hB, h1, h2 => ⟨h1.1.app hB, nmOk.app hB h1.2 h2⟩
theorem oc_app : ∀ {A B : List Pk}, oc (A ++ B) = oc A + oc B
  | [], B => (Nat.zero_add _).symm
  | p :: A, B => by
    show _ + oc (A ++ B) = (_ + oc A) + oc B
    rw [oc_app (A := A), Nat.add_assoc]
/-- an order as it was drawn, in a land of n taverns, c roads, u rumours -/
def ZdOk (n c u : Nat) (z : Nat → Nat) : Prop := z 0 ≤ 2 ∧ (z 0 ≠ 2 → z 1 < c) ∧ (z 0 = 2 → z 1 < n) ∧ ZbB n c u z
theorem ZdOk.zn (h : ZdOk n c u z) (hn : n ≤ 10) (hc : c ≤ 14) (hu : u ≤ 6) : ZnOk z := by
  obtain ⟨h1, h2, h3, h4, h5, h6, h7, h8, h9, h10⟩ := h
  refine ⟨h1, ?_, h4, h5, h6, by omega, by omega, by omega, by omega⟩
  by_cases h : z 0 = 2
  · have := h3 h; omega
  · have := h2 h; omega
theorem ord_nm (hz : ZdOk n c u z) : nmOk n c u (ordP z) ∧ lead (ordP z) = 0 ∧ oc (ordP z) = 1 := by
  obtain ⟨h1, h2, h3, hb⟩ := hz
  have hs := sum_nm hb
  have ht := tst_nm hb
  have z2 := hb.1
  have z3 := hb.2.1
  have w1 : nmOk n c u (whnP z ++ [([], (30, 0, 0), [10])]) := nmOk.app (by rfl) ⟨⟨tst_ld z3, by decide, by decide, by decide⟩, ht⟩ ⟨⟨rfl, by decide, by decide, by decide⟩, trivial⟩
  have w2 : lead (whnP z ++ [([], (30, 0, 0), [10])]) = 0 := rfl
  have w3 : oc (whnP z ++ [([], (30, 0, 0), [10])]) = 0 := by
    rw [oc_app]
    show (0 + oc (tstP z)) + 0 = 0
    rw [tst_oc z3]
  unfold ordP
  rw [oc_app, w3, lead_app w2]
  rcases (by omega : z 0 = 0 ∨ z 0 = 1 ∨ z 0 = 2) with h | h | h
  · have e : hdP z = ([([], (8, 0, 0), []), ([32], (42, 1, z 1), []), ([32], (9, 0, 0), [])] : List Pk) ++ sumP z := if_pos h
    rw [e]
    refine ⟨nmOk.app w2 (nmOk.app (sum_ld z2) ⟨⟨rfl, _, h2 (by omega), rfl⟩, trivial, ⟨rfl, by decide, by decide, by decide⟩, trivial⟩ hs) w1, rfl, ?_⟩
    rw [oc_app, sum_oc z2]
    rfl
  · have e : hdP z = ([([], (10, 0, 0), []), ([32], (42, 1, z 1), [])] : List Pk) := by unfold hdP; rw [if_neg (by omega), if_pos h]
    rw [e]
    exact ⟨nmOk.app w2 ⟨⟨rfl, _, h2 (by omega), rfl⟩, trivial, trivial⟩ w1, rfl, rfl⟩
  · have e : hdP z = ([([], (11, 0, 0), []), ([32], (42, 0, z 1), [])] : List Pk) := by unfold hdP; rw [if_neg (by omega), if_neg (by omega)]
    rw [e]
    exact ⟨nmOk.app w2 ⟨⟨rfl, _, h3 h, rfl⟩, trivial, trivial⟩ w1, rfl, rfl⟩
theorem ords_nm {zz : Nat → Nat → Nat} : ∀ {q : Nat}, (∀ j, j < q → ZdOk n c u (zz j)) → nmOk n c u (catP (fun j => ordP (zz j)) q) ∧ lead (catP (fun j => ordP (zz j)) q) = 0 ∧ oc (catP (fun j => ordP (zz j)) q) = q
  | 0, _ => ⟨trivial, rfl, rfl⟩
  | q + 1, h => by
    obtain ⟨h1, h2, h3⟩ := ords_nm (q := q) (fun j hj => h j (by omega))
    obtain ⟨g1, g2, g3⟩ := ord_nm (h q (by omega))
    show nmOk n c u (catP _ q ++ ordP (zz q)) ∧ lead (catP _ q ++ ordP (zz q)) = 0 ∧ oc (catP _ q ++ ordP (zz q)) = q + 1
    exact ⟨nmOk.app g2 h1 g1, by rw [lead_app g2]; exact h2, by rw [oc_app, h3, g3]⟩
end PLAN2
