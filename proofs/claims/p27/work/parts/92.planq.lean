/-! ===== THE PLAN OF A GOOD LIST ===== -/
def ordQ (tc : Nat) (kd : Nat → Nat) (va : Nat → Int) (o : Or) : Od := (kd o.1, (vlO tc va ((o.1 : Int) + 1)).toNat, o.2.2.map (fun x => tkA tc kd va (x.1 : Int)), o.2.1.map (fun x => tkA tc kd va (x.1 : Int)))
def planQ (tc : Nat) (kd : Nat → Nat) (s : NSt) (os : List Or) : Pn := ((s.2.2.2.1 0).toNat, s.2.2.2.2.2.1, s.2.2.2.2.2.2.1, mn os.length, fun r => (s.2.2.2.2.2.2.2 7 r).toNat, fun r => (s.2.2.2.2.2.2.2 8 r).toNat, fun k => (s.2.2.2.2.2.2.2 10 k).toNat, s.2.2.2.2.2.2.2 11, fun i => ordQ tc kd (s.2.2.2.2.2.2.2 4) (os.getD i (0, [], [])))
section PLANQ
variable {tc : Nat} {K kd : Nat → Nat} {sp : Nat → Int} {P0 : Nat → Nat → Int} {s : NSt} {os : List Or} {cl n : Nat}
theorem InR.nat {k : Nat} {v : Int} (h : InR s k v) : ((v.toNat : Nat) : Int) = v ∧ (v.toNat : Int) < s.2.2.2.1 k := by
  obtain ⟨r, h1, h2⟩ := h
  omega
theorem tkA_ok (hJ : NJ kd P0 0 0 tc tc s) {x : Nat × Nat} (hc : cdK x.2) (hk : kd x.1 = x.2) (hx : x.1 < tc) : TkOk (s.2.2.2.1 0).toNat s.2.2.2.2.2.1 s.2.2.2.2.2.2.1 (tkA tc kd (s.2.2.2.2.2.2.2 4) (x.1 : Int)) := by
  obtain ⟨j1, j2, j3, j4, j5, j6, j7, j8, j9, j10⟩ := hJ
  have hk0 : kdO tc kd (x.1 : Int) = x.2 := by
    unfold kdO
    rw [if_pos ⟨by omega, by omega⟩, Int.toNat_natCast, hk]
  have hv1 : x.1 + 1 < tc → vlO tc (s.2.2.2.2.2.2.2 4) ((x.1 : Int) + 1) = s.2.2.2.2.2.2.2 4 (x.1 + 1) := fun h => by
    unfold vlO
    rw [if_pos ⟨by omega, by omega⟩, show ((x.1 : Int) + 1).toNat = x.1 + 1 by omega]
  have hv2 : x.1 + 2 < tc → vlO tc (s.2.2.2.2.2.2.2 4) ((x.1 : Int) + 2) = s.2.2.2.2.2.2.2 4 (x.1 + 2) := fun h => by
    unfold vlO
    rw [if_pos ⟨by omega, by omega⟩, show ((x.1 : Int) + 2).toNat = x.1 + 2 by omega]
  obtain ⟨r1, r2, r3, r4, r5⟩ := j8 x.1 hx
  have n0 : ∀ v, InR s 0 v → ∃ t : Nat, t < (s.2.2.2.1 0).toNat ∧ v = (t : Int) := fun v h => by
    obtain ⟨r, h1, h2⟩ := h
    exact ⟨r, by omega, h2⟩
  have n1 : ∀ v, InR s 1 v → ∃ t : Nat, t < s.2.2.2.2.2.1 ∧ v = (t : Int) := fun v h => by
    obtain ⟨r, h1, h2⟩ := h
    exact ⟨r, by omega, h2⟩
  have n2 : ∀ v, InR s 2 v → ∃ t : Nat, t < s.2.2.2.2.2.2.1 ∧ v = (t : Int) := fun v h => by
    obtain ⟨r, h1, h2⟩ := h
    exact ⟨r, by omega, h2⟩
  have hkd : (tkA tc kd (s.2.2.2.2.2.2.2 4) (x.1 : Int)).1 = x.2 := hk0
  have h1 : (tkA tc kd (s.2.2.2.2.2.2.2 4) (x.1 : Int)).2.2.1 = vlO tc (s.2.2.2.2.2.2.2 4) ((x.1 : Int) + 1) := rfl
  have h2 : (tkA tc kd (s.2.2.2.2.2.2.2 4) (x.1 : Int)).2.2.2 = vlO tc (s.2.2.2.2.2.2.2 4) ((x.1 : Int) + 2) := rfl
  unfold TkOk
  rw [hkd, h1, h2]
  unfold cdK at hc
  refine ⟨by omega, ?_⟩
  by_cases c18 : x.2 = 14 ∨ x.2 = 15 ∨ x.2 = 18
  · obtain ⟨a, b⟩ := r1 (by omega)
    exact Or.inr (Or.inr (Or.inr (Or.inr (Or.inl ⟨c18, by rw [hv1 a]; exact n1 _ b⟩))))
  by_cases c17 : x.2 = 17
  · obtain ⟨a, b⟩ := r3 (by omega)
    exact Or.inr (Or.inr (Or.inr (Or.inr (Or.inr (Or.inl ⟨c17, by rw [hv1 a]; exact n2 _ b⟩)))))
  by_cases c16 : x.2 = 16 ∨ x.2 = 20
  · obtain ⟨a, b, c⟩ := r4 (by omega)
    refine Or.inr (Or.inr (Or.inr (Or.inr (Or.inr (Or.inr (Or.inl ⟨c16, ?_⟩))))))
    rw [hv1 (by omega), hv2 a]
    obtain ⟨t, t1, t2⟩ := n0 _ b
    exact ⟨t, t1, t2, n0 _ c⟩
  by_cases c19 : x.2 = 19
  · obtain ⟨a, b, c⟩ := r5 (by omega)
    refine Or.inr (Or.inr (Or.inr (Or.inr (Or.inr (Or.inr (Or.inr ⟨c19, ?_⟩))))))
    rw [hv1 (by omega), hv2 a]
    obtain ⟨t, t1, t2⟩ := n0 _ b
    exact ⟨t, t1, t2, n2 _ c⟩
  by_cases c43 : x.2 = 43
  · exact Or.inr (Or.inr (Or.inl c43))
  by_cases c13 : x.2 = 13
  · exact Or.inr (Or.inr (Or.inr (Or.inl c13)))
  have hop : ∀ a, a < 46 → (21 ≤ a ∧ a ≤ 25 ∨ 32 ≤ a ∧ a ≤ 41) → kOp.getD a 0 = 2 ∨ kOp.getD a 0 = 1 := by decide
  rcases hop x.2 (by omega) (by omega) with h | h
  · exact Or.inl h
  · exact Or.inr (Or.inl h)
/-- the plan of a good list is sound -/
theorem planQ_ok (hJ : NJ kd P0 0 0 tc tc s) (he : KEq K kd) (hn : n < tc) (hO : OrR os kd P0 cl n) (hC : ∀ x, x ∈ os → orOk K x) : PnOk (planQ tc kd s os) := by
  have hJ0 := hJ
  obtain ⟨j1, j2, j3, j4, j5, j6, j7, j8, j9, j10⟩ := hJ
  have hmn : mn os.length ≤ 20 := by
    unfold mn
    split <;> omega
  refine ⟨?_, j2.2, j3.2, hmn, fun r hr => ?_, fun k hk => ?_, fun i hi => ?_⟩
  · show (s.2.2.2.1 0).toNat ≤ 10
    omega
  · have hr : r < s.2.2.2.2.2.1 := hr
    show (s.2.2.2.2.2.2.2 7 r).toNat < (s.2.2.2.1 0).toNat ∧ (s.2.2.2.2.2.2.2 8 r).toNat < (s.2.2.2.1 0).toNat ∧ (s.2.2.2.2.2.2.2 7 r).toNat ≠ (s.2.2.2.2.2.2.2 8 r).toNat
    obtain ⟨a, b, c, d⟩ := j4 r hr
    have := a.nat
    have := b.nat
    omega
  · have hk : k < s.2.2.2.2.2.2.1 := hk
    show (s.2.2.2.2.2.2.2 10 k).toNat < (s.2.2.2.1 0).toNat
    obtain ⟨a, b, c⟩ := j5 k hk
    have := a.nat
    omega
  · have hi : i < mn os.length := hi
    have hil : i < os.length := by
      unfold mn at hi
      split at hi <;> omega
    show OdOk (s.2.2.2.1 0).toNat s.2.2.2.2.2.1 s.2.2.2.2.2.2.1 (ordQ tc kd (s.2.2.2.2.2.2.2 4) (os.getD i (0, [], [])))
    have hoi : os[i]? = some (os.getD i (0, [], [])) := by
      rw [List.getD_eq_getElem?_getD, List.getElem?_eq_getElem hil]
      rfl
    generalize os.getD i (0, [], []) = o at hoi ⊢
    obtain ⟨a1, a2, p, a3, a4, a5, a6, a7, a8⟩ := hO i o hoi (by omega)
    have hc := hC o (List.mem_of_getElem? hoi)
    have hko : kd o.1 = K o.1 := by
      rcases he o.1 with h | h
      · exact h
      · have := hc.1
        omega
    obtain ⟨r1, r2, r3, r4, r5⟩ := j8 o.1 (by omega)
    have hv1 : o.1 + 1 < tc → vlO tc (s.2.2.2.2.2.2.2 4) ((o.1 : Int) + 1) = s.2.2.2.2.2.2.2 4 (o.1 + 1) := fun h => by
      unfold vlO
      rw [if_pos ⟨by omega, by omega⟩, show ((o.1 : Int) + 1).toNat = o.1 + 1 by omega]
    refine ⟨?_, fun x hx => ?_, fun x hx => ?_⟩
    · show (kd o.1 = 8 ∧ (vlO tc (s.2.2.2.2.2.2.2 4) ((o.1 : Int) + 1)).toNat < s.2.2.2.2.2.1) ∨ (kd o.1 = 10 ∧ (vlO tc (s.2.2.2.2.2.2.2 4) ((o.1 : Int) + 1)).toNat < s.2.2.2.2.2.1) ∨ (kd o.1 = 11 ∧ (vlO tc (s.2.2.2.2.2.2.2 4) ((o.1 : Int) + 1)).toNat < (s.2.2.2.1 0).toNat)
      have h3 := hc.1
      rw [← hko] at h3
      rcases h3 with h3 | h3 | h3
      · obtain ⟨a, b⟩ := r1 (by omega)
        rw [hv1 a]
        have := b.nat
        exact Or.inl ⟨h3, by omega⟩
      · obtain ⟨a, b⟩ := r1 (by omega)
        rw [hv1 a]
        have := b.nat
        exact Or.inr (Or.inl ⟨h3, by omega⟩)
      · obtain ⟨a, b⟩ := r2 h3
        rw [hv1 a]
        have := b.nat
        exact Or.inr (Or.inr ⟨h3, by omega⟩)
    · obtain ⟨y, hy, rfl⟩ := List.mem_map.mp hx
      have h8 := a8 y (List.mem_append_right _ hy)
      exact tkA_ok hJ0 (hc.2.2 y hy) h8.1 (by omega)
    · obtain ⟨y, hy, rfl⟩ := List.mem_map.mp hx
      have h8 := a8 y (List.mem_append_left _ hy)
      exact tkA_ok hJ0 (hc.2.1 y hy) h8.1 (by omega)
theorem codeL_map {va cd : Nat → Int} : ∀ {L : List (Nat × Nat)} {p : Nat}, CodeR cd p L → codeL tc kd va cd p L.length = L.map (fun x => tkA tc kd va (x.1 : Int))
  | [], p, h => rfl
  | x :: L, p, h => by
    have h0 := h 0 x rfl
    rw [Nat.add_zero] at h0
    show tkA tc kd va (cd p) :: codeL tc kd va cd (p + 1) L.length = _
    rw [h0, codeL_map (L := L) (p := p + 1) (fun i y hy => by
      have := h (i + 1) y hy
      rw [show p + 1 + i = p + (i + 1) by omega]
      exact this)]
    rfl
/-- the plan's cells hold that plan -/
theorem planQ_v {h : MH} {pd od : Nat} (hB : NB h pd cl (mn os.length) tc kd sp P0) (hJ : NJ kd P0 0 0 tc tc s) (hn : n < tc) (hcl : cl ≤ n) (hO : OrR os kd P0 cl n) (h6 : ∀ i, i < cl → 0 ≤ P0 6 i ∧ P0 6 i < n) (hC : ∀ x, x ∈ os → orOk K x) (he : KEq K kd) : PlV (hS h pd cl (s.2.2.2.1 0).toNat (mn os.length) s).1 pd (planQ tc kd s os) (s.2.2.2.2.2.2.2 9) := by
  obtain ⟨hpd, htc, hg, tv', rd, ru, hP⟩ := hB
  obtain ⟨j1, j2, j3, j4, j5, j6, j7, j8, j9, j10⟩ := hJ
  have hmg : ∀ k, k ≠ 4 → (k < 7 ∨ 12 ≤ k) → mgP P0 s.2.2.2.2.2.2.2 k = P0 k := fun k h1 h2 => if_neg (by omega)
  have hmg2 : ∀ k, k = 4 ∨ (7 ≤ k ∧ k < 12) → mgP P0 s.2.2.2.2.2.2.2 k = s.2.2.2.2.2.2.2 k := fun k h1 => if_pos h1
  refine ⟨cl, tc, kd, sp, mgP P0 s.2.2.2.2.2.2.2, hS_pl hpd hP, htc, by omega, fun i hi => ?_, fun r hr => ?_, fun k hk => ?_, fun i hi => ?_⟩
  · rw [hmg 6 (by decide) (by omega)]
    have := h6 i hi
    omega
  · rw [hmg2 7 (by omega), hmg2 8 (by omega), hmg2 9 (by omega)]
    obtain ⟨a, b, c, d⟩ := j4 r hr
    exact ⟨a.nat.1.symm, b.nat.1.symm, rfl⟩
  · rw [hmg2 10 (by omega), hmg2 11 (by omega)]
    obtain ⟨a, b⟩ := j5 k hk
    exact ⟨a.nat.1.symm, rfl⟩
  · have hi : i < mn os.length := hi
    have hmn : mn os.length ≤ 20 := by
      unfold mn
      split <;> omega
    have hil : i < os.length := by
      unfold mn at hi
      split at hi <;> omega
    show _ ∧ _ = (ordQ tc kd (s.2.2.2.2.2.2.2 4) (os.getD i (0, [], []))).1 ∧ _ = (((ordQ tc kd (s.2.2.2.2.2.2.2 4) (os.getD i (0, [], []))).2.1 : Nat) : Int) ∧ ∃ p M1 M2 : Nat, _ ∧ _ ∧ _ ∧ _ ∧ (ordQ tc kd (s.2.2.2.2.2.2.2 4) (os.getD i (0, [], []))).2.2.2 = _ ∧ (ordQ tc kd (s.2.2.2.2.2.2.2 4) (os.getD i (0, [], []))).2.2.1 = _
    have hoi : os[i]? = some (os.getD i (0, [], [])) := by
      rw [List.getD_eq_getElem?_getD, List.getElem?_eq_getElem hil]
      rfl
    generalize os.getD i (0, [], []) = o at hoi ⊢
    obtain ⟨a1, a2, p, a3, a4, a5, a6, a7, a8⟩ := hO i o hoi (by omega)
    have hc := hC o (List.mem_of_getElem? hoi)
    have hko : kd o.1 = K o.1 := by
      rcases he o.1 with h | h
      · exact h
      · have := hc.1
        omega
    rw [hmg 12 (by decide) (by omega), hmg 13 (by decide) (by omega), hmg 14 (by decide) (by omega), hmg 15 (by decide) (by omega), hmg 6 (by decide) (by omega), hmg2 4 (by omega), a1]
    have hkO : kdO tc kd (o.1 : Int) = kd o.1 := by
      unfold kdO
      rw [if_pos ⟨by omega, by omega⟩, Int.toNat_natCast]
    have hv1 : o.1 + 1 < tc → vlO tc (s.2.2.2.2.2.2.2 4) ((o.1 : Int) + 1) = s.2.2.2.2.2.2.2 4 (o.1 + 1) := fun h => by
      unfold vlO
      rw [if_pos ⟨by omega, by omega⟩, show ((o.1 : Int) + 1).toNat = o.1 + 1 by omega]
    refine ⟨⟨by omega, by omega⟩, hkO, ?_, p, o.2.1.length, o.2.2.length, a3, a4, a5, a6, ?_, ?_⟩
    · show _ = (((vlO tc (s.2.2.2.2.2.2.2 4) ((o.1 : Int) + 1)).toNat : Nat) : Int)
      obtain ⟨r1, r2, r3, r4, r5⟩ := j8 o.1 (by omega)
      have h3 := hc.1
      rw [← hko] at h3
      by_cases h11 : kd o.1 = 11
      · obtain ⟨a, b⟩ := r2 h11
        rw [hv1 a]
        exact b.nat.1.symm
      · obtain ⟨a, b⟩ := r1 (by omega)
        rw [hv1 a]
        exact b.nat.1.symm
    · refine (codeL_map (fun j y hy => a7 j y ?_)).symm
      rw [List.getElem?_append_left (List.getElem?_eq_some_iff.mp hy).1]
      exact hy
    · refine (codeL_map (fun j y hy => ?_)).symm
      have := a7 (o.2.1.length + j) y (by
        rw [List.getElem?_append_right (by omega), show o.2.1.length + j - o.2.1.length = j by omega]
        exact hy)
      rw [Nat.add_assoc]
      exact this
end PLANQ
