/-! ===== NAMES: every step keeps the told names ===== -/
section NINV3
variable {tc : Nat} {kd : Nat → Nat} {sp : Nat → Int} {P0 : Nat → Nat → Int} {e1 e2 p q : Nat} {s : NSt}
theorem Res_no {t : Nat} (h8 : kd t ≠ 8) (h10 : kd t ≠ 10) (h11 : kd t ≠ 11) (h14 : ¬ (14 ≤ kd t ∧ kd t ≤ 20)) : Res kd s q t := ⟨fun z => by omega, fun z => by omega, fun z => by omega, fun z => by omega, fun z => by omega⟩
theorem NJ.find (hJ : NJ kd P0 e1 e2 p q s) {x k : Nat} (he : (nFind tc sp k x s).1 = 0) (hx : q ≤ x) (ht : x < tc) (hk : kd x = 42) : NJ kd P0 e1 e2 p (x + 1) (nFind tc sp k x s) ∧ InR (nFind tc sp k x s) k (nIx (spO tc sp x) k s) ∧ (nFind tc sp k x s).2.2.2.2.2.2.2 4 x = nIx (spO tc sp x) k s ∧ (∀ j, j ≠ x → (nFind tc sp k x s).2.2.2.2.2.2.2 4 j = s.2.2.2.2.2.2.2 4 j) ∧ (nFind tc sp k x s).2.2.2.1 = s.2.2.2.1 := by
  obtain ⟨e0, e1', e2'⟩ := er_find he
  obtain ⟨a1, a2, a3, a4, a5, a6, a7⟩ := hJ.set (v := nIx (spO tc sp x) k s) hx ht hk
  rw [e2']
  refine ⟨a1, ?_, a3, a2, a4⟩
  exact (nIx_in e1').up (by rw [a4]; exact Int.le_refl _)
theorem NJ.roadAt (hJ : NJ kd P0 0 0 p p s) (k3 : kd (p + 3) = 42) (k5 : kd (p + 5) = 42) (k7 : kd (p + 7) ≠ 42) (hle : p + 8 ≤ tc) (he : (nRoadAt tc sp p s).1 = 0) : ∃ q, q ≤ p + 8 ∧ NJ kd P0 0 0 p q (nRoadAt tc sp p s) := by
  have c3 : (p : Int) + 3 = ((p + 3 : Nat) : Int) := by omega
  have c5 : (p : Int) + 5 = ((p + 5 : Nat) : Int) := by omega
  unfold nRoadAt at he ⊢
  dsimp only at he ⊢
  rw [c3, c5] at he ⊢
  generalize h1 : nTell tc sp 1 (↑p + 1) s = s1 at he ⊢
  generalize hf : nIx (spO tc sp ((p + 3 : Nat) : Int)) 0 s1 = f at he ⊢
  generalize h2 : nFind tc sp 0 ((p + 3 : Nat) : Int) s1 = s2 at he ⊢
  generalize hg : nIx (spO tc sp ((p + 5 : Nat) : Int)) 0 s2 = g at he ⊢
  generalize h3 : nFind tc sp 0 ((p + 5 : Nat) : Int) s2 = s3 at he ⊢
  generalize h4 : (if f = g then nNote 3 ((p + 5 : Nat) : Int) s3 else s3) = s4 at he ⊢
  generalize h5 : nNum tc (↑p + 7) 1 30 s4 = s5 at he ⊢
  have z5 : s5.1 = 0 := by
    by_cases hc : s5.1 = 0
    · exact hc
    · rw [if_neg hc] at he
      exact he
  rw [if_pos z5]
  rw [← h5] at z5
  obtain ⟨z4, l1, l2, q5⟩ := er_num z5
  rw [h5] at q5
  subst q5
  have hne : f ≠ g := by
    intro z
    rw [if_pos z] at h4
    rw [← h4] at z4
    exact er_note (by decide) z4
  rw [if_neg hne] at h4
  subst h4
  rw [← h3] at z4
  have z2 := (er_find z4).1
  rw [← h2] at z2
  have z1 := (er_find z2).1
  rw [← h1] at z1
  obtain ⟨z0, y1, y2, y3⟩ := er_tell z1
  have J1 := hJ.tell (k := 1) (g := mUp s.2.2.2.2.1 1 (mUp (s.2.2.2.2.1 1) (s.2.2.2.1 1).toNat (spO tc sp ((p : Int) + 1)))) (x := 0) (by decide) y2
  rw [← y3, h1, if_pos rfl, if_neg (by decide)] at J1
  obtain ⟨J2, b1, b2, b3, b4⟩ := J1.find z2 (x := p + 3) (by omega) (by omega) k3
  rw [h2] at J2 b1 b2 b3 b4
  obtain ⟨J3, d1, d2, d3, d4⟩ := J2.find z4 (x := p + 5) (by omega) (by omega) k5
  rw [h3] at J3 d1 d2 d3 d4
  rw [hf] at b1
  rw [hg] at d1
  exact ⟨p + 5 + 1, by omega, J3.road (b1.up (by rw [d4]; exact Int.le_refl _)) d1 hne ⟨l1, l2⟩⟩
theorem NJ.rumAt (hJ : NJ kd P0 0 0 p p s) (k3 : kd (p + 3) = 42) (hle : p + 6 ≤ tc) (he : (nRumAt tc sp p s).1 = 0) : ∃ q, q ≤ p + 6 ∧ NJ kd P0 0 0 p q (nRumAt tc sp p s) := by
  have c3 : (p : Int) + 3 = ((p + 3 : Nat) : Int) := by omega
  unfold nRumAt at he ⊢
  dsimp only at he ⊢
  rw [c3] at he ⊢
  generalize h1 : nTell tc sp 2 (↑p + 1) s = s1 at he ⊢
  generalize hf : nIx (spO tc sp ((p + 3 : Nat) : Int)) 0 s1 = f at he ⊢
  generalize h2 : nFind tc sp 0 ((p + 3 : Nat) : Int) s1 = s2 at he ⊢
  generalize h5 : nNum tc (↑p + 5) 0 99 s2 = s5 at he ⊢
  have z5 : s5.1 = 0 := by
    by_cases hc : s5.1 = 0
    · exact hc
    · rw [if_neg hc] at he
      exact he
  rw [if_pos z5]
  rw [← h5] at z5
  obtain ⟨z2, l1, l2, q5⟩ := er_num z5
  rw [h5] at q5
  subst q5
  rw [← h2] at z2
  have z1 := (er_find z2).1
  rw [← h1] at z1
  obtain ⟨z0, y1, y2, y3⟩ := er_tell z1
  have J1 := hJ.tell (k := 2) (g := mUp s.2.2.2.2.1 2 (mUp (s.2.2.2.2.1 2) (s.2.2.2.1 2).toNat (spO tc sp ((p : Int) + 1)))) (x := 0) (by decide) y2
  rw [← y3, h1, if_neg (by decide), if_pos rfl] at J1
  obtain ⟨J2, b1, b2, b3, b4⟩ := J1.find z2 (x := p + 3) (by omega) (by omega) k3
  rw [h2] at J2 b1 b2 b3 b4
  rw [hf] at b1
  exact ⟨p + 3 + 1, by omega, J2.rum b1 ⟨l1, l2⟩⟩
theorem NJ.ord (hJ : NJ kd P0 e1 e2 p q s) {t : Int} (he : (nOrd t s).1 = 0) : NJ kd P0 e1 e2 p q (nOrd t s) := by
  obtain ⟨z0, y1, y2⟩ := er_ord he
  rw [y2]
  exact hJ.er
theorem NJ.at (hJ : NJ kd P0 0 0 p p s) (ha : atOk kd p) (hle : p + alen (kd p) ≤ tc) (he : (nAt tc kd sp p s).1 = 0) : NJ kd P0 0 0 (p + alen (kd p)) (p + alen (kd p)) (nAt tc kd sp p s) := by
  obtain ⟨a0, a1, a5, an1, an2, b1, b2, b3, b4, b5, b6, b7⟩ := ha
  have c1 : (p : Int) + 1 = ((p + 1 : Nat) : Int) := by omega
  have c2 : (p : Int) + 2 = ((p + 2 : Nat) : Int) := by omega
  have r42 : ∀ {s q t}, kd t = 42 → Res kd s q t := fun h => Res_no (by omega) (by omega) (by omega) (by omega)
  unfold nAt at he ⊢
  by_cases k0 : kd p = 0
  · have ha : alen (kd p) = 2 := by rw [k0]; rfl
    rw [if_pos k0] at he ⊢
    rw [ha] at hle ⊢
    obtain ⟨z0, y1, y2, y3⟩ := er_tell he
    rw [y3]
    have J1 := hJ.tell (k := 0) (g := mUp s.2.2.2.2.1 0 (mUp (s.2.2.2.2.1 0) (s.2.2.2.1 0).toNat (spO tc sp ((p : Int) + 1)))) (x := 0) (by decide) y2
    rw [if_neg (by decide), if_neg (by decide)] at J1
    refine J1.nx (by omega) (fun t h1 h2 => ?_)
    rcases (by omega : t = p ∨ t = p + 1) with rfl | rfl
    · exact Res_no (by omega) (by omega) (by omega) (by omega)
    · exact r42 (a0 k0)
  rw [if_neg k0] at he ⊢
  by_cases k1 : kd p = 1
  · have ha : alen (kd p) = 8 := by rw [k1]; rfl
    rw [if_pos k1] at he ⊢
    rw [ha] at hle ⊢
    obtain ⟨d1, d2, d3, d4, d5, d6, d7⟩ := a1 k1
    obtain ⟨q, hq, J⟩ := hJ.roadAt d3 d5 (by omega) hle he
    refine J.nx hq (fun t h1 h2 => ?_)
    rcases (by omega : t = p ∨ t = p + 1 ∨ t = p + 2 ∨ t = p + 3 ∨ t = p + 4 ∨ t = p + 5 ∨ t = p + 6 ∨ t = p + 7) with rfl | rfl | rfl | rfl | rfl | rfl | rfl | rfl <;> exact Res_no (by omega) (by omega) (by omega) (by omega)
  rw [if_neg k1] at he ⊢
  by_cases k5 : kd p = 5
  · have ha : alen (kd p) = 6 := by rw [k5]; rfl
    rw [if_pos k5] at he ⊢
    rw [ha] at hle ⊢
    obtain ⟨d1, d2, d3, d4, d5⟩ := a5 k5
    obtain ⟨q, hq, J⟩ := hJ.rumAt d3 hle he
    refine J.nx hq (fun t h1 h2 => ?_)
    rcases (by omega : t = p ∨ t = p + 1 ∨ t = p + 2 ∨ t = p + 3 ∨ t = p + 4 ∨ t = p + 5) with rfl | rfl | rfl | rfl | rfl | rfl <;> exact Res_no (by omega) (by omega) (by omega) (by omega)
  rw [if_neg k5] at he ⊢
  have al2 : ∀ a, (a = 8 ∨ a = 10 ∨ a = 11 ∨ a = 18 ∨ a = 14 ∨ a = 15 ∨ a = 17) → alen a = 2 := by
    intro a h
    rcases h with rfl | rfl | rfl | rfl | rfl | rfl | rfl <;> rfl
  have al3 : ∀ a, (a = 16 ∨ a = 19 ∨ a = 20) → alen a = 3 := by
    intro a h
    rcases h with rfl | rfl | rfl <;> rfl
  rw [c1, c2] at he ⊢
  by_cases k8 : kd p = 8 ∨ kd p = 10
  · have k42 := an1 (by omega)
    rw [if_pos k8] at he ⊢
    rw [al2 _ (by omega)] at hle ⊢
    have J1 := hJ.ord (er_find he).1
    obtain ⟨J2, e1, e2, e3, e4⟩ := J1.find he (by omega) (by omega) k42
    refine J2.nx (by omega) (fun t h1 h2 => ?_)
    rcases (by omega : t = p ∨ t = p + 1) with rfl | rfl
    · exact ⟨fun _ => ⟨by omega, by rw [e2]; exact e1⟩, fun z => by omega, fun z => by omega, fun z => by omega, fun z => by omega⟩
    · exact r42 k42
  rw [if_neg k8] at he ⊢
  by_cases k11 : kd p = 11
  · have k42 := an1 (by omega)
    rw [if_pos k11] at he ⊢
    rw [al2 _ (by omega)] at hle ⊢
    have J1 := hJ.ord (er_find he).1
    obtain ⟨J2, e1, e2, e3, e4⟩ := J1.find he (by omega) (by omega) k42
    refine J2.nx (by omega) (fun t h1 h2 => ?_)
    rcases (by omega : t = p ∨ t = p + 1) with rfl | rfl
    · exact ⟨fun z => by omega, fun _ => ⟨by omega, by rw [e2]; exact e1⟩, fun z => by omega, fun z => by omega, fun z => by omega⟩
    · exact r42 k42
  rw [if_neg k11] at he ⊢
  by_cases k18 : kd p = 18 ∨ kd p = 14 ∨ kd p = 15
  · have k42 := an1 (by omega)
    rw [if_pos k18] at he ⊢
    rw [al2 _ (by omega)] at hle ⊢
    obtain ⟨J2, e1, e2, e3, e4⟩ := hJ.find he (by omega) (by omega) k42
    refine J2.nx (by omega) (fun t h1 h2 => ?_)
    rcases (by omega : t = p ∨ t = p + 1) with rfl | rfl
    · exact ⟨fun _ => ⟨by omega, by rw [e2]; exact e1⟩, fun z => by omega, fun z => by omega, fun z => by omega, fun z => by omega⟩
    · exact r42 k42
  rw [if_neg k18] at he ⊢
  by_cases k17 : kd p = 17
  · have k42 := an1 (by omega)
    rw [if_pos k17] at he ⊢
    rw [al2 _ (by omega)] at hle ⊢
    obtain ⟨J2, e1, e2, e3, e4⟩ := hJ.find he (by omega) (by omega) k42
    refine J2.nx (by omega) (fun t h1 h2 => ?_)
    rcases (by omega : t = p ∨ t = p + 1) with rfl | rfl
    · exact ⟨fun z => by omega, fun z => by omega, fun _ => ⟨by omega, by rw [e2]; exact e1⟩, fun z => by omega, fun z => by omega⟩
    · exact r42 k42
  rw [if_neg k17] at he ⊢
  by_cases k16 : kd p = 16 ∨ kd p = 20
  · have k42 := an2 (by omega)
    rw [if_pos k16] at he ⊢
    rw [al3 _ (by omega)] at hle ⊢
    obtain ⟨J1, d1, d2, d3, d4⟩ := hJ.find (er_find he).1 (by omega) (by omega) k42.1
    obtain ⟨J2, e1, e2, e3, e4⟩ := J1.find he (by omega) (by omega) k42.2
    refine J2.nx (by omega) (fun t h1 h2 => ?_)
    rcases (by omega : t = p ∨ t = p + 1 ∨ t = p + 2) with rfl | rfl | rfl
    · exact ⟨fun z => by omega, fun z => by omega, fun z => by omega, fun _ => ⟨by omega, by rw [e3 _ (by omega), d2]; exact d1.up (by rw [e4]; exact Int.le_refl _), by rw [e2]; exact e1⟩, fun z => by omega⟩
    · exact r42 k42.1
    · exact r42 k42.2
  rw [if_neg k16] at he ⊢
  by_cases k19 : kd p = 19
  · have k42 := an2 (by omega)
    rw [if_pos k19] at he ⊢
    rw [al3 _ (by omega)] at hle ⊢
    obtain ⟨J1, d1, d2, d3, d4⟩ := hJ.find (er_find he).1 (by omega) (by omega) k42.1
    obtain ⟨J2, e1, e2, e3, e4⟩ := J1.find he (by omega) (by omega) k42.2
    refine J2.nx (by omega) (fun t h1 h2 => ?_)
    rcases (by omega : t = p ∨ t = p + 1 ∨ t = p + 2) with rfl | rfl | rfl
    · exact ⟨fun z => by omega, fun z => by omega, fun z => by omega, fun z => by omega, fun _ => ⟨by omega, by rw [e3 _ (by omega), d2]; exact d1.up (by rw [e4]; exact Int.le_refl _), by rw [e2]; exact e1⟩⟩
    · exact r42 k42.1
    · exact r42 k42.2
  rw [if_neg k19] at he ⊢
  have ha : alen (kd p) = 1 := by
    unfold alen
    rw [if_neg k0, if_neg k1, if_neg k5, if_neg (by omega), if_neg (by omega)]
  rw [ha] at hle ⊢
  refine hJ.nx (by omega) (fun t h1 h2 => ?_)
  rw [show t = p by omega]
  exact Res_no (by omega) (by omega) (by omega) (by omega)
/-- a whole good list -/
theorem NJ.all : ∀ {j p n : Nat} {s : NSt}, wfS kd j p n → n < tc → n + 1 = tc → kd n = 45 → NJ kd P0 0 0 p p s → (nAll tc kd sp (tc - p) p s).1 = 0 → NJ kd P0 0 0 tc tc (nAll tc kd sp (tc - p) p s)
  | 0, p, n, s, hw, hn, hn1, h45, hJ, he => by
    have hw : p = n := hw
    subst hw
    rw [show tc - p = 1 by omega] at he ⊢
    have h1 : nAll tc kd sp 1 p s = s := by
      show (if s.1 = 0 then nAt tc kd sp p s else s) = s
      rw [nAt_no (by omega) (by omega) (by omega) (by omega) (by omega) (by omega) (by omega)]
      split <;> rfl
    rw [h1] at he ⊢
    refine hJ.nx (by omega) (fun t h1 h2 => ?_)
    rw [show t = p by omega]
    exact Res_no (by omega) (by omega) (by omega) (by omega)
  | j + 1, p, n, s, hw, hn, hn1, h45, hJ, he => by
    have hle := wfS_le hw.2
    have hal := alen_pos (a := kd p)
    have hsp : tc - p = alen (kd p) + (tc - (p + alen (kd p))) := by omega
    rw [hsp, nAll_at hw.1] at he ⊢
    by_cases h1 : s.1 = 0
    · rw [if_pos h1] at he ⊢
      have h2 : (nAt tc kd sp p s).1 = 0 := by
        by_cases h2 : (nAt tc kd sp p s).1 = 0
        · exact h2
        · rw [nAll_er h2] at he
          exact he
      exact NJ.all hw.2 hn hn1 h45 (hJ.at hw.1 (by omega) h2) he
    · rw [if_neg h1] at he
      exact absurd he h1
end NINV3
