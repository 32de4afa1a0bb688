/-! ===== WHAT IS READ OF THE LIST OF A DRAWN LAND ===== -/
def DrOk (n c u q : Nat) (fr to mi ba bo : Nat → Nat) (zz : Nat → Nat → Nat) : Prop := n ≤ 9 ∧ c ≤ 13 ∧ u ≤ 4 ∧ q ≤ 6 ∧ (∀ r, r < c → fr r < n ∧ to r < n ∧ fr r ≠ to r ∧ 1 ≤ mi r ∧ mi r ≤ 30) ∧ (∀ k, k < u → ba k < n ∧ bo k ≤ 8) ∧ ∀ j, j < q → ZdOk n c u (zz j)
abbrev ordF (zz : Nat → Nat → Nat) (j : Nat) : List Pk := ordP (zz j)
def allP (n c u q : Nat) (fr to mi ba bo : Nat → Nat) (zz : Nat → Nat → Nat) : List Pk := catP tavP n ++ (catP (roaP fr to mi) c ++ (catP (rumP ba bo) u ++ catP (ordF zz) q))
def LandQ (n c u q : Nat) (fr to ba bo : Nat → Nat) (Q : Pn) : Prop := Q.1 = n ∧ Q.2.1 = c ∧ Q.2.2.1 = u ∧ Q.2.2.2.1 = q ∧ (∀ r, r < c → frP Q r = fr r ∧ toP Q r = to r) ∧ ∀ k, k < u → Q.2.2.2.2.2.2.1 k = ba k ∧ Q.2.2.2.2.2.2.2.1 k = (bo k : Int)
theorem catO_n : ∀ {k : Nat}, catO (fun _ => none) k = []
  | 0 => rfl
  | k + 1 => by
    show catO (fun _ => none) k ++ [] = []
    rw [catO_n, List.append_nil]
theorem catO_s {g : Nat → Or} : ∀ {k : Nat}, (catO (fun j => some (g j)) k).length = k ∧ ∀ i, i < k → (catO (fun j => some (g j)) k)[i]? = some (g i)
  | 0 => ⟨rfl, fun i h => absurd h (Nat.not_lt_zero _)⟩
  | k + 1 => by
    obtain ⟨h1, h2⟩ := catO_s (g := g) (k := k)
    refine ⟨by show (catO _ k ++ [g k]).length = _; rw [List.length_append, h1]; rfl, fun i hi => ?_⟩
    show (catO _ k ++ [g k])[i]? = _
    by_cases hk : i < k
    · rw [List.getElem?_append_left (by omega)]
      exact h2 i hk
    · obtain rfl : i = k := by omega
      rw [List.getElem?_append_right (by omega), h1, Nat.sub_self]
      rfl
theorem RdT.grp {T A R : List Pk} {f : Nat → List Pk} {k j tc : Nat} {K : Nat → Nat} {f4 sp : Nat → Int} (hR : RdT T tc K f4 sp) (e : T = A ++ (catP f k ++ R)) (hj : j < k) : Seg (f j) (A.length + psP f j) tc K f4 (vlT T) sp := by
  obtain ⟨R', h⟩ := catP_at (f := f) hj
  have e2 : T = (A ++ catP f j) ++ (f j ++ (R' ++ R)) := by rw [e, h]; simp only [List.append_assoc]
  have := hR.seg e2
  rw [List.length_append] at this
  exact this
section PLAN3
variable {n c u q : Nat} {fr to mi ba bo : Nat → Nat} {zz : Nat → Nat → Nat} {tc : Nat} {K : Nat → Nat} {f4 sp : Nat → Int}
theorem te_plan (hD : DrOk n c u q fr to mi ba bo zz) (hR : RdT (allP n c u q fr to mi ba bo zz) tc K f4 sp) {r : Bool × Nat × List Or} (hr : pLs K 6500 402 0 = some r) : r.1 = true ∧ ∀ (kd : Nat → Nat) (et : Int) (f : Nat → Int) (g P : Nat → Nat → Int) (cl : Nat) (s : NSt), KEq K kd → (∀ i, i < 3 → f i = 0) → P 4 = f4 → s = nAll tc kd sp tc 0 (0, et, 0, f, g, 0, 0, P) → OrR r.2.2 kd P cl r.2.1 →
    s.1 = 0 ∧ (∀ x, x < c → s.2.2.2.2.2.2.2 9 x = (mi x : Int)) ∧ (PnOk (planQ tc kd s r.2.2) → LandQ n c u q fr to ba bo (planQ tc kd s r.2.2) ∧ OzOk (planQ tc kd s r.2.2) (fun j => zI (zz j))) := by
  obtain ⟨d1, d2, d3, d4, d5, d6, d7⟩ := hD
  generalize hT : allP n c u q fr to mi ba bo zz = T at hR
  have eT : T = ([] : List Pk) ++ (catP tavP n ++ (catP (roaP fr to mi) c ++ (catP (rumP ba bo) u ++ catP (ordF zz) q))) := hT.symm
  have eT2 : T = catP tavP n ++ (catP (roaP fr to mi) c ++ (catP (rumP ba bo) u ++ catP (ordF zz) q)) := hT.symm
  have eT3 : T = (catP tavP n ++ catP (roaP fr to mi) c) ++ (catP (rumP ba bo) u ++ catP (ordF zz) q) := by rw [eT2, List.append_assoc]
  have eT4 : T = (catP tavP n ++ (catP (roaP fr to mi) c ++ catP (rumP ba bo) u)) ++ (catP (ordF zz) q ++ []) := by rw [eT2, List.append_nil]; simp only [List.append_assoc]
  have sT := fun {j} (hj : j < n) => hR.grp eT hj
  have sR := fun {j} (hj : j < c) => hR.grp eT2 hj
  have hlen : T.length = psP tavP n + (psP (roaP fr to mi) c + (psP (rumP ba bo) u + psP (ordF zz) q)) := by rw [eT2, List.length_append, List.length_append, List.length_append]
  obtain ⟨htc, -, hend⟩ := id hR
  obtain ⟨p1, hp1⟩ : ∃ p, psP tavP n = p := ⟨_, rfl⟩
  obtain ⟨p2, hp2⟩ : ∃ p, psP (roaP fr to mi) c = p := ⟨_, rfl⟩
  obtain ⟨p3, hp3⟩ : ∃ p, psP (rumP ba bo) u = p := ⟨_, rfl⟩
  have hp1' : (catP tavP n).length = p1 := hp1
  have hp2' : (catP (roaP fr to mi) c).length = p2 := hp2
  have hp3' : (catP (rumP ba bo) u).length = p3 := hp3
  have sT : ∀ j, j < n → Seg (tavP j) (0 + psP tavP j) tc K f4 (vlT T) sp := fun j hj => sT hj
  have sR : ∀ j, j < c → Seg (roaP fr to mi j) (p1 + psP (roaP fr to mi) j) tc K f4 (vlT T) sp := fun j hj => by have h5 := sR hj; rw [hp1'] at h5; exact h5
  have sU : ∀ j, j < u → Seg (rumP ba bo j) (p1 + p2 + psP (rumP ba bo) j) tc K f4 (vlT T) sp := fun j hj => by have h5 := hR.grp eT3 hj; rw [List.length_append, hp1', hp2'] at h5; exact h5
  have sO : ∀ j, j < q → Seg (ordF zz j) (p1 + (p2 + p3) + psP (ordF zz) j) tc K f4 (vlT T) sp := fun j hj => by have h5 := hR.grp eT4 hj; rw [List.length_append, List.length_append, hp1', hp2', hp3'] at h5; exact h5
  have sA : Seg (catP (ordF zz) q) (p1 + (p2 + p3)) tc K f4 (vlT T) sp := by have h5 := hR.seg eT4; rw [List.length_append, List.length_append, hp1', hp2', hp3'] at h5; exact h5
  rw [hp1, hp2, hp3] at hlen
  have hzz : ∀ j, j < q → zz j 0 ≤ 2 ∧ zz j 2 ≤ 7 ∧ zz j 3 ≤ 8 := fun j hj => ⟨(d7 j hj).1, (d7 j hj).2.2.2.1, (d7 j hj).2.2.2.2.1⟩
  -- the parse
  have f0 : pLs K 6500 (402 - (n + c + u + q)) (p1 + (p2 + p3) + psP (ordF zz) q) = some (true, T.length, []) := by
    rw [show 402 - (n + c + u + q) = (401 - (n + c + u + q)) + 1 by omega, show p1 + (p2 + p3) + psP (ordF zz) q = T.length by omega]
    unfold pLs
    rw [if_pos hend]
  have f1 := pLs_grp (f := ordF zz) (o := fun j => some (ordO (zz j) (p1 + (p2 + p3) + psP (ordF zz) j))) (fun j hj => by
    obtain ⟨n1, h1, h2, h3, h4⟩ := ln_ord (hzz j hj).1 (hzz j hj).2.1 (hzz j hj).2.2 (sO j hj)
    have e9 : (ordF zz j).length = (ordP (zz j)).length := rfl
    exact ⟨n1, h1, h2, by rw [psP_s]; omega, h4⟩) f0
  have f2 := pLs_grp (f := rumP ba bo) (o := fun _ => none) (k := u) (a := p1 + p2) (fun j hj => by
    obtain ⟨n1, h1, h2, h3, h4⟩ := ln_rum (sU j hj)
    exact ⟨n1, h1, h2, by rw [psP_s]; omega, h4⟩) (by rw [hp3, show p1 + p2 + p3 = p1 + (p2 + p3) by omega]; exact f1)
  have f3 := pLs_grp (f := roaP fr to mi) (o := fun _ => none) (k := c) (a := p1) (fun j hj => by
    obtain ⟨n1, h1, h2, h3, h4⟩ := ln_roa (sR j hj)
    exact ⟨n1, h1, h2, by rw [psP_s]; omega, h4⟩) (by rw [hp2]; exact f2)
  have f4' := pLs_grp (f := tavP) (o := fun _ => none) (k := n) (a := 0) (fun j hj => by
    obtain ⟨n1, h1, h2, h3, h4⟩ := ln_tav (sT j hj)
    exact ⟨n1, h1, h2, by rw [psP_s]; omega, h4⟩) (by rw [hp1, Nat.zero_add]; exact f3)
  rw [show 402 - (n + c + u + q) + q + u + c + n = 402 by omega, hr, catO_n, catO_n, catO_n, List.nil_append, List.nil_append, List.nil_append, List.append_nil] at f4'
  have hr2 := Option.some.inj f4'
  obtain ⟨co1, co2⟩ := catO_s (g := fun j => ordO (zz j) (p1 + (p2 + p3) + psP (ordF zz) j)) (k := q)
  generalize hos : catO (fun j => some (ordO (zz j) (p1 + (p2 + p3) + psP (ordF zz) j))) q = os at *
  subst hr2
  refine ⟨rfl, fun kd et f g P cl s hE hf hP hs hO => ?_⟩
  -- names
  have N0 : NSk fr to mi ba bo f4 (vlT T) 0 0 0 0 (0, et, 0, f, g, 0, 0, P) := ⟨rfl, rfl, ⟨hf 0 (by omega), hf 1 (by omega), hf 2 (by omega)⟩, fun k hk i hi => by
    have hi : (i : Int) < f k := hi
    rw [hf k hk] at hi
    omega, rfl, rfl, fun r hr => absurd hr (Nat.not_lt_zero _), fun r hr => absurd hr (Nat.not_lt_zero _), fun x => Or.inl (by show P 4 x = _; rw [hP])⟩
  obtain ⟨s1, N1, E1⟩ := nAll_grp (tc := tc) (kd := kd) (sp := sp) (f := tavP) (a := 0) (I := fun j s => NSk fr to mi ba bo f4 (vlT T) j 0 0 0 s) (k := n) (fun j s hj hN => by
    obtain ⟨s', h1, h2⟩ := na_tav hE (by omega) (sT j hj) hN
    refine ⟨s', h1, fun m => ?_⟩
    rw [h2 m, psP_s, Nat.add_assoc]) N0
  obtain ⟨s2, N2, E2⟩ := nAll_grp (tc := tc) (kd := kd) (sp := sp) (f := roaP fr to mi) (a := p1) (I := fun j s => NSk fr to mi ba bo f4 (vlT T) n j 0 0 s) (k := c) (fun j s hj hN => by
    obtain ⟨b1, b2, b3, b4, b5⟩ := d5 j hj
    have hs := sR j hj
    obtain ⟨s', h1, h2⟩ := na_roa hE (by omega) (by omega) b1 b2 b3 ⟨b4, b5⟩ hs hN
    refine ⟨s', h1, fun m => ?_⟩
    rw [h2 m, psP_s, Nat.add_assoc]) N1
  obtain ⟨s3, N3, E3⟩ := nAll_grp (tc := tc) (kd := kd) (sp := sp) (f := rumP ba bo) (a := p1 + p2) (I := fun j s => NSk fr to mi ba bo f4 (vlT T) n c j 0 s) (k := u) (fun j s hj hN => by
    obtain ⟨b1, b2⟩ := d6 j hj
    obtain ⟨s', h1, h2⟩ := na_rum hE (by omega) (by omega) b1 (by omega) (sU j hj) hN
    refine ⟨s', h1, fun m => ?_⟩
    rw [h2 m, psP_s, Nat.add_assoc]) N2
  obtain ⟨g1, g2, g3⟩ := ords_nm (zz := zz) d7
  obtain ⟨s4, N4, E4, V4, W4⟩ := ord_names hE (by omega) (by omega) (by omega) (l := catP (ordF zz) q) (a := p1 + (p2 + p3)) (o := 0) (s := s3) sA g1 N3 (by rw [g3]; omega)
  have hs4 : s = s4 := by
    rw [hs]
    have e9 : (catP (ordF zz) q).length = psP (ordF zz) q := rfl
    have e1 := E1 (p2 + (p3 + (psP (ordF zz) q + 1)))
    rw [hp1, Nat.zero_add] at e1
    have e2 := E2 (p3 + (psP (ordF zz) q + 1))
    rw [hp2] at e2
    have e3 := E3 (psP (ordF zz) q + 1)
    rw [hp3, show p1 + p2 + p3 = p1 + (p2 + p3) by omega] at e3
    rw [show nAll tc kd sp tc 0 (0, et, 0, f, g, 0, 0, P) = nAll tc kd sp (p1 + (p2 + (p3 + (psP (ordF zz) q + 1)))) 0 (0, et, 0, f, g, 0, 0, P) by congr 1; omega, e1, e2, e3, E4 1, show p1 + (p2 + p3) + (catP (ordF zz) q).length = T.length by omega, show 1 = 0 + 1 from rfl, nAll_1 N4.1, nAt_nx]
    · rfl
    all_goals (rw [hE.eq hend (by decide)]; decide)
  rw [hs4]
  rw [g3, Nat.zero_add] at N4
  have V := W4 (fun x h1 h2 => by rw [g2] at h2; omega)
  -- values of a piece of the orders
  have val : ∀ (l : List Pk) (i : Nat), p1 + (p2 + p3) ≤ i → Seg l i tc K f4 (vlT T) sp → i + l.length ≤ T.length → VlR l i tc (ro4 s4) := fun l i hi hS hl => by
    refine ⟨hS.1, fun x hx hk => ?_⟩
    obtain ⟨k1, k2, k3, k4⟩ := hS.2 x hx
    rw [vlO_at (by have := hS.1; omega)]
    rcases hk with hk | hk
    · have := V (i + x - (p1 + (p2 + p3))) (by show _ < psP (ordF zz) q; omega) (by
        have h5 := (sA.2 (i + x - (p1 + (p2 + p3))) (by show _ < psP (ordF zz) q; omega)).1
        rw [show p1 + (p2 + p3) + (i + x - (p1 + (p2 + p3))) = i + x by omega] at h5
        rw [← h5, k1, hk])
      rw [show p1 + (p2 + p3) + (i + x - (p1 + (p2 + p3))) = i + x by omega] at this
      rw [this, k4]
    · rcases N4.2.2.2.2.2.2.2.2 (i + x) with h5 | h5
      · exact h5.trans (k3 hk)
      · exact h5.trans k4
  refine ⟨N4.1, fun x hx => (N4.2.2.2.2.2.2.1 x hx).2.2, fun hQ => ?_⟩
  obtain ⟨-, -, ⟨c0, -, -⟩, -, c5, c6, c7, c8, -⟩ := id N4
  have hmn : mn os.length = q := by
    rw [co1]
    unfold mn
    rw [if_pos (by omega)]
  have L : LandQ n c u q fr to ba bo (planQ tc kd s4 os) := ⟨by show (s4.2.2.2.1 0).toNat = n; rw [c0]; exact Int.toNat_natCast n, c5, c6, hmn, fun r hr => ⟨by show (s4.2.2.2.2.2.2.2 7 r).toNat = _; rw [(c7 r hr).1]; exact Int.toNat_natCast _, by show (s4.2.2.2.2.2.2.2 8 r).toNat = _; rw [(c7 r hr).2.1]; exact Int.toNat_natCast _⟩, fun k hk => ⟨by show (s4.2.2.2.2.2.2.2 10 k).toNat = _; rw [(c8 k hk).1]; exact Int.toNat_natCast _, (c8 k hk).2⟩⟩
  refine ⟨L, fun j hj => ?_⟩
  obtain ⟨L1, L2, L3, L4, -, -⟩ := L
  rw [L4] at hj
  have hget : os.getD j (0, [], []) = ordO (zz j) (p1 + (p2 + p3) + psP (ordF zz) j) := by rw [List.getD_eq_getElem?_getD, co2 j hj]; rfl
  have hod : odP (planQ tc kd s4 os) j = ordQ tc kd (ro4 s4) (ordO (zz j) (p1 + (p2 + p3) + psP (ordF zz) j)) := by
    show ordQ tc kd (ro4 s4) (os.getD j (0, [], [])) = _
    rw [hget]
  obtain ⟨-, -, -, -, -, -, hxk⟩ : True ∧ True ∧ True ∧ True ∧ True ∧ True ∧ ∀ x, x ∈ (ordO (zz j) (p1 + (p2 + p3) + psP (ordF zz) j)).2.1 ++ (ordO (zz j) (p1 + (p2 + p3) + psP (ordF zz) j)).2.2 → kd x.1 = x.2 := by
    obtain ⟨-, -, p, -, -, -, -, -, h9⟩ := hO j _ (co2 j hj) (by omega)
    exact ⟨trivial, trivial, trivial, trivial, trivial, trivial, fun x hx => (h9 x hx).1⟩
  have S0 := sO j hj
  have hle : p1 + (p2 + p3) + psP (ordF zz) j + (ordF zz j).length ≤ T.length := by
    have := S0.1
    omega
  generalize ha : p1 + (p2 + p3) + psP (ordF zz) j = a at *
  generalize hz : zz j = z at *
  have hzd : ZdOk n c u z := by rw [← hz]; exact d7 j hj
  have S0 : Seg (ordP z) a tc K f4 (vlT T) sp := by have h5 := S0; unfold ordF at h5; rw [hz] at h5; exact h5
  have hle : a + (ordP z).length ≤ T.length := by have h5 := hle; unfold ordF at h5; rw [hz] at h5; exact h5
  have S1 : Seg (hdP z) a tc K f4 (vlT T) sp := Seg.l S0
  have S2 : Seg (whnP z ++ [([], (30, 0, 0), [10])]) (a + (hdP z).length) tc K f4 (vlT T) sp := Seg.r S0
  have S5 : Seg (tstP z) (a + (hdP z).length + 1) tc K f4 (vlT T) sp := (Seg.l S2).tl
  have hol : (ordP z).length = (hdP z).length + ((tstP z).length + 1 + 1) := by
    unfold ordP
    rw [List.length_append, List.length_append]
    rfl
  have hal : p1 + (p2 + p3) ≤ a := by omega
  obtain ⟨e0, e1, e2, eb⟩ := id hzd
  have hzb : ZbOk (planQ tc kd s4 os) z := by
    unfold ZbOk
    rw [L1, L2, L3]
    exact eb
  obtain ⟨b2, b3, b4, b5, b6, b7, b8⟩ := eb
  have kh : ∀ k v : Nat, 0 < (hdP z).length → kdT (hdP z) 0 = k → k ≠ 33 → kd a = k := fun k v hl hk h33 => by
    have := (S1.2 0 hl).1
    rw [Nat.add_zero] at this
    exact hE.eq (this.trans hk) h33
  have vh : ∀ v : Nat, 1 < (hdP z).length → kdT (hdP z) 1 = 42 → vlT (hdP z) 1 = (v : Int) → (vlO tc (ro4 s4) ((a : Int) + 1)).toNat = v := fun v hl hk hv => by
    have := (val (hdP z) a hal S1 (by omega)).2 1 hl (Or.inl hk)
    rw [show (a : Int) + 1 = ((a + 1 : Nat) : Int) by omega, this, hv]
    exact Int.toNat_natCast v
  have o1 : (odP (planQ tc kd s4 os) j).1 = kd a := by rw [hod]; rfl
  have o2 : (odP (planQ tc kd s4 os) j).2.1 = (vlO tc (ro4 s4) ((a : Int) + 1)).toNat := by rw [hod]; rfl
  have o3 : (odP (planQ tc kd s4 os) j).2.2.1 = mpQ tc kd (ro4 s4) (a + (hdP z).length + 1) (tstL z) := by rw [hod]; rfl
  have hhd : (odP (planQ tc kd s4 os) j).1 = (if zI z 0 = 0 then 8 else if zI z 0 = 1 then 10 else 11) ∧ (odP (planQ tc kd s4 os) j).2.1 = (zI z 1).toNat := by
    rw [o1, o2]
    show _ ∧ _ = ((z 1 : Nat) : Int).toNat
    rw [Int.toNat_natCast]
    rcases (by omega : z 0 = 0 ∨ z 0 = 1 ∨ z 0 = 2) with h | h | h
    · have e : hdP z = ([([], (8, 0, 0), []), ([32], (42, 1, z 1), []), ([32], (9, 0, 0), [])] : List Pk) ++ sumP z := if_pos h
      have hl3 : 3 ≤ (hdP z).length := by rw [e, List.length_append]; exact Nat.le_add_right 3 _
      rw [if_pos (by show ((z 0 : Nat) : Int) = 0; omega)]
      exact ⟨kh 8 0 (by omega) (by rw [e]; rfl) (by decide), vh (z 1) (by omega) (by rw [e]; rfl) (by rw [e]; rfl)⟩
    · have e : hdP z = ([([], (10, 0, 0), []), ([32], (42, 1, z 1), [])] : List Pk) := by unfold hdP; rw [if_neg (by omega), if_pos h]
      have hl3 : (hdP z).length = 2 := by rw [e]; rfl
      rw [if_neg (by show ¬ ((z 0 : Nat) : Int) = 0; omega), if_pos (by show ((z 0 : Nat) : Int) = 1; omega)]
      exact ⟨kh 10 0 (by omega) (by rw [e]; rfl) (by decide), vh (z 1) (by omega) (by rw [e]; rfl) (by rw [e]; rfl)⟩
    · have e : hdP z = ([([], (11, 0, 0), []), ([32], (42, 0, z 1), [])] : List Pk) := by unfold hdP; rw [if_neg (by omega), if_neg (by omega)]
      have hl3 : (hdP z).length = 2 := by rw [e]; rfl
      rw [if_neg (by show ¬ ((z 0 : Nat) : Int) = 0; omega), if_neg (by show ¬ ((z 0 : Nat) : Int) = 1; omega)]
      exact ⟨kh 11 0 (by omega) (by rw [e]; rfl) (by decide), vh (z 1) (by omega) (by rw [e]; rfl) (by rw [e]; rfl)⟩
  show ZOk (planQ tc kd s4 os) (zI (zz j)) ∧ (odP (planQ tc kd s4 os) j).1 = (if zI (zz j) 0 = 0 then 8 else if zI (zz j) 0 = 1 then 10 else 11) ∧ (odP (planQ tc kd s4 os) j).2.1 = (zI (zz j) 1).toNat ∧ ∀ S, SOk (planQ tc kd s4 os) S → HeOk (planQ tc kd s4 os) S → HrOk S → (rpQ (planQ tc kd s4 os) S (odP (planQ tc kd s4 os) j).2.2.1 = 0 ↔ ¬ hlZ (planQ tc kd s4 os) S (zI (zz j))) ∧ (zI (zz j) 0 = 0 → rpQ (planQ tc kd s4 os) S (odP (planQ tc kd s4 os) j).2.2.2 = smZ (planQ tc kd s4 os) S (zI (zz j)))
  rw [hz]
  refine ⟨⟨⟨by show (0 : Int) ≤ ((z 0 : Nat) : Int); omega, by show ((z 0 : Nat) : Int) ≤ 2; omega⟩, ⟨by show (0 : Int) ≤ ((z 2 : Nat) : Int); omega, by show ((z 2 : Nat) : Int) ≤ 7; omega⟩, ⟨by show (0 : Int) ≤ ((z 3 : Nat) : Int); omega, by show ((z 3 : Nat) : Int) ≤ 8; omega⟩, ⟨by show (0 : Int) ≤ ((z 4 : Nat) : Int); omega, by show ((z 4 : Nat) : Int) ≤ 8; omega⟩, ⟨z 5, by rw [L2]; exact b5, rfl⟩, ⟨z 6, by rw [L1]; exact b6, rfl⟩, ⟨z 7, by rw [L1]; exact b7, rfl⟩, ⟨z 8, by rw [L3]; exact b8, rfl⟩, fun h => ⟨z 1, by rw [L1]; exact e2 (by have h : ((z 0 : Nat) : Int) = 2 := h; omega), rfl⟩, fun h => ⟨z 1, by rw [L2]; exact e1 (by have h : ¬ ((z 0 : Nat) : Int) = 2 := h; omega), rfl⟩⟩, hhd.1, hhd.2, fun S hS hH hR' => ⟨?_, fun h0 => ?_⟩⟩
  · rw [o3]
    refine tst_rpn hQ hS hR' hzb (fun x hx => hxk (a + (hdP z).length + 1 + x.1, x.2) (List.mem_append.mpr (Or.inr ?_))) (val _ _ (by omega) S5 (by omega))
    exact List.mem_map.mpr ⟨x, hx, rfl⟩
  · have h0 : z 0 = 0 := by have h0 : ((z 0 : Nat) : Int) = 0 := h0; omega
    have e : hdP z = ([([], (8, 0, 0), []), ([32], (42, 1, z 1), []), ([32], (9, 0, 0), [])] : List Pk) ++ sumP z := if_pos h0
    have eo : (ordO z a).2.1 = shf (a + 3) (sumL z) := if_pos h0
    have o4 : (odP (planQ tc kd s4 os) j).2.2.2 = mpQ tc kd (ro4 s4) (a + 3) (sumL z) := by
      rw [hod]
      show (ordO z a).2.1.map _ = _
      rw [eo]
    have hl3 : (hdP z).length = 3 + (sumP z).length := by rw [e, List.length_append]; rfl
    rw [e] at S1
    have S7 : Seg (sumP z) (a + 3) tc K f4 (vlT T) sp := Seg.r S1
    rw [o4]
    refine sum_rpn hQ hS hR' hzb (fun x hx => hxk (a + 3 + x.1, x.2) (List.mem_append.mpr (Or.inl ?_))) (val _ _ (by omega) S7 (by omega))
    rw [eo]
    exact List.mem_map.mpr ⟨x, hx, rfl⟩
end PLAN3
