/-! ===== PURE: what both have been told is the same plan ===== -/
section TPURE
variable {tc len n2 : Nat} {K kd : Nat → Nat} {f3 f4 sp tp T : Nat → Int} {os : List Or} {s : NSt} {st z : MSt} {F0 F : Nat → Nat → Int} {hc : Nat → MC} {sb : Nat}
theorem te_cx (hTok : TokOk tp len tc K f3 f4 sp) (hK : KOk K tc) (hKE : KEq K kd) (hT : Tp T tp len) : SCx tc K kd sp f4 (eqM T (tkP tp len) (lnK tp len)) (nvK tp len) := by
  obtain ⟨t1, t2, t3, t4⟩ := hTok
  refine ⟨hK.1.2, hKE, fun i t hi ht ki kt => ?_, fun t ht kt => ?_, fun t ht kt => ?_, ?_⟩
  · rw [(t2 i hi).1] at ki
    rw [(t2 t ht).1] at kt
    rw [(t2 i hi).2.2.2, (t2 t ht).2.2.2]
    exact nm_eq hT ki kt
  · rw [(t2 t ht).1] at kt
    rw [(t2 t ht).2.2.1]
    unfold nvK tkV lnK
    rw [if_pos kt, (nu_ch hT kt).2.1]
  · rw [(t2 t ht).1] at kt
    rw [(t2 t ht).2.2.1]
    unfold tkV
    rw [if_neg (by omega)]
  · have := hK.2.2.1
    omega
theorem te_sim (hTok : TokOk tp len tc K f3 f4 sp) (hK : KOk K tc) (hKE : KEq K kd) (hT : Tp T tp len) (hr : pLs K 6500 402 0 = some (true, n2, os)) (hn2 : n2 < tc) {et : Int} {f : Nat → Int} {g P0 : Nat → Nat → Int} (hf : ∀ i, i < 3 → f i = 0) (hP4 : P0 4 = f4) (hF0 : FtP tp len tc F0) : n2 + 1 = tc ∧ SimP tc K (tkP tp len) (lnK tp len) (eqM T (tkP tp len) (lnK tp len)) (nvK tp len) n2 0 (nAll tc kd sp tc 0 (0, et, 0, f, g, 0, 0, P0)) (F0, 0) (PoL tc K sp f4 (tkP tp len) (lnK tp len) (F0, 0) (nAll tc kd sp tc 0 (0, et, 0, f, g, 0, 0, P0)) os n2) := by
  have h45 := (pLs_wf hr).2
  have hn : n2 + 1 = tc := by
    by_cases h : n2 + 1 < tc
    · exact absurd h45 (hK.2.1 n2 h).2
    · omega
  refine ⟨hn, ?_⟩
  have cx := te_cx hTok hK hKE hT
  obtain ⟨hC, hz⟩ := hF0
  obtain ⟨t1, t2, t3, t4⟩ := hTok
  have hR : RS tc K sp f4 (tkP tp len) (lnK tp len) 0 0 (0, et, 0, f, g, 0, 0, P0) (F0, 0) 0 := by
    have z5 := hz 5 (by decide) (by decide) (by decide)
    have z4 := hz 4 (by decide) (by decide) (by decide)
    refine ⟨rfl, ?_, fun S kk hS i hi => ?_, ⟨rfl, Int.le_refl _, (show (0 : Int) ≤ 20 by decide)⟩, ⟨fun t ht => absurd ht (Nat.not_lt_zero _), fun t _ => ?_, fun t _ => ?_⟩, ?_, fun t ht => ?_⟩
    · dsimp only
      rw [z5, hf 0 (by decide), hf 1 (by decide), hf 2 (by decide)]
      decide
    · dsimp only at hi
      rw [hf kk (by omega)] at hi
      omega
    · dsimp only
      rw [z4, hP4]
      exact ⟨rfl, rfl⟩
    · dsimp only
      rw [hP4]
    · dsimp only
      rw [hf 1 (by decide), hf 2 (by decide)]
      exact ⟨rfl, fun r hr => absurd hr (Nat.not_lt_zero _), rfl, fun r hr => absurd hr (Nat.not_lt_zero _)⟩
    · obtain ⟨a, b, c⟩ := hC.2.1 t ht
      dsimp only
      rw [(t2 t ht).1]
      exact ⟨b, c, a⟩
  obtain ⟨-, hs⟩ := s_list cx hr hn2 hR
  rw [Nat.sub_zero] at hs
  have e : nAll tc kd sp tc 0 (0, et, 0, f, g, 0, 0, P0) = nAll tc kd sp n2 0 (0, et, 0, f, g, 0, 0, P0) := by
    have h1 : nAll tc kd sp tc 0 (0, et, 0, f, g, 0, 0, P0) = nAll tc kd sp (n2 + 1) 0 (0, et, 0, f, g, 0, 0, P0) := by rw [hn]
    rw [h1, nAll_app, Nat.zero_add, nAll_1 hKE (by omega)]
  rw [e]
  exact hs
theorem kdO_n {t : Nat} (ht : t < tc) : kdO tc kd (t : Int) = kd t := by
  unfold kdO
  rw [if_pos ⟨by omega, by omega⟩, Int.toNat_natCast]
theorem te_map {va : Nat → Int} {Ls : List (Nat × Nat)} (h : ∀ x, x ∈ Ls → kd x.1 = x.2 ∧ x.1 < tc) : Ls.map (fun x => tkA tc kd va (x.1 : Int)) = Ls.map (tvV tc va) := by
  refine List.map_congr_left (fun x hx => ?_)
  obtain ⟨h1, h2⟩ := h x hx
  unfold tkA tvV
  rw [kdO_n h2, h1]
/-- the same plan -/
theorem te_plan (hTok : TokOk tp len tc K f3 f4 sp) (hK : KOk K tc) (hKE : KEq K kd) {P0 : Nat → Nat → Int} {cl : Nat} (hn : n2 + 1 = tc) (h45 : K n2 = 45) (hJ : NJ kd P0 0 0 tc tc s) (hO : OrR os kd P0 cl n2) (hL : PoL tc K sp f4 (tkP tp len) (lnK tp len) (F0, 0) s os n2 z) (hA : ShA hc sb z.2 z.1) : ShP hc sb z.1 K tc (s.2.2.2.2.2.2.2 4) (planQ tc kd s os) := by
  obtain ⟨hR, h2, h3, h4⟩ := hL
  have hR0 := hR
  obtain ⟨y0, ⟨c0, c1, c2, c3, c4, c5⟩, yn, yo, ⟨y4a, y4b, y4c⟩, ⟨r1, r2, r3, r4⟩, yk⟩ := hR
  have h2 : z.2 = (os.length : Int) := by rw [h2]; exact Int.zero_add _
  have hlen : os.length ≤ 20 := by omega
  have hmn : mn os.length = os.length := by
    unfold mn
    split <;> omega
  obtain ⟨j1, j2, j3, j4, j5, j6, j7, j8, j9, j10⟩ := hJ
  rw [h2] at hA
  unfold planQ
  refine ⟨⟨?_, ?_, ?_, ?_, fun r hr => ?_⟩, fun k hk => ?_, fun _ => ⟨⟨hK.1.2, hK, fun t ht => ?_, hR0.kp⟩, fun t ht hkt => ?_, fun i hi => ?_⟩⟩
  · dsimp only
    rw [hmn]
    exact hA
  · dsimp only
    omega
  · dsimp only
    omega
  · dsimp only
    omega
  · dsimp only at hr ⊢
    obtain ⟨a, b, c⟩ := r2 r hr
    obtain ⟨a', b', -⟩ := j4 r hr
    rw [a, b, a'.nat.1, b'.nat.1]
    exact ⟨rfl, rfl⟩
  · dsimp only at hk ⊢
    obtain ⟨a, b⟩ := r4 k hk
    obtain ⟨a', -⟩ := j5 k hk
    rw [a, b, a'.nat.1]
    exact ⟨rfl, rfl⟩
  · rw [(hTok.2.1 t ht).1]
    exact tkK_41
  · by_cases h : t < n2
    · exact y4a t h ht hkt
    · have : t = n2 := by omega
      subst this
      omega
  · dsimp only at hi ⊢
    rw [hmn] at hi
    have hoi : os[i]? = some (os[i]'hi) := List.getElem?_eq_getElem hi
    generalize os[i]'hi = o at hoi
    have hgd : os.getD i (0, [], []) = o := by
      rw [List.getD_eq_getElem?_getD, hoi]
      rfl
    rw [hgd]
    obtain ⟨o1, o2, o3, o4, o5, o6⟩ := h4 i o hoi
    have hz0 : ((F0, 0) : MSt).2.toNat + i = i := Nat.zero_add i
    rw [hz0] at o3 o4 o5 o6
    obtain ⟨p1, p2, p, p3, p4, p5, p6, p7, p8⟩ := hO i o hoi (by omega)
    have hkK : kd o.1 = K o.1 := by
      have := hKE o.1
      omega
    have hres := j8 o.1 (by omega)
    have hin : ∃ k, InR s k (s.2.2.2.2.2.2.2 4 (o.1 + 1)) := by
      obtain ⟨q1, q2, -⟩ := hres
      rcases o2 with k8 | k10 | k11
      · exact ⟨1, (q1 (by omega)).2⟩
      · exact ⟨1, (q1 (by omega)).2⟩
      · exact ⟨0, (q2 (by omega)).2⟩
    obtain ⟨ki, hin⟩ := hin
    have hvl : vlO tc (s.2.2.2.2.2.2.2 4) ((o.1 : Int) + 1) = s.2.2.2.2.2.2.2 4 (o.1 + 1) := by
      unfold vlO
      rw [if_pos ⟨by omega, by omega⟩, show ((o.1 : Int) + 1).toNat = o.1 + 1 by omega]
    unfold ordQ
    dsimp only
    refine ⟨by rw [o3, hkK], ?_, ?_, fun h8 => ?_⟩
    · rw [o4, hvl, hin.nat.1]
    · obtain ⟨fu, b, b', x1, x2, x3⟩ := o5
      exact ⟨fu, b, b', o.2.2, x1, x2, x3, te_map (fun x hx => by
        have := p8 x (List.mem_append.mpr (Or.inr hx))
        exact ⟨this.1, by omega⟩)⟩
    · obtain ⟨fu, b, b', x1, x2, x3⟩ := o6 (by omega)
      exact ⟨fu, b, b', o.2.1, x1, x2, x3, te_map (fun x hx => by
        have := p8 x (List.mem_append.mpr (Or.inl hx))
        exact ⟨this.1, by omega⟩)⟩
end TPURE
