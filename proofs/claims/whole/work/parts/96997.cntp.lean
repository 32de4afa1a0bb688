/-! ===== PURE: as many parts as taverns less roads of the net ===== -/
section CNTP
variable {g : Gr} {n : Nat} {S : NS}
theorem cnt_inj {f : Nat → Nat} {p : Nat → Bool} : ∀ {n m : Nat} {q : Nat → Bool}, (∀ i, i < n → p i = true → f i < m ∧ q (f i) = true) → (∀ i j, i < n → j < n → p i = true → p j = true → f i = f j → i = j) → cnt p n ≤ cnt q m
  | 0, m, q, _, _ => Nat.zero_le _
  | n + 1, m, q, h1, h2 => by
    show cnt p n + (if p n = true then 1 else 0) ≤ cnt q m
    by_cases hp : p n = true
    · rw [if_pos hp]
      obtain ⟨a1, a2⟩ := h1 n (by omega) hp
      have hq : cnt q m = cnt (mUp q (f n) false) m + 1 := cnt_set (p := mUp q (f n) false) (q := q) (i := f n) a1 (mUp_self _ _ _) a2 (fun j hj => (mUp_ne hj).symm)
      have ih := cnt_inj (f := f) (p := p) (n := n) (m := m) (q := mUp q (f n) false) (fun i hi hpi => by
        obtain ⟨b1, b2⟩ := h1 i (by omega) hpi
        refine ⟨b1, ?_⟩
        rw [mUp_ne (fun z => by
          have := h2 i n (by omega) (by omega) hpi hp z
          omega)]
        exact b2) (fun i j hi hj => h2 i j (by omega) (by omega))
      omega
    · rw [if_neg hp]
      exact cnt_inj (fun i hi => h1 i (by omega)) (fun i j hi hj => h2 i j (by omega) (by omega))
/-- as many least as least -/
theorem cnt_fix {A B : Nat → Nat} (hA : ∀ t, t < n → A t < n) (hA2 : ∀ t, t < n → A (A t) = A t) (hk : ∀ t w, t < n → w < n → (A t = A w ↔ B t = B w)) : cnt (fun t => decide (B t = t)) n ≤ cnt (fun t => decide (A t = t)) n := by
  refine cnt_inj (f := A) (fun i hi hp => ⟨hA i hi, decide_eq_true (hA2 i hi)⟩) (fun i j hi hj hpi hpj hij => ?_)
  have h1 := (hk i j hi hj).mp hij
  have hpi := of_decide_eq_true hpi
  have hpj := of_decide_eq_true hpj
  rw [hpi, hpj] at h1
  exact h1
def NI (g : Gr) (n : Nat) (S : NS) : Prop := (∀ v, v < n → S.1 v < n) ∧ (∀ v, S.1 (S.1 v) = S.1 v) ∧ (∀ v, ∃ d, Wk g v (S.1 v) d) ∧ cnt (fun t => decide (S.1 t = t)) n + S.2.2.2 = n
theorem ksp_NI {x : Nat} (hg : GrOk g n) (hx : x < gc g) (hu : gu g x = true) (hS : NI g n S) : NI g n (ksp g S x) ∧ (ksp g S x).1 (gf g x) = (ksp g S x).1 (gt g x) ∧ ∀ a b, S.1 a = S.1 b → (ksp g S x).1 a = (ksp g S x).1 b := by
  obtain ⟨i1, i2, i3, i4⟩ := hS
  obtain ⟨g1, g2, g3, -⟩ := hg x hx
  unfold ksp
  by_cases h : S.1 (gf g x) = S.1 (gt g x)
  · rw [if_pos h]
    exact ⟨⟨i1, i2, i3, i4⟩, h, fun a b hab => hab⟩
  · rw [if_neg h]
    refine ⟨⟨fun v hv => ?_, fun v => ?_, fun v => ?_, ?_⟩, ?_, fun a b hab => ?_⟩
    · show (if S.1 v = S.1 (gt g x) then S.1 (gf g x) else S.1 v) < n
      split
      · exact i1 _ g1
      · exact i1 v hv
    · show (if S.1 (if S.1 v = S.1 (gt g x) then S.1 (gf g x) else S.1 v) = S.1 (gt g x) then S.1 (gf g x) else S.1 (if S.1 v = S.1 (gt g x) then S.1 (gf g x) else S.1 v)) = if S.1 v = S.1 (gt g x) then S.1 (gf g x) else S.1 v
      by_cases hv : S.1 v = S.1 (gt g x)
      · rw [if_pos hv, i2, if_neg h]
      · rw [if_neg hv, i2, if_neg hv]
    · show ∃ d, Wk g v (if S.1 v = S.1 (gt g x) then S.1 (gf g x) else S.1 v) d
      obtain ⟨d, hd⟩ := i3 v
      by_cases hv : S.1 v = S.1 (gt g x)
      · rw [if_pos hv]
        obtain ⟨e, he⟩ := i3 (gt g x)
        obtain ⟨e2, he2⟩ := i3 (gf g x)
        rw [hv] at hd
        have h1 : Wk g (gt g x) (gf g x) (0 + gl g x) := Wk.s2 Wk.z hx hu
        exact ⟨_, (hd.tr he.sym).tr (h1.tr he2)⟩
      · rw [if_neg hv]
        exact ⟨d, hd⟩
    · have hb : S.1 (S.1 (gt g x)) = S.1 (gt g x) := i2 _
      have ha : S.1 (S.1 (gf g x)) = S.1 (gf g x) := i2 _
      have hc := cnt_set (p := fun t => decide ((if S.1 t = S.1 (gt g x) then S.1 (gf g x) else S.1 t) = t)) (q := fun t => decide (S.1 t = t)) (i := S.1 (gt g x)) (n := n) (i1 _ g2) (decide_eq_false (by
        rw [if_pos hb]
        exact h)) (decide_eq_true hb) (fun j hj => by
        by_cases hjb : S.1 j = S.1 (gt g x)
        · rw [if_pos hjb]
          have n1 : ¬ S.1 j = j := fun z => hj (by rw [← z, hjb])
          have n2 : ¬ S.1 (gf g x) = j := fun z => by
            rw [← z, ha] at hjb
            exact h hjb
          rw [decide_eq_false n1, decide_eq_false n2]
        · rw [if_neg hjb])
      show cnt (fun t => decide ((if S.1 t = S.1 (gt g x) then S.1 (gf g x) else S.1 t) = t)) n + (S.2.2.2 + 1) = n
      omega
    · show (if S.1 (gf g x) = S.1 (gt g x) then S.1 (gf g x) else S.1 (gf g x)) = if S.1 (gt g x) = S.1 (gt g x) then S.1 (gf g x) else S.1 (gt g x)
      rw [if_neg h, if_pos rfl]
    · show (if S.1 a = S.1 (gt g x) then S.1 (gf g x) else S.1 a) = if S.1 b = S.1 (gt g x) then S.1 (gf g x) else S.1 b
      rw [hab]
theorem fold_NI (hg : GrOk g n) : ∀ {l : List Nat} {S : NS}, (∀ x, x ∈ l → x < gc g ∧ gu g x = true) → NI g n S → NI g n (l.foldl (ksp g) S) ∧ (∀ x, x ∈ l → (l.foldl (ksp g) S).1 (gf g x) = (l.foldl (ksp g) S).1 (gt g x)) ∧ ∀ a b, S.1 a = S.1 b → (l.foldl (ksp g) S).1 a = (l.foldl (ksp g) S).1 b
  | [], S, _, hS => ⟨hS, fun x hx => absurd hx List.not_mem_nil, fun _ _ h => h⟩
  | x :: l, S, hl, hS => by
    obtain ⟨h1, h2⟩ := hl x List.mem_cons_self
    obtain ⟨a1, a2, a3⟩ := ksp_NI hg h1 h2 hS
    obtain ⟨b1, b2, b3⟩ := fold_NI hg (l := l) (S := ksp g S x) (fun y hy => hl y (List.mem_cons_of_mem _ hy)) a1
    rw [List.foldl_cons]
    refine ⟨b1, fun y hy => ?_, fun a b h => b3 a b (a3 a b h)⟩
    rcases List.mem_cons.mp hy with rfl | hy
    · exact b3 _ _ a2
    · exact b2 y hy
theorem dst_cn (hg : GrOk g n) {a b : Nat} (ha : a < n) (hb : b < n) : dst g a b ≠ -1 ↔ ∃ d, Wk g a b d := by
  constructor
  · intro h
    rcases dst_sp hg ha hb with ⟨h1, h2⟩ | ⟨h1, h2, h3⟩
    · exact absurd h1 h
    · exact ⟨_, h2⟩
  · rintro ⟨d, hd⟩ h
    rcases dst_sp hg ha hb with ⟨h1, h2⟩ | ⟨h1, h2, h3⟩
    · exact h2 d hd
    · omega
theorem partP_sp (hg : GrOk g n) {t : Nat} (ht : t < n) : partP g t ≤ t ∧ (∃ d, Wk g t (partP g t) d) ∧ ∀ k, k < partP g t → ¬ ∃ d, Wk g t k d := by
  unfold partP
  rcases fstN_sp (p := fun p => decide (dst g t p ≠ -1)) (m := t) (j := 0) with ⟨i, a, b, c, e, f⟩ | ⟨a, b⟩
  · rw [e]
    refine ⟨by omega, (dst_cn hg ht (by omega)).mp (of_decide_eq_true c), fun k hk hd => ?_⟩
    have h1 := f k (Nat.zero_le _) hk
    exact (of_decide_eq_false h1) ((dst_cn hg ht (by omega)).mpr hd)
  · rw [a, Nat.zero_add]
    refine ⟨Nat.le_refl _, ⟨0, Wk.z⟩, fun k hk hd => ?_⟩
    have h1 := b k (Nat.zero_le _) (by omega)
    exact (of_decide_eq_false h1) ((dst_cn hg ht (by omega)).mpr hd)
theorem partP_k (hg : GrOk g n) {t w : Nat} (ht : t < n) (hw : w < n) : partP g t = partP g w ↔ ∃ d, Wk g t w d := by
  obtain ⟨a1, ⟨da, a2⟩, a3⟩ := partP_sp hg ht
  obtain ⟨b1, ⟨db, b2⟩, b3⟩ := partP_sp hg hw
  constructor
  · intro h
    rw [h] at a2
    exact ⟨_, a2.tr b2.sym⟩
  · rintro ⟨d, hd⟩
    have h1 : ¬ partP g t < partP g w := fun z => b3 _ z ⟨_, hd.sym.tr a2⟩
    have h2 : ¬ partP g w < partP g t := fun z => a3 _ z ⟨_, hd.tr b2⟩
    omega
theorem cnt_parts (hg : GrOk g n) : ((cnt (fun t => decide (partP g t = t)) n : Nat) : Int) = (n : Int) - ((net g).2.2.2 : Nat) := by
  have hall : cnt (fun t => decide ((fun v : Nat => v) t = t)) n = n := by
    have h1 : ∀ m, cnt (fun t => decide ((fun v : Nat => v) t = t)) m = m := by
      intro m
      induction m with
      | zero => rfl
      | succ m ih =>
        show cnt (fun t => decide ((fun v : Nat => v) t = t)) m + (if decide (m = m) = true then 1 else 0) = m + 1
        rw [ih, if_pos (decide_eq_true rfl)]
    exact h1 n
  obtain ⟨⟨i1, i2, i3, i4⟩, hm, -⟩ := fold_NI hg (l := srt g (gc g)) (S := (fun t => t, fun _ => false, 0, 0)) (fun x hx => mem_srt.mp hx) ⟨fun v hv => hv, fun _ => rfl, fun v => ⟨0, Wk.z⟩, by
    show cnt (fun t => decide ((fun v : Nat => v) t = t)) n + 0 = n
    rw [hall]; rfl⟩
  have hnet : (srt g (gc g)).foldl (ksp g) (fun t => t, fun _ => false, 0, 0) = net g := rfl
  rw [hnet] at i1 i2 i3 i4 hm
  have hJ : ∀ {a v : Nat} {d : Int}, Wk g a v d → (net g).1 v = (net g).1 a := fun h => h (fun v _ => (net g).1 v = (net g).1 _) rfl (fun r x hr hu => by
    have := hm r (mem_srt.mpr ⟨hr, hu⟩)
    exact ⟨fun z => by rw [← this]; exact z, fun z => by rw [this]; exact z⟩)
  have hk : ∀ t w, t < n → w < n → ((net g).1 t = (net g).1 w ↔ partP g t = partP g w) := fun t w ht hw => by
    rw [partP_k hg ht hw]
    constructor
    · intro h
      obtain ⟨d1, h1⟩ := i3 t
      obtain ⟨d2, h2⟩ := i3 w
      rw [h] at h1
      exact ⟨_, h1.tr h2.sym⟩
    · rintro ⟨d, hd⟩
      exact (hJ hd).symm
  have l1 := cnt_fix (A := (net g).1) (B := partP g) i1 (fun t _ => i2 t) hk
  have l2 := cnt_fix (A := partP g) (B := (net g).1) (n := n) (fun t ht => by
    have := (partP_sp hg ht).1
    omega) (fun t ht => by
    obtain ⟨a1, a2, a3⟩ := partP_sp hg ht
    exact ((partP_k hg ht (by omega)).mpr a2).symm) (fun t w ht hw => (hk t w ht hw).symm)
  omega
end CNTP
