/-! ===== PURE: rows of whole numbers that stand for rows of ways ===== -/
def enc (k : Int) (w : Row) (v : Nat) : Int := (w v).getD k
theorem RI.bd {g : Gr} {n s v : Nat} {w : Row} {x : Int} (hw : RI g n s w) (hn : n ≤ 10) (h : w v = some x) : 0 ≤ x ∧ x ≤ 324 := by
  obtain ⟨-, h2, h3, -⟩ := hw.2 v x h
  have := cnt_le (fun v => (w v).isSome) n
  omega
theorem enc_upd {k : Int} {w : Row} {b v : Nat} {x : Int} : enc k (mUp w b (some x)) v = mUp (enc k w) b x v := by
  unfold enc mUp
  split <;> rfl
/-- what the class does with a road -/
theorem rl2_enc {g : Gr} {n s r : Nat} {w : Row} (hg : GrOk g n) (hw : RI g n s w) (hn : n ≤ 10) (hr : r < gc g) (hu : gu g r = true) :
    (enc 1000 w (gf g r) + gl g r < enc 1000 w (gt g r) ∧ rl2 g w r = mUp w (gt g r) (some (enc 1000 w (gf g r) + gl g r))) ∨
    (¬ enc 1000 w (gf g r) + gl g r < enc 1000 w (gt g r) ∧ enc 1000 w (gt g r) + gl g r < enc 1000 w (gf g r) ∧ rl2 g w r = mUp w (gf g r) (some (enc 1000 w (gt g r) + gl g r))) ∨
    (¬ enc 1000 w (gf g r) + gl g r < enc 1000 w (gt g r) ∧ ¬ enc 1000 w (gt g r) + gl g r < enc 1000 w (gf g r) ∧ rl2 g w r = w) := by
  obtain ⟨h1, h2, h3, h4, h5⟩ := hg r hr
  unfold rl2
  rw [if_pos hu]
  generalize gf g r = a at *
  generalize gt g r = b at *
  generalize gl g r = l at *
  unfold enc
  rcases rlx_cases w a b l with ⟨e1, e2⟩ | ⟨x, e1, e2, e3⟩
  · rw [e1]
    have hA : ¬ ((w a).getD 1000 + l < (w b).getD 1000) := by
      cases hwa : w a with
      | none =>
        cases hwb : w b with
        | none => simp; omega
        | some y => have := hw.bd hn hwb; simp; omega
      | some x =>
        obtain ⟨y, e3, e4⟩ := e2 x hwa
        rw [e3]
        simp
        omega
    rcases rlx_cases w b a l with ⟨f1, f2⟩ | ⟨y, f1, f2, f3⟩
    · refine Or.inr (Or.inr ⟨hA, ?_, f1⟩)
      cases hwb : w b with
      | none =>
        cases hwa : w a with
        | none => simp; omega
        | some y => have := hw.bd hn hwa; simp; omega
      | some x =>
        obtain ⟨y, e3, e4⟩ := f2 x hwb
        rw [e3]
        simp
        omega
    · refine Or.inr (Or.inl ⟨hA, ?_, ?_⟩)
      · rw [f1]
        have := hw.bd hn f1
        cases hwa : w a with
        | none => simp; omega
        | some x =>
          have := f3 x hwa
          simp
          omega
      · rw [f2, f1]
        rfl
  · refine Or.inl ⟨?_, ?_⟩
    · rw [e1]
      have := hw.bd hn e1
      cases hwb : w b with
      | none => simp; omega
      | some y =>
        have := e3 y hwb
        simp
        omega
    · rw [e2, e1]
      show rlx (mUp w b (some (x + l))) b a l = mUp w b (some (x + l))
      unfold rlx
      rw [mUp_self, mUp_ne h3, e1]
      dsimp only
      rw [if_pos (by omega)]
/-- a way that isn't there is 1000 miles long -/
def un (x : Int) : Int := if x = -1 then 1000 else x
theorem un_enc {g : Gr} {n s v : Nat} {w : Row} (hw : RI g n s w) (hf : ∀ v, v < n → Fin1 g s w v) (hv : v < n) : enc 1000 w v = un (dst g s v) := by
  rw [dst_eq (fin_D hw hf hv)]
  unfold enc un
  cases hx : w v with
  | none => rfl
  | some x =>
    have := (hw.2 v x hx).2.1
    simp
    omega
theorem dst_bd {g : Gr} {n s v : Nat} {w : Row} (hw : RI g n s w) (hf : ∀ v, v < n → Fin1 g s w v) (hn : n ≤ 10) (hv : v < n) : -1 ≤ dst g s v ∧ dst g s v ≤ 324 := by
  rw [dst_eq (fin_D hw hf hv)]
  cases hx : w v with
  | none => decide
  | some x =>
    have := hw.bd hn hx
    simp
    omega
/-- there is always a row that is done -/
theorem fin_ex {g : Gr} {n s : Nat} (hg : GrOk g n) (hs : s < n) : ∃ w, RI g n s w ∧ ∀ v, v < n → Fin1 g s w v := by
  have key : ∀ k, k < n → ∃ w, RI g n s w ∧ k + 1 ≤ nfin g s n w := by
    intro k
    induction k with
    | zero => exact fun _ => ⟨rw0 s, RI.z hs, nfin_z hs (if_pos rfl) hg⟩
    | succ k ih =>
      intro hk
      obtain ⟨w, h1, h2⟩ := ih (by omega)
      exact ⟨rnd g w (gc g), rnd_RI hg h1 _ (Nat.le_refl _), nfin_rnd hg hs h1 h2 (by omega)⟩
  obtain ⟨w, h1, h2⟩ := key (n - 1) (by omega)
  exact ⟨w, h1, fin_all (by omega)⟩
theorem dst_rng {g : Gr} {n s v : Nat} (hg : GrOk g n) (hn : n ≤ 10) (hs : s < n) (hv : v < n) : -1 ≤ dst g s v ∧ dst g s v ≤ 324 := by
  obtain ⟨w, h1, h2⟩ := fin_ex hg hs
  exact dst_bd h1 h2 hn hv
theorem dst_sp {g : Gr} {n s v : Nat} (hg : GrOk g n) (hs : s < n) (hv : v < n) : IsD g s v (dst g s v) := by
  obtain ⟨w, h1, h2⟩ := fin_ex hg hs
  have := fin_D h1 h2 hv
  rw [dst_eq this]
  exact this
theorem dst_sy {g : Gr} {n s v : Nat} (hg : GrOk g n) (hs : s < n) (hv : v < n) : dst g s v = dst g v s := (dst_eq (dst_sp hg hs hv).sy).symm
/-! the net -/
def ins (le : Nat → Int) (r : Nat) : List Nat → List Nat
  | [] => [r]
  | x :: t => if le r < le x then r :: x :: t else x :: ins le r t
def srt (g : Gr) : Nat → List Nat
  | 0 => []
  | k + 1 => if gu g k = true then ins (gl g) k (srt g k) else srt g k
abbrev NS : Type := (Nat → Nat) × (Nat → Bool) × Int × Nat
def ksp (g : Gr) (S : NS) (r : Nat) : NS := if S.1 (gf g r) = S.1 (gt g r) then S else (fun t => if S.1 t = S.1 (gt g r) then S.1 (gf g r) else S.1 t, mUp S.2.1 r true, S.2.2.1 + gl g r, S.2.2.2 + 1)
def net (g : Gr) : NS := (srt g (gc g)).foldl (ksp g) (fun t => t, fun _ => false, 0, 0)
theorem ins_split {le : Nat → Int} {r : Nat} : ∀ {a d : List Nat}, (∀ x, x ∈ a → le x ≤ le r) → (∀ x, d.head? = some x → le r < le x) → ins le r (a ++ d) = a ++ r :: d
  | [], [], _, _ => rfl
  | [], x :: d, _, h => by
    show (if le r < le x then r :: x :: d else x :: ins le r d) = r :: x :: d
    rw [if_pos (h x rfl)]
  | y :: a, d, h1, h2 => by
    show (if le r < le y then r :: y :: (a ++ d) else y :: ins le r (a ++ d)) = y :: (a ++ r :: d)
    have := h1 y List.mem_cons_self
    rw [if_neg (by omega), ins_split (fun x hx => h1 x (List.mem_cons_of_mem _ hx)) h2]
theorem mem_ins {le : Nat → Int} {r x : Nat} : ∀ {l : List Nat}, x ∈ ins le r l ↔ x = r ∨ x ∈ l
  | [] => by simp [ins]
  | y :: l => by
    unfold ins
    split
    · simp
    · simp only [List.mem_cons, mem_ins (l := l)]
      constructor
      · rintro (h | h | h)
        · exact Or.inr (Or.inl h)
        · exact Or.inl h
        · exact Or.inr (Or.inr h)
      · rintro (h | h | h)
        · exact Or.inr (Or.inl h)
        · exact Or.inl h
        · exact Or.inr (Or.inr h)
theorem len_ins {le : Nat → Int} {r : Nat} : ∀ {l : List Nat}, (ins le r l).length = l.length + 1
  | [] => rfl
  | y :: l => by
    unfold ins
    split
    · rfl
    · simp [len_ins (l := l)]
abbrev Sd (le : Nat → Int) (l : List Nat) : Prop := l.Pairwise (fun x y => le x ≤ le y)
theorem sd_ins {le : Nat → Int} {r : Nat} : ∀ {l : List Nat}, Sd le l → Sd le (ins le r l)
  | [], _ => by simp [ins, Sd]
  | y :: l, h => by
    obtain ⟨h1, h2⟩ := List.pairwise_cons.mp h
    unfold ins
    split
    · rename_i hlt
      refine List.pairwise_cons.mpr ⟨fun x hx => ?_, h⟩
      rcases List.mem_cons.mp hx with rfl | hx
      · omega
      · have := h1 x hx
        omega
    · rename_i hlt
      refine List.pairwise_cons.mpr ⟨fun x hx => ?_, sd_ins h2⟩
      rcases mem_ins.mp hx with rfl | hx
      · omega
      · exact h1 x hx
theorem mem_srt {g : Gr} {x : Nat} : ∀ {k : Nat}, x ∈ srt g k ↔ x < k ∧ gu g x = true
  | 0 => by simp [srt]
  | k + 1 => by
    unfold srt
    split
    · rename_i hu
      rw [mem_ins, mem_srt (k := k)]
      constructor
      · rintro (rfl | h)
        · exact ⟨by omega, hu⟩
        · exact ⟨by omega, h.2⟩
      · intro h
        by_cases hx : x = k
        · exact Or.inl hx
        · exact Or.inr ⟨by omega, h.2⟩
    · rename_i hu
      rw [mem_srt (k := k)]
      constructor
      · intro h
        exact ⟨by omega, h.2⟩
      · intro h
        refine ⟨?_, h.2⟩
        by_cases hx : x = k
        · subst hx
          exact absurd h.2 hu
        · omega
theorem sd_srt {g : Gr} : ∀ {k : Nat}, Sd (gl g) (srt g k)
  | 0 => List.Pairwise.nil
  | k + 1 => by
    unfold srt
    split
    · exact sd_ins sd_srt
    · exact sd_srt
theorem len_srt {g : Gr} : ∀ {k : Nat}, (srt g k).length ≤ k
  | 0 => Nat.le_refl _
  | k + 1 => by
    have := len_srt (g := g) (k := k)
    unfold srt
    split
    · rw [len_ins]; omega
    · omega
/-- a row's first places hold a list -/
def ArL (f : Nat → Int) (l : List Nat) : Prop := ∀ (i x : Nat), l[i]? = some x → f i = (x : Int)
theorem ksp_bd {g : Gr} {n : Nat} (hg : GrOk g n) : ∀ {l : List Nat} {S : NS}, (∀ x, x ∈ l → x < gc g) → (∀ v, v < n → S.1 v < n) → 0 ≤ S.2.2.1 → (∀ v, v < n → (l.foldl (ksp g) S).1 v < n) ∧ 0 ≤ (l.foldl (ksp g) S).2.2.1 ∧ (l.foldl (ksp g) S).2.2.1 ≤ S.2.2.1 + 36 * (l.length : Int) ∧ (l.foldl (ksp g) S).2.2.2 ≤ S.2.2.2 + l.length
  | [], S, _, h1, h2 => ⟨h1, h2, by simp, by simp⟩
  | x :: l, S, hl, h1, h2 => by
    obtain ⟨k1, k2, k3, k4, k5⟩ := hg x (hl x List.mem_cons_self)
    have hS : (∀ v, v < n → (ksp g S x).1 v < n) ∧ 0 ≤ (ksp g S x).2.2.1 ∧ (ksp g S x).2.2.1 ≤ S.2.2.1 + 36 ∧ (ksp g S x).2.2.2 ≤ S.2.2.2 + 1 := by
      unfold ksp
      split
      · exact ⟨h1, h2, by omega, by omega⟩
      · refine ⟨fun v hv => ?_, ?_, ?_, Nat.le_refl _⟩
        · show (if S.1 v = S.1 (gt g x) then S.1 (gf g x) else S.1 v) < n
          split
          · exact h1 _ k1
          · exact h1 v hv
        · show 0 ≤ S.2.2.1 + gl g x
          omega
        · show S.2.2.1 + gl g x ≤ S.2.2.1 + 36
          omega
    have := ksp_bd hg (l := l) (S := ksp g S x) (fun y hy => hl y (List.mem_cons_of_mem _ hy)) hS.1 hS.2.1
    obtain ⟨i1, i2, i3, i4⟩ := this
    rw [List.foldl_cons, List.length_cons]
    refine ⟨i1, i2, ?_, ?_⟩
    · rw [Int.natCast_add, Int.mul_add]
      have := hS.2.2.1
      omega
    · have := hS.2.2.2
      omega
