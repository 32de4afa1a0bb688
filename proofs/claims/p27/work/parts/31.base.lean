/-! ===== small rules for running ===== -/
theorem mC_eq {x y : Int} {a b : Option MS} : mCnd .eq x y a b = if x = y then a else b := rfl
theorem mC_ne {x y : Int} {a b : Option MS} : mCnd .ne x y a b = if x = y then b else a := rfl
theorem mC_lt {x y : Int} {a b : Option MS} : mCnd .lt x y a b = if x < y then a else b := rfl
theorem mC_ge {x y : Int} {a b : Option MS} : mCnd .ge x y a b = if y ≤ x then a else b := rfl
theorem mC_gt {x y : Int} {a b : Option MS} : mCnd .gt x y a b = if y < x then a else b := rfl
theorem mC_le {x y : Int} {a b : Option MS} : mCnd .le x y a b = if x ≤ y then a else b := rfl
theorem h_fst {α β : Type} (a : α) (b : β) : (a, b).1 = a := rfl
theorem h_snd {α β : Type} (a : α) (b : β) : (a, b).2 = b := rfl
theorem lt_drop0 {α : Type} {l : List α} : l.drop 0 = l := rfl
theorem if_posD {c : Prop} [Decidable c] {α : Sort _} {a b : α} (h : c) : (if c then a else b) = a := if_pos h
theorem if_negD {c : Prop} [Decidable c] {α : Sort _} {a b : α} (h : ¬ c) : (if c then a else b) = b := if_neg h
theorem w32_id {x : Int} (h1 : -2147483648 ≤ x) (h2 : x < 2147483648) : w32 x = x := by
  unfold w32
  rw [Int.bmod_def]
  split <;> omega
theorem WCo_in {G : MG} {d : Nat} {B : Nat → List MI} {ex : List Nat} {is : List MI} {ls st : List MV} {Q : (Option MV ⊕ Nat) → MH → Prop} {v : Option MV} {h : MH} : WCo G d B ex is ls st Q (.inl v) h = Wp G d B is ls (v.toList ++ st) h Q := rfl
theorem Ev_det {G : MG} {d d' m : Nat} {as : List MV} {h : MH} {o o' : (Option MV ⊕ Nat) × MH} (h1 : Ev G d m as h o) (h2 : Ev G d' m as h o') : o = o' := by
  obtain ⟨n1, h1⟩ := h1
  obtain ⟨n2, h2⟩ := h2
  have e1 := mRun_up (Nat.le_max_left n1 n2) (Nat.le_max_left d d') h1
  have e2 := mRun_up (Nat.le_max_right n1 n2) (Nat.le_max_right d d') h2
  exact Option.some.inj (e1.symm.trans e2)
theorem Sp_ev {G : MG} {d m : Nat} {as : List MV} {h h0 : MH} {r0 : Option MV ⊕ Nat} (hs : Sp G d m as h (fun r h2 => r = r0 ∧ h2 = h0)) : Ev G d m as h (r0, h0) := by
  obtain ⟨r, h2, h3, rfl, rfl⟩ := hs
  exact h3
/-- a call whose end is known -/
theorem WCl_ev {G : MG} {d d0 : Nat} {B : Nat → List MI} {ex : List Nat} {is : List MI} {ls : List MV} {m : Nat} {as st : List MV} {h h0 : MH} {r0 : Option MV ⊕ Nat} {Q : (Option MV ⊕ Nat) → MH → Prop} (hE : Ev G d0 m as h (r0, h0)) (hd : d0 < d) : WCl G d B ex is ls m as st h Q = WCo G d B ex is ls st Q r0 h0 := by
  apply propext
  constructor
  · rintro ⟨d', hd', r, h2, h3, h4⟩
    cases Ev_det h3 hE
    exact h4
  · intro hw
    exact ⟨d0, hd, r0, h0, hE, hw⟩
theorem WCl_sp {G : MG} {d d0 : Nat} {B : Nat → List MI} {ex : List Nat} {is : List MI} {ls : List MV} {m : Nat} {as st : List MV} {h h0 : MH} {r0 : Option MV ⊕ Nat} {Q : (Option MV ⊕ Nat) → MH → Prop} (hE : Sp G d0 m as h (fun r h2 => r = r0 ∧ h2 = h0)) (hd : d0 < d) : WCl G d B ex is ls m as st h Q = WCo G d B ex is ls st Q r0 h0 := WCl_ev (Sp_ev hE) hd
/-- sums -/
def sumI (f : Nat → Int) : Nat → Int
  | 0 => 0
  | k + 1 => sumI f k + f k
theorem sumI_s {f : Nat → Int} {k : Nat} : sumI f (k + 1) = sumI f k + f k := rfl
theorem sumI_bd {f : Nat → Int} {a b : Int} : ∀ {k : Nat}, (∀ i, i < k → a ≤ f i ∧ f i ≤ b) → a * (k : Int) ≤ sumI f k ∧ sumI f k ≤ b * (k : Int)
  | 0, _ => by simp [sumI]
  | k + 1, h => by
    have h1 := sumI_bd (k := k) (fun i hi => h i (by omega))
    have h2 := h k (by omega)
    rw [sumI_s]
    have e1 : a * ((k + 1 : Nat) : Int) = a * (k : Int) + a := by rw [Int.natCast_add, Int.mul_add]; simp
    have e2 : b * ((k + 1 : Nat) : Int) = b * (k : Int) + b := by rw [Int.natCast_add, Int.mul_add]; simp
    omega
theorem sumI_congr {f g : Nat → Int} : ∀ {k : Nat}, (∀ i, i < k → f i = g i) → sumI f k = sumI g k
  | 0, _ => rfl
  | k + 1, h => by
    rw [sumI_s, sumI_s, sumI_congr (k := k) (fun i hi => h i (by omega)), h k (by omega)]
/-- nothing outside these cells has changed -/
def Fm (b N : Nat) (h h2 : MH) : Prop := h2.2 = h.2 ∧ ∀ a, (a < b ∨ b + N ≤ a) → h2.1 a = h.1 a
theorem Fm.rf {b N : Nat} {h : MH} : Fm b N h h := ⟨rfl, fun _ _ => rfl⟩
theorem Fm.tr {b N : Nat} {h h1 h2 : MH} (a : Fm b N h h1) (c : Fm b N h1 h2) : Fm b N h h2 := ⟨c.1.trans a.1, fun x hx => (c.2 x hx).trans (a.2 x hx)⟩
theorem Fm.st {b N k : Nat} {h h1 : MH} {c : MC} (a : Fm b N h h1) (hk : k < N) : Fm b N h (mUp h1.1 (b + k) c, h1.2) := ⟨a.1, fun x hx => by
  show mUp h1.1 (b + k) c x = _
  rw [mUp_ne (by omega)]
  exact a.2 x hx⟩
theorem Fm.st0 {b N : Nat} {h h1 : MH} {c : MC} (a : Fm b N h h1) (hk : 0 < N) : Fm b N h (mUp h1.1 b c, h1.2) := ⟨a.1, fun x hx => by
  show mUp h1.1 b c x = _
  rw [mUp_ne (by omega)]
  exact a.2 x hx⟩
theorem mUp_mUp {α : Type} {f : Nat → α} {k : Nat} {v w : α} : mUp (mUp f k v) k w = mUp f k w := by
  funext j
  unfold mUp
  split <;> rfl
theorem mUp_same {α : Type} {f : Nat → α} {k : Nat} : mUp f k (f k) = f := by
  funext j
  unfold mUp
  split
  · rename_i h
    rw [h]
  · rfl
theorem mUp_comm0 {α : Type} {f : Nat → α} {b k : Nat} {v w : α} : mUp (mUp f (b + (k + 1)) v) b w = mUp (mUp f b w) (b + (k + 1)) v := by
  funext j
  unfold mUp
  split
  · split
    · omega
    · rfl
  · rfl
theorem GG1 {L : Nat} {xs : Nat → Int} {fm : Bool} : (GG L xs fm).1 = METH := rfl
theorem GG2 {L : Nat} {xs : Nat → Int} {fm : Bool} : (GG L xs fm).2.1 = SFd fm := rfl
theorem GG3 {L : Nat} {xs : Nat → Int} {fm : Bool} : (GG L xs fm).2.2.1 = SAr L xs := rfl
theorem GG4 {L : Nat} {xs : Nat → Int} {fm : Bool} : (GG L xs fm).2.2.2 = CF := rfl
