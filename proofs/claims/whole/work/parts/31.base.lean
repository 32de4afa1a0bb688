/-! ===== small rules for running ===== -/
theorem mC_eq {x y : Int} {a b : Option MS} : mCnd .eq x y a b = if x = y then a else b := rfl
theorem mC_ne {x y : Int} {a b : Option MS} : mCnd .ne x y a b = if x = y then b else a := rfl
theorem mC_lt {x y : Int} {a b : Option MS} : mCnd .lt x y a b = if x < y then a else b := rfl
theorem mC_ge {x y : Int} {a b : Option MS} : mCnd .ge x y a b = if y ≤ x then a else b := rfl
theorem mC_gt {x y : Int} {a b : Option MS} : mCnd .gt x y a b = if y < x then a else b := rfl
theorem mC_le {x y : Int} {a b : Option MS} : mCnd .le x y a b = if x ≤ y then a else b := rfl
theorem h_fst {α β : Type} (a : α) (b : β) : (a, b).1 = a := rfl
theorem h_snd {α β : Type} (a : α) (b : β) : (a, b).2 = b := rfl
theorem lt_drop0 {α : Type} {l : List α} : l.drop 0 = l := rfl
theorem if_posD {c : Prop} [Decidable c] {α : Sort _} {a b : α} (h : c) : (if c then a else b) = a := if_pos h
theorem if_negD {c : Prop} [Decidable c] {α : Sort _} {a b : α} (h : ¬ c) : (if c then a else b) = b := if_neg h
theorem w32_id {x : Int} (h1 : -2147483648 ≤ x) (h2 : x < 2147483648) : w32 x = x := by
  unfold w32
  rw [Int.bmod_def]
  split <;> omega
