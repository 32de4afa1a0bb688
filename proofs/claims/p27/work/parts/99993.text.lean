/-! ===== THE TEXT OF THE LIST ===== -/
theorem sl {j k : Nat} (h : (sB.getD j []).length = k) : (sB.getD j []).length ≤ k := by omega
theorem sumT_len {z : Nat → Nat} : (sumT z).length ≤ 22 := by
  have d1 := dgL_len (n := z 4 % 4)
  have d2 := dgL_len (n := z 5)
  have d3 := dgL_len (n := z 8)
  have d4 := dgL_len (n := z 4 % 3)
  have d5 := dgL_len (n := z 6)
  have d6 := dgL_len (n := z 7)
  have d7 := dgL_len (n := z 4)
  have l42 : (sB.getD 42 []).length = 1 := rfl
  have l43 : (sB.getD 43 []).length = 9 := rfl
  have l44 : (sB.getD 44 []).length = 8 := rfl
  have l45 : (sB.getD 45 []).length = 1 := rfl
  have l46 : (sB.getD 46 []).length = 7 := rfl
  have l47 : (sB.getD 47 []).length = 6 := rfl
  have l48 : (sB.getD 48 []).length = 2 := rfl
  have l49 : (sB.getD 49 []).length = 3 := rfl
  have l50 : (sB.getD 50 []).length = 13 := rfl
  have l51 : (sB.getD 51 []).length = 1 := rfl
  have l52 : (sB.getD 52 []).length = 3 := rfl
  have l53 : (sB.getD 53 []).length = 2 := rfl
  have l54 : (sB.getD 54 []).length = 8 := rfl
  have l55 : (sB.getD 55 []).length = 3 := rfl
  unfold sumT
  repeat' split
  all_goals (simp only [List.length_append, List.length_nil]; omega)
theorem whenT_len {z : Nat → Nat} : (whenT z).length ≤ 57 := by
  have d1 := dgL_len (n := z 4 % 4)
  have d2 := dgL_len (n := z 5)
  have d3 := dgL_len (n := z 8)
  have d5 := dgL_len (n := z 6)
  have d6 := dgL_len (n := z 7)
  have d7 := dgL_len (n := z 4)
  have l48 : (sB.getD 48 []).length = 2 := rfl
  have l56 : (sB.getD 56 []).length = 2 := rfl
  have l57 : (sB.getD 57 []).length = 11 := rfl
  have l58 : (sB.getD 58 []).length = 10 := rfl
  have l59 : (sB.getD 59 []).length = 14 := rfl
  have l60 : (sB.getD 60 []).length = 10 := rfl
  have l61 : (sB.getD 61 []).length = 2 := rfl
  have l62 : (sB.getD 62 []).length = 13 := rfl
  have l63 : (sB.getD 63 []).length = 2 := rfl
  have l64 : (sB.getD 64 []).length = 14 := rfl
  have l65 : (sB.getD 65 []).length = 13 := rfl
  have l66 : (sB.getD 66 []).length = 2 := rfl
  have l67 : (sB.getD 67 []).length = 11 := rfl
  have l68 : (sB.getD 68 []).length = 3 := rfl
  have l69 : (sB.getD 69 []).length = 14 := rfl
  have l70 : (sB.getD 70 []).length = 11 := rfl
  have l71 : (sB.getD 71 []).length = 3 := rfl
  have l72 : (sB.getD 72 []).length = 17 := rfl
  have l73 : (sB.getD 73 []).length = 6 := rfl
  have l74 : (sB.getD 74 []).length = 2 := rfl
  have hr : (rdT z).length ≤ 4 := by unfold rdT; simp only [List.length_append, List.length_nil]; omega
  unfold whenT
  repeat' split
  all_goals (simp only [List.length_append, List.length_nil]; omega)
/-! the text of a line behind what was written before -/
def tvT (W : List Nat) (j : Nat) : List Nat := (W ++ sB.getD 75 [] ++ dgL j) ++ (if j % 3 = 0 then sB.getD 76 [] else sB.getD 77 [])
def roT9 (W : List Nat) (r f t m : Nat) : List Nat := ((((((((W ++ sB.getD 78 []) ++ dgL r) ++ sB.getD 79 []) ++ dgL f) ++ sB.getD 80 []) ++ dgL t) ++ sB.getD 81 []) ++ dgL m) ++ sB.getD 77 []
def ruT (W : List Nat) (k a b : Nat) : List Nat := ((((((W ++ sB.getD 82 []) ++ dgL k) ++ sB.getD 83 []) ++ dgL a) ++ sB.getD 84 []) ++ dgL b) ++ sB.getD 77 []
def hdT (z : Nat → Nat) : List Nat := if z 0 = 0 then ((([] ++ sB.getD 85 []) ++ dgL (z 1)) ++ sB.getD 86 []) ++ sumT z else if z 0 = 1 then ([] ++ sB.getD 87 []) ++ dgL (z 1) else ([] ++ sB.getD 88 []) ++ dgL (z 1)
def orT (W : List Nat) (z : Nat → Nat) : List Nat := ((W ++ hdT z) ++ whenT z) ++ sB.getD 89 []
set_option maxRecDepth 8000 in
theorem tav_flat {W : List Nat} {j : Nat} : tvT W j = W ++ flat (pwT (tavP j)) := by
  have e : sB.getD 75 [] ++ (dgL j ++ (if j % 3 = 0 then sB.getD 76 [] else sB.getD 77 [])) = flat (pwT (tavP j)) := by
    unfold tavP
    by_cases h : j % 3 = 0
    · rw [if_pos h, if_pos h, if_pos h]
      rfl
    · rw [if_neg h, if_neg h, if_neg h]
      rfl
  unfold tvT
  rw [← e]
  simp only [List.append_assoc]
set_option maxRecDepth 8000 in
theorem roa_flat {W : List Nat} {fr to mi : Nat → Nat} {r : Nat} : roT9 W r (fr r) (to r) (mi r) = W ++ flat (pwT (roaP fr to mi r)) := by
  have e : sB.getD 78 [] ++ (dgL r ++ (sB.getD 79 [] ++ (dgL (fr r) ++ (sB.getD 80 [] ++ (dgL (to r) ++ (sB.getD 81 [] ++ (dgL (mi r) ++ sB.getD 77 []))))))) = flat (pwT (roaP fr to mi r)) := rfl
  unfold roT9
  rw [← e]
  simp only [List.append_assoc]
set_option maxRecDepth 8000 in
theorem rum_flat {W : List Nat} {ba bo : Nat → Nat} {k : Nat} : ruT W k (ba k) (bo k) = W ++ flat (pwT (rumP ba bo k)) := by
  have e : sB.getD 82 [] ++ (dgL k ++ (sB.getD 83 [] ++ (dgL (ba k) ++ (sB.getD 84 [] ++ (dgL (bo k) ++ sB.getD 77 []))))) = flat (pwT (rumP ba bo k)) := rfl
  unfold ruT
  rw [← e]
  simp only [List.append_assoc]
set_option maxRecDepth 8000 in
theorem ord_flat {W : List Nat} {z : Nat → Nat} (h0 : z 0 ≤ 2) (h2 : z 2 ≤ 7) (h3 : z 3 ≤ 8) : orT W z = W ++ flat (pwT (ordP z)) := by
  have e : flat (pwT (hdP z)) = hdT z := by
    unfold hdT hdP
    rcases (by omega : z 0 = 0 ∨ z 0 = 1 ∨ z 0 = 2) with h | h | h
    · rw [if_pos h, if_pos h, pwT_app, flat_app, sum_flat h2]
      congr 1
    · rw [if_neg (by omega), if_pos h, if_neg (by omega), if_pos h]
      have e : (sB.getD 87 [] ++ dgL (z 1)) ++ [] = flat (pwT [([], (10, 0, 0), []), ([32], (42, 1, z 1), [])]) := by
        rw [List.append_assoc]
        rfl
      rw [List.append_nil] at e
      exact e.symm
    · rw [if_neg (by omega), if_neg (by omega), if_neg (by omega), if_neg (by omega)]
      have e : (sB.getD 88 [] ++ dgL (z 1)) ++ [] = flat (pwT [([], (11, 0, 0), []), ([32], (42, 0, z 1), [])]) := by
        rw [List.append_assoc]
        rfl
      rw [List.append_nil] at e
      exact e.symm
  unfold orT ordP
  rw [pwT_app, flat_app, pwT_app, flat_app, e, whn_flat h3]
  have e2 : flat (pwT [([], (30, 0, 0), [10])]) = sB.getD 89 [] := rfl
  rw [e2]
  simp only [List.append_assoc]
theorem tvT_len {W : List Nat} {j : Nat} : (tvT W j).length ≤ W.length + 13 := by
  have d1 := dgL_len (n := j)
  have l1 : (sB.getD 75 []).length = 8 := rfl
  have l2 : (sB.getD 76 []).length = 3 := rfl
  have l3 : (sB.getD 77 []).length = 1 := rfl
  unfold tvT
  split <;> simp only [List.length_append] <;> omega
theorem roT9_len {W : List Nat} {r f t m : Nat} : (roT9 W r f t m).length ≤ W.length + 34 := by
  have d1 := dgL_len (n := r)
  have d2 := dgL_len (n := f)
  have d3 := dgL_len (n := t)
  have d4 := dgL_len (n := m)
  have l1 : (sB.getD 78 []).length = 6 := rfl
  have l2 : (sB.getD 79 []).length = 7 := rfl
  have l3 : (sB.getD 80 []).length = 5 := rfl
  have l4 : (sB.getD 81 []).length = 7 := rfl
  have l5 : (sB.getD 77 []).length = 1 := rfl
  unfold roT9
  simp only [List.length_append]
  omega
theorem ruT_len {W : List Nat} {k a b : Nat} : (ruT W k a b).length ≤ W.length + 24 := by
  have d1 := dgL_len (n := k)
  have d2 := dgL_len (n := a)
  have d3 := dgL_len (n := b)
  have l1 : (sB.getD 82 []).length = 8 := rfl
  have l2 : (sB.getD 83 []).length = 5 := rfl
  have l3 : (sB.getD 84 []).length = 4 := rfl
  have l5 : (sB.getD 77 []).length = 1 := rfl
  unfold ruT
  simp only [List.length_append]
  omega
theorem hdT_len {z : Nat → Nat} : (hdT z).length ≤ 33 := by
  have d1 := dgL_len (n := z 1)
  have d2 := sumT_len (z := z)
  have l1 : (sB.getD 85 []).length = 6 := rfl
  have l2 : (sB.getD 86 []).length = 3 := rfl
  have l3 : (sB.getD 87 []).length = 6 := rfl
  have l4 : (sB.getD 88 []).length = 6 := rfl
  unfold hdT
  repeat' split
  all_goals (simp only [List.length_append, List.length_nil]; omega)
theorem orT_len {W : List Nat} {z : Nat → Nat} : (orT W z).length ≤ W.length + 92 := by
  have d1 := hdT_len (z := z)
  have d2 := whenT_len (z := z)
  have l1 : (sB.getD 89 []).length = 2 := rfl
  unfold orT
  simp only [List.length_append]
  omega
/-! good lines -/
theorem good_tav {j : Nat} {nx : Option Nat} (hj : j < 14) : good (pwT (tavP j)) nx := by
  unfold tavP
  by_cases h : j % 3 = 0
  · rw [if_pos h, if_pos h]
    exact ⟨rfl, rfl, rfl, rfl, rfl, rfl, (kw_nm 0 (by decide) _ hj).2, rfl, rfl, rfl, rfl, rfl, trivial⟩
  · rw [if_neg h, if_neg h]
    exact ⟨rfl, rfl, rfl, rfl, rfl, rfl, (kw_nm 0 (by decide) _ hj).2, rfl, rfl, rfl, rfl, st_sy (fun _ => rfl), trivial⟩
theorem good_roa {fr to mi : Nat → Nat} {r : Nat} {nx : Option Nat} (hr : r < 14) (hf : fr r < 14) (ht : to r < 14) (hm : mi r < 100) : good (pwT (roaP fr to mi r)) nx :=
  ⟨rfl, rfl, rfl, rfl, rfl, rfl, (kw_nm 1 (by decide) _ hr).2, rfl, rfl, rfl, rfl, rfl, rfl, rfl, (kw_nm 0 (by decide) _ hf).2, rfl, rfl, rfl, rfl, rfl, rfl, rfl, (kw_nm 0 (by decide) _ ht).2, rfl, rfl, rfl, rfl, rfl, rfl, rfl, (kw_nb _ hm).2.1, st_nb (c := 59) hm rfl, rfl, rfl, rfl, st_sy (fun _ => rfl), trivial⟩
theorem good_rum {ba bo : Nat → Nat} {k : Nat} {nx : Option Nat} (hk : k < 14) (hf : ba k < 14) (hm : bo k < 100) : good (pwT (rumP ba bo k)) nx :=
  ⟨rfl, rfl, rfl, rfl, rfl, rfl, (kw_nm 2 (by decide) _ hk).2, rfl, rfl, rfl, rfl, rfl, rfl, rfl, (kw_nm 0 (by decide) _ hf).2, rfl, rfl, rfl, rfl, rfl, rfl, rfl, (kw_nb _ hm).2.1, st_nb (c := 59) hm rfl, rfl, rfl, rfl, st_sy (fun _ => rfl), trivial⟩
theorem good_ord {z : Nat → Nat} {nx : Option Nat} (hz : ZnOk z) : good (pwT (ordP z)) nx := by
  obtain ⟨z0, z1, z2, z3, -⟩ := id hz
  have gt := tst_good hz
  have w : good (pwT (whnP z ++ [([], (30, 0, 0), [10])])) nx := by
    rw [pwT_app, good_app]
    refine ⟨⟨rfl, rfl, rfl, ?_, gt⟩, rfl, rfl, rfl, rfl, trivial⟩
    show stopO _ (hdO (pwT (tstP z)) _) = true
    rw [tst_hd z3]
    rfl
  have hw : hdO (pwT (whnP z ++ [([], (30, 0, 0), [10])])) nx = some 32 := rfl
  unfold ordP
  rw [pwT_app, good_app, hw]
  refine ⟨?_, w⟩
  unfold hdP
  rcases (by omega : z 0 = 0 ∨ z 0 = 1 ∨ z 0 = 2) with h | h | h
  · rw [if_pos h, pwT_app, good_app, sum_hd z2]
    exact ⟨⟨rfl, rfl, rfl, rfl, rfl, rfl, (kw_nm 1 (by decide) _ z1).2, rfl, rfl, rfl, rfl, rfl, trivial⟩, sum_good hz⟩
  · rw [if_neg (by omega), if_pos h]
    exact ⟨rfl, rfl, rfl, rfl, rfl, rfl, (kw_nm 1 (by decide) _ z1).2, rfl, trivial⟩
  · rw [if_neg (by omega), if_neg (by omega)]
    exact ⟨rfl, rfl, rfl, rfl, rfl, rfl, (kw_nm 0 (by decide) _ z1).2, rfl, trivial⟩
theorem good_cat {f : Nat → List Pk} : ∀ {k : Nat}, (∀ j nx, j < k → good (pwT (f j)) nx) → ∀ nx, good (pwT (catP f k)) nx
  | 0, _, _ => trivial
  | k + 1, h, nx => by
    show good (pwT (catP f k ++ f k)) nx
    rw [pwT_app, good_app]
    exact ⟨good_cat (fun j nx hj => h j nx (by omega)) _, h k nx (Nat.lt_succ_self k)⟩
theorem tk_cat {f : Nat → List Pk} : ∀ {k : Nat}, (∀ j, j < k → tkOks (f j)) → tkOks (catP f k)
  | 0, _ => trivial
  | k + 1, h => tkOks.app (tk_cat (fun j hj => h j (by omega))) (h k (Nat.lt_succ_self k))
theorem ln_cat {f : Nat → List Pk} {m : Nat} : ∀ {k : Nat}, (∀ j, j < k → (f j).length ≤ m) → (catP f k).length ≤ m * k
  | 0, _ => Nat.le_refl _
  | k + 1, h => by
    have h1 := ln_cat (f := f) (m := m) (k := k) (fun j hj => h j (by omega))
    have h2 := h k (Nat.lt_succ_self k)
    rw [Nat.mul_succ, show (catP f (k + 1)).length = (catP f k).length + (f k).length from List.length_append]
    exact Nat.add_le_add h1 h2
theorem ord_tk {z : Nat → Nat} (hz : ZnOk z) : tkOks (ordP z) ∧ (ordP z).length ≤ 34 := by
  obtain ⟨z0, z1, z2, z3, -⟩ := id hz
  have h1 := sum_tk hz
  have h2 := tst_tk hz
  have l1 := sum_len (z := z)
  have l2 := tst_len (z := z)
  have w : tkOks (whnP z ++ [([], (30, 0, 0), [10])]) := tkOks.app ⟨Or.inr (Or.inr (by decide)), h2⟩ ⟨Or.inr (Or.inr (by decide)), trivial⟩
  have wl : (whnP z ++ [([], (30, 0, 0), [10])]).length = (tstP z).length + 1 + 1 := by rw [List.length_append]; rfl
  have e : tkOks (hdP z) ∧ (hdP z).length ≤ 12 := by
    unfold hdP
    rcases (by omega : z 0 = 0 ∨ z 0 = 1 ∨ z 0 = 2) with h | h | h
    · rw [if_pos h]
      refine ⟨tkOks.app ⟨Or.inr (Or.inr (by decide)), Or.inl ⟨rfl, (by decide : (1 : Nat) < 3), z1⟩, Or.inr (Or.inr (by decide)), trivial⟩ h1, ?_⟩
      rw [List.length_append]
      show 3 + _ ≤ 12
      omega
    · rw [if_neg (by omega), if_pos h]
      exact ⟨⟨Or.inr (Or.inr (by decide)), Or.inl ⟨rfl, (by decide : (1 : Nat) < 3), z1⟩, trivial⟩, by show 2 ≤ 12; omega⟩
    · rw [if_neg (by omega), if_neg (by omega)]
      exact ⟨⟨Or.inr (Or.inr (by decide)), Or.inl ⟨rfl, (by decide : (0 : Nat) < 3), z1⟩, trivial⟩, by show 2 ≤ 12; omega⟩
  refine ⟨tkOks.app e.1 w, ?_⟩
  unfold ordP
  rw [List.length_append, wl]
  omega
section TEXT
variable {n c u q : Nat} {fr to mi ba bo : Nat → Nat} {zz : Nat → Nat → Nat}
theorem all_good (hD : DrOk n c u q fr to mi ba bo zz) : good (pwT (allP n c u q fr to mi ba bo zz)) none ∧ tkOks (allP n c u q fr to mi ba bo zz) ∧ (allP n c u q fr to mi ba bo zz).length < 400 := by
  obtain ⟨d1, d2, d3, d4, d5, d6, d7⟩ := hD
  have hz : ∀ j, j < q → ZnOk (zz j) := fun j hj => (d7 j hj).zn (by omega) (by omega) (by omega)
  refine ⟨?_, ?_, ?_⟩
  · unfold allP
    rw [pwT_app, good_app, pwT_app, good_app, pwT_app, good_app]
    refine ⟨good_cat (fun j nx hj => good_tav (by omega)) _, good_cat (fun j nx hj => ?_) _, good_cat (fun j nx hj => ?_) _, good_cat (fun j nx hj => good_ord (hz j hj)) _⟩
    · obtain ⟨b1, b2, b3, b4, b5⟩ := d5 j hj
      exact good_roa (by omega) (by omega) (by omega) (by omega)
    · obtain ⟨b1, b2⟩ := d6 j hj
      exact good_rum (by omega) (by omega) (by omega)
  · refine tkOks.app (tk_cat (fun j hj => ?_)) (tkOks.app (tk_cat (fun j hj => ?_)) (tkOks.app (tk_cat (fun j hj => ?_)) (tk_cat (fun j hj => (ord_tk (hz j hj)).1))))
    · exact ⟨Or.inr (Or.inr (by decide)), Or.inl ⟨rfl, (by decide : (0 : Nat) < 3), by show j < 14; omega⟩, Or.inr (Or.inr (by decide : (30 : Nat) < 41)), trivial⟩
    · obtain ⟨b1, b2, b3, b4, b5⟩ := d5 j hj
      exact ⟨Or.inr (Or.inr (by decide)), Or.inl ⟨rfl, (by decide : (1 : Nat) < 3), by show j < 14; omega⟩, Or.inr (Or.inr (by decide)), Or.inl ⟨rfl, (by decide : (0 : Nat) < 3), by show fr j < 14; omega⟩, Or.inr (Or.inr (by decide)), Or.inl ⟨rfl, (by decide : (0 : Nat) < 3), by show to j < 14; omega⟩, Or.inr (Or.inr (by decide)), Or.inr (Or.inl ⟨rfl, by show mi j < 100; omega⟩), Or.inr (Or.inr (by decide)), trivial⟩
    · obtain ⟨b1, b2⟩ := d6 j hj
      exact ⟨Or.inr (Or.inr (by decide)), Or.inl ⟨rfl, (by decide : (2 : Nat) < 3), by show j < 14; omega⟩, Or.inr (Or.inr (by decide)), Or.inl ⟨rfl, (by decide : (0 : Nat) < 3), by show ba j < 14; omega⟩, Or.inr (Or.inr (by decide)), Or.inr (Or.inl ⟨rfl, by show bo j < 100; omega⟩), Or.inr (Or.inr (by decide)), trivial⟩
  · have h1 := ln_cat (f := tavP) (m := 3) (k := n) (fun j _ => Nat.le_refl _)
    have h2 := ln_cat (f := roaP fr to mi) (m := 9) (k := c) (fun j _ => Nat.le_refl _)
    have h3 := ln_cat (f := rumP ba bo) (m := 7) (k := u) (fun j _ => Nat.le_refl _)
    have h4 := ln_cat (f := ordF zz) (m := 34) (k := q) (fun j hj => (ord_tk (hz j hj)).2)
    unfold allP
    rw [List.length_append, List.length_append, List.length_append]
    omega
end TEXT
