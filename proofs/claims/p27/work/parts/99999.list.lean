/-! ===== THE LIST ON M: all of it ===== -/
noncomputable def tgO (Pr : Nat → Prop) (ad : Nat → Nat) (x : Nat) : Nat := @ite _ (∃ i, Pr i ∧ ad i = x) (Classical.propDecidable _) (Classical.epsilon (fun i => Pr i ∧ ad i = x)) 300
theorem tgO_at {Pr : Nat → Prop} {ad : Nat → Nat} (hi : ∀ i i', Pr i → Pr i' → ad i = ad i' → i = i') {i : Nat} (h : Pr i) : tgO Pr ad (ad i) = i := by
  have hex : ∃ i', Pr i' ∧ ad i' = ad i := ⟨i, h, rfl⟩
  have hs := Classical.epsilon_spec hex
  unfold tgO
  rw [@if_pos _ (Classical.propDecidable _) hex]
  exact hi _ _ hs.1 h hs.2
theorem tgO_no {Pr : Nat → Prop} {ad : Nat → Nat} {x : Nat} (h : ∀ i, Pr i → ad i ≠ x) : tgO Pr ad x = 300 := by
  unfold tgO
  rw [@if_neg _ (Classical.propDecidable _) (fun ⟨i, h1, h2⟩ => h i h1 h2)]
def adL (sm ar au g n ao : Nat) (R U Z : Nat → Nat) (i : Nat) : Nat := if i = 0 then sm else if i = 1 then ar else if i = 2 then au else if i = 3 then g else if i = 4 then g + 1 + n else if i = 5 then g + 2 + 2 * n else if i = 6 then sm + 6 else if i = 8 then ao else if i < 32 then R (i - 16) else if i < 48 then U (i - 32) else if i < 64 then g + 1 + (i - 48) else if i < 80 then g + 2 + n + (i - 64) else Z (i - 80)
section ADL
variable {sm ar au g n ao c u q b2 b3 i : Nat} {R U Z : Nat → Nat}
theorem adL_R {r : Nat} (hr : r < 16) : adL sm ar au g n ao R U Z (16 + r) = R r := by
  unfold adL
  rw [if_neg (by omega), if_neg (by omega), if_neg (by omega), if_neg (by omega), if_neg (by omega), if_neg (by omega), if_neg (by omega), if_neg (by omega), if_pos (by omega), Nat.add_sub_cancel_left]
theorem adL_U {r : Nat} (hr : r < 16) : adL sm ar au g n ao R U Z (32 + r) = U r := by
  unfold adL
  rw [if_neg (by omega), if_neg (by omega), if_neg (by omega), if_neg (by omega), if_neg (by omega), if_neg (by omega), if_neg (by omega), if_neg (by omega), if_neg (by omega), if_pos (by omega), Nat.add_sub_cancel_left]
theorem adL_S {r : Nat} (hr : r < 16) : adL sm ar au g n ao R U Z (48 + r) = g + 1 + r := by
  unfold adL
  rw [if_neg (by omega), if_neg (by omega), if_neg (by omega), if_neg (by omega), if_neg (by omega), if_neg (by omega), if_neg (by omega), if_neg (by omega), if_neg (by omega), if_neg (by omega), if_pos (by omega), Nat.add_sub_cancel_left]
theorem adL_T {r : Nat} (hr : r < 16) : adL sm ar au g n ao R U Z (64 + r) = g + 2 + n + r := by
  unfold adL
  rw [if_neg (by omega), if_neg (by omega), if_neg (by omega), if_neg (by omega), if_neg (by omega), if_neg (by omega), if_neg (by omega), if_neg (by omega), if_neg (by omega), if_neg (by omega), if_neg (by omega), if_pos (by omega), Nat.add_sub_cancel_left]
theorem adL_Z {r : Nat} : adL sm ar au g n ao R U Z (80 + r) = Z r := by
  unfold adL
  rw [if_neg (by omega), if_neg (by omega), if_neg (by omega), if_neg (by omega), if_neg (by omega), if_neg (by omega), if_neg (by omega), if_neg (by omega), if_neg (by omega), if_neg (by omega), if_neg (by omega), if_neg (by omega), Nat.add_sub_cancel_left]
/-- one cell, its place among the others -/
theorem adL_val (hn : n ≤ 10) (hc : c ≤ 14) (hu : u ≤ 6) (hR : ∀ r, r < c → ar < R r ∧ R r < b2) (hU : ∀ k, k < u → au < U k ∧ U k < b3) (hZ : ∀ j, j < q → ao < Z j) (hi : Us n c u q i) :
    (i = 0 ∧ adL sm ar au g n ao R U Z i = sm) ∨ (i = 1 ∧ adL sm ar au g n ao R U Z i = ar) ∨ (i = 2 ∧ adL sm ar au g n ao R U Z i = au) ∨ (i = 3 ∧ adL sm ar au g n ao R U Z i = g) ∨ (i = 4 ∧ adL sm ar au g n ao R U Z i = g + 1 + n) ∨ (i = 5 ∧ adL sm ar au g n ao R U Z i = g + 2 + 2 * n) ∨ (i = 6 ∧ adL sm ar au g n ao R U Z i = sm + 6) ∨ (i = 8 ∧ adL sm ar au g n ao R U Z i = ao) ∨
    (∃ r, r < c ∧ i = 16 + r ∧ adL sm ar au g n ao R U Z i = R r ∧ ar < R r ∧ R r < b2) ∨ (∃ k, k < u ∧ i = 32 + k ∧ adL sm ar au g n ao R U Z i = U k ∧ au < U k ∧ U k < b3) ∨ (∃ t, t < n ∧ i = 48 + t ∧ adL sm ar au g n ao R U Z i = g + 1 + t) ∨ (∃ t, t < n ∧ i = 64 + t ∧ adL sm ar au g n ao R U Z i = g + 2 + n + t) ∨ (∃ j, j < q ∧ i = 80 + j ∧ adL sm ar au g n ao R U Z i = Z j ∧ ao < Z j) := by
  rcases hi with hi | hi | hi | hi | hi | hi
  · rcases (by omega : i = 0 ∨ i = 1 ∨ i = 2 ∨ i = 3 ∨ i = 4 ∨ i = 5 ∨ i = 6 ∨ i = 8) with rfl | rfl | rfl | rfl | rfl | rfl | rfl | rfl
    · exact Or.inl ⟨rfl, rfl⟩
    · exact Or.inr (Or.inl ⟨rfl, rfl⟩)
    · exact Or.inr (Or.inr (Or.inl ⟨rfl, rfl⟩))
    · exact Or.inr (Or.inr (Or.inr (Or.inl ⟨rfl, rfl⟩)))
    · exact Or.inr (Or.inr (Or.inr (Or.inr (Or.inl ⟨rfl, rfl⟩))))
    · exact Or.inr (Or.inr (Or.inr (Or.inr (Or.inr (Or.inl ⟨rfl, rfl⟩)))))
    · exact Or.inr (Or.inr (Or.inr (Or.inr (Or.inr (Or.inr (Or.inl ⟨rfl, rfl⟩))))))
    · exact Or.inr (Or.inr (Or.inr (Or.inr (Or.inr (Or.inr (Or.inr (Or.inl ⟨rfl, rfl⟩)))))))
  · refine Or.inr (Or.inr (Or.inr (Or.inr (Or.inr (Or.inr (Or.inr (Or.inr (Or.inl ⟨i - 16, by omega, by omega, ?_, hR _ (by omega)⟩))))))))
    have := adL_R (sm := sm) (ar := ar) (au := au) (g := g) (n := n) (ao := ao) (R := R) (U := U) (Z := Z) (r := i - 16) (by omega)
    rw [show 16 + (i - 16) = i by omega] at this
    exact this
  · refine Or.inr (Or.inr (Or.inr (Or.inr (Or.inr (Or.inr (Or.inr (Or.inr (Or.inr (Or.inl ⟨i - 32, by omega, by omega, ?_, hU _ (by omega)⟩)))))))))
    have := adL_U (sm := sm) (ar := ar) (au := au) (g := g) (n := n) (ao := ao) (R := R) (U := U) (Z := Z) (r := i - 32) (by omega)
    rw [show 32 + (i - 32) = i by omega] at this
    exact this
  · refine Or.inr (Or.inr (Or.inr (Or.inr (Or.inr (Or.inr (Or.inr (Or.inr (Or.inr (Or.inr (Or.inl ⟨i - 48, by omega, by omega, ?_⟩))))))))))
    have := adL_S (sm := sm) (ar := ar) (au := au) (g := g) (n := n) (ao := ao) (R := R) (U := U) (Z := Z) (r := i - 48) (by omega)
    rw [show 48 + (i - 48) = i by omega] at this
    exact this
  · refine Or.inr (Or.inr (Or.inr (Or.inr (Or.inr (Or.inr (Or.inr (Or.inr (Or.inr (Or.inr (Or.inr (Or.inl ⟨i - 64, by omega, by omega, ?_⟩)))))))))))
    have := adL_T (sm := sm) (ar := ar) (au := au) (g := g) (n := n) (ao := ao) (R := R) (U := U) (Z := Z) (r := i - 64) (by omega)
    rw [show 64 + (i - 64) = i by omega] at this
    exact this
  · refine Or.inr (Or.inr (Or.inr (Or.inr (Or.inr (Or.inr (Or.inr (Or.inr (Or.inr (Or.inr (Or.inr (Or.inr ⟨i - 80, by omega, by omega, ?_, hZ _ (by omega)⟩)))))))))))
    have := adL_Z (sm := sm) (ar := ar) (au := au) (g := g) (n := n) (ao := ao) (R := R) (U := U) (Z := Z) (r := i - 80)
    rw [show 80 + (i - 80) = i by omega] at this
    exact this
theorem inc_in {R : Nat → Nat} {c : Nat} (h : ∀ i i', i < i' → i' < c → R i < R i') {r r' : Nat} (h1 : r < c) (h2 : r' < c) (e : R r = R r') : r = r' := by
  rcases Nat.lt_trichotomy r r' with h3 | h3 | h3
  · have := h r r' h3 h2
    omega
  · exact h3
  · have := h r' r h3 h1
    omega
set_option maxHeartbeats 4000000 in
theorem adL_in (hn : n ≤ 10) (hc : c ≤ 14) (hu : u ≤ 6) (hR : ∀ r, r < c → ar < R r ∧ R r < b2) (hU : ∀ k, k < u → au < U k ∧ U k < b3) (hZ : ∀ j, j < q → ao < Z j) (iR : ∀ i i', i < i' → i' < c → R i < R i') (iU : ∀ i i', i < i' → i' < u → U i < U i') (iZ : ∀ i i', i < i' → i' < q → Z i < Z i') (h1 : sm + 7 ≤ ar) (h2 : b2 ≤ au) (h3 : b3 ≤ g) (h4 : g + 3 + 2 * n ≤ ao) (h5 : ar < b2) (h6 : au < b3) {i' : Nat} (hi : Us n c u q i) (hi' : Us n c u q i') (e : adL sm ar au g n ao R U Z i = adL sm ar au g n ao R U Z i') : i = i' := by
  have v1 := adL_val (sm := sm) (g := g) (Z := Z) hn hc hu hR hU hZ hi
  have v2 := adL_val (sm := sm) (g := g) (Z := Z) hn hc hu hR hU hZ hi'
  generalize adL sm ar au g n ao R U Z i = x at v1 e
  generalize adL sm ar au g n ao R U Z i' = y at v2 e
  subst e
  clear hi hi' hR hU hZ
  rcases v1 with ⟨p1, p2⟩ | ⟨p1, p2⟩ | ⟨p1, p2⟩ | ⟨p1, p2⟩ | ⟨p1, p2⟩ | ⟨p1, p2⟩ | ⟨p1, p2⟩ | ⟨p1, p2⟩ | ⟨r, p0, p1, p2, p3, p4⟩ | ⟨r, p0, p1, p2, p3, p4⟩ | ⟨r, p0, p1, p2⟩ | ⟨r, p0, p1, p2⟩ | ⟨r, p0, p1, p2, p3⟩ <;>
  rcases v2 with ⟨q1, q2⟩ | ⟨q1, q2⟩ | ⟨q1, q2⟩ | ⟨q1, q2⟩ | ⟨q1, q2⟩ | ⟨q1, q2⟩ | ⟨q1, q2⟩ | ⟨q1, q2⟩ | ⟨r', q0, q1, q2, q3, q4⟩ | ⟨r', q0, q1, q2, q3, q4⟩ | ⟨r', q0, q1, q2⟩ | ⟨r', q0, q1, q2⟩ | ⟨r', q0, q1, q2, q3⟩ <;>
  first | omega | (have := inc_in iR p0 q0 (p2.symm.trans q2); omega) | (have := inc_in iU p0 q0 (p2.symm.trans q2); omega) | (have := inc_in iZ p0 q0 (p2.symm.trans q2); omega)
end ADL
