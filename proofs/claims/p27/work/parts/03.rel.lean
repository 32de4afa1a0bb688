/-! ===== HOW THE SMALL MACHINE STANDS TO THE LARGE ONE ===== -/
def rV (sad : Nat → Nat) (ws : va_W) (v : MV) (c : Value) : Prop := match v with
  | .inl n => ∃ x : Int32, c = .int x ∧ x.toInt = n
  | .inr (.inl n) => ∃ x : Int64, c = .long x ∧ x.toInt = n
  | .inr (.inr (.inl u)) => c = .double u
  | .inr (.inr (.inr (.inl a))) => ∃ (b : Nat) (e : va_E), c = .ref b ∧ ws[a]? = some (b, e)
  | .inr (.inr (.inr (.inr (.inl a)))) => ∃ b : Nat, c = .ref b ∧ (a = 999 ∨ b = sad a)
  | .inr (.inr (.inr (.inr (.inr false)))) => c = .null
  | .inr (.inr (.inr (.inr (.inr true)))) => False
def rC (sad : Nat → Nat) (ws : va_W) (tys : List (ClassId × FieldType)) (c : MC) (e : va_E) : Prop := match c with
  | .inl (ty, n, f) => ∃ (cA : ClassId) (g : Nat → Int32), e = .inl (cA, n, .inl g) ∧ (∀ j, (g j).toInt = f j) ∧ (cA, ty) ∈ tys
  | .inr (.inl (n, f)) => ∃ (cA : ClassId) (g : Nat → Int64), e = .inl (cA, n, .inr (.inl g)) ∧ (∀ j, (g j).toInt = f j) ∧ (cA, FieldType.long) ∈ tys
  | .inr (.inr (.inl (ty, n, f))) => ∃ (cA : ClassId) (g : Nat → Option Nat), e = .inl (cA, n, .inr (.inr (.inr (.inr g)))) ∧ (∀ j, rV sad ws (f j) (va_rf (g j))) ∧ (cA, ty) ∈ tys
  | .inr (.inr (.inr (ci, fs))) => ∃ vs : List Value, e = .inr (ci, vs) ∧ fs.length = vs.length ∧ ∀ (k : Nat) (v : MV), fs[k]? = some v → ∃ c, vs[k]? = some c ∧ rV sad ws v c
def rH (sad : Nat → Nat) (ws : va_W) (tys : List (ClassId × FieldType)) (h : MH) : Prop := h.2.1 = ws.length ∧ ∀ (a : Nat) (q : Nat × va_E), ws[a]? = some q → rC sad ws tys (h.1 a) q.2
def rS (sad : Nat → Nat) (ws : va_W) : List MV → List Value → Prop
  | [], [] => True
  | v :: t, c :: u => rV sad ws v c ∧ rS sad ws t u
  | _, _ => False
def rL (sad : Nat → Nat) (ws : va_W) (nL : Nat) (mls : List MV) (ls : Array Slot) : Prop := ls.size = nL ∧ lv_wf ls ∧ mls.length = nL ∧ ∀ (i : Nat) (v : MV), mls[i]? = some v → v ≠ qU → ∃ c, ls[i]? = some (.val c) ∧ rV sad ws v c
/-- the same cells, and perhaps more -/
def rP (ws ws' : va_W) : Prop := ∀ (a b : Nat) (e : va_E), ws[a]? = some (b, e) → ∃ e', ws'[a]? = some (b, e')
theorem rP.rf {ws : va_W} : rP ws ws := fun _ _ e h => ⟨e, h⟩
theorem rP.tr {a b c : va_W} (h : rP a b) (k : rP b c) : rP a c := fun i q e h1 => by
  obtain ⟨e', h2⟩ := h i q e h1
  exact k i q e' h2
theorem rP.app {ws w : va_W} : rP ws (ws ++ w) := fun a b e h => ⟨e, by
  have hl : a < ws.length := (List.getElem?_eq_some_iff.mp h).1
  rw [List.getElem?_append_left hl]; exact h⟩
theorem rP.set {ws : va_W} {a b : Nat} {e e' : va_E} (h : ws[a]? = some (b, e)) : rP ws (ws.set a (b, e')) := fun i q e2 h2 => by
  by_cases hi : i = a
  · subst hi
    rw [h] at h2
    cases h2
    exact ⟨e', by rw [List.getElem?_set_self (List.getElem?_eq_some_iff.mp h).1]⟩
  · exact ⟨e2, by rw [List.getElem?_set_ne (fun q => hi q.symm)]; exact h2⟩
theorem rV.up {sad : Nat → Nat} {ws ws' : va_W} {v : MV} {c : Value} (hp : rP ws ws') (h : rV sad ws v c) : rV sad ws' v c := by
  rcases v with n | n | u | a | a | (_ | _)
  · exact h
  · exact h
  · exact h
  · obtain ⟨b, e, h1, h2⟩ := h
    obtain ⟨e', h3⟩ := hp a b e h2
    exact ⟨b, e', h1, h3⟩
  · exact h
  · exact h
  · exact h
theorem rC.up {sad : Nat → Nat} {ws ws' : va_W} {tys tys' : List (ClassId × FieldType)} {c : MC} {e : va_E} (hp : rP ws ws') (ht : ∀ q ∈ tys, q ∈ tys') (h : rC sad ws tys c e) : rC sad ws' tys' c e := by
  rcases c with ⟨ty, n, f⟩ | ⟨n, f⟩ | ⟨ty, n, f⟩ | ⟨ci, fs⟩
  · obtain ⟨cA, g, h1, h2, h3⟩ := h
    exact ⟨cA, g, h1, h2, ht _ h3⟩
  · obtain ⟨cA, g, h1, h2, h3⟩ := h
    exact ⟨cA, g, h1, h2, ht _ h3⟩
  · obtain ⟨cA, g, h1, h2, h3⟩ := h
    exact ⟨cA, g, h1, fun j => (h2 j).up hp, ht _ h3⟩
  · obtain ⟨vs, h1, h2, h3⟩ := h
    refine ⟨vs, h1, h2, fun k v hk => ?_⟩
    obtain ⟨c, h4, h5⟩ := h3 k v hk
    exact ⟨c, h4, h5.up hp⟩
theorem rS.up {sad : Nat → Nat} {ws ws' : va_W} (hp : rP ws ws') : ∀ {m : List MV} {c : List Value}, rS sad ws m c → rS sad ws' m c
  | [], [], _ => trivial
  | _ :: _, _ :: _, h => ⟨h.1.up hp, rS.up hp h.2⟩
theorem rL.up {sad : Nat → Nat} {ws ws' : va_W} {nL : Nat} {mls : List MV} {ls : Array Slot} (hp : rP ws ws') (h : rL sad ws nL mls ls) : rL sad ws' nL mls ls := by
  refine ⟨h.1, h.2.1, h.2.2.1, fun i v h1 h2 => ?_⟩
  obtain ⟨c, h3, h4⟩ := h.2.2.2 i v h1 h2
  exact ⟨c, h3, h4.up hp⟩
theorem rH.set {sad : Nat → Nat} {ws : va_W} {tys : List (ClassId × FieldType)} {h : MH} {a b : Nat} {e e' : va_E} {c : MC} (hh : rH sad ws tys h) (ha : ws[a]? = some (b, e)) (hc : rC sad ws tys c e') : rH sad (ws.set a (b, e')) tys (mset h a c) := by
  have hp : rP ws (ws.set a (b, e')) := rP.set ha
  refine ⟨by rw [List.length_set]; exact hh.1, fun i q hi => ?_⟩
  show rC sad _ tys (mUp h.1 a c i) q.2
  by_cases hia : i = a
  · subst hia
    rw [List.getElem?_set_self (List.getElem?_eq_some_iff.mp ha).1] at hi
    cases hi
    rw [mUp_self]
    exact hc.up hp (fun _ h => h)
  · rw [List.getElem?_set_ne (fun q => hia q.symm)] at hi
    rw [mUp_ne hia]
    exact (hh.2 i q hi).up hp (fun _ h => h)
theorem rH.push {sad : Nat → Nat} {ws : va_W} {tys tys' : List (ClassId × FieldType)} {h : MH} {b n : Nat} {e' : va_E} {c : MC} (hh : rH sad ws tys h) (ht : ∀ q ∈ tys, q ∈ tys') (hc : rC sad (ws ++ [(b, e')]) tys' c e') : rH sad (ws ++ [(b, e')]) tys' (mnew h c n) := by
  have hp : rP ws (ws ++ [(b, e')]) := rP.app
  refine ⟨by rw [List.length_append]; show h.2.1 + 1 = _; rw [hh.1]; rfl, fun i q hi => ?_⟩
  show rC sad _ tys' (mUp h.1 h.2.1 c i) q.2
  rw [hh.1]
  by_cases hia : i = ws.length
  · subst hia
    rw [List.getElem?_append_right (Nat.le_refl _), Nat.sub_self] at hi
    cases hi
    rw [mUp_self]
    exact hc
  · have hl : i < ws.length := by
      have h2 := (List.getElem?_eq_some_iff.mp hi).1
      rw [List.length_append] at h2
      have h3 : i < ws.length + 1 := h2
      omega
    rw [List.getElem?_append_left hl] at hi
    rw [mUp_ne hia]
    exact (hh.2 i q hi).up hp ht
theorem lg_eq : ∀ (ls : List MV) (i : Nat), lg ls i = (ls[i]?).getD qU
  | [], i => by simp [lg]
  | v :: _, 0 => by simp [lg]
  | _ :: t, n + 1 => by simp [lg, lg_eq t n]
theorem lg_at {ls : List MV} {i : Nat} {v : MV} (h : lg ls i = v) (hv : v ≠ qU) : ls[i]? = some v := by
  rw [lg_eq] at h
  cases hx : ls[i]? with
  | none => rw [hx] at h; exact absurd h.symm hv
  | some w => rw [hx] at h; exact congrArg some h
theorem lset_eq : ∀ (ls : List MV) (i : Nat) (v : MV), lset ls i v = ls.set i v
  | [], i, v => by simp [lset]
  | x :: t, 0, v => by simp [lset]
  | x :: t, n + 1, v => by simp [lset, lset_eq t n v]
