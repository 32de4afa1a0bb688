/-! ===== THE LAW: what holds between two calls ===== -/
/-- a call of the class through its helper: its code, its answer -/
def WrP (h : MH) (c x : Int) (pa pd : Nat) (Q : Pn) (S : St8) (tp : Nat → Int) (len : Nat) (ea : Int) (v : Option MV ⊕ Nat) (h2 : MH) : Prop := v = .inl (some (qI c)) ∧ (∀ a, 107 ≤ a → a ≠ 151 → h2.1 a = h.1 a) ∧ (∃ g : Nat → Int, h2.1 151 = cL 1 g ∧ (c = 0 → g 0 = x)) ∧ ClA h2.1 pa pd Q S tp len ea ∧ h2.2.1 = h.2.1 ∧ h2.2.2.1 ≤ h.2.2.1 + 1 ∧ h2.2.2.2 ≤ h.2.2.2 + 6
/-- between two calls, after n of them -/
def LIc (n : Nat) (h : MH) (pa pd : Nat) (Q : Pn) (S : St8) (tp : Nat → Int) (len : Nat) (ea th : Int) (sb : Nat) (F : Nat → Nat → Int) (K : Nat → Nat) (tc : Nat) (va T : Nat → Int) : Prop := ClA h.1 pa pd Q S tp len ea ∧ RfV h.1 th (len : Int) ea sb F K tc va Q S T ∧ Tp T tp len ∧ (∀ i, -128 ≤ tp i ∧ tp i ≤ 127) ∧ PnOk Q ∧ SOk Q S ∧ Wd S ∧ (∃ g : Nat → Int, h.1 151 = cL 1 g) ∧ (152 ≤ h.2.1 ∧ sb + 16 ≤ h.2.1 ∧ (sb = 109 ∨ 152 ≤ sb)) ∧ h.2.2.1 ≤ 200 + 17 * n ∧ h.2.2.2 ≤ 16000 + 1850 * n
def LI (n : Nat) (h : MH) : Prop := ∃ pa pd Q S tp len ea th sb F K tc va T, LIc n h pa pd Q S tp len ea th sb F K tc va T
theorem WCo_e1 {G : MG} {d e k1 : Nat} {B : Nat → List MI} {l : List Nat} {is : List MI} {ls st : List MV} {Q : (Option MV ⊕ Nat) → MH → Prop} {h : MH} : WCo G d B (e :: k1 :: l) is ls st Q (.inr e) h = Wp G d B (B k1) ls [qS 999] h Q := if_pos rfl
theorem WCo_e2 {G : MG} {d e e1 k1 k2 : Nat} {B : Nat → List MI} {l : List Nat} {is : List MI} {ls st : List MV} {Q : (Option MV ⊕ Nat) → MH → Prop} {h : MH} (hne : e ≠ e1) : WCo G d B (e1 :: k1 :: e :: k2 :: l) is ls st Q (.inr e) h = Wp G d B (B k2) ls [qS 999] h Q := (if_neg hne).trans (if_pos rfl)
section LINV
variable {L : Nat} {xs : Nat → Int} {fm : Bool} {h h1 h2 : MH} {hc hc' : Nat → MC} {pa pd n i sb tc len : Nat} {Q : Pn} {S S' : St8} {tp T : Nat → Int} {ea th x : Int} {F : Nat → Nat → Int} {K : Nat → Nat} {va g : Nat → Int} {Q0 : (Option MV ⊕ Nat) → MH → Prop} {d : Nat}
theorem ClA.cgA (hC : ClA hc pa pd Q S tp len ea) (hf : ∀ a, a < 107 → hc' a = hc a) : ClA hc' pa pd Q S tp len ea := by
  obtain ⟨h1, h1b, h3, h4, ⟨m0, h5⟩, h6, h7, h8, h9, h10⟩ := hC
  exact ⟨h1, h1b, by rw [hf _ (by omega)]; exact h3, by rw [hf _ (by omega)]; exact h4, ⟨m0, h5.cg (fun a _ _ => hf _ (by omega))⟩, h6.cg (fun a _ _ => hf _ (by omega)), h7.cg (hf _ (by omega)), h8.cg (fun a _ _ => hf _ (by omega)), h9.cg (fun a _ _ => hf _ (by omega)), h10.cg (fun a _ _ => hf _ (by omega))⟩
theorem ClA.out (hC : ClA hc pa pd Q S tp len ea) {c : MC} : ClA (mUp hc 151 c) pa pd Q S tp len ea := hC.cgA (fun a ha => mUp_ne (by omega))
theorem WrP.ok {f : Nat → Int} (f2 : Fm 0 107 h h2) (hC : ClA h2.1 pa pd Q S tp len ea) (hf : f 0 = x) : WrP h 0 x pa pd Q S tp len ea (.inl (some (qI 0))) (mUp h2.1 151 (cL 1 f), h2.2) := by
  refine ⟨rfl, fun a a1 a2 => (mUp_ne a2).trans (f2.2 a (by omega)), ⟨f, mUp_self h2.1 151 _, fun _ => hf⟩, hC.out, ?_, ?_, ?_⟩ <;> dsimp only <;> rw [f2.1] <;> omega
theorem WrP.thr {c : Int} (hc : c ≠ 0) (ho : h.1 151 = cL 1 g) (hX : XTh h pa pd Q S tp len ea h2) : WrP h c 0 pa pd Q S tp len ea (.inl (some (qI c))) h2 := by
  obtain ⟨h', rfl, f2, hC⟩ := hX
  refine ⟨rfl, fun a a1 a2 => f2.2 a (by omega), ⟨g, (f2.2 151 (by omega)).trans ho, fun z => absurd z hc⟩, hC, ?_, ?_, ?_⟩
  · show h'.2.1 = _
    rw [f2.1]
  · show h'.2.2.1 + 1 ≤ _
    rw [f2.1]
    exact Nat.le_refl _
  · show h'.2.2.2 + 6 ≤ _
    rw [f2.1]
    exact Nat.le_refl _
end LINV
