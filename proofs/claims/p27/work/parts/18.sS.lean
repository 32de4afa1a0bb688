/-! ===== WHAT WAS THERE BEFORE: constants of the enum, strings, rows, words that are carried along ===== -/

def excN (e : Nat) : String := excT.getD e ""
def dcN : List String := ["java/lang/RuntimeException", "java/lang/Exception", "java/lang/Throwable"]
abbrev dcX (n : String) : MethodName := ⟨n, "<init>", "(Ljava/lang/String;)V"⟩
def sS (sad : Nat → Nat) (G : MG) (A : Nat → Prop) (U : State) (H : Heap) : Prop :=
  (∀ (a k : Nat) (v : MV), 50 ≤ k → G.2.1 a k = some v → a ≠ 999 ∧ ∃ cv, va_OF (FS k).1 (FS k).2.1 (FS k).2.2 cv (sad a) A U H ∧ rV sad [] v cv) ∧
  (∀ (a : Nat) (ty : FieldType) (n : Nat) (f : Nat → MV), G.2.2.1 a = some (ty, n, f) → a ≠ 999 ∧ ∃ fv, va_T ty (sad a) n fv A U H ∧ ∀ j, j < n → rV sad [] (f j) (fv j)) ∧
  (∀ z ∈ ZS, ∃ cv, va_Z z.1 z.2.1 z.2.2.1 cv A U H ∧ rV sad [] z.2.2.2 cv) ∧
  (∃ cv, va_Z "jdk/internal/util/Preconditions" "SIOOBE_FORMATTER" "Ljava/util/function/BiFunction;" cv A U H ∧ ∀ v, G.2.1 997 0 = some v → rV sad [] v cv) ∧
  (∀ a, a < 46 → va_O "TavernRumours$Kind" (sad a) A U H) ∧
  (∀ j, j < 90 → va_O "java/lang/String" (sad (100 + j)) A U H) ∧
  vx_Zq Bundle.tN "UNASSIGNED_STACK" Bundle.steD A U H ∧ vx_Zq Bundle.tN "SUPPRESSED_SENTINEL" Bundle.listD A U H ∧
  (∀ o, ∀ q ∈ LNe o, va_Nw (.fieldLinkNest (CN o) q.1 (tF q.2.1 q.2.2.1).1 (tF q.2.1 q.2.2.1).2.1 (tF q.2.1 q.2.2.1).2.2.1 (HN o)) U) ∧
  (∀ o, ∀ q ∈ LZn o, ∀ z, ZS[q.2.1]? = some z → va_Nw (.fieldLinkNest (CN o) q.1 z.1 z.2.1 z.2.2.1 (HN o)) U) ∧
  (∀ o, ∀ q ∈ LMt o, (q.2.2.1 = 3 ∨ q.2.2.1 = 4) → va_Nw (.methodLinkNest (CN o) q.1 (mInf q.2.1).1 (HN o)) U) ∧
  (∀ o, ∀ q ∈ LXc o, ∃ sa, vk_R (CN o) q.2.1 q.2.2.2.2.2 sa U) ∧
  (∀ o, ∀ q ∈ LTx o, vk_R (CN o) q.1 q.2.2 (sad (100 + q.2.1)) U) ∧
  va_AO "TavernRumours$Kind" U ∧ va_AOA .int U ∧ va_AOA .long U ∧
  (∀ x, x < 3 → va_Nw (.castable (excN x) (excN x)) U) ∧ (∀ x y, x < 3 → y < 3 → x ≠ y → y = 0 → va_Nc (excN x) (excN y) U) ∧
  (∀ n ∈ dcN, va_Nw (.declares (dcX n)) U) ∧
  (va_AO "java/lang/Object" U ∧ va_AOA .boolean U ∧ va_Mi "[Ljava/lang/Object;" (sad 990) U ∧ va_Dc U ∧ va_Nw (.castable "[I" "java/lang/Object") U ∧ va_Nw (.castable "[B" "java/lang/Cloneable") U ∧ va_Fw itN hnX hnY U ∧ va_Fw itN nxX nxY U)
theorem AOA_moved {t : FieldType} {u U : State} (hvm : u.vm.Alike U.vm) (h : va_AOA t u) : va_AOA t U := by
  obtain ⟨comp, c, k, h1, h2, h3, h4, h5⟩ := arrayOverA_spec h
  obtain ⟨k', hk', he⟩ := hvm.2.2 _ _ h3
  have e1 := va_idx_bare u.vm comp
  have e2 := va_idx_bare U.vm comp
  have e3 : u.vm.bare = U.vm.bare := by first | exact hvm.bare_eq | exact hvm.bare_eq.symm
  rw [← e3] at e2
  have hi := e2.symm.trans (e1.trans h2)
  have hkind : k'.kind = .array comp (.array t) := by rw [he]; exact h4
  have f1 : U.vm.findClass (FieldType.array t).toString = some comp := by rw [hvm.findClass]; exact h1
  have f2 : U.vm.findClass ("[" ++ (FieldType.array t).toString) = some c := by rw [hvm.findClass]; exact h5
  unfold va_AOA Cond.before Cond.holds
  simp only [Cond.value]
  rw [f1, Option.bind_some]
  refine (congrArg (fun o : Option Nat => (o.bind (fun c => (U.vm.classes[c]?).map fun (k : Class) => match k.kind with | .array _ ty => decide (ty = FieldType.array t) && decide (U.vm.findClass ("[" ++ (FieldType.array t).toString) = some c) | _ => false) == some true)) hi).trans ?_
  simp [hk', hkind, f2]
/-- in a later state of the tables, over a heap that has changed in A alone -/
theorem sS.to {sad : Nat → Nat} {G : MG} {A : Nat → Prop} {s U : State} {H H1 : Heap} (hv : s.vm.Alike U.vm) (hr : ∀ {own : String} {k : Nat} {tx : String} {a : Nat}, vk_R own k tx a s → vk_R own k tx a U) (hf : ∀ {a : String} {i : Nat} {b n d h : String}, va_Nw (.fieldLinkNest a i b n d h) s → va_Nw (.fieldLinkNest a i b n d h) U) (hm : ∀ {a : String} {i : Nat} {x : MethodName} {h : String}, va_Nw (.methodLinkNest a i x h) s → va_Nw (.methodLinkNest a i x h) U) (hc : ∀ {C T : String}, va_Nw (.castable C T) s → va_Nw (.castable C T) U) (hdd : ∀ {x : MethodName}, va_Nw (.declares x) s → va_Nw (.declares x) U)
    (hq : ∀ a : Nat, a < H.size → ¬ A a → H1[a]? = H[a]?) (h : sS sad G A s H) : sS sad G A U H1 := by
  obtain ⟨h1, h2, h3, h4, h5, h6, h7, h8, h9, h10, h11, h12, h13, h14, h15, h16, h17, h18, h19, h20⟩ := h
  refine ⟨fun a k v g0 g => ?_, fun a ty n f g => ?_, fun z hz => ?_, ?_, fun a ha => ((h5 a ha).moved hv).kept hq, fun j hj => ((h6 j hj).moved hv).kept hq, (h7.moved hv).kept hq, (h8.moved hv).kept hq, fun o q hq => hf (h9 o q hq), fun o q hq z hz => hf (h10 o q hq z hz), fun o q hq h => hm (h11 o q hq h), fun o q hq => ?_, fun o q hq => hr (h13 o q hq), h14.moved hv, AOA_moved hv h15, AOA_moved hv h16, fun x hx => hc (h17 x hx), fun x y hx hy hxy h0 => (h18 x y hx hy hxy h0).moved hv, fun n hn => hdd (h19 n hn), h20.1.moved hv, AOA_moved hv h20.2.1, h20.2.2.1.moved hv, h20.2.2.2.1.moved hv, hc h20.2.2.2.2.1, hc h20.2.2.2.2.2.1, h20.2.2.2.2.2.2.1.moved ⟨by decide, by decide⟩ hv, h20.2.2.2.2.2.2.2.moved ⟨by decide, by decide⟩ hv⟩
  · obtain ⟨g1, cv, g2, g3⟩ := h1 a k v g0 g
    exact ⟨g1, cv, (g2.moved hv).kept hq, g3⟩
  · obtain ⟨g1, fv, g2, g3⟩ := h2 a ty n f g
    exact ⟨g1, fv, (g2.moved hv).kept hq, g3⟩
  · obtain ⟨cv, g2, g3⟩ := h3 z hz
    exact ⟨cv, (g2.moved hv).kept hq, g3⟩
  · obtain ⟨cv, g2, g3⟩ := h4
    exact ⟨cv, (g2.moved hv).kept hq, g3⟩
  · obtain ⟨sa, g⟩ := h12 o q hq
    exact ⟨sa, hr g⟩
theorem sS.warm {sad : Nat → Nat} {G : MG} {A : Nat → Prop} {s U : State} {H H1 : Heap} (hW : s.WarmedH U.vm) (hq : ∀ a : Nat, a < H.size → ¬ A a → H1[a]? = H[a]?) (h : sS sad G A s H) : sS sad G A U H1 :=
  h.to hW.alike (fun g => g.warm hW) (fun g => va_Nw.warmF hW g) (fun g => va_Nw.warmM hW g) (fun g => va_Nw.warmC hW g) (fun g => va_Nw.warmD hW g) hq
theorem sS.same {sad : Nat → Nat} {G : MG} {A : Nat → Prop} {s U : State} {H : Heap} (hv : U.vm = s.vm) (h : sS sad G A s H) : sS sad G A U H :=
  h.to (by rw [hv]; exact Vm.Alike.refl _) (fun g => vk_R.same hv g) (fun g => va_Nw.same rfl hv.symm g) (fun g => va_Nw.same rfl hv.symm g) (fun g => va_Nw.same rfl hv.symm g) (fun g => va_Nw.same rfl hv.symm g) (fun _ _ _ => rfl)
