/-! ===== ONE RULE AN INSTRUCTION: cells ===== -/
/-- the classes of the world: their words are among Ts, their fields have types and names of their own -/
def ClsOK (cl : List vw_C) (Ts : List Jvm.Cond) : Prop := ∀ (ci : Nat) (q : vw_C), cl[ci]? = some q → (∀ w ∈ u_ws q.1 q.2.1 q.2.2, w ∈ Ts) ∧ (∃ ty0 : Nat → FieldType, ∀ k, k < q.2.2 → parseFieldDescriptor (q.2.1 k).2.2.1 = some (ty0 k)) ∧ ∀ a, a < q.2.2 → ∀ b, b < q.2.2 → a ≠ b → (q.2.1 a).2.1 ≠ (q.2.1 b).2.1
/-- how a field is linked: its own class names it, or a nest mate -/
def fLink (s : State) (args : Array Value) (own : String) (index : Nat) (q : String × String × String × Bool) : Prop := (Jvm.Cond.fieldLink own index q.1 q.2.1 q.2.2.1).before args s = true ∨ (∃ host : String, (Jvm.Cond.fieldLinkNest own index q.1 q.2.1 q.2.2.1 host).before args s = true) ∨ ∃ ref : String, (Jvm.Cond.fieldLink own index ref q.2.1 q.2.2.1).before args s = true ∧ (Jvm.Cond.sameField ref q.1 q.2.1 q.2.2.1).before args s = true
theorem vp_of {x : Int32} {i : Int} {n : Nat} (hx : x.toInt = i) (h0 : 0 ≤ i) (h1 : i < (n : Int)) : vp_in x n := vp_in_iff.mpr (by rw [hx]; exact ⟨h0, h1⟩)
theorem cl_of {x : Int32} {i : Int} (hx : x.toInt = i) (h0 : 0 ≤ i) : x.toNatClampNeg = i.toNat := by
  subst hx
  rfl
theorem mem_at {α : Type} {l : List α} {x : α} (h : x ∈ l) : ∃ k : Nat, l[k]? = some x := List.getElem?_of_mem h
theorem rV_rf {sad : Nat → Nat} {ws : va_W} {v : MV} {o : Option Nat} (h : rV sad ws v (va_rf o)) : isRf v = true := by
  rcases v with n | n | u | a | a | (_ | _)
  · obtain ⟨x, h1, -⟩ := h; cases o <;> cases h1
  · obtain ⟨x, h1, -⟩ := h; cases o <;> cases h1
  · cases o <;> cases h
  · rfl
  · rfl
  · rfl
  · exact h.elim
theorem rV_bare {sad : Nat → Nat} {ws : va_W} {v : MV} {c : Value} (h : rV sad [] v c) : rV sad ws v c := h.up (fun a b e q => by simp at q)
section SN3
variable {p : Program} {l : Launch} {e : Env} {R : Room} {s : State} {m : MethodId} {args : Array Value} {below : List Frame} {meth : Method} {c : Code} {H : Heap} {locs : List Loc} {cells slots : Nat} {Q : State → Prop}
variable {cc : ByteArray} {pc nL : Nat} {D : va_G} {cl : List vw_C} {A : Nat → Prop} {sad : Nat → Nat} {ws0 : va_W} {mls mst r : List MV} {h : MH} {ls : Array Slot} {st : List Value}
variable {Ts : List Jvm.Cond} {own : String} {index : Nat}
theorem sn_get (hx : p.tables.exec = Jvm.exec) (hb : c.code = cc) (hts : ∀ w ∈ Ts, w.before args s = true) (hcl : ClsOK cl Ts) (hown : s.vm.findClass own = some m.cls) {ci k a : Nat} {q : vw_C} {fs : List MV} {v : MV} (hc : cl[ci]? = some q) (hk : k < q.2.2) (hlink : fLink s args own index (q.2.1 k))
    (hF : Fr D cl A sad ws0 s nL H locs mls (qR a :: r) h ls st) (ha : h.1 a = cO ci fs) (hv : fs[k]? = some v) (hd : decode cc pc = .ok (.getfield index, 3))
    (kk : ∀ st : List Value, Fr D cl A sad ws0 s nL H locs mls (v :: r) h ls st → W p l e R s m args below meth c H locs cells slots Q (F0 m (pc + 3) ls st)) : W p l e R s m args below meth c H locs cells slots Q (F0 m pc ls st) := by
  obtain ⟨ws, tys, h1, h2, h3, h4, h5, h6, h7, h8⟩ := hF
  obtain ⟨c1, u1, rfl, ⟨b, e9, rfl, hw⟩, h7_1⟩ := rS_c h7
  have hr := h1.2 a _ hw
  rw [ha] at hr
  obtain ⟨vs, rfl, g1, g2⟩ := hr
  obtain ⟨cv, g3, g4⟩ := g2 k v hv
  obtain ⟨C, T, N⟩ := q
  rcases hlink with hl | ⟨host, hl⟩ | ⟨ref, hl, hsm⟩
  · exact va_get hx hb hts (hcl ci _ hc).1 hown h3 h2 a hw hc k hk hl (fun _ z => z) g3 hd (kk _ ⟨ws, tys, h1, h2, h3, h4, h5, h6, ⟨g4, h7_1⟩, h8⟩)
  · exact va_getN hx hb hts (hcl ci _ hc).1 hown h3 h2 a hw hc k hk hl (fun _ z => z) g3 hd (kk _ ⟨ws, tys, h1, h2, h3, h4, h5, h6, ⟨g4, h7_1⟩, h8⟩)
  · exact va_get hx hb hts (hcl ci _ hc).1 hown h3 h2 a hw hc k hk hl (u_same hsm) g3 hd (kk _ ⟨ws, tys, h1, h2, h3, h4, h5, h6, ⟨g4, h7_1⟩, h8⟩)
theorem sn_getS (hx : p.tables.exec = Jvm.exec) (hb : c.code = cc) (hown : s.vm.findClass own = some m.cls) {a : Nat} {o n d : String} {v : MV} {cv : Value} (hO : va_OF o n d cv (sad a) A s s.heap) (hv : rV sad [] v cv) (h9 : a ≠ 999) (hlink : (Jvm.Cond.fieldLink own index o n d).before args s = true)
    (hF : Fr D cl A sad ws0 s nL H locs mls (qS a :: r) h ls st) (hd : decode cc pc = .ok (.getfield index, 3))
    (kk : ∀ st : List Value, Fr D cl A sad ws0 s nL H locs mls (v :: r) h ls st → W p l e R s m args below meth c H locs cells slots Q (F0 m (pc + 3) ls st)) : W p l e R s m args below meth c H locs cells slots Q (F0 m pc ls st) := by
  obtain ⟨ws, tys, h1, h2, h3, h4, h5, h6, h7, h8⟩ := hF
  obtain ⟨c1, u1, rfl, ⟨b, rfl, hw⟩, h7_1⟩ := rS_c h7
  obtain rfl := hw.resolve_left h9
  exact vk_getf hx hb hO h5 hown hlink (fun _ z => z) hd (kk _ ⟨ws, tys, h1, h2, h3, h4, h5, h6, ⟨rV_bare hv, h7_1⟩, h8⟩)
theorem fits_by {x : Int32} {v : Int} (hx : x.toInt = v) (h0 : -128 ≤ v) (h1 : v ≤ 127) : fits .byte (.int x) = true := by
  show (decide (-128 ≤ x) && decide (x ≤ 127)) = true
  have e1 : (-128 : Int32).toInt = -128 := rfl
  have e2 : (127 : Int32).toInt = 127 := rfl
  rw [Bool.and_eq_true, decide_eq_true_eq, decide_eq_true_eq, Int32.le_iff_toInt_le, Int32.le_iff_toInt_le, e1, e2, hx]
  exact ⟨h0, h1⟩
theorem fn_b {x : Int32} {v : Int} (hx : x.toInt = v) (h0 : -128 ≤ v) (h1 : v ≤ 127) : narrow .byte (.int x) = .int x ∧ fits .byte (.int x) = true := by
  have h : x.toInt8.toInt32 = x := by
    have : x.toInt8.toInt = v := by
      rw [Int32.toInt_toInt8, hx, Int.bmod_def]
      simp only [Nat.reducePow]
      split <;> omega
    apply Int32.toInt_inj.mp
    rw [Int8.toInt_toInt32, this, hx]
  have h2 : narrow .byte (.int x) = .int x := by
    show Value.int (x.toInt8.toInt32) = _
    rw [h]
  exact ⟨h2, fits_by hx h0 h1⟩
theorem fn_z {x : Int32} {v : Int} (hx : x.toInt = v) (h0 : 0 ≤ v) (h1 : v ≤ 1) : narrow .boolean (.int x) = .int x ∧ fits .boolean (.int x) = true := by
  rcases (show v = 0 ∨ v = 1 by omega) with rfl | rfl
  · obtain rfl : x = 0 := Int32.toInt_inj.mp hx
    exact ⟨rfl, rfl⟩
  · obtain rfl : x = 1 := Int32.toInt_inj.mp hx
    exact ⟨rfl, rfl⟩
theorem fit_of {sad : Nat → Nat} {ws : va_W} {t : Nat} {v : MV} {cv : Value} {ty : FieldType} (hf : fitK t v = true) (hv : rV sad ws v cv) (ht : (t = 0 → ty = .int) ∧ (t = 1 → ty = .long) ∧ (t = 2 → (∃ C, ty = .object C) ∨ ∃ z, ty = .array z) ∧ (t = 3 → ty = .byte) ∧ (t = 4 → ty = .boolean)) : narrow ty cv = cv ∧ fits ty cv = true := by
  unfold fitK at hf
  split at hf
  · obtain ⟨x, rfl, -⟩ := hv
    rw [ht.1 rfl]
    exact ⟨rfl, rfl⟩
  · obtain ⟨x, rfl, -⟩ := hv
    rw [ht.2.1 rfl]
    exact ⟨rfl, rfl⟩
  · obtain ⟨b, e, rfl, -⟩ := hv
    rcases ht.2.2.1 rfl with ⟨C, rfl⟩ | ⟨z, rfl⟩ <;> exact ⟨rfl, rfl⟩
  · obtain ⟨b, rfl, -⟩ := hv
    rcases ht.2.2.1 rfl with ⟨C, rfl⟩ | ⟨z, rfl⟩ <;> exact ⟨rfl, rfl⟩
  · obtain rfl := hv
    rcases ht.2.2.1 rfl with ⟨C, rfl⟩ | ⟨z, rfl⟩ <;> exact ⟨rfl, rfl⟩
  · obtain ⟨x, rfl, hx⟩ := hv
    simp only [Bool.and_eq_true, decide_eq_true_eq] at hf
    rw [ht.2.2.2.1 rfl]
    exact fn_b hx hf.1 hf.2
  · obtain ⟨x, rfl, hx⟩ := hv
    simp only [Bool.and_eq_true, decide_eq_true_eq] at hf
    rw [ht.2.2.2.2 rfl]
    exact fn_z hx hf.1 hf.2
  · cases hf
theorem rC_put {tys : List (ClassId × FieldType)} {ws : va_W} {ci k : Nat} {fs : List MV} {vs : List Value} {v : MV} {cv : Value} (g1 : fs.length = vs.length) (g2 : ∀ (k : Nat) (v : MV), fs[k]? = some v → ∃ c, vs[k]? = some c ∧ rV sad ws v c) (hv : rV sad ws v cv) : rC sad ws tys (cO ci (fs.set k v)) (.inr (ci, vs.set k cv)) := by
  refine ⟨_, rfl, by rw [List.length_set, List.length_set]; exact g1, fun j w hj => ?_⟩
  by_cases hjk : j = k
  · subst hjk
    have hl : j < fs.length := by
      have := (List.getElem?_eq_some_iff.mp hj).1
      rw [List.length_set] at this
      exact this
    rw [List.getElem?_set_self hl] at hj
    cases hj
    exact ⟨cv, List.getElem?_set_self (by omega), hv⟩
  · rw [List.getElem?_set_ne (fun z => hjk z.symm)] at hj
    obtain ⟨c, g3, g4⟩ := g2 j w hj
    exact ⟨c, by rw [List.getElem?_set_ne (fun z => hjk z.symm)]; exact g3, g4⟩
theorem sn_put (hx : p.tables.exec = Jvm.exec) (hb : c.code = cc) (hts : ∀ w ∈ Ts, w.before args s = true) (hcl : ClsOK cl Ts) (hown : s.vm.findClass own = some m.cls) {ci k a t : Nat} {q : vw_C} {fs : List MV} {v : MV} {ty : FieldType} (hc : cl[ci]? = some q) (hk : k < q.2.2)
    (hlink : fLink s args own index (q.2.1 k)) (hfin : (q.2.1 k).2.2.2 = false ∨ ((q.2.1 k).2.2.2 = true ∧ meth.name = "<init>" ∧ (q.2.1 k).1 = own ∧ (Jvm.Cond.fieldLink own index (q.2.1 k).1 (q.2.1 k).2.1 (q.2.1 k).2.2.1).before args s = true)) (hty : parseFieldDescriptor (q.2.1 k).2.2.1 = some ty) (ht : (t = 0 → ty = .int) ∧ (t = 1 → ty = .long) ∧ (t = 2 → (∃ C, ty = .object C) ∨ ∃ z, ty = .array z) ∧ (t = 3 → ty = .byte) ∧ (t = 4 → ty = .boolean))
    (hF : Fr D cl A sad ws0 s nL H locs mls (v :: qR a :: r) h ls st) (ha : h.1 a = cO ci fs) (hkf : k < fs.length) (hfit : fitK t v = true) (hd : decode cc pc = .ok (.putfield index, 3))
    (kk : ∀ (H : Heap) (locs : List Loc) (st : List Value), Fr D cl A sad ws0 s nL H locs mls r (mset h a (cO ci (fs.set k v))) ls st → W p l e R s m args below meth c H locs cells slots Q (F0 m (pc + 3) ls st)) : W p l e R s m args below meth c H locs cells slots Q (F0 m pc ls st) := by
  obtain ⟨ws, tys, h1, h2, h3, h4, h5, h6, h7, h8⟩ := hF
  obtain ⟨cv, u1, rfl, hv, h7_1⟩ := rS_c h7
  obtain ⟨c1, u2, rfl, ⟨b, e9, rfl, hw⟩, h7_2⟩ := rS_c h7_1
  have hr := h1.2 a _ hw
  rw [ha] at hr
  obtain ⟨vs, rfl, g1, g2⟩ := hr
  obtain ⟨C, T, N⟩ := q
  obtain ⟨k1, ⟨ty0, k2⟩, k3⟩ := hcl ci _ hc
  obtain ⟨f1, f2⟩ := fit_of hfit hv ht
  have hp : rP ws (ws.set a (b, .inr (ci, vs.set k cv))) := rP.set hw
  have go : ∀ (H1 : Heap) (locs1 : List Loc), va_P D cl (ws.set a (b, .inr (ci, vs.set k cv))) H1 → va_D A (ws.set a (b, .inr (ci, vs.set k cv))) → va_S A s.heap H1 locs1 → W p l e R s m args below meth c H1 locs1 cells slots Q (F0 m (pc + 3) ls u2) := fun H1 locs1 i1 i2 i3 =>
    kk H1 locs1 u2 ⟨_, tys, h1.set hw (rC_put g1 g2 hv), i1, h3, i2, i3, h6.up hp, h7_2.up hp, h8.tr hp⟩
  rcases hfin with hfin | ⟨hfin, hin, hdec, hl⟩
  · rcases hlink with hl | ⟨host, hl⟩ | ⟨ref, hl, hsm⟩
    · exact va_put hx hb hts k1 ty0 k2 k3 hown h3 h2 h4 h5 a hw hc k hk hl (fun _ z => z) hfin hty f1 f2 (by omega) hd go
    · exact va_putN hx hb hts k1 ty0 k2 k3 hown h3 h2 h4 h5 a hw hc k hk hl (fun _ z => z) hfin hty f1 f2 (by omega) hd go
    · exact va_put hx hb hts k1 ty0 k2 k3 hown h3 h2 h4 h5 a hw hc k hk hl (u_same hsm) hfin hty f1 f2 (by omega) hd go
  · exact va_putF hx hb hts k1 ty0 k2 k3 hown h3 h2 h4 h5 a hw hc k hk hl (fun _ z => z) hfin hin hdec hty f1 f2 (by omega) hd go
end SN3
