/-! ===== ONE RULE AN INSTRUCTION: new cells, copies, Math, Object's constructor ===== -/
def mval : List Nat → List Value
  | [] => []
  | 0 :: t => .int 0 :: mval t
  | 1 :: t => .long 0 :: mval t
  | 3 :: t => .int 0 :: mval t
  | 4 :: t => .int 0 :: mval t
  | _ :: t => .null :: mval t
theorem mdef_rel {sad : Nat → Nat} {ws : va_W} : ∀ (g : List Nat), (mdef g).length = (mval g).length ∧ ∀ (k : Nat) (v : MV), (mdef g)[k]? = some v → ∃ c, (mval g)[k]? = some c ∧ rV sad ws v c
  | [] => ⟨rfl, fun k v h => by simp [mdef] at h⟩
  | x :: t => by
    have ih := mdef_rel (sad := sad) (ws := ws) t
    match x with
    | 0 =>
      refine ⟨congrArg (· + 1) ih.1, fun k v h => ?_⟩
      cases k with
      | zero => cases h; exact ⟨_, rfl, 0, rfl, rfl⟩
      | succ k => exact ih.2 k v h
    | 1 =>
      refine ⟨congrArg (· + 1) ih.1, fun k v h => ?_⟩
      cases k with
      | zero => cases h; exact ⟨_, rfl, 0, rfl, rfl⟩
      | succ k => exact ih.2 k v h
    | 2 =>
      refine ⟨congrArg (· + 1) ih.1, fun k v h => ?_⟩
      cases k with
      | zero => cases h; exact ⟨_, rfl, rfl⟩
      | succ k => exact ih.2 k v h
    | 3 =>
      refine ⟨congrArg (· + 1) ih.1, fun k v h => ?_⟩
      cases k with
      | zero => cases h; exact ⟨_, rfl, 0, rfl, rfl⟩
      | succ k => exact ih.2 k v h
    | 4 =>
      refine ⟨congrArg (· + 1) ih.1, fun k v h => ?_⟩
      cases k with
      | zero => cases h; exact ⟨_, rfl, 0, rfl, rfl⟩
      | succ k => exact ih.2 k v h
    | x + 5 =>
      refine ⟨congrArg (· + 1) ih.1, fun k v h => ?_⟩
      cases k with
      | zero => cases h; exact ⟨_, rfl, rfl⟩
      | succ k => exact ih.2 k v h
theorem nb_le {n : Int} {k k' : Nat} (hk : k = k') (h0 : 0 ≤ n) (hn : n ≤ 4000) (h8 : k ≤ 8) : n.toNat * k' ≤ 536870912 := by
  subst hk
  have h1 : n.toNat ≤ 4000 := by omega
  exact Nat.le_trans (Nat.mul_le_mul h1 h8) (Nat.le_of_ble_eq_true rfl)
section SN5
variable {p : Program} {l : Launch} {e : Env} {R : Room} {s : State} {m : MethodId} {args : Array Value} {below : List Frame} {meth : Method} {c : Code} {H : Heap} {locs : List Loc} {cells slots : Nat} {Q : State → Prop}
variable {cc : ByteArray} {pc nL : Nat} {D : va_G} {cl : List vw_C} {A : Nat → Prop} {sad : Nat → Nat} {ws0 : va_W} {mls mst r : List MV} {h : MH} {ls : Array Slot} {st : List Value}
variable {Ts : List Jvm.Cond} {own : String} {index : Nat}
theorem sn_newI (hx : p.tables.exec = Jvm.exec) (hb : c.code = cc) (harr : (Jvm.Cond.arrayClass .int).before args s = true) (hA : ∀ q, s.heap.size ≤ q → A q) {n : Int} (hF : Fr D cl A sad ws0 s nL H locs mls (qI n :: r) h ls st) (h0 : 0 ≤ n) (hn : n ≤ 4000) (hc : cells + 1 ≤ R.cells) (hs : slots + n.toNat ≤ R.slots) (hd : decode cc pc = .ok (.newarray .int, 2))
    (kk : ∀ (H : Heap) (st : List Value), Fr D cl A sad ws0 s nL H locs mls (qR h.2.1 :: r) (mnew h (cI .int n.toNat (fun _ => 0)) n.toNat) ls st → W p l e R s m args below meth c H locs (cells + 1) (slots + n.toNat) Q (F0 m (pc + 2) ls st)) : W p l e R s m args below meth c H locs cells slots Q (F0 m pc ls st) := by
  obtain ⟨ws, tys, h1, h2, h3, h4, h5, h6, h7, h8⟩ := hF
  obtain ⟨c1, u1, rfl, ⟨n', rfl, hn'⟩, h7_1⟩ := rS_c h7
  refine va_newa (atype := .int) (ty := .int) (N' := n.toNat) (a0 := (n.toNat, .inl (fun _ => 0))) hx hb harr rfl h3 h2 h4 h5 hA (fun _ => rfl) (fun q => by have := Int32.lt_iff_toInt_lt.mp q; rw [hn'] at this; exact absurd this (Int.not_lt.mpr h0)) (cl_of hn' h0) (nb_le (k := 4) rfl (by omega) hn (by decide)) hc hs hd (fun q cA H1 i0 i1 i2 i3 => ?_)
  have hp : rP ws (ws ++ [(q, .inl (cA, (n.toNat, .inl (fun _ => 0))))]) := rP.app
  have hl : (ws ++ [(q, (.inl (cA, (n.toNat, .inl (fun _ => 0))) : va_E))])[h.2.1]? = some (q, .inl (cA, (n.toNat, .inl (fun _ => 0)))) := by rw [h1.1, List.getElem?_append_right (Nat.le_refl _), Nat.sub_self]; rfl
  exact kk H1 _ ⟨_, _, h1.push (fun _ z => List.mem_append_left _ z) ⟨cA, _, rfl, fun _ => rfl, List.mem_append_right _ List.mem_cons_self⟩, i1, i0, i2, i3, h6.up hp, ⟨⟨q, _, rfl, hl⟩, h7_1.up hp⟩, h8.tr hp⟩
theorem sn_newB (hx : p.tables.exec = Jvm.exec) (hb : c.code = cc) (harr : (Jvm.Cond.arrayClass .byte).before args s = true) (hA : ∀ q, s.heap.size ≤ q → A q) {n : Int} (hF : Fr D cl A sad ws0 s nL H locs mls (qI n :: r) h ls st) (h0 : 0 ≤ n) (hn : n ≤ 4000) (hc : cells + 1 ≤ R.cells) (hs : slots + n.toNat ≤ R.slots) (hd : decode cc pc = .ok (.newarray .byte, 2))
    (kk : ∀ (H : Heap) (st : List Value), Fr D cl A sad ws0 s nL H locs mls (qR h.2.1 :: r) (mnew h (cI .byte n.toNat (fun _ => 0)) n.toNat) ls st → W p l e R s m args below meth c H locs (cells + 1) (slots + n.toNat) Q (F0 m (pc + 2) ls st)) : W p l e R s m args below meth c H locs cells slots Q (F0 m pc ls st) := by
  obtain ⟨ws, tys, h1, h2, h3, h4, h5, h6, h7, h8⟩ := hF
  obtain ⟨c1, u1, rfl, ⟨n', rfl, hn'⟩, h7_1⟩ := rS_c h7
  refine va_newa (atype := .byte) (ty := .byte) (N' := n.toNat) (a0 := (n.toNat, .inl (fun _ => 0))) hx hb harr rfl h3 h2 h4 h5 hA (fun _ => rfl) (fun q => by have := Int32.lt_iff_toInt_lt.mp q; rw [hn'] at this; exact absurd this (Int.not_lt.mpr h0)) (cl_of hn' h0) (nb_le (k := 1) rfl (by omega) hn (by decide)) hc hs hd (fun q cA H1 i0 i1 i2 i3 => ?_)
  have hp : rP ws (ws ++ [(q, .inl (cA, (n.toNat, .inl (fun _ => 0))))]) := rP.app
  have hl : (ws ++ [(q, (.inl (cA, (n.toNat, .inl (fun _ => 0))) : va_E))])[h.2.1]? = some (q, .inl (cA, (n.toNat, .inl (fun _ => 0)))) := by rw [h1.1, List.getElem?_append_right (Nat.le_refl _), Nat.sub_self]; rfl
  exact kk H1 _ ⟨_, _, h1.push (fun _ z => List.mem_append_left _ z) ⟨cA, _, rfl, fun _ => rfl, List.mem_append_right _ List.mem_cons_self⟩, i1, i0, i2, i3, h6.up hp, ⟨⟨q, _, rfl, hl⟩, h7_1.up hp⟩, h8.tr hp⟩
theorem sn_newZ (hx : p.tables.exec = Jvm.exec) (hb : c.code = cc) (harr : (Jvm.Cond.arrayClass .boolean).before args s = true) (hA : ∀ q, s.heap.size ≤ q → A q) {n : Int} (hF : Fr D cl A sad ws0 s nL H locs mls (qI n :: r) h ls st) (h0 : 0 ≤ n) (hn : n ≤ 4000) (hc : cells + 1 ≤ R.cells) (hs : slots + n.toNat ≤ R.slots) (hd : decode cc pc = .ok (.newarray .boolean, 2))
    (kk : ∀ (H : Heap) (st : List Value), Fr D cl A sad ws0 s nL H locs mls (qR h.2.1 :: r) (mnew h (cI .boolean n.toNat (fun _ => 0)) n.toNat) ls st → W p l e R s m args below meth c H locs (cells + 1) (slots + n.toNat) Q (F0 m (pc + 2) ls st)) : W p l e R s m args below meth c H locs cells slots Q (F0 m pc ls st) := by
  obtain ⟨ws, tys, h1, h2, h3, h4, h5, h6, h7, h8⟩ := hF
  obtain ⟨c1, u1, rfl, ⟨n', rfl, hn'⟩, h7_1⟩ := rS_c h7
  refine va_newa (atype := .boolean) (ty := .boolean) (N' := n.toNat) (a0 := (n.toNat, .inl (fun _ => 0))) hx hb harr rfl h3 h2 h4 h5 hA (fun _ => rfl) (fun q => by have := Int32.lt_iff_toInt_lt.mp q; rw [hn'] at this; exact absurd this (Int.not_lt.mpr h0)) (cl_of hn' h0) (nb_le (k := 1) rfl (by omega) hn (by decide)) hc hs hd (fun q cA H1 i0 i1 i2 i3 => ?_)
  have hp : rP ws (ws ++ [(q, .inl (cA, (n.toNat, .inl (fun _ => 0))))]) := rP.app
  have hl : (ws ++ [(q, (.inl (cA, (n.toNat, .inl (fun _ => 0))) : va_E))])[h.2.1]? = some (q, .inl (cA, (n.toNat, .inl (fun _ => 0)))) := by rw [h1.1, List.getElem?_append_right (Nat.le_refl _), Nat.sub_self]; rfl
  exact kk H1 _ ⟨_, _, h1.push (fun _ z => List.mem_append_left _ z) ⟨cA, _, rfl, fun _ => rfl, List.mem_append_right _ List.mem_cons_self⟩, i1, i0, i2, i3, h6.up hp, ⟨⟨q, _, rfl, hl⟩, h7_1.up hp⟩, h8.tr hp⟩
theorem sn_newL (hx : p.tables.exec = Jvm.exec) (hb : c.code = cc) (harr : (Jvm.Cond.arrayClass .long).before args s = true) (hA : ∀ q, s.heap.size ≤ q → A q) {n : Int} (hF : Fr D cl A sad ws0 s nL H locs mls (qI n :: r) h ls st) (h0 : 0 ≤ n) (hn : n ≤ 4000) (hc : cells + 1 ≤ R.cells) (hs : slots + n.toNat ≤ R.slots) (hd : decode cc pc = .ok (.newarray .long, 2))
    (kk : ∀ (H : Heap) (st : List Value), Fr D cl A sad ws0 s nL H locs mls (qR h.2.1 :: r) (mnew h (cL n.toNat (fun _ => 0)) n.toNat) ls st → W p l e R s m args below meth c H locs (cells + 1) (slots + n.toNat) Q (F0 m (pc + 2) ls st)) : W p l e R s m args below meth c H locs cells slots Q (F0 m pc ls st) := by
  obtain ⟨ws, tys, h1, h2, h3, h4, h5, h6, h7, h8⟩ := hF
  obtain ⟨c1, u1, rfl, ⟨n', rfl, hn'⟩, h7_1⟩ := rS_c h7
  refine va_newa (atype := .long) (ty := .long) (N' := n.toNat) (a0 := (n.toNat, .inr (.inl (fun _ => 0)))) hx hb harr rfl h3 h2 h4 h5 hA (fun _ => rfl) (fun q => by have := Int32.lt_iff_toInt_lt.mp q; rw [hn'] at this; exact absurd this (Int.not_lt.mpr h0)) (cl_of hn' h0) (nb_le (k := 8) rfl (by omega) hn (by decide)) hc hs hd (fun q cA H1 i0 i1 i2 i3 => ?_)
  have hp : rP ws (ws ++ [(q, .inl (cA, (n.toNat, .inr (.inl (fun _ => 0)))))]) := rP.app
  have hl : (ws ++ [(q, (.inl (cA, (n.toNat, .inr (.inl (fun _ => 0)))) : va_E))])[h.2.1]? = some (q, .inl (cA, (n.toNat, .inr (.inl (fun _ => 0))))) := by rw [h1.1, List.getElem?_append_right (Nat.le_refl _), Nat.sub_self]; rfl
  exact kk H1 _ ⟨_, _, h1.push (fun _ z => List.mem_append_left _ z) ⟨cA, _, rfl, fun _ => rfl, List.mem_append_right _ List.mem_cons_self⟩, i1, i0, i2, i3, h6.up hp, ⟨⟨q, _, rfl, hl⟩, h7_1.up hp⟩, h8.tr hp⟩
theorem sn_newQ (hx : p.tables.exec = Jvm.exec) (hb : c.code = cc) (hown : s.vm.findClass own = some m.cls) {C : String} (hclk : (Jvm.Cond.classLink own index C).before args s = true) (hov : va_AO C s) (hA : ∀ q, s.heap.size ≤ q → A q) {n : Int} (hF : Fr D cl A sad ws0 s nL H locs mls (qI n :: r) h ls st) (h0 : 0 ≤ n) (hn : n ≤ 4000) (hc : cells + 1 ≤ R.cells) (hs : slots + n.toNat ≤ R.slots) (hd : decode cc pc = .ok (.anewarray index, 3))
    (kk : ∀ (H : Heap) (st : List Value), Fr D cl A sad ws0 s nL H locs mls (qR h.2.1 :: r) (mnew h (cQ (.object C) n.toNat (fun _ => qN)) n.toNat) ls st → W p l e R s m args below meth c H locs (cells + 1) (slots + n.toNat) Q (F0 m (pc + 3) ls st)) : W p l e R s m args below meth c H locs cells slots Q (F0 m pc ls st) := by
  obtain ⟨ws, tys, h1, h2, h3, h4, h5, h6, h7, h8⟩ := hF
  obtain ⟨c1, u1, rfl, ⟨n', rfl, hn'⟩, h7_1⟩ := rS_c h7
  refine va_newq (N' := n.toNat) hx hb hown hclk hov h3 h2 h4 h5 hA (fun q => by have := Int32.lt_iff_toInt_lt.mp q; rw [hn'] at this; exact absurd this (Int.not_lt.mpr h0)) (cl_of hn' h0) (nb_le (k := 4) rfl (by omega) hn (by decide)) hc hs hd (fun q cA H1 i0 i1 i2 i3 => ?_)
  have hp : rP ws (ws ++ [(q, .inl (cA, n.toNat, .inr (.inr (.inr (.inr (fun _ => none))))))]) := rP.app
  have hl : (ws ++ [(q, (.inl (cA, n.toNat, .inr (.inr (.inr (.inr (fun _ => none))))) : va_E))])[h.2.1]? = some (q, .inl (cA, n.toNat, .inr (.inr (.inr (.inr (fun _ => none)))))) := by rw [h1.1, List.getElem?_append_right (Nat.le_refl _), Nat.sub_self]; rfl
  exact kk H1 _ ⟨_, _, h1.push (fun _ z => List.mem_append_left _ z) ⟨cA, (fun _ => none), rfl, fun _ => (rfl : Value.null = Value.null), List.mem_append_right _ List.mem_cons_self⟩, i1, i0, i2, i3, h6.up hp, ⟨⟨q, _, rfl, hl⟩, h7_1.up hp⟩, h8.tr hp⟩
theorem sn_new (hx : p.tables.exec = Jvm.exec) (hb : c.code = cc) (hts : ∀ w ∈ Ts, w.before args s = true) (hcl : ClsOK cl Ts) (hown : s.vm.findClass own = some m.cls) {ci : Nat} {q : vw_C} (hc : cl[ci]? = some q) (hclk : (Jvm.Cond.classLink own index q.1).before args s = true) (hins : (Jvm.Cond.instantiable q.1 q.2.2).before args s = true) (hini : (Jvm.Cond.initialized q.1).before args s = true) (hA : ∀ q, s.heap.size ≤ q → A q)
    {g : List Nat} (hg : g.length = q.2.2) (hdv : ∀ j, j < q.2.2 → (parseFieldDescriptor (q.2.1 j).2.2.1).map defaultValue = some (vp_V (mval g) j)) (hF : Fr D cl A sad ws0 s nL H locs mls mst h ls st) (hcc : cells + 1 ≤ R.cells) (hss : slots + g.length ≤ R.slots) (hd : decode cc pc = .ok (.new index, 3))
    (kk : ∀ (H : Heap) (st : List Value), Fr D cl A sad ws0 s nL H locs mls (qR h.2.1 :: mst) (mnew h (cO ci (mdef g)) g.length) ls st → W p l e R s m args below meth c H locs (cells + 1) (slots + g.length) Q (F0 m (pc + 3) ls st)) : W p l e R s m args below meth c H locs cells slots Q (F0 m pc ls st) := by
  obtain ⟨ws, tys, h1, h2, h3, h4, h5, h6, h7, h8⟩ := hF
  obtain ⟨C, T, N⟩ := q
  obtain ⟨k1, ⟨ty0, k2⟩, k3⟩ := hcl ci _ hc
  subst hg
  refine va_new (fs := mval g) hx hb hts k1 ty0 k2 hown hclk hins hini h3 h2 h4 h5 hA hc (fun j hj => ?_) hcc hss hd (fun q H1 i1 i2 i3 => ?_)
  · have := hdv j hj
    rw [k2 j hj] at this
    exact Option.some.inj this
  · have hp : rP ws (ws ++ [(q, .inr (ci, mval g))]) := rP.app
    have hl : (ws ++ [(q, (.inr (ci, mval g) : va_E))])[h.2.1]? = some (q, .inr (ci, mval g)) := by rw [h1.1, List.getElem?_append_right (Nat.le_refl _), Nat.sub_self]; rfl
    exact kk H1 _ ⟨_, tys, h1.push (fun _ z => z) ⟨_, rfl, mdef_rel g⟩, i1, h3, i2, i3, h6.up hp, ⟨⟨q, _, rfl, hl⟩, h7.up hp⟩, h8.tr hp⟩
theorem sn_copy (hx : p.tables.exec = Jvm.exec) (hb : c.code = cc) (hml : c.maxLocals = nL) (hown : s.vm.findClass own = some m.cls) (hlink : (Jvm.Cond.methodLink own index arraycopyName).before args s = true) (hnat : (Jvm.Cond.native arraycopyName).before args s = true) (hstat : (Jvm.Cond.static arraycopyName).before args s = true) (hini : (Jvm.Cond.initialized "java/lang/System").before args s = true)
    {a b n0 n1 : Nat} {f g : Nat → Int} {sp dp n : Int} (hF : Fr D cl A sad ws0 s nL H locs mls (qI n :: qI dp :: qR b :: qI sp :: qR a :: r) h ls st) (ha : h.1 a = cI .int n0 f) (hb9 : h.1 b = cI .int n1 g) (hab : a ≠ b) (p1 : 0 ≤ sp) (p2 : 0 ≤ dp) (p3 : 0 ≤ n) (p4 : sp + n ≤ (n0 : Int)) (p5 : dp + n ≤ (n1 : Int)) (hgt8 : hgt r ≤ 8) (hR1 : 1 ≤ R.frames) (hR2 : 100 ≤ R.locals) (hd : decode cc pc = .ok (.invokestatic index, 3))
    (kk : ∀ (H : Heap) (locs : List Loc) (st : List Value), Fr D cl A sad ws0 s nL H locs mls r (mset h b (cI .int n1 (fun j => if dp.toNat ≤ j ∧ j < dp.toNat + n.toNat then f (sp.toNat + (j - dp.toNat)) else g j))) ls st → W p l e R s m args below meth c H locs cells slots Q (F0 m (pc + 3) ls st)) : W p l e R s m args below meth c H locs cells slots Q (F0 m pc ls st) := by
  obtain ⟨ws, tys, h1, h2, h3, h4, h5, h6, h7, h8⟩ := hF
  obtain ⟨c1, u1, rfl, ⟨n', rfl, hn'⟩, h7_1⟩ := rS_c h7
  obtain ⟨c2, u2, rfl, ⟨dp', rfl, hdp'⟩, h7_2⟩ := rS_c h7_1
  obtain ⟨c3, u3, rfl, ⟨bb, eb, rfl, hwb⟩, h7_3⟩ := rS_c h7_2
  obtain ⟨c4, u4, rfl, ⟨sp', rfl, hsp'⟩, h7_4⟩ := rS_c h7_3
  obtain ⟨c5, u5, rfl, ⟨ba, ea, rfl, hwa⟩, h7_5⟩ := rS_c h7_4
  have hra := h1.2 a _ hwa
  rw [ha] at hra
  obtain ⟨cA, ga, rfl, ga1, ga2⟩ := hra
  obtain ⟨t0, ga3⟩ := mem_at ga2
  have hrb := h1.2 b _ hwb
  rw [hb9] at hrb
  obtain ⟨cB, gb, rfl, gb1, gb2⟩ := hrb
  obtain ⟨t1, gb3⟩ := mem_at gb2
  have neg : ∀ {x : Int32} {i : Int}, x.toInt = i → 0 ≤ i → ¬ x < 0 := fun hx0 h0 q => by have := Int32.lt_iff_toInt_lt.mp q; rw [hx0] at this; exact absurd this (Int.not_lt.mpr h0)
  refine va_copyi hx hb (hml.trans h6.1.symm) hown hlink hnat hstat hini h3 h2 h4 h5 a b t0 t1 hwa hwb ga3 gb3 rfl (neg hsp' p1) (neg hdp' p2) (neg hn' p3) (by rw [cl_of hsp' p1, cl_of hn' p3]; omega) (by rw [cl_of hdp' p2, cl_of hn' p3]; omega) (fun _ _ => rfl) hR1 (by rw [rS_hgt h7_5]; exact Nat.le_trans (Nat.add_le_add_right hgt8 _) (Nat.le_trans (by decide) hR2)) hd (fun H1 locs1 i1 i2 i3 => ?_)
  have hp := rP.set (e' := .inl (cB, n1, .inl (va_cpy ga gb sp'.toNatClampNeg dp'.toNatClampNeg n'.toNatClampNeg))) hwb
  refine kk H1 locs1 _ ⟨_, tys, h1.set hwb ⟨cB, _, rfl, fun j => ?_, gb2⟩, i1, h3, i2, i3, h6.up hp, h7_5.up hp, h8.tr hp⟩
  rw [cl_of hsp' p1, cl_of hdp' p2, cl_of hn' p3]
  unfold va_cpy
  by_cases hj : dp.toNat ≤ j ∧ j < dp.toNat + n.toNat
  · simp only [if_pos hj]
    exact ga1 _
  · simp only [if_neg hj]
    exact gb1 j
theorem max_rel {x y : Int32} {a b : Int} (hx : x.toInt = a) (hy : y.toInt = b) : (if x < y then y else x).toInt = max a b := by
  have e : x < y ↔ a < b := by rw [Int32.lt_iff_toInt_lt, hx, hy]
  by_cases q : a < b
  · rw [if_pos (e.mpr q), hy]; omega
  · rw [if_neg (fun z => q (e.mp z)), hx]; omega
theorem min_rel {x y : Int32} {a b : Int} (hx : x.toInt = a) (hy : y.toInt = b) : (if y < x then y else x).toInt = min a b := by
  have e : y < x ↔ b < a := by rw [Int32.lt_iff_toInt_lt, hx, hy]
  by_cases q : b < a
  · rw [if_pos (e.mpr q), hy]; omega
  · rw [if_neg (fun z => q (e.mp z)), hx]; omega
theorem sn_max (hx : p.tables.exec = Jvm.exec) (hb : c.code = cc) (hml : c.maxLocals = nL) (hown : s.vm.findClass own = some m.cls) (hlink : (Jvm.Cond.methodLink own index Lib.Math.max.name).before args s = true) (hstat : (Jvm.Cond.static Lib.Math.max.name).before args s = true) (hini : (Jvm.Cond.initialized "java/lang/Math").before args s = true) (hcode : (Jvm.Cond.code Lib.Math.max.name Lib.Math.max.code 2 (some .int)).before args s = true) (hR1 : 1 ≤ R.frames) (hR2 : 100 ≤ R.locals) (hc : cells ≤ R.cells) (hs : slots ≤ R.slots)
    {x y : Int} (hF : Fr D cl A sad ws0 s nL H locs mls (qI y :: qI x :: r) h ls st) (hg : hgt r ≤ 8) (hd : decode cc pc = .ok (.invokestatic index, 3))
    (kk : ∀ st : List Value, Fr D cl A sad ws0 s nL H locs mls (qI (max x y) :: r) h ls st → W p l e R s m args below meth c H locs cells slots Q (F0 m (pc + 3) ls st)) : W p l e R s m args below meth c H locs cells slots Q (F0 m pc ls st) := by
  obtain ⟨ws, tys, h1, h2, h3, h4, h5, h6, h7, h8⟩ := hF
  obtain ⟨c1, u1, rfl, ⟨y', rfl, hy'⟩, h7_1⟩ := rS_c h7
  obtain ⟨c2, u2, rfl, ⟨x', rfl, hx'⟩, h7_2⟩ := rS_c h7_1
  exact va_mmax hx hb (hml.trans h6.1.symm) hown hlink hstat hini hcode hR1 (by rw [rS_hgt h7_2]; omega) hc hs hd (kk _ ⟨ws, tys, h1, h2, h3, h4, h5, h6, ⟨⟨_, rfl, max_rel hx' hy'⟩, h7_2⟩, h8⟩)
theorem sn_min (hx : p.tables.exec = Jvm.exec) (hb : c.code = cc) (hml : c.maxLocals = nL) (hown : s.vm.findClass own = some m.cls) (hlink : (Jvm.Cond.methodLink own index Lib.Math.min.name).before args s = true) (hstat : (Jvm.Cond.static Lib.Math.min.name).before args s = true) (hini : (Jvm.Cond.initialized "java/lang/Math").before args s = true) (hcode : (Jvm.Cond.code Lib.Math.min.name Lib.Math.min.code 2 (some .int)).before args s = true) (hR1 : 1 ≤ R.frames) (hR2 : 100 ≤ R.locals) (hc : cells ≤ R.cells) (hs : slots ≤ R.slots)
    {x y : Int} (hF : Fr D cl A sad ws0 s nL H locs mls (qI y :: qI x :: r) h ls st) (hg : hgt r ≤ 8) (hd : decode cc pc = .ok (.invokestatic index, 3))
    (kk : ∀ st : List Value, Fr D cl A sad ws0 s nL H locs mls (qI (min x y) :: r) h ls st → W p l e R s m args below meth c H locs cells slots Q (F0 m (pc + 3) ls st)) : W p l e R s m args below meth c H locs cells slots Q (F0 m pc ls st) := by
  obtain ⟨ws, tys, h1, h2, h3, h4, h5, h6, h7, h8⟩ := hF
  obtain ⟨c1, u1, rfl, ⟨y', rfl, hy'⟩, h7_1⟩ := rS_c h7
  obtain ⟨c2, u2, rfl, ⟨x', rfl, hx'⟩, h7_2⟩ := rS_c h7_1
  exact va_mmin hx hb (hml.trans h6.1.symm) hown hlink hstat hini hcode hR1 (by rw [rS_hgt h7_2]; omega) hc hs hd (kk _ ⟨ws, tys, h1, h2, h3, h4, h5, h6, ⟨⟨_, rfl, min_rel hx' hy'⟩, h7_2⟩, h8⟩)
theorem sn_oinit (hx : p.tables.exec = Jvm.exec) (hb : c.code = cc) (hml : c.maxLocals = nL) (hown : s.vm.findClass own = some m.cls) (hlink : (Jvm.Cond.methodLink own index Lib.objectInit).before args s = true) (hinst : (Jvm.Cond.instanceMethod Lib.objectInit).before args s = true) (hcode : (Jvm.Cond.code Lib.objectInit ⟨#[0xb1]⟩ 1 none).before args s = true) (hR1 : 1 ≤ R.frames) (hR2 : 100 ≤ R.locals)
    {a : Nat} (hF : Fr D cl A sad ws0 s nL H locs mls (qR a :: r) h ls st) (hg : hgt r ≤ 8) (hd : decode cc pc = .ok (.invokespecial index, 3))
    (kk : ∀ st : List Value, Fr D cl A sad ws0 s nL H locs mls r h ls st → W p l e R s m args below meth c H locs cells slots Q (F0 m (pc + 3) ls st)) : W p l e R s m args below meth c H locs cells slots Q (F0 m pc ls st) := by
  obtain ⟨ws, tys, h1, h2, h3, h4, h5, h6, h7, h8⟩ := hF
  obtain ⟨c1, u1, rfl, ⟨b, e9, rfl, hw⟩, h7_1⟩ := rS_c h7
  refine W.objInit hx hb hown hlink hinst hcode rfl (h6.1.trans hml.symm) rfl hd hR1 ?_ (kk _ ⟨ws, tys, h1, h2, h3, h4, h5, h6, h7_1, h8⟩)
  rw [rS_hgt h7_1]
  show 2 * 0 + _ + 12 ≤ _
  omega
theorem sn_copyB (hx : p.tables.exec = Jvm.exec) (hb : c.code = cc) (hml : c.maxLocals = nL) (hown : s.vm.findClass own = some m.cls) (hlink : (Jvm.Cond.methodLink own index arraycopyName).before args s = true) (hnat : (Jvm.Cond.native arraycopyName).before args s = true) (hstat : (Jvm.Cond.static arraycopyName).before args s = true) (hini : (Jvm.Cond.initialized "java/lang/System").before args s = true)
    {a b n0 n1 : Nat} {f g : Nat → Int} {sp dp n : Int} (hF : Fr D cl A sad ws0 s nL H locs mls (qI n :: qI dp :: qR b :: qI sp :: qR a :: r) h ls st) (ha : h.1 a = cI .boolean n0 f) (hb9 : h.1 b = cI .boolean n1 g) (h01 : ∀ i, i < n.toNat → f (sp.toNat + i) = 0 ∨ f (sp.toNat + i) = 1) (hab : a ≠ b) (p1 : 0 ≤ sp) (p2 : 0 ≤ dp) (p3 : 0 ≤ n) (p4 : sp + n ≤ (n0 : Int)) (p5 : dp + n ≤ (n1 : Int)) (hgt8 : hgt r ≤ 8) (hR1 : 1 ≤ R.frames) (hR2 : 100 ≤ R.locals) (hd : decode cc pc = .ok (.invokestatic index, 3))
    (kk : ∀ (H : Heap) (locs : List Loc) (st : List Value), Fr D cl A sad ws0 s nL H locs mls r (mset h b (cI .boolean n1 (fun j => if dp.toNat ≤ j ∧ j < dp.toNat + n.toNat then f (sp.toNat + (j - dp.toNat)) else g j))) ls st → W p l e R s m args below meth c H locs cells slots Q (F0 m (pc + 3) ls st)) : W p l e R s m args below meth c H locs cells slots Q (F0 m pc ls st) := by
  obtain ⟨ws, tys, h1, h2, h3, h4, h5, h6, h7, h8⟩ := hF
  obtain ⟨c1, u1, rfl, ⟨n', rfl, hn'⟩, h7_1⟩ := rS_c h7
  obtain ⟨c2, u2, rfl, ⟨dp', rfl, hdp'⟩, h7_2⟩ := rS_c h7_1
  obtain ⟨c3, u3, rfl, ⟨bb, eb, rfl, hwb⟩, h7_3⟩ := rS_c h7_2
  obtain ⟨c4, u4, rfl, ⟨sp', rfl, hsp'⟩, h7_4⟩ := rS_c h7_3
  obtain ⟨c5, u5, rfl, ⟨ba, ea, rfl, hwa⟩, h7_5⟩ := rS_c h7_4
  have hra := h1.2 a _ hwa
  rw [ha] at hra
  obtain ⟨cA, ga, rfl, ga1, ga2⟩ := hra
  obtain ⟨t0, ga3⟩ := mem_at ga2
  have hrb := h1.2 b _ hwb
  rw [hb9] at hrb
  obtain ⟨cB, gb, rfl, gb1, gb2⟩ := hrb
  obtain ⟨t1, gb3⟩ := mem_at gb2
  have neg : ∀ {x : Int32} {i : Int}, x.toInt = i → 0 ≤ i → ¬ x < 0 := fun hx0 h0 q => by have := Int32.lt_iff_toInt_lt.mp q; rw [hx0] at this; exact absurd this (Int.not_lt.mpr h0)
  refine va_copyi hx hb (hml.trans h6.1.symm) hown hlink hnat hstat hini h3 h2 h4 h5 a b t0 t1 hwa hwb ga3 gb3 rfl (neg hsp' p1) (neg hdp' p2) (neg hn' p3) (by rw [cl_of hsp' p1, cl_of hn' p3]; omega) (by rw [cl_of hdp' p2, cl_of hn' p3]; omega) (fun i hi => by
    rw [cl_of hn' p3] at hi
    rw [cl_of hsp' p1]
    have h3 := ga1 (sp.toNat + i)
    show (ga (sp.toNat + i) == 0 || ga (sp.toNat + i) == 1) = true
    rcases h01 i hi with h4 | h4
    · have h5 : ga (sp.toNat + i) = 0 := Int32.toInt_inj.mp (by rw [h3, h4]; rfl)
      rw [h5]
      rfl
    · have h5 : ga (sp.toNat + i) = 1 := Int32.toInt_inj.mp (by rw [h3, h4]; rfl)
      rw [h5]
      rfl) hR1 (by rw [rS_hgt h7_5]; exact Nat.le_trans (Nat.add_le_add_right hgt8 _) (Nat.le_trans (by decide) hR2)) hd (fun H1 locs1 i1 i2 i3 => ?_)
  have hp := rP.set (e' := .inl (cB, n1, .inl (va_cpy ga gb sp'.toNatClampNeg dp'.toNatClampNeg n'.toNatClampNeg))) hwb
  refine kk H1 locs1 _ ⟨_, tys, h1.set hwb ⟨cB, _, rfl, fun j => ?_, gb2⟩, i1, h3, i2, i3, h6.up hp, h7_5.up hp, h8.tr hp⟩
  rw [cl_of hsp' p1, cl_of hdp' p2, cl_of hn' p3]
  unfold va_cpy
  by_cases hj : dp.toNat ≤ j ∧ j < dp.toNat + n.toNat
  · simp only [if_pos hj]
    exact ga1 _
  · simp only [if_neg hj]
    exact gb1 j
end SN5
