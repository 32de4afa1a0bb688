/-! ===== ONE RULE AN INSTRUCTION: rows ===== -/
theorem nar_b {x : Int32} {v : Int} (hv : x.toInt = v) (h0 : -128 ≤ v) (h1 : v ≤ 127) : (vp_nar .byte x).toInt = v := by
  rw [vp_nar_byte, Int8.toInt_toInt32, Int32.toInt_toInt8, hv]
  rw [Int.bmod_def]
  split <;> omega
theorem nar_z {x : Int32} {v : Int} (hv : x.toInt = v) (h0 : 0 ≤ v) (h1 : v ≤ 1) : (vp_nar .boolean x).toInt = v := by
  rcases (show v = 0 ∨ v = 1 by omega) with rfl | rfl
  · obtain rfl : x = 0 := Int32.toInt_inj.mp hv
    rfl
  · obtain rfl : x = 1 := Int32.toInt_inj.mp hv
    rfl
theorem arrV_get {cA : ClassId} {n : Nat} {g : Nat → Option Nat} {x : Int32} (h : vp_in x n) : (arrV cA n (fun j => va_rf (g j))).slots[x.toNatClampNeg]? = some (va_rf (g x.toNatClampNeg)) := by
  have h2 : x.toNatClampNeg < n := by
    have := vp_in_iff.mp h
    show x.toInt.toNat < n
    omega
  simp [arrV, h2]
section SN4
variable {p : Program} {l : Launch} {e : Env} {R : Room} {s : State} {m : MethodId} {args : Array Value} {below : List Frame} {meth : Method} {c : Code} {H : Heap} {locs : List Loc} {cells slots : Nat} {Q : State → Prop}
variable {cc : ByteArray} {pc nL : Nat} {D : va_G} {cl : List vw_C} {A : Nat → Prop} {sad : Nat → Nat} {ws0 : va_W} {mls mst r : List MV} {h : MH} {ls : Array Slot} {st : List Value}
variable {Ts : List Jvm.Cond} {own : String} {index : Nat}
theorem sn_iald (hx : p.tables.exec = Jvm.exec) (hb : c.code = cc) {a n : Nat} {f : Nat → Int} {x : Int} (hF : Fr D cl A sad ws0 s nL H locs mls (qI x :: qR a :: r) h ls st) (ha : h.1 a = cI .int n f) (h0 : 0 ≤ x) (hn : x < (n : Int)) (hd : decode cc pc = .ok (.iaload, 1))
    (kk : ∀ st : List Value, Fr D cl A sad ws0 s nL H locs mls (qI (f x.toNat) :: r) h ls st → W p l e R s m args below meth c H locs cells slots Q (F0 m (pc + 1) ls st)) : W p l e R s m args below meth c H locs cells slots Q (F0 m pc ls st) := by
  obtain ⟨ws, tys, h1, h2, h3, h4, h5, h6, h7, h8⟩ := hF
  obtain ⟨c1, u1, rfl, ⟨x', rfl, hx'⟩, h7_1⟩ := rS_c h7
  obtain ⟨c2, u2, rfl, ⟨b, e9, rfl, hw⟩, h7_2⟩ := rS_c h7_1
  have hr := h1.2 a _ hw
  rw [ha] at hr
  obtain ⟨cA, g, rfl, g1, g2⟩ := hr
  obtain ⟨t0, g3⟩ := mem_at g2
  exact va_iald hx hb h3 h2 a t0 hw g3 (vp_of hx' h0 hn) hd (kk _ ⟨ws, tys, h1, h2, h3, h4, h5, h6, ⟨⟨_, rfl, by rw [cl_of hx' h0]; exact g1 _⟩, h7_2⟩, h8⟩)
theorem sn_bald (hx : p.tables.exec = Jvm.exec) (hb : c.code = cc) {a n : Nat} {f : Nat → Int} {x : Int} (hF : Fr D cl A sad ws0 s nL H locs mls (qI x :: qR a :: r) h ls st) (ha : h.1 a = cI .byte n f) (h0 : 0 ≤ x) (hn : x < (n : Int)) (hd : decode cc pc = .ok (.baload, 1))
    (kk : ∀ st : List Value, Fr D cl A sad ws0 s nL H locs mls (qI (f x.toNat) :: r) h ls st → W p l e R s m args below meth c H locs cells slots Q (F0 m (pc + 1) ls st)) : W p l e R s m args below meth c H locs cells slots Q (F0 m pc ls st) := by
  obtain ⟨ws, tys, h1, h2, h3, h4, h5, h6, h7, h8⟩ := hF
  obtain ⟨c1, u1, rfl, ⟨x', rfl, hx'⟩, h7_1⟩ := rS_c h7
  obtain ⟨c2, u2, rfl, ⟨b, e9, rfl, hw⟩, h7_2⟩ := rS_c h7_1
  have hr := h1.2 a _ hw
  rw [ha] at hr
  obtain ⟨cA, g, rfl, g1, g2⟩ := hr
  obtain ⟨t0, g3⟩ := mem_at g2
  exact va_bald hx hb h3 h2 a t0 hw g3 (vp_of hx' h0 hn) hd (kk _ ⟨ws, tys, h1, h2, h3, h4, h5, h6, ⟨⟨_, rfl, by rw [cl_of hx' h0]; exact g1 _⟩, h7_2⟩, h8⟩)
theorem sn_zald (hx : p.tables.exec = Jvm.exec) (hb : c.code = cc) {a n : Nat} {f : Nat → Int} {x : Int} (hF : Fr D cl A sad ws0 s nL H locs mls (qI x :: qR a :: r) h ls st) (ha : h.1 a = cI .boolean n f) (h0 : 0 ≤ x) (hn : x < (n : Int)) (hd : decode cc pc = .ok (.baload, 1))
    (kk : ∀ st : List Value, Fr D cl A sad ws0 s nL H locs mls (qI (f x.toNat) :: r) h ls st → W p l e R s m args below meth c H locs cells slots Q (F0 m (pc + 1) ls st)) : W p l e R s m args below meth c H locs cells slots Q (F0 m pc ls st) := by
  obtain ⟨ws, tys, h1, h2, h3, h4, h5, h6, h7, h8⟩ := hF
  obtain ⟨c1, u1, rfl, ⟨x', rfl, hx'⟩, h7_1⟩ := rS_c h7
  obtain ⟨c2, u2, rfl, ⟨b, e9, rfl, hw⟩, h7_2⟩ := rS_c h7_1
  have hr := h1.2 a _ hw
  rw [ha] at hr
  obtain ⟨cA, g, rfl, g1, g2⟩ := hr
  obtain ⟨t0, g3⟩ := mem_at g2
  exact va_zald hx hb h3 h2 a t0 hw g3 (vp_of hx' h0 hn) hd (kk _ ⟨ws, tys, h1, h2, h3, h4, h5, h6, ⟨⟨_, rfl, by rw [cl_of hx' h0]; exact g1 _⟩, h7_2⟩, h8⟩)
theorem sn_lald (hx : p.tables.exec = Jvm.exec) (hb : c.code = cc) {a n : Nat} {f : Nat → Int} {x : Int} (hF : Fr D cl A sad ws0 s nL H locs mls (qI x :: qR a :: r) h ls st) (ha : h.1 a = cL n f) (h0 : 0 ≤ x) (hn : x < (n : Int)) (hd : decode cc pc = .ok (.laload, 1))
    (kk : ∀ st : List Value, Fr D cl A sad ws0 s nL H locs mls (qL (f x.toNat) :: r) h ls st → W p l e R s m args below meth c H locs cells slots Q (F0 m (pc + 1) ls st)) : W p l e R s m args below meth c H locs cells slots Q (F0 m pc ls st) := by
  obtain ⟨ws, tys, h1, h2, h3, h4, h5, h6, h7, h8⟩ := hF
  obtain ⟨c1, u1, rfl, ⟨x', rfl, hx'⟩, h7_1⟩ := rS_c h7
  obtain ⟨c2, u2, rfl, ⟨b, e9, rfl, hw⟩, h7_2⟩ := rS_c h7_1
  have hr := h1.2 a _ hw
  rw [ha] at hr
  obtain ⟨cA, g, rfl, g1, g2⟩ := hr
  obtain ⟨t0, g3⟩ := mem_at g2
  exact va_lald hx hb h3 h2 a t0 hw g3 (vp_of hx' h0 hn) hd (kk _ ⟨ws, tys, h1, h2, h3, h4, h5, h6, ⟨⟨_, rfl, by rw [cl_of hx' h0]; exact g1 _⟩, h7_2⟩, h8⟩)
theorem sn_aald (hx : p.tables.exec = Jvm.exec) (hb : c.code = cc) {a n : Nat} {f : Nat → MV} {x : Int} {ty : FieldType} (hty : (∃ C, ty = .object C) ∨ ∃ z, ty = .array z) (hF : Fr D cl A sad ws0 s nL H locs mls (qI x :: qR a :: r) h ls st) (ha : h.1 a = cQ ty n f) (h0 : 0 ≤ x) (hn : x < (n : Int)) (hd : decode cc pc = .ok (.aaload, 1))
    (kk : ∀ st : List Value, Fr D cl A sad ws0 s nL H locs mls (f x.toNat :: r) h ls st → W p l e R s m args below meth c H locs cells slots Q (F0 m (pc + 1) ls st)) : W p l e R s m args below meth c H locs cells slots Q (F0 m pc ls st) := by
  obtain ⟨ws, tys, h1, h2, h3, h4, h5, h6, h7, h8⟩ := hF
  obtain ⟨c1, u1, rfl, ⟨x', rfl, hx'⟩, h7_1⟩ := rS_c h7
  obtain ⟨c2, u2, rfl, ⟨b, e9, rfl, hw⟩, h7_2⟩ := rS_c h7_1
  have hr := h1.2 a _ hw
  rw [ha] at hr
  obtain ⟨cA, g, rfl, g1, g2⟩ := hr
  obtain ⟨t0, g3⟩ := mem_at g2
  have hF2 : Fr D cl A sad ws0 s nL H locs mls (f x.toNat :: r) h ls (va_rf (g x'.toNatClampNeg) :: u2) := ⟨ws, tys, h1, h2, h3, h4, h5, h6, ⟨by rw [cl_of hx' h0]; exact g1 _, h7_2⟩, h8⟩
  refine W.aald hx hb (h2 a _ hw) ((h3.2 t0 _ g3).1 n (fun j => va_rf (g j))) (by rcases hty with ⟨C, rfl⟩ | ⟨z, rfl⟩ <;> rfl) (fun q => by cases q) (by show ¬ (x' < 0 ∨ (arrV _ _ _).slots.size ≤ _); rw [arrV_size]; exact vp_of hx' h0 hn) (v := va_rf (g x'.toNatClampNeg)) ?_ rfl rfl hd (kk _ hF2)
  exact arrV_get (vp_of hx' h0 hn)
theorem sn_iast (hx : p.tables.exec = Jvm.exec) (hb : c.code = cc) {a n : Nat} {f : Nat → Int} {x v : Int} (hF : Fr D cl A sad ws0 s nL H locs mls (qI v :: qI x :: qR a :: r) h ls st) (ha : h.1 a = cI .int n f) (h0 : 0 ≤ x) (hn : x < (n : Int)) (hd : decode cc pc = .ok (.iastore, 1))
    (kk : ∀ (H : Heap) (locs : List Loc) (st : List Value), Fr D cl A sad ws0 s nL H locs mls r (mset h a (cI .int n (mUp f x.toNat v))) ls st → W p l e R s m args below meth c H locs cells slots Q (F0 m (pc + 1) ls st)) : W p l e R s m args below meth c H locs cells slots Q (F0 m pc ls st) := by
  obtain ⟨ws, tys, h1, h2, h3, h4, h5, h6, h7, h8⟩ := hF
  obtain ⟨c0, u0, rfl, ⟨v', rfl, hv'⟩, h7_0⟩ := rS_c h7
  obtain ⟨c1, u1, rfl, ⟨x', rfl, hx'⟩, h7_1⟩ := rS_c h7_0
  obtain ⟨c2, u2, rfl, ⟨b, e9, rfl, hw⟩, h7_2⟩ := rS_c h7_1
  have hr := h1.2 a _ hw
  rw [ha] at hr
  obtain ⟨cA, g, rfl, g1, g2⟩ := hr
  obtain ⟨t0, g3⟩ := mem_at g2
  refine va_iast hx hb h3 h2 h4 h5 a t0 hw g3 (vp_of hx' h0 hn) hd (fun H1 locs1 i1 i2 i3 => ?_)
  have hp := rP.set (e' := .inl (cA, n, .inl (upd g x'.toNatClampNeg v'))) hw
  refine kk H1 locs1 u2 ⟨_, tys, h1.set hw ⟨cA, _, rfl, fun j => ?_, g2⟩, i1, h3, i2, i3, h6.up hp, h7_2.up hp, h8.tr hp⟩
  rw [cl_of hx' h0]
  unfold upd mUp
  split
  · exact hv'
  · exact g1 j
theorem sn_bast (hx : p.tables.exec = Jvm.exec) (hb : c.code = cc) {a n : Nat} {f : Nat → Int} {x v : Int} (hF : Fr D cl A sad ws0 s nL H locs mls (qI v :: qI x :: qR a :: r) h ls st) (ha : h.1 a = cI .byte n f) (h0 : 0 ≤ x) (hn : x < (n : Int)) (hr0 : -128 ≤ v) (hr1 : v ≤ 127) (hd : decode cc pc = .ok (.bastore, 1))
    (kk : ∀ (H : Heap) (locs : List Loc) (st : List Value), Fr D cl A sad ws0 s nL H locs mls r (mset h a (cI .byte n (mUp f x.toNat v))) ls st → W p l e R s m args below meth c H locs cells slots Q (F0 m (pc + 1) ls st)) : W p l e R s m args below meth c H locs cells slots Q (F0 m pc ls st) := by
  obtain ⟨ws, tys, h1, h2, h3, h4, h5, h6, h7, h8⟩ := hF
  obtain ⟨c0, u0, rfl, ⟨v', rfl, hv'⟩, h7_0⟩ := rS_c h7
  obtain ⟨c1, u1, rfl, ⟨x', rfl, hx'⟩, h7_1⟩ := rS_c h7_0
  obtain ⟨c2, u2, rfl, ⟨b, e9, rfl, hw⟩, h7_2⟩ := rS_c h7_1
  have hr := h1.2 a _ hw
  rw [ha] at hr
  obtain ⟨cA, g, rfl, g1, g2⟩ := hr
  obtain ⟨t0, g3⟩ := mem_at g2
  refine va_bast hx hb h3 h2 h4 h5 a t0 hw g3 (vp_of hx' h0 hn) hd (fun H1 locs1 i1 i2 i3 => ?_)
  have hp := rP.set (e' := .inl (cA, n, .inl (upd g x'.toNatClampNeg (vp_nar .byte v')))) hw
  refine kk H1 locs1 u2 ⟨_, tys, h1.set hw ⟨cA, _, rfl, fun j => ?_, g2⟩, i1, h3, i2, i3, h6.up hp, h7_2.up hp, h8.tr hp⟩
  rw [cl_of hx' h0]
  unfold upd mUp
  split
  · exact nar_b hv' hr0 hr1
  · exact g1 j
theorem sn_zast (hx : p.tables.exec = Jvm.exec) (hb : c.code = cc) {a n : Nat} {f : Nat → Int} {x v : Int} (hF : Fr D cl A sad ws0 s nL H locs mls (qI v :: qI x :: qR a :: r) h ls st) (ha : h.1 a = cI .boolean n f) (h0 : 0 ≤ x) (hn : x < (n : Int)) (hr0 : 0 ≤ v) (hr1 : v ≤ 1) (hd : decode cc pc = .ok (.bastore, 1))
    (kk : ∀ (H : Heap) (locs : List Loc) (st : List Value), Fr D cl A sad ws0 s nL H locs mls r (mset h a (cI .boolean n (mUp f x.toNat v))) ls st → W p l e R s m args below meth c H locs cells slots Q (F0 m (pc + 1) ls st)) : W p l e R s m args below meth c H locs cells slots Q (F0 m pc ls st) := by
  obtain ⟨ws, tys, h1, h2, h3, h4, h5, h6, h7, h8⟩ := hF
  obtain ⟨c0, u0, rfl, ⟨v', rfl, hv'⟩, h7_0⟩ := rS_c h7
  obtain ⟨c1, u1, rfl, ⟨x', rfl, hx'⟩, h7_1⟩ := rS_c h7_0
  obtain ⟨c2, u2, rfl, ⟨b, e9, rfl, hw⟩, h7_2⟩ := rS_c h7_1
  have hr := h1.2 a _ hw
  rw [ha] at hr
  obtain ⟨cA, g, rfl, g1, g2⟩ := hr
  obtain ⟨t0, g3⟩ := mem_at g2
  refine va_zast hx hb h3 h2 h4 h5 a t0 hw g3 (vp_of hx' h0 hn) hd (fun H1 locs1 i1 i2 i3 => ?_)
  have hp := rP.set (e' := .inl (cA, n, .inl (upd g x'.toNatClampNeg (vp_nar .boolean v')))) hw
  refine kk H1 locs1 u2 ⟨_, tys, h1.set hw ⟨cA, _, rfl, fun j => ?_, g2⟩, i1, h3, i2, i3, h6.up hp, h7_2.up hp, h8.tr hp⟩
  rw [cl_of hx' h0]
  unfold upd mUp
  split
  · exact nar_z hv' hr0 hr1
  · exact g1 j
theorem sn_last (hx : p.tables.exec = Jvm.exec) (hb : c.code = cc) {a n : Nat} {f : Nat → Int} {x v : Int} (hF : Fr D cl A sad ws0 s nL H locs mls (qL v :: qI x :: qR a :: r) h ls st) (ha : h.1 a = cL n f) (h0 : 0 ≤ x) (hn : x < (n : Int)) (hd : decode cc pc = .ok (.lastore, 1))
    (kk : ∀ (H : Heap) (locs : List Loc) (st : List Value), Fr D cl A sad ws0 s nL H locs mls r (mset h a (cL n (mUp f x.toNat v))) ls st → W p l e R s m args below meth c H locs cells slots Q (F0 m (pc + 1) ls st)) : W p l e R s m args below meth c H locs cells slots Q (F0 m pc ls st) := by
  obtain ⟨ws, tys, h1, h2, h3, h4, h5, h6, h7, h8⟩ := hF
  obtain ⟨c0, u0, rfl, ⟨v', rfl, hv'⟩, h7_0⟩ := rS_c h7
  obtain ⟨c1, u1, rfl, ⟨x', rfl, hx'⟩, h7_1⟩ := rS_c h7_0
  obtain ⟨c2, u2, rfl, ⟨b, e9, rfl, hw⟩, h7_2⟩ := rS_c h7_1
  have hr := h1.2 a _ hw
  rw [ha] at hr
  obtain ⟨cA, g, rfl, g1, g2⟩ := hr
  obtain ⟨t0, g3⟩ := mem_at g2
  refine va_last hx hb h3 h2 h4 h5 a t0 hw g3 (vp_of hx' h0 hn) hd (fun H1 locs1 i1 i2 i3 => ?_)
  have hp := rP.set (e' := .inl (cA, n, .inr (.inl (vp_updL g x'.toNatClampNeg v')))) hw
  refine kk H1 locs1 u2 ⟨_, tys, h1.set hw ⟨cA, _, rfl, fun j => ?_, g2⟩, i1, h3, i2, i3, h6.up hp, h7_2.up hp, h8.tr hp⟩
  rw [cl_of hx' h0]
  unfold vp_updL mUp
  split
  · exact hv'
  · exact g1 j
theorem sn_aast (hx : p.tables.exec = Jvm.exec) (hb : c.code = cc) {a n v : Nat} {f : Nat → MV} {x : Int} {E : String} (hO : va_O E (sad v) A s s.heap) (h9 : v ≠ 999) (hasg : ∀ comp c0 : ClassId, s.vm.findClass E = some comp → s.vm.findClass E = some c0 → s.vm.assignable c0 comp = true) (hF : Fr D cl A sad ws0 s nL H locs mls (qS v :: qI x :: qR a :: r) h ls st) (ha : h.1 a = cQ (.object E) n f) (h0 : 0 ≤ x) (hn : x < (n : Int)) (hd : decode cc pc = .ok (.aastore, 1))
    (kk : ∀ (H : Heap) (locs : List Loc) (st : List Value), Fr D cl A sad ws0 s nL H locs mls r (mset h a (cQ (.object E) n (mUp f x.toNat (qS v)))) ls st → W p l e R s m args below meth c H locs cells slots Q (F0 m (pc + 1) ls st)) : W p l e R s m args below meth c H locs cells slots Q (F0 m pc ls st) := by
  obtain ⟨ws, tys, h1, h2, h3, h4, h5, h6, h7, h8⟩ := hF
  obtain ⟨c0, u0, rfl, ⟨v', rfl, hv'⟩, h7_0⟩ := rS_c h7
  obtain ⟨c1, u1, rfl, ⟨x', rfl, hx'⟩, h7_1⟩ := rS_c h7_0
  obtain ⟨c2, u2, rfl, ⟨b, e9, rfl, hw⟩, h7_2⟩ := rS_c h7_1
  obtain rfl := hv'.resolve_left h9
  have hr := h1.2 a _ hw
  rw [ha] at hr
  obtain ⟨cA, g, rfl, g1, g2⟩ := hr
  obtain ⟨t0, g3⟩ := mem_at g2
  obtain ⟨cell, o1, o2, o3, -⟩ := hO.kept h5.2.1
  refine vb_astq hx hb h3 h2 h4 h5 a t0 hw g3 ⟨cell, o1, o2, o3⟩ hasg (vp_of hx' h0 hn) hd (fun H1 locs1 i1 i2 i3 => ?_)
  have hp := rP.set (e' := .inl (cA, n, .inr (.inr (.inr (.inr (va_up g x'.toNatClampNeg (some (sad v)))))))) hw
  refine kk H1 locs1 u2 ⟨_, tys, h1.set hw ⟨cA, _, rfl, fun j => ?_, g2⟩, i1, h3, i2, i3, h6.up hp, h7_2.up hp, h8.tr hp⟩
  rw [cl_of hx' h0]
  unfold va_up mUp
  split
  · exact ⟨sad v, rfl, Or.inr rfl⟩
  · exact g1 j
theorem sn_alen (hx : p.tables.exec = Jvm.exec) (hb : c.code = cc) {a n : Nat} {x : Int} (hF : Fr D cl A sad ws0 s nL H locs mls (qR a :: r) h ls st) (ha : (∃ ty f, h.1 a = cI ty n f) ∨ (∃ f, h.1 a = cL n f) ∨ ∃ ty f, h.1 a = cQ ty n f) (hn : n < 2147483648) (hd : decode cc pc = .ok (.arraylength, 1))
    (kk : ∀ st : List Value, Fr D cl A sad ws0 s nL H locs mls (qI (n : Int) :: r) h ls st → W p l e R s m args below meth c H locs cells slots Q (F0 m (pc + 1) ls st)) : W p l e R s m args below meth c H locs cells slots Q (F0 m pc ls st) := by
  obtain ⟨ws, tys, h1, h2, h3, h4, h5, h6, h7, h8⟩ := hF
  obtain ⟨c2, u2, rfl, ⟨b, e9, rfl, hw⟩, h7_2⟩ := rS_c h7
  have hr := h1.2 a _ hw
  have hN : (Int32.ofNat n).toInt = (n : Int) := nI_toInt hn
  rcases ha with ⟨ty, f, ha⟩ | ⟨f, ha⟩ | ⟨ty, f, ha⟩
  · rw [ha] at hr
    obtain ⟨cA, g, rfl, g1, g2⟩ := hr
    obtain ⟨t0, g3⟩ := mem_at g2
    exact va_alen hx hb h3 h2 a t0 hw g3 rfl hd (kk _ ⟨ws, tys, h1, h2, h3, h4, h5, h6, ⟨⟨_, rfl, hN⟩, h7_2⟩, h8⟩)
  · rw [ha] at hr
    obtain ⟨cA, g, rfl, g1, g2⟩ := hr
    obtain ⟨t0, g3⟩ := mem_at g2
    exact va_alen hx hb h3 h2 a t0 hw g3 rfl hd (kk _ ⟨ws, tys, h1, h2, h3, h4, h5, h6, ⟨⟨_, rfl, hN⟩, h7_2⟩, h8⟩)
  · rw [ha] at hr
    obtain ⟨cA, g, rfl, g1, g2⟩ := hr
    obtain ⟨t0, g3⟩ := mem_at g2
    exact va_alen hx hb h3 h2 a t0 hw g3 rfl hd (kk _ ⟨ws, tys, h1, h2, h3, h4, h5, h6, ⟨⟨_, rfl, hN⟩, h7_2⟩, h8⟩)
theorem sn_ti (hx : p.tables.exec = Jvm.exec) (hb : c.code = cc) {a n : Nat} {f : Nat → MV} {fv : Nat → Value} {x y : Int} (h9 : a ≠ 999) (hT : va_T .int (sad a) n fv A s s.heap) (hv : ∀ j, j < n → rV sad [] (f j) (fv j)) (hF : Fr D cl A sad ws0 s nL H locs mls (qI x :: qS a :: r) h ls st) (h0 : 0 ≤ x) (hn : x < (n : Int)) (hy : f x.toNat = qI y) (hd : decode cc pc = .ok (.iaload, 1))
    (kk : ∀ st : List Value, Fr D cl A sad ws0 s nL H locs mls (qI y :: r) h ls st → W p l e R s m args below meth c H locs cells slots Q (F0 m (pc + 1) ls st)) : W p l e R s m args below meth c H locs cells slots Q (F0 m pc ls st) := by
  obtain ⟨ws, tys, h1, h2, h3, h4, h5, h6, h7, h8⟩ := hF
  obtain ⟨c1, u1, rfl, ⟨x', rfl, hx'⟩, h7_1⟩ := rS_c h7
  obtain ⟨c2, u2, rfl, ⟨b, rfl, hw⟩, h7_2⟩ := rS_c h7_1
  obtain rfl := hw.resolve_left h9
  refine va_ti hx hb hT h5 (vp_of hx' h0 hn) rfl hd (kk _ ⟨ws, tys, h1, h2, h3, h4, h5, h6, ⟨?_, h7_2⟩, h8⟩)
  rw [cl_of hx' h0, ← hy]
  exact rV_bare (hv _ (by omega))
theorem sn_tb (hx : p.tables.exec = Jvm.exec) (hb : c.code = cc) {a n : Nat} {f : Nat → MV} {fv : Nat → Value} {x y : Int} (h9 : a ≠ 999) (hT : va_T .byte (sad a) n fv A s s.heap) (hv : ∀ j, j < n → rV sad [] (f j) (fv j)) (hF : Fr D cl A sad ws0 s nL H locs mls (qI x :: qS a :: r) h ls st) (h0 : 0 ≤ x) (hn : x < (n : Int)) (hy : f x.toNat = qI y) (hd : decode cc pc = .ok (.baload, 1))
    (kk : ∀ st : List Value, Fr D cl A sad ws0 s nL H locs mls (qI y :: r) h ls st → W p l e R s m args below meth c H locs cells slots Q (F0 m (pc + 1) ls st)) : W p l e R s m args below meth c H locs cells slots Q (F0 m pc ls st) := by
  obtain ⟨ws, tys, h1, h2, h3, h4, h5, h6, h7, h8⟩ := hF
  obtain ⟨c1, u1, rfl, ⟨x', rfl, hx'⟩, h7_1⟩ := rS_c h7
  obtain ⟨c2, u2, rfl, ⟨b, rfl, hw⟩, h7_2⟩ := rS_c h7_1
  obtain rfl := hw.resolve_left h9
  refine va_tb hx hb hT h5 (vp_of hx' h0 hn) rfl hd (kk _ ⟨ws, tys, h1, h2, h3, h4, h5, h6, ⟨?_, h7_2⟩, h8⟩)
  rw [cl_of hx' h0, ← hy]
  exact rV_bare (hv _ (by omega))
theorem sn_tz (hx : p.tables.exec = Jvm.exec) (hb : c.code = cc) {a n : Nat} {f : Nat → MV} {fv : Nat → Value} {x y : Int} (h9 : a ≠ 999) (hT : va_T .boolean (sad a) n fv A s s.heap) (hv : ∀ j, j < n → rV sad [] (f j) (fv j)) (hF : Fr D cl A sad ws0 s nL H locs mls (qI x :: qS a :: r) h ls st) (h0 : 0 ≤ x) (hn : x < (n : Int)) (hy : f x.toNat = qI y) (hd : decode cc pc = .ok (.baload, 1))
    (kk : ∀ st : List Value, Fr D cl A sad ws0 s nL H locs mls (qI y :: r) h ls st → W p l e R s m args below meth c H locs cells slots Q (F0 m (pc + 1) ls st)) : W p l e R s m args below meth c H locs cells slots Q (F0 m pc ls st) := by
  obtain ⟨ws, tys, h1, h2, h3, h4, h5, h6, h7, h8⟩ := hF
  obtain ⟨c1, u1, rfl, ⟨x', rfl, hx'⟩, h7_1⟩ := rS_c h7
  obtain ⟨c2, u2, rfl, ⟨b, rfl, hw⟩, h7_2⟩ := rS_c h7_1
  obtain rfl := hw.resolve_left h9
  refine va_tz hx hb hT h5 (vp_of hx' h0 hn) rfl hd (kk _ ⟨ws, tys, h1, h2, h3, h4, h5, h6, ⟨?_, h7_2⟩, h8⟩)
  rw [cl_of hx' h0, ← hy]
  exact rV_bare (hv _ (by omega))
theorem sn_tq (hx : p.tables.exec = Jvm.exec) (hb : c.code = cc) {a n : Nat} {C : String} {f : Nat → MV} {fv : Nat → Value} {x : Int} (h9 : a ≠ 999) (hT : va_T (.object C) (sad a) n fv A s s.heap) (hv : ∀ j, j < n → rV sad [] (f j) (fv j)) (hF : Fr D cl A sad ws0 s nL H locs mls (qI x :: qS a :: r) h ls st) (h0 : 0 ≤ x) (hn : x < (n : Int)) (hd : decode cc pc = .ok (.aaload, 1))
    (kk : ∀ st : List Value, Fr D cl A sad ws0 s nL H locs mls (f x.toNat :: r) h ls st → W p l e R s m args below meth c H locs cells slots Q (F0 m (pc + 1) ls st)) : W p l e R s m args below meth c H locs cells slots Q (F0 m pc ls st) := by
  obtain ⟨ws, tys, h1, h2, h3, h4, h5, h6, h7, h8⟩ := hF
  obtain ⟨c1, u1, rfl, ⟨x', rfl, hx'⟩, h7_1⟩ := rS_c h7
  obtain ⟨c2, u2, rfl, ⟨b, rfl, hw⟩, h7_2⟩ := rS_c h7_1
  obtain rfl := hw.resolve_left h9
  refine vb_tq hx hb hT h5 (vp_of hx' h0 hn) rfl hd (kk _ ⟨ws, tys, h1, h2, h3, h4, h5, h6, ⟨?_, h7_2⟩, h8⟩)
  rw [cl_of hx' h0]
  exact rV_bare (hv _ (by omega))
theorem sn_tlen (hx : p.tables.exec = Jvm.exec) (hb : c.code = cc) {a n : Nat} {ty : FieldType} {fv : Nat → Value} (h9 : a ≠ 999) (hT : va_T ty (sad a) n fv A s s.heap) (hF : Fr D cl A sad ws0 s nL H locs mls (qS a :: r) h ls st) (hn : n < 2147483648) (hd : decode cc pc = .ok (.arraylength, 1))
    (kk : ∀ st : List Value, Fr D cl A sad ws0 s nL H locs mls (qI (n : Int) :: r) h ls st → W p l e R s m args below meth c H locs cells slots Q (F0 m (pc + 1) ls st)) : W p l e R s m args below meth c H locs cells slots Q (F0 m pc ls st) := by
  obtain ⟨ws, tys, h1, h2, h3, h4, h5, h6, h7, h8⟩ := hF
  obtain ⟨c2, u2, rfl, ⟨b, rfl, hw⟩, h7_2⟩ := rS_c h7
  obtain rfl := hw.resolve_left h9
  exact va_tlen hx hb hT h5 rfl hd (kk _ ⟨ws, tys, h1, h2, h3, h4, h5, h6, ⟨⟨_, rfl, nI_toInt hn⟩, h7_2⟩, h8⟩)
theorem sn_gets (hx : p.tables.exec = Jvm.exec) (hb : c.code = cc) (hown : s.vm.findClass own = some m.cls) {C n d : String} {v : MV} {cv : Value} (hZ : va_Z C n d cv A s s.heap) (hv : rV sad [] v cv) (hlink : (Jvm.Cond.fieldLink own index C n d).before args s = true) (hF : Fr D cl A sad ws0 s nL H locs mls mst h ls st) (hd : decode cc pc = .ok (.getstatic index, 3))
    (kk : ∀ st : List Value, Fr D cl A sad ws0 s nL H locs mls (v :: mst) h ls st → W p l e R s m args below meth c H locs cells slots Q (F0 m (pc + 3) ls st)) : W p l e R s m args below meth c H locs cells slots Q (F0 m pc ls st) := by
  obtain ⟨ws, tys, h1, h2, h3, h4, h5, h6, h7, h8⟩ := hF
  exact va_gets hx hb hZ h5 hown hlink (fun _ z => z) hd (kk _ ⟨ws, tys, h1, h2, h3, h4, h5, h6, ⟨rV_bare hv, h7⟩, h8⟩)
end SN4
