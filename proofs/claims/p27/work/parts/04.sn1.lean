/-! ===== ONE RULE AN INSTRUCTION: locals, stack, numbers, branches ===== -/
theorem rS_c {sad : Nat → Nat} {ws : va_W} {v : MV} {t : List MV} {st : List Value} (h : rS sad ws (v :: t) st) : ∃ (c : Value) (u : List Value), st = c :: u ∧ rV sad ws v c ∧ rS sad ws t u := by
  cases st with
  | nil => exact h.elim
  | cons c u => exact ⟨c, u, rfl, h.1, h.2⟩
theorem rV_cat {sad : Nat → Nat} {ws : va_W} {v : MV} {c : Value} (h : rV sad ws v c) : c.category = if wide v = true then 2 else 1 := by
  rcases v with n | n | u | a | a | (_ | _)
  · obtain ⟨x, rfl, -⟩ := h; rfl
  · obtain ⟨x, rfl, -⟩ := h; rfl
  · obtain rfl := h; rfl
  · obtain ⟨b, e, rfl, -⟩ := h; rfl
  · obtain ⟨b, rfl, -⟩ := h; rfl
  · obtain rfl := h; rfl
  · exact h.elim
theorem rS_hgt {sad : Nat → Nat} {ws : va_W} : ∀ {t : List MV} {st : List Value}, rS sad ws t st → (st.map fun v => v.category).sum = hgt t
  | [], [], _ => rfl
  | v :: t, c :: u, h => by
    show c.category + (u.map fun v => v.category).sum = _ + hgt t
    rw [rV_cat h.1, rS_hgt h.2]
def Fr (D : va_G) (cl : List vw_C) (A : Nat → Prop) (sad : Nat → Nat) (ws0 : va_W) (s : State) (nL : Nat) (H : Heap) (locs : List Loc) (mls mst : List MV) (h : MH) (ls : Array Slot) (st : List Value) : Prop :=
  ∃ (ws : va_W) (tys : List (ClassId × FieldType)), rH sad ws tys h ∧ va_P D cl ws H ∧ va_K D cl tys s ∧ va_D A ws ∧ va_S A s.heap H locs ∧ rL sad ws nL mls ls ∧ rS sad ws mst st ∧ rP ws0 ws
theorem t_w32 (x : Int32) : w32 x.toInt = x.toInt := by
  have h1 := Int32.le_toInt x
  have h2 := Int32.toInt_lt x
  unfold w32
  rw [Int.bmod_def]
  split <;> omega
theorem t_ofInt (x : Int) : (Int32.ofInt x).toInt = w32 x := by
  rw [Int32.toInt_ofInt]
theorem t_of (x : Int32) : Int32.ofInt x.toInt = x := Int32.ofInt_toInt x
def lvG (j : Nat) (x : Option Slot) : Option (Nat × Value) := match x with
  | some (.val c) => some (j, c)
  | _ => none
def lvL (ls : Array Slot) (nL : Nat) : List (Nat × Value) := (List.range nL).filterMap (fun j => lvG j ls[j]?)
theorem lv_all {ls : Array Slot} {nL : Nat} (h1 : ls.size = nL) (h2 : lv_wf ls) : lv_has ls nL (lvL ls nL) := by
  refine ⟨h1, h2, fun q hq => ?_⟩
  obtain ⟨j, -, hj⟩ := List.mem_filterMap.mp hq
  unfold lvG at hj
  split at hj
  · rename_i c hc
    cases hj
    exact hc
  · cases hj
theorem lv_all_mem {ls : Array Slot} {nL : Nat} (h1 : ls.size = nL) {j : Nat} {c : Value} (hj : ls[j]? = some (.val c)) : (j, c) ∈ (lvL ls nL) := by
  refine List.mem_filterMap.mpr ⟨j, List.mem_range.mpr ?_, ?_⟩
  · rw [← h1]; exact (Array.getElem?_eq_some_iff.mp hj).1
  · rw [hj]
    rfl
theorem lfree_at {ls : List MV} {n j : Nat} (h : lfree ls n = true) (hj : j + 1 = n) {v : MV} (hv : ls[j]? = some v) : wide v = false := by
  subst hj
  simp only [lfree, Bool.not_eq_true'] at h
  rw [lg_eq, hv] at h
  exact h
/-- behind a store of one word -/
theorem rL.st1 {sad : Nat → Nat} {ws : va_W} {nL n : Nat} {mls : List MV} {ls ls' : Array Slot} {v : MV} {c : Value} (hL : rL sad ws nL mls ls) (hn : n < mls.length) (hf : lfree mls n = true) (hv : rV sad ws v c)
    (h' : lv_has ls' nL ((n, c) :: (lvL ls nL).filter (fun q => !(q.1 == n) && !(q.1 + 1 == n && q.2.category == 2)))) : rL sad ws nL (lset mls n v) ls' := by
  refine ⟨h'.1, h'.2.1, by rw [lset_eq, List.length_set]; exact hL.2.2.1, fun i w h1 h2 => ?_⟩
  rw [lset_eq] at h1
  by_cases hi : i = n
  · subst hi
    rw [List.getElem?_set_self hn] at h1
    cases h1
    exact ⟨c, h'.2.2 (i, c) List.mem_cons_self, hv⟩
  · rw [List.getElem?_set_ne (fun q => hi q.symm)] at h1
    obtain ⟨c2, h3, h4⟩ := hL.2.2.2 i w h1 h2
    refine ⟨c2, h'.2.2 (i, c2) (List.mem_cons_of_mem _ (List.mem_filter.mpr ⟨lv_all_mem hL.1 h3, ?_⟩)), h4⟩
    have hw : i + 1 = n → c2.category ≠ 2 := fun he => by
      rw [rV_cat h4, lfree_at hf he h1]
      decide
    by_cases he : i + 1 = n
    · simp [hi, hw he]
    · simp [hi, he]
/-- behind a store of two words -/
theorem rL.st2 {sad : Nat → Nat} {ws : va_W} {nL n : Nat} {mls : List MV} {ls ls' : Array Slot} {v : MV} {c : Value} (hL : rL sad ws nL mls ls) (hn : n + 1 < mls.length) (hf : lfree mls n = true) (hv : rV sad ws v c)
    (h' : lv_has ls' nL ((n, c) :: (lvL ls nL).filter (fun q => !(q.1 == n) && (!(q.1 == n + 1) && !(q.1 + 1 == n && q.2.category == 2))))) : rL sad ws nL (lset (lset mls n v) (n + 1) qU) ls' := by
  refine ⟨h'.1, h'.2.1, by rw [lset_eq, lset_eq, List.length_set, List.length_set]; exact hL.2.2.1, fun i w h1 h2 => ?_⟩
  rw [lset_eq, lset_eq] at h1
  by_cases hj : i = n + 1
  · subst hj
    rw [List.getElem?_set_self (by rw [List.length_set]; exact hn)] at h1
    exact absurd (Option.some.inj h1).symm h2
  · rw [List.getElem?_set_ne (fun q => hj q.symm)] at h1
    by_cases hi : i = n
    · subst hi
      rw [List.getElem?_set_self (by omega)] at h1
      cases h1
      exact ⟨c, h'.2.2 (i, c) List.mem_cons_self, hv⟩
    · rw [List.getElem?_set_ne (fun q => hi q.symm)] at h1
      obtain ⟨c2, h3, h4⟩ := hL.2.2.2 i w h1 h2
      refine ⟨c2, h'.2.2 (i, c2) (List.mem_cons_of_mem _ (List.mem_filter.mpr ⟨lv_all_mem hL.1 h3, ?_⟩)), h4⟩
      have hw : i + 1 = n → c2.category ≠ 2 := fun he => by
        rw [rV_cat h4, lfree_at hf he h1]
        decide
      by_cases he : i + 1 = n
      · simp [hi, hj, hw he]
      · simp [hi, hj, he]
section SN1
variable {p : Program} {l : Launch} {e : Env} {R : Room} {s : State} {m : MethodId} {args : Array Value} {below : List Frame} {meth : Method} {c : Code} {H : Heap} {locs : List Loc} {cells slots : Nat} {Q : State → Prop}
variable {cc : ByteArray} {pc nL : Nat} {D : va_G} {cl : List vw_C} {A : Nat → Prop} {sad : Nat → Nat} {ws0 : va_W} {mls mst r : List MV} {h : MH} {ls : Array Slot} {st : List Value}
theorem sn_iadd (hx : p.tables.exec = Jvm.exec) (hb : c.code = cc) {x y : Int} (hF : Fr D cl A sad ws0 s nL H locs mls (qI y :: qI x :: r) h ls st) (hd : decode cc pc = .ok (.iadd, 1))
    (k : ∀ st : List Value, Fr D cl A sad ws0 s nL H locs mls (qI (w32 (x + y)) :: r) h ls st → W p l e R s m args below meth c H locs cells slots Q (F0 m (pc + 1) ls st)) : W p l e R s m args below meth c H locs cells slots Q (F0 m pc ls st) := by
  obtain ⟨ws, tys, h1, h2, h3, h4, h5, h6, h7, h8⟩ := hF
  obtain ⟨c1, u1, rfl, ⟨y', rfl, hy⟩, h7_1⟩ := rS_c h7
  obtain ⟨c2, u2, rfl, ⟨x', rfl, hx'⟩, h7_2⟩ := rS_c h7_1
  refine lv_iadd hx hb hd (k _ ⟨ws, tys, h1, h2, h3, h4, h5, h6, ⟨⟨_, rfl, ?_⟩, h7_2⟩, h8⟩)
  rw [Int32.toInt_add, hx', hy]
theorem sn_isub (hx : p.tables.exec = Jvm.exec) (hb : c.code = cc) {x y : Int} (hF : Fr D cl A sad ws0 s nL H locs mls (qI y :: qI x :: r) h ls st) (hd : decode cc pc = .ok (.isub, 1))
    (k : ∀ st : List Value, Fr D cl A sad ws0 s nL H locs mls (qI (w32 (x - y)) :: r) h ls st → W p l e R s m args below meth c H locs cells slots Q (F0 m (pc + 1) ls st)) : W p l e R s m args below meth c H locs cells slots Q (F0 m pc ls st) := by
  obtain ⟨ws, tys, h1, h2, h3, h4, h5, h6, h7, h8⟩ := hF
  obtain ⟨c1, u1, rfl, ⟨y', rfl, hy⟩, h7_1⟩ := rS_c h7
  obtain ⟨c2, u2, rfl, ⟨x', rfl, hx'⟩, h7_2⟩ := rS_c h7_1
  refine lv_isub hx hb hd (k _ ⟨ws, tys, h1, h2, h3, h4, h5, h6, ⟨⟨_, rfl, ?_⟩, h7_2⟩, h8⟩)
  rw [Int32.toInt_sub, hx', hy]
theorem sn_imul (hx : p.tables.exec = Jvm.exec) (hb : c.code = cc) {x y : Int} (hF : Fr D cl A sad ws0 s nL H locs mls (qI y :: qI x :: r) h ls st) (hd : decode cc pc = .ok (.imul, 1))
    (k : ∀ st : List Value, Fr D cl A sad ws0 s nL H locs mls (qI (w32 (x * y)) :: r) h ls st → W p l e R s m args below meth c H locs cells slots Q (F0 m (pc + 1) ls st)) : W p l e R s m args below meth c H locs cells slots Q (F0 m pc ls st) := by
  obtain ⟨ws, tys, h1, h2, h3, h4, h5, h6, h7, h8⟩ := hF
  obtain ⟨c1, u1, rfl, ⟨y', rfl, hy⟩, h7_1⟩ := rS_c h7
  obtain ⟨c2, u2, rfl, ⟨x', rfl, hx'⟩, h7_2⟩ := rS_c h7_1
  refine lv_imul hx hb hd (k _ ⟨ws, tys, h1, h2, h3, h4, h5, h6, ⟨⟨_, rfl, ?_⟩, h7_2⟩, h8⟩)
  rw [Int32.toInt_mul, hx', hy]
theorem sn_iand (hx : p.tables.exec = Jvm.exec) (hb : c.code = cc) {x y : Int} (hF : Fr D cl A sad ws0 s nL H locs mls (qI y :: qI x :: r) h ls st) (hd : decode cc pc = .ok (.iand, 1))
    (k : ∀ st : List Value, Fr D cl A sad ws0 s nL H locs mls (qI (i32 (· &&& ·) x y) :: r) h ls st → W p l e R s m args below meth c H locs cells slots Q (F0 m (pc + 1) ls st)) : W p l e R s m args below meth c H locs cells slots Q (F0 m pc ls st) := by
  obtain ⟨ws, tys, h1, h2, h3, h4, h5, h6, h7, h8⟩ := hF
  obtain ⟨c1, u1, rfl, ⟨y', rfl, hy⟩, h7_1⟩ := rS_c h7
  obtain ⟨c2, u2, rfl, ⟨x', rfl, hx'⟩, h7_2⟩ := rS_c h7_1
  refine lv_iand hx hb hd (k _ ⟨ws, tys, h1, h2, h3, h4, h5, h6, ⟨⟨_, rfl, ?_⟩, h7_2⟩, h8⟩)
  unfold i32; rw [← hx', ← hy, t_of, t_of]
theorem sn_ior (hx : p.tables.exec = Jvm.exec) (hb : c.code = cc) {x y : Int} (hF : Fr D cl A sad ws0 s nL H locs mls (qI y :: qI x :: r) h ls st) (hd : decode cc pc = .ok (.ior, 1))
    (k : ∀ st : List Value, Fr D cl A sad ws0 s nL H locs mls (qI (i32 (· ||| ·) x y) :: r) h ls st → W p l e R s m args below meth c H locs cells slots Q (F0 m (pc + 1) ls st)) : W p l e R s m args below meth c H locs cells slots Q (F0 m pc ls st) := by
  obtain ⟨ws, tys, h1, h2, h3, h4, h5, h6, h7, h8⟩ := hF
  obtain ⟨c1, u1, rfl, ⟨y', rfl, hy⟩, h7_1⟩ := rS_c h7
  obtain ⟨c2, u2, rfl, ⟨x', rfl, hx'⟩, h7_2⟩ := rS_c h7_1
  refine lv_ior hx hb hd (k _ ⟨ws, tys, h1, h2, h3, h4, h5, h6, ⟨⟨_, rfl, ?_⟩, h7_2⟩, h8⟩)
  unfold i32; rw [← hx', ← hy, t_of, t_of]
theorem sn_ishr (hx : p.tables.exec = Jvm.exec) (hb : c.code = cc) {x y : Int} (hF : Fr D cl A sad ws0 s nL H locs mls (qI y :: qI x :: r) h ls st) (hd : decode cc pc = .ok (.ishr, 1))
    (k : ∀ st : List Value, Fr D cl A sad ws0 s nL H locs mls (qI (i32 (fun a b => a >>> (b &&& 31)) x y) :: r) h ls st → W p l e R s m args below meth c H locs cells slots Q (F0 m (pc + 1) ls st)) : W p l e R s m args below meth c H locs cells slots Q (F0 m pc ls st) := by
  obtain ⟨ws, tys, h1, h2, h3, h4, h5, h6, h7, h8⟩ := hF
  obtain ⟨c1, u1, rfl, ⟨y', rfl, hy⟩, h7_1⟩ := rS_c h7
  obtain ⟨c2, u2, rfl, ⟨x', rfl, hx'⟩, h7_2⟩ := rS_c h7_1
  refine lv_ishr hx hb hd (k _ ⟨ws, tys, h1, h2, h3, h4, h5, h6, ⟨⟨_, rfl, ?_⟩, h7_2⟩, h8⟩)
  unfold i32; rw [← hx', ← hy, t_of, t_of]
theorem sn_iushr (hx : p.tables.exec = Jvm.exec) (hb : c.code = cc) {x y : Int} (hF : Fr D cl A sad ws0 s nL H locs mls (qI y :: qI x :: r) h ls st) (hd : decode cc pc = .ok (.iushr, 1))
    (k : ∀ st : List Value, Fr D cl A sad ws0 s nL H locs mls (qI (i32 (fun a b => (a.toUInt32 >>> (b.toUInt32 &&& Int32.toUInt32 31)).toInt32) x y) :: r) h ls st → W p l e R s m args below meth c H locs cells slots Q (F0 m (pc + 1) ls st)) : W p l e R s m args below meth c H locs cells slots Q (F0 m pc ls st) := by
  obtain ⟨ws, tys, h1, h2, h3, h4, h5, h6, h7, h8⟩ := hF
  obtain ⟨c1, u1, rfl, ⟨y', rfl, hy⟩, h7_1⟩ := rS_c h7
  obtain ⟨c2, u2, rfl, ⟨x', rfl, hx'⟩, h7_2⟩ := rS_c h7_1
  refine lv_iushr hx hb hd rfl (k _ ⟨ws, tys, h1, h2, h3, h4, h5, h6, ⟨⟨_, rfl, ?_⟩, h7_2⟩, h8⟩)
  unfold i32; rw [← hx', ← hy, t_of, t_of]
theorem sn_idiv (hx : p.tables.exec = Jvm.exec) (hb : c.code = cc) {x y : Int} (h0 : y ≠ 0) (hF : Fr D cl A sad ws0 s nL H locs mls (qI y :: qI x :: r) h ls st) (hd : decode cc pc = .ok (.idiv, 1))
    (k : ∀ st : List Value, Fr D cl A sad ws0 s nL H locs mls (qI (w32 (x.tdiv y)) :: r) h ls st → W p l e R s m args below meth c H locs cells slots Q (F0 m (pc + 1) ls st)) : W p l e R s m args below meth c H locs cells slots Q (F0 m pc ls st) := by
  obtain ⟨ws, tys, h1, h2, h3, h4, h5, h6, h7, h8⟩ := hF
  obtain ⟨c1, u1, rfl, ⟨y', rfl, hy⟩, h7_1⟩ := rS_c h7
  obtain ⟨c2, u2, rfl, ⟨x', rfl, hx'⟩, h7_2⟩ := rS_c h7_1
  refine lv_idiv hx hb hd (fun q => h0 (by rw [← hy, q]; rfl)) (k _ ⟨ws, tys, h1, h2, h3, h4, h5, h6, ⟨⟨_, rfl, ?_⟩, h7_2⟩, h8⟩)
  rw [Int32.toInt_div, hx', hy]
theorem sn_irem (hx : p.tables.exec = Jvm.exec) (hb : c.code = cc) {x y : Int} (h0 : y ≠ 0) (hF : Fr D cl A sad ws0 s nL H locs mls (qI y :: qI x :: r) h ls st) (hd : decode cc pc = .ok (.irem, 1))
    (k : ∀ st : List Value, Fr D cl A sad ws0 s nL H locs mls (qI (w32 (x - x.tdiv y * y)) :: r) h ls st → W p l e R s m args below meth c H locs cells slots Q (F0 m (pc + 1) ls st)) : W p l e R s m args below meth c H locs cells slots Q (F0 m pc ls st) := by
  obtain ⟨ws, tys, h1, h2, h3, h4, h5, h6, h7, h8⟩ := hF
  obtain ⟨c1, u1, rfl, ⟨y', rfl, hy⟩, h7_1⟩ := rS_c h7
  obtain ⟨c2, u2, rfl, ⟨x', rfl, hx'⟩, h7_2⟩ := rS_c h7_1
  refine lv_irem hx hb hd (fun q => h0 (by rw [← hy, q]; rfl)) (k _ ⟨ws, tys, h1, h2, h3, h4, h5, h6, ⟨⟨_, rfl, ?_⟩, h7_2⟩, h8⟩)
  rw [Int32.toInt_sub, Int32.toInt_mul, Int32.toInt_div, hx', hy]
  simp [w32]
theorem sn_ineg (hx : p.tables.exec = Jvm.exec) (hb : c.code = cc) {x : Int} (hF : Fr D cl A sad ws0 s nL H locs mls (qI x :: r) h ls st) (hd : decode cc pc = .ok (.ineg, 1))
    (k : ∀ st : List Value, Fr D cl A sad ws0 s nL H locs mls (qI (w32 (-x)) :: r) h ls st → W p l e R s m args below meth c H locs cells slots Q (F0 m (pc + 1) ls st)) : W p l e R s m args below meth c H locs cells slots Q (F0 m pc ls st) := by
  obtain ⟨ws, tys, h1, h2, h3, h4, h5, h6, h7, h8⟩ := hF
  obtain ⟨c1, u1, rfl, ⟨x', rfl, hx'⟩, h7_1⟩ := rS_c h7
  refine lv_ineg hx hb hd (k _ ⟨ws, tys, h1, h2, h3, h4, h5, h6, ⟨⟨_, rfl, ?_⟩, h7_1⟩, h8⟩)
  rw [Int32.toInt_neg, hx']
theorem sn_i2b (hx : p.tables.exec = Jvm.exec) (hb : c.code = cc) {x : Int} (hF : Fr D cl A sad ws0 s nL H locs mls (qI x :: r) h ls st) (hd : decode cc pc = .ok (.i2b, 1))
    (k : ∀ st : List Value, Fr D cl A sad ws0 s nL H locs mls (qI (x.bmod 256) :: r) h ls st → W p l e R s m args below meth c H locs cells slots Q (F0 m (pc + 1) ls st)) : W p l e R s m args below meth c H locs cells slots Q (F0 m pc ls st) := by
  obtain ⟨ws, tys, h1, h2, h3, h4, h5, h6, h7, h8⟩ := hF
  obtain ⟨c1, u1, rfl, ⟨x', rfl, hx'⟩, h7_1⟩ := rS_c h7
  refine lv_i2b hx hb hd rfl (k _ ⟨ws, tys, h1, h2, h3, h4, h5, h6, ⟨⟨_, rfl, ?_⟩, h7_1⟩, h8⟩)
  rw [Int8.toInt_toInt32, Int32.toInt_toInt8, hx']
theorem sn_i2l (hx : p.tables.exec = Jvm.exec) (hb : c.code = cc) {x : Int} (hF : Fr D cl A sad ws0 s nL H locs mls (qI x :: r) h ls st) (hd : decode cc pc = .ok (.i2l, 1))
    (k : ∀ st : List Value, Fr D cl A sad ws0 s nL H locs mls (qL x :: r) h ls st → W p l e R s m args below meth c H locs cells slots Q (F0 m (pc + 1) ls st)) : W p l e R s m args below meth c H locs cells slots Q (F0 m pc ls st) := by
  obtain ⟨ws, tys, h1, h2, h3, h4, h5, h6, h7, h8⟩ := hF
  obtain ⟨c1, u1, rfl, ⟨x', rfl, hx'⟩, h7_1⟩ := rS_c h7
  refine lv_i2l hx hb hd rfl (k _ ⟨ws, tys, h1, h2, h3, h4, h5, h6, ⟨⟨_, rfl, ?_⟩, h7_1⟩, h8⟩)
  rw [Int32.toInt_toInt64, hx']
theorem sn_i2d (hx : p.tables.exec = Jvm.exec) (hb : c.code = cc) {x : Int} (hF : Fr D cl A sad ws0 s nL H locs mls (qI x :: r) h ls st) (hd : decode cc pc = .ok (.i2d, 1))
    (k : ∀ st : List Value, Fr D cl A sad ws0 s nL H locs mls (qD (FP.i2d (Int32.ofInt x)) :: r) h ls st → W p l e R s m args below meth c H locs cells slots Q (F0 m (pc + 1) ls st)) : W p l e R s m args below meth c H locs cells slots Q (F0 m pc ls st) := by
  obtain ⟨ws, tys, h1, h2, h3, h4, h5, h6, h7, h8⟩ := hF
  obtain ⟨c1, u1, rfl, ⟨x', rfl, hx'⟩, h7_1⟩ := rS_c h7
  refine lv_i2d hx hb hd (k _ ⟨ws, tys, h1, h2, h3, h4, h5, h6, ⟨?_, h7_1⟩, h8⟩)
  subst hx'; rw [t_of]; rfl
theorem sn_ladd (hx : p.tables.exec = Jvm.exec) (hb : c.code = cc) {x y : Int} (hF : Fr D cl A sad ws0 s nL H locs mls (qL y :: qL x :: r) h ls st) (hd : decode cc pc = .ok (.ladd, 1))
    (k : ∀ st : List Value, Fr D cl A sad ws0 s nL H locs mls (qL (w64 (x + y)) :: r) h ls st → W p l e R s m args below meth c H locs cells slots Q (F0 m (pc + 1) ls st)) : W p l e R s m args below meth c H locs cells slots Q (F0 m pc ls st) := by
  obtain ⟨ws, tys, h1, h2, h3, h4, h5, h6, h7, h8⟩ := hF
  obtain ⟨c1, u1, rfl, ⟨y', rfl, hy⟩, h7_1⟩ := rS_c h7
  obtain ⟨c2, u2, rfl, ⟨x', rfl, hx'⟩, h7_2⟩ := rS_c h7_1
  refine lv_ladd hx hb hd (k _ ⟨ws, tys, h1, h2, h3, h4, h5, h6, ⟨⟨_, rfl, ?_⟩, h7_2⟩, h8⟩)
  rw [Int64.toInt_add, hx', hy]
theorem sn_lmul (hx : p.tables.exec = Jvm.exec) (hb : c.code = cc) {x y : Int} (hF : Fr D cl A sad ws0 s nL H locs mls (qL y :: qL x :: r) h ls st) (hd : decode cc pc = .ok (.lmul, 1))
    (k : ∀ st : List Value, Fr D cl A sad ws0 s nL H locs mls (qL (w64 (x * y)) :: r) h ls st → W p l e R s m args below meth c H locs cells slots Q (F0 m (pc + 1) ls st)) : W p l e R s m args below meth c H locs cells slots Q (F0 m pc ls st) := by
  obtain ⟨ws, tys, h1, h2, h3, h4, h5, h6, h7, h8⟩ := hF
  obtain ⟨c1, u1, rfl, ⟨y', rfl, hy⟩, h7_1⟩ := rS_c h7
  obtain ⟨c2, u2, rfl, ⟨x', rfl, hx'⟩, h7_2⟩ := rS_c h7_1
  refine lv_lmul hx hb hd (k _ ⟨ws, tys, h1, h2, h3, h4, h5, h6, ⟨⟨_, rfl, ?_⟩, h7_2⟩, h8⟩)
  rw [Int64.toInt_mul, hx', hy]
theorem sn_ddiv (hx : p.tables.exec = Jvm.exec) (hb : c.code = cc) {x y : UInt64} (h0 : (FP.ddiv x y) &&& 0x7fffffffffffffff ≤ 0x7ff0000000000000) (hF : Fr D cl A sad ws0 s nL H locs mls (qD y :: qD x :: r) h ls st) (hd : decode cc pc = .ok (.ddiv, 1))
    (k : ∀ st : List Value, Fr D cl A sad ws0 s nL H locs mls (qD (FP.ddiv x y) :: r) h ls st → W p l e R s m args below meth c H locs cells slots Q (F0 m (pc + 1) ls st)) : W p l e R s m args below meth c H locs cells slots Q (F0 m pc ls st) := by
  obtain ⟨ws, tys, h1, h2, h3, h4, h5, h6, h7, h8⟩ := hF
  obtain ⟨c1, u1, rfl, hy, h7_1⟩ := rS_c h7
  obtain ⟨c2, u2, rfl, hx', h7_2⟩ := rS_c h7_1
  obtain rfl := hy
  obtain rfl := hx'
  exact lv_ddiv hx hb hd h0 (k _ ⟨ws, tys, h1, h2, h3, h4, h5, h6, ⟨rfl, h7_2⟩, h8⟩)
theorem sn_dcmp (hx : p.tables.exec = Jvm.exec) (hb : c.code = cc) {x y : UInt64} {o : CmpOp} (hF : Fr D cl A sad ws0 s nL H locs mls (qD y :: qD x :: r) h ls st) (hd : decode cc pc = .ok (.dcmp o, 1))
    (k : ∀ st : List Value, Fr D cl A sad ws0 s nL H locs mls (qI (Op.cmpValue (FP.dcmp x y) o).toInt :: r) h ls st → W p l e R s m args below meth c H locs cells slots Q (F0 m (pc + 1) ls st)) : W p l e R s m args below meth c H locs cells slots Q (F0 m pc ls st) := by
  obtain ⟨ws, tys, h1, h2, h3, h4, h5, h6, h7, h8⟩ := hF
  obtain ⟨c1, u1, rfl, hy, h7_1⟩ := rS_c h7
  obtain ⟨c2, u2, rfl, hx', h7_2⟩ := rS_c h7_1
  obtain rfl := hy
  obtain rfl := hx'
  exact lv_dcmp hx hb hd (k _ ⟨ws, tys, h1, h2, h3, h4, h5, h6, ⟨⟨_, rfl, rfl⟩, h7_2⟩, h8⟩)
theorem sn_iload (hx : p.tables.exec = Jvm.exec) (hb : c.code = cc) {n : Nat} {x : Int} (hl : lg mls n = qI x) (hF : Fr D cl A sad ws0 s nL H locs mls (r) h ls st) (hd : decode cc pc = .ok (.iload n, 2))
    (k : ∀ st : List Value, Fr D cl A sad ws0 s nL H locs mls (qI x :: r) h ls st → W p l e R s m args below meth c H locs cells slots Q (F0 m (pc + 2) ls st)) : W p l e R s m args below meth c H locs cells slots Q (F0 m pc ls st) := by
  obtain ⟨ws, tys, h1, h2, h3, h4, h5, h6, h7, h8⟩ := hF
  obtain ⟨c1, g1, g2⟩ := h6.2.2.2 n _ (lg_at hl (by intro q; cases q)) (by intro q; cases q)
  obtain ⟨x', rfl, hx'⟩ := g2
  exact lv_iload hx hb hd g1 (k _ ⟨ws, tys, h1, h2, h3, h4, h5, h6, ⟨⟨x', rfl, hx'⟩, h7⟩, h8⟩)
theorem sn_iload_n (hx : p.tables.exec = Jvm.exec) (hb : c.code = cc) {n : Nat} {i : Fin 4} {x : Int} (hi : (i : Nat) = n) (hl : lg mls n = qI x) (hF : Fr D cl A sad ws0 s nL H locs mls (r) h ls st) (hd : decode cc pc = .ok (.iload_n i, 1))
    (k : ∀ st : List Value, Fr D cl A sad ws0 s nL H locs mls (qI x :: r) h ls st → W p l e R s m args below meth c H locs cells slots Q (F0 m (pc + 1) ls st)) : W p l e R s m args below meth c H locs cells slots Q (F0 m pc ls st) := by
  obtain ⟨ws, tys, h1, h2, h3, h4, h5, h6, h7, h8⟩ := hF
  obtain ⟨c1, g1, g2⟩ := h6.2.2.2 n _ (lg_at hl (by intro q; cases q)) (by intro q; cases q)
  obtain ⟨x', rfl, hx'⟩ := g2
  exact lv_iload_n hx hb hd hi g1 (k _ ⟨ws, tys, h1, h2, h3, h4, h5, h6, ⟨⟨x', rfl, hx'⟩, h7⟩, h8⟩)
theorem sn_lload (hx : p.tables.exec = Jvm.exec) (hb : c.code = cc) {n : Nat} {x : Int} (hl : lg mls n = qL x) (hF : Fr D cl A sad ws0 s nL H locs mls (r) h ls st) (hd : decode cc pc = .ok (.lload n, 2))
    (k : ∀ st : List Value, Fr D cl A sad ws0 s nL H locs mls (qL x :: r) h ls st → W p l e R s m args below meth c H locs cells slots Q (F0 m (pc + 2) ls st)) : W p l e R s m args below meth c H locs cells slots Q (F0 m pc ls st) := by
  obtain ⟨ws, tys, h1, h2, h3, h4, h5, h6, h7, h8⟩ := hF
  obtain ⟨c1, g1, g2⟩ := h6.2.2.2 n _ (lg_at hl (by intro q; cases q)) (by intro q; cases q)
  obtain ⟨x', rfl, hx'⟩ := g2
  exact lv_lload hx hb hd g1 (k _ ⟨ws, tys, h1, h2, h3, h4, h5, h6, ⟨⟨x', rfl, hx'⟩, h7⟩, h8⟩)
theorem sn_lload_n (hx : p.tables.exec = Jvm.exec) (hb : c.code = cc) {n : Nat} {i : Fin 4} {x : Int} (hi : (i : Nat) = n) (hl : lg mls n = qL x) (hF : Fr D cl A sad ws0 s nL H locs mls (r) h ls st) (hd : decode cc pc = .ok (.lload_n i, 1))
    (k : ∀ st : List Value, Fr D cl A sad ws0 s nL H locs mls (qL x :: r) h ls st → W p l e R s m args below meth c H locs cells slots Q (F0 m (pc + 1) ls st)) : W p l e R s m args below meth c H locs cells slots Q (F0 m pc ls st) := by
  obtain ⟨ws, tys, h1, h2, h3, h4, h5, h6, h7, h8⟩ := hF
  obtain ⟨c1, g1, g2⟩ := h6.2.2.2 n _ (lg_at hl (by intro q; cases q)) (by intro q; cases q)
  obtain ⟨x', rfl, hx'⟩ := g2
  exact lv_lload_n hx hb hd hi g1 (k _ ⟨ws, tys, h1, h2, h3, h4, h5, h6, ⟨⟨x', rfl, hx'⟩, h7⟩, h8⟩)
theorem sn_dload (hx : p.tables.exec = Jvm.exec) (hb : c.code = cc) {n : Nat} {x : UInt64} (hl : lg mls n = qD x) (hF : Fr D cl A sad ws0 s nL H locs mls (r) h ls st) (hd : decode cc pc = .ok (.dload n, 2))
    (k : ∀ st : List Value, Fr D cl A sad ws0 s nL H locs mls (qD x :: r) h ls st → W p l e R s m args below meth c H locs cells slots Q (F0 m (pc + 2) ls st)) : W p l e R s m args below meth c H locs cells slots Q (F0 m pc ls st) := by
  obtain ⟨ws, tys, h1, h2, h3, h4, h5, h6, h7, h8⟩ := hF
  obtain ⟨c1, g1, g2⟩ := h6.2.2.2 n _ (lg_at hl (by intro q; cases q)) (by intro q; cases q)
  obtain rfl := g2
  exact lv_dload hx hb hd g1 (k _ ⟨ws, tys, h1, h2, h3, h4, h5, h6, ⟨rfl, h7⟩, h8⟩)
theorem sn_dload_n (hx : p.tables.exec = Jvm.exec) (hb : c.code = cc) {n : Nat} {i : Fin 4} {x : UInt64} (hi : (i : Nat) = n) (hl : lg mls n = qD x) (hF : Fr D cl A sad ws0 s nL H locs mls (r) h ls st) (hd : decode cc pc = .ok (.dload_n i, 1))
    (k : ∀ st : List Value, Fr D cl A sad ws0 s nL H locs mls (qD x :: r) h ls st → W p l e R s m args below meth c H locs cells slots Q (F0 m (pc + 1) ls st)) : W p l e R s m args below meth c H locs cells slots Q (F0 m pc ls st) := by
  obtain ⟨ws, tys, h1, h2, h3, h4, h5, h6, h7, h8⟩ := hF
  obtain ⟨c1, g1, g2⟩ := h6.2.2.2 n _ (lg_at hl (by intro q; cases q)) (by intro q; cases q)
  obtain rfl := g2
  exact lv_dload_n hx hb hd hi g1 (k _ ⟨ws, tys, h1, h2, h3, h4, h5, h6, ⟨rfl, h7⟩, h8⟩)
theorem sn_aload (hx : p.tables.exec = Jvm.exec) (hb : c.code = cc) {n : Nat} {v : MV} (hl : lg mls n = v) (hv : isRf v = true) (hF : Fr D cl A sad ws0 s nL H locs mls (r) h ls st) (hd : decode cc pc = .ok (.aload n, 2))
    (k : ∀ st : List Value, Fr D cl A sad ws0 s nL H locs mls (v :: r) h ls st → W p l e R s m args below meth c H locs cells slots Q (F0 m (pc + 2) ls st)) : W p l e R s m args below meth c H locs cells slots Q (F0 m pc ls st) := by
  obtain ⟨ws, tys, h1, h2, h3, h4, h5, h6, h7, h8⟩ := hF
  obtain ⟨c1, g1, g2⟩ := h6.2.2.2 n _ (lg_at hl (by rintro rfl; cases hv)) (by rintro rfl; cases hv)
  rcases v with y | y | y | a | a | (_ | _)
  · cases hv
  · cases hv
  · cases hv
  · obtain ⟨b, e9, rfl, g3⟩ := g2
    exact lv_aload hx hb hd g1 (k _ ⟨ws, tys, h1, h2, h3, h4, h5, h6, ⟨⟨b, e9, rfl, g3⟩, h7⟩, h8⟩)
  · obtain ⟨b, rfl, g3⟩ := g2
    exact lv_aload hx hb hd g1 (k _ ⟨ws, tys, h1, h2, h3, h4, h5, h6, ⟨⟨b, rfl, g3⟩, h7⟩, h8⟩)
  · obtain rfl := g2
    exact lv_aloadN hx hb hd g1 (k _ ⟨ws, tys, h1, h2, h3, h4, h5, h6, ⟨rfl, h7⟩, h8⟩)
  · cases hv
theorem sn_aload_n (hx : p.tables.exec = Jvm.exec) (hb : c.code = cc) {n : Nat} {i : Fin 4} {v : MV} (hi : (i : Nat) = n) (hl : lg mls n = v) (hv : isRf v = true) (hF : Fr D cl A sad ws0 s nL H locs mls (r) h ls st) (hd : decode cc pc = .ok (.aload_n i, 1))
    (k : ∀ st : List Value, Fr D cl A sad ws0 s nL H locs mls (v :: r) h ls st → W p l e R s m args below meth c H locs cells slots Q (F0 m (pc + 1) ls st)) : W p l e R s m args below meth c H locs cells slots Q (F0 m pc ls st) := by
  obtain ⟨ws, tys, h1, h2, h3, h4, h5, h6, h7, h8⟩ := hF
  obtain ⟨c1, g1, g2⟩ := h6.2.2.2 n _ (lg_at hl (by rintro rfl; cases hv)) (by rintro rfl; cases hv)
  rcases v with y | y | y | a | a | (_ | _)
  · cases hv
  · cases hv
  · cases hv
  · obtain ⟨b, e9, rfl, g3⟩ := g2
    exact lv_aload_n hx hb hd hi g1 (k _ ⟨ws, tys, h1, h2, h3, h4, h5, h6, ⟨⟨b, e9, rfl, g3⟩, h7⟩, h8⟩)
  · obtain ⟨b, rfl, g3⟩ := g2
    exact lv_aload_n hx hb hd hi g1 (k _ ⟨ws, tys, h1, h2, h3, h4, h5, h6, ⟨⟨b, rfl, g3⟩, h7⟩, h8⟩)
  · obtain rfl := g2
    exact lv_aload_nN hx hb hd hi g1 (k _ ⟨ws, tys, h1, h2, h3, h4, h5, h6, ⟨rfl, h7⟩, h8⟩)
  · cases hv
theorem sn_istore (hx : p.tables.exec = Jvm.exec) (hb : c.code = cc) {n : Nat} {x : Int} (hn : n < mls.length) (hf : lfree mls n = true) (hF : Fr D cl A sad ws0 s nL H locs mls (qI x :: r) h ls st) (hd : decode cc pc = .ok (.istore n, 2))
    (k : ∀ (ls : Array Slot) (st : List Value), Fr D cl A sad ws0 s nL H locs (lset mls n (qI x)) r h ls st → W p l e R s m args below meth c H locs cells slots Q (F0 m (pc + 2) ls st)) : W p l e R s m args below meth c H locs cells slots Q (F0 m pc ls st) := by
  obtain ⟨ws, tys, h1, h2, h3, h4, h5, h6, h7, h8⟩ := hF
  have hn2 := h6.2.2.1
  obtain ⟨c1, u1, rfl, h9, h7_1⟩ := rS_c h7
  obtain ⟨x', rfl, hx'⟩ := h9
  exact lv_istore hx hb hd (lv_all h6.1 h6.2.1) (by omega) rfl (fun ls' hl' => k ls' _ ⟨ws, tys, h1, h2, h3, h4, h5, h6.st1 hn hf ⟨x', rfl, hx'⟩ hl', h7_1, h8⟩)
theorem sn_lstore (hx : p.tables.exec = Jvm.exec) (hb : c.code = cc) {n : Nat} {x : Int} (hn : n + 1 < mls.length) (hf : lfree mls n = true) (hF : Fr D cl A sad ws0 s nL H locs mls (qL x :: r) h ls st) (hd : decode cc pc = .ok (.lstore n, 2))
    (k : ∀ (ls : Array Slot) (st : List Value), Fr D cl A sad ws0 s nL H locs (lset (lset mls n (qL x)) (n + 1) qU) r h ls st → W p l e R s m args below meth c H locs cells slots Q (F0 m (pc + 2) ls st)) : W p l e R s m args below meth c H locs cells slots Q (F0 m pc ls st) := by
  obtain ⟨ws, tys, h1, h2, h3, h4, h5, h6, h7, h8⟩ := hF
  have hn2 := h6.2.2.1
  obtain ⟨c1, u1, rfl, h9, h7_1⟩ := rS_c h7
  obtain ⟨x', rfl, hx'⟩ := h9
  exact lv_lstore hx hb hd (lv_all h6.1 h6.2.1) (by omega) rfl (fun ls' hl' => k ls' _ ⟨ws, tys, h1, h2, h3, h4, h5, h6.st2 hn hf ⟨x', rfl, hx'⟩ hl', h7_1, h8⟩)
theorem sn_dstore (hx : p.tables.exec = Jvm.exec) (hb : c.code = cc) {n : Nat} {x : UInt64} (hn : n + 1 < mls.length) (hf : lfree mls n = true) (hF : Fr D cl A sad ws0 s nL H locs mls (qD x :: r) h ls st) (hd : decode cc pc = .ok (.dstore n, 2))
    (k : ∀ (ls : Array Slot) (st : List Value), Fr D cl A sad ws0 s nL H locs (lset (lset mls n (qD x)) (n + 1) qU) r h ls st → W p l e R s m args below meth c H locs cells slots Q (F0 m (pc + 2) ls st)) : W p l e R s m args below meth c H locs cells slots Q (F0 m pc ls st) := by
  obtain ⟨ws, tys, h1, h2, h3, h4, h5, h6, h7, h8⟩ := hF
  have hn2 := h6.2.2.1
  obtain ⟨c1, u1, rfl, h9, h7_1⟩ := rS_c h7
  obtain rfl := h9
  exact lv_dstore hx hb hd (lv_all h6.1 h6.2.1) (by omega) rfl (fun ls' hl' => k ls' _ ⟨ws, tys, h1, h2, h3, h4, h5, h6.st2 hn hf rfl hl', h7_1, h8⟩)
theorem sn_astore (hx : p.tables.exec = Jvm.exec) (hb : c.code = cc) {n : Nat} {v : MV} (hv : isRf v = true) (hn : n < mls.length) (hf : lfree mls n = true) (hF : Fr D cl A sad ws0 s nL H locs mls (v :: r) h ls st) (hd : decode cc pc = .ok (.astore n, 2))
    (k : ∀ (ls : Array Slot) (st : List Value), Fr D cl A sad ws0 s nL H locs (lset mls n (v)) r h ls st → W p l e R s m args below meth c H locs cells slots Q (F0 m (pc + 2) ls st)) : W p l e R s m args below meth c H locs cells slots Q (F0 m pc ls st) := by
  obtain ⟨ws, tys, h1, h2, h3, h4, h5, h6, h7, h8⟩ := hF
  have hn2 := h6.2.2.1
  obtain ⟨c1, u1, rfl, h9, h7_1⟩ := rS_c h7
  rcases v with y | y | y | a | a | (_ | _)
  · cases hv
  · cases hv
  · cases hv
  · obtain ⟨b, e9, rfl, g3⟩ := h9
    exact lv_astore hx hb hd (lv_all h6.1 h6.2.1) (by omega) rfl (fun ls' hl' => k ls' _ ⟨ws, tys, h1, h2, h3, h4, h5, h6.st1 hn hf ⟨b, e9, rfl, g3⟩ hl', h7_1, h8⟩)
  · obtain ⟨b, rfl, g3⟩ := h9
    exact lv_astore hx hb hd (lv_all h6.1 h6.2.1) (by omega) rfl (fun ls' hl' => k ls' _ ⟨ws, tys, h1, h2, h3, h4, h5, h6.st1 hn hf ⟨b, rfl, g3⟩ hl', h7_1, h8⟩)
  · obtain rfl := h9
    exact lv_astoreN hx hb hd (lv_all h6.1 h6.2.1) (by omega) rfl (fun ls' hl' => k ls' _ ⟨ws, tys, h1, h2, h3, h4, h5, h6.st1 hn hf rfl hl', h7_1, h8⟩)
  · cases hv
theorem sn_istore_n (hx : p.tables.exec = Jvm.exec) (hb : c.code = cc) {n : Nat} {i : Fin 4} (hi : (i : Nat) = n) {x : Int} (hn : n < mls.length) (hf : lfree mls n = true) (hF : Fr D cl A sad ws0 s nL H locs mls (qI x :: r) h ls st) (hd : decode cc pc = .ok (.istore_n i, 1))
    (k : ∀ (ls : Array Slot) (st : List Value), Fr D cl A sad ws0 s nL H locs (lset mls n (qI x)) r h ls st → W p l e R s m args below meth c H locs cells slots Q (F0 m (pc + 1) ls st)) : W p l e R s m args below meth c H locs cells slots Q (F0 m pc ls st) := by
  obtain ⟨ws, tys, h1, h2, h3, h4, h5, h6, h7, h8⟩ := hF
  have hn2 := h6.2.2.1
  obtain ⟨c1, u1, rfl, h9, h7_1⟩ := rS_c h7
  obtain ⟨x', rfl, hx'⟩ := h9
  exact lv_istore_n hx hb hd hi (lv_all h6.1 h6.2.1) (by omega) rfl (fun ls' hl' => k ls' _ ⟨ws, tys, h1, h2, h3, h4, h5, h6.st1 hn hf ⟨x', rfl, hx'⟩ hl', h7_1, h8⟩)
theorem sn_lstore_n (hx : p.tables.exec = Jvm.exec) (hb : c.code = cc) {n : Nat} {i : Fin 4} (hi : (i : Nat) = n) {x : Int} (hn : n + 1 < mls.length) (hf : lfree mls n = true) (hF : Fr D cl A sad ws0 s nL H locs mls (qL x :: r) h ls st) (hd : decode cc pc = .ok (.lstore_n i, 1))
    (k : ∀ (ls : Array Slot) (st : List Value), Fr D cl A sad ws0 s nL H locs (lset (lset mls n (qL x)) (n + 1) qU) r h ls st → W p l e R s m args below meth c H locs cells slots Q (F0 m (pc + 1) ls st)) : W p l e R s m args below meth c H locs cells slots Q (F0 m pc ls st) := by
  obtain ⟨ws, tys, h1, h2, h3, h4, h5, h6, h7, h8⟩ := hF
  have hn2 := h6.2.2.1
  obtain ⟨c1, u1, rfl, h9, h7_1⟩ := rS_c h7
  obtain ⟨x', rfl, hx'⟩ := h9
  exact lv_lstore_n hx hb hd hi (lv_all h6.1 h6.2.1) (by omega) rfl (fun ls' hl' => k ls' _ ⟨ws, tys, h1, h2, h3, h4, h5, h6.st2 hn hf ⟨x', rfl, hx'⟩ hl', h7_1, h8⟩)
theorem sn_dstore_n (hx : p.tables.exec = Jvm.exec) (hb : c.code = cc) {n : Nat} {i : Fin 4} (hi : (i : Nat) = n) {x : UInt64} (hn : n + 1 < mls.length) (hf : lfree mls n = true) (hF : Fr D cl A sad ws0 s nL H locs mls (qD x :: r) h ls st) (hd : decode cc pc = .ok (.dstore_n i, 1))
    (k : ∀ (ls : Array Slot) (st : List Value), Fr D cl A sad ws0 s nL H locs (lset (lset mls n (qD x)) (n + 1) qU) r h ls st → W p l e R s m args below meth c H locs cells slots Q (F0 m (pc + 1) ls st)) : W p l e R s m args below meth c H locs cells slots Q (F0 m pc ls st) := by
  obtain ⟨ws, tys, h1, h2, h3, h4, h5, h6, h7, h8⟩ := hF
  have hn2 := h6.2.2.1
  obtain ⟨c1, u1, rfl, h9, h7_1⟩ := rS_c h7
  obtain rfl := h9
  exact lv_dstore_n hx hb hd hi (lv_all h6.1 h6.2.1) (by omega) rfl (fun ls' hl' => k ls' _ ⟨ws, tys, h1, h2, h3, h4, h5, h6.st2 hn hf rfl hl', h7_1, h8⟩)
theorem sn_astore_n (hx : p.tables.exec = Jvm.exec) (hb : c.code = cc) {n : Nat} {i : Fin 4} (hi : (i : Nat) = n) {v : MV} (hv : isRf v = true) (hn : n < mls.length) (hf : lfree mls n = true) (hF : Fr D cl A sad ws0 s nL H locs mls (v :: r) h ls st) (hd : decode cc pc = .ok (.astore_n i, 1))
    (k : ∀ (ls : Array Slot) (st : List Value), Fr D cl A sad ws0 s nL H locs (lset mls n (v)) r h ls st → W p l e R s m args below meth c H locs cells slots Q (F0 m (pc + 1) ls st)) : W p l e R s m args below meth c H locs cells slots Q (F0 m pc ls st) := by
  obtain ⟨ws, tys, h1, h2, h3, h4, h5, h6, h7, h8⟩ := hF
  have hn2 := h6.2.2.1
  obtain ⟨c1, u1, rfl, h9, h7_1⟩ := rS_c h7
  rcases v with y | y | y | a | a | (_ | _)
  · cases hv
  · cases hv
  · cases hv
  · obtain ⟨b, e9, rfl, g3⟩ := h9
    exact lv_astore_n hx hb hd hi (lv_all h6.1 h6.2.1) (by omega) rfl (fun ls' hl' => k ls' _ ⟨ws, tys, h1, h2, h3, h4, h5, h6.st1 hn hf ⟨b, e9, rfl, g3⟩ hl', h7_1, h8⟩)
  · obtain ⟨b, rfl, g3⟩ := h9
    exact lv_astore_n hx hb hd hi (lv_all h6.1 h6.2.1) (by omega) rfl (fun ls' hl' => k ls' _ ⟨ws, tys, h1, h2, h3, h4, h5, h6.st1 hn hf ⟨b, rfl, g3⟩ hl', h7_1, h8⟩)
  · obtain rfl := h9
    exact lv_astore_nN hx hb hd hi (lv_all h6.1 h6.2.1) (by omega) rfl (fun ls' hl' => k ls' _ ⟨ws, tys, h1, h2, h3, h4, h5, h6.st1 hn hf rfl hl', h7_1, h8⟩)
  · cases hv
theorem sn_iinc (hx : p.tables.exec = Jvm.exec) (hb : c.code = cc) {n : Nat} {q x : Int} (hl : lg mls n = qI x) (hn : n < mls.length) (hf : lfree mls n = true) (hF : Fr D cl A sad ws0 s nL H locs mls mst h ls st) (hd : decode cc pc = .ok (.iinc n q, 3))
    (k : ∀ (ls : Array Slot), Fr D cl A sad ws0 s nL H locs (lset mls n (qI (w32 (x + q)))) mst h ls st → W p l e R s m args below meth c H locs cells slots Q (F0 m (pc + 3) ls st)) : W p l e R s m args below meth c H locs cells slots Q (F0 m pc ls st) := by
  obtain ⟨ws, tys, h1, h2, h3, h4, h5, h6, h7, h8⟩ := hF
  have hn2 := h6.2.2.1
  obtain ⟨c1, g1, x', rfl, hx'⟩ := h6.2.2.2 n _ (lg_at hl (by intro q; cases q)) (by intro q; cases q)
  obtain ⟨kk, hk⟩ := List.getElem?_of_mem (lv_all_mem h6.1 g1)
  refine lv_iinc hx hb hd (lv_all h6.1 h6.2.1) hk rfl (by omega) rfl (fun ls' hl' => k ls' ⟨ws, tys, h1, h2, h3, h4, h5, h6.st1 hn hf ⟨_, rfl, ?_⟩ hl', h7, h8⟩)
  rw [Int32.toInt_add, hx', Int32.toInt_ofInt]
  simp [w32]
end SN1
