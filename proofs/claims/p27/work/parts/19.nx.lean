theorem i2c_rel (x : Int32) : ((x.toUInt32 % 65536).toInt32).toInt = x.toInt.emod 65536 := by
  obtain ⟨b⟩ := x
  obtain ⟨b⟩ := b
  show ((⟨⟨b⟩⟩ : Int32).toUInt32 % 65536).toInt32.toInt = _
  have h1 : ((⟨⟨b⟩⟩ : Int32).toUInt32 % 65536).toNat = b.toNat % 65536 := by
    rw [UInt32.toNat_mod]
    rfl
  have hb := b.isLt
  have h2 : (((⟨⟨b⟩⟩ : Int32).toUInt32 % 65536).toInt32).toInt = ((b.toNat % 65536 : Nat) : Int) := by
    rw [← h1]
    show BitVec.toInt _ = _
    rw [BitVec.toInt_eq_toNat_of_lt]
    · rfl
    · have : (((⟨⟨b⟩⟩ : Int32).toUInt32 % 65536).toInt32.toBitVec).toNat = b.toNat % 65536 := h1
      rw [this]
      omega
  rw [h2]
  have h3 : (⟨⟨b⟩⟩ : Int32).toInt = BitVec.toInt b := rfl
  rw [h3, BitVec.toInt_eq_toNat_bmod, Int.bmod_def]
  simp only [Nat.reducePow]
  show _ = _ % (65536 : Int)
  split <;> omega
theorem tab_all : ∀ o, o < 26 → tabOK o = true := by
  intro o ho
  match o, ho with
  | 0, _ => exact tab0
  | 1, _ => exact tab1
  | 2, _ => exact tab2
  | 3, _ => exact tab3
  | 4, _ => exact tab4
  | 5, _ => exact tab5
  | 6, _ => exact tab6
  | 7, _ => exact tab7
  | 8, _ => exact tab8
  | 9, _ => exact tab9
  | 10, _ => exact tab10
  | 11, _ => exact tab11
  | 12, _ => exact tab12
  | 13, _ => exact tab13
  | 14, _ => exact tab14
  | 15, _ => exact tab15
  | 16, _ => exact tab16
  | 17, _ => exact tab17
  | 18, _ => exact tab18
  | 19, _ => exact tab19
  | 20, _ => exact tab20
  | 21, _ => exact tab21
  | 22, _ => exact tab22
  | 23, _ => exact tab23
  | 24, _ => exact tab24
  | 25, _ => exact tab25
  | n + 26, h => exact absurd h (by omega)
theorem tab_none {o : Nat} (ho : ¬ o < 26) : LFd o = [] ∧ LNe o = [] ∧ LSt o = [] ∧ LZt o = [] ∧ LZn o = [] ∧ LCl o = [] ∧ LJg o = [] ∧ LPr o = [] ∧ LMt o = [] ∧ LSf o = [] ∧ LIn o = [] := by
  match o, ho with
  | 0, h => exact absurd (by decide) h
  | 1, h => exact absurd (by decide) h
  | 2, h => exact absurd (by decide) h
  | 3, h => exact absurd (by decide) h
  | 4, h => exact absurd (by decide) h
  | 5, h => exact absurd (by decide) h
  | 6, h => exact absurd (by decide) h
  | 7, h => exact absurd (by decide) h
  | 8, h => exact absurd (by decide) h
  | 9, h => exact absurd (by decide) h
  | 10, h => exact absurd (by decide) h
  | 11, h => exact absurd (by decide) h
  | 12, h => exact absurd (by decide) h
  | 13, h => exact absurd (by decide) h
  | 14, h => exact absurd (by decide) h
  | 15, h => exact absurd (by decide) h
  | 16, h => exact absurd (by decide) h
  | 17, h => exact absurd (by decide) h
  | 18, h => exact absurd (by decide) h
  | 19, h => exact absurd (by decide) h
  | 20, h => exact absurd (by decide) h
  | 21, h => exact absurd (by decide) h
  | 22, h => exact absurd (by decide) h
  | 23, h => exact absurd (by decide) h
  | 24, h => exact absurd (by decide) h
  | 25, h => exact absurd (by decide) h
  | n + 26, _ => exact ⟨rfl, rfl, rfl, rfl, rfl, rfl, rfl, rfl, rfl, rfl, rfl⟩
theorem tab_at (o : Nat) : tabOK o = true := by
  by_cases ho : o < 26
  · exact tab_all o ho
  · obtain ⟨h1, h2, h3, h4, h5, h6, h7, h8, -, h9, h10⟩ := tab_none ho
    unfold tabOK
    rw [h1, h2, h3, h4, h5, h6, h7, h8, h9, h10]
    rfl
theorem tab_sp (o : Nat) : (∀ x ∈ LFd o, (.fieldLink (CN o) x.1 (tF x.2.1 x.2.2.1).1 (tF x.2.1 x.2.2.1).2.1 (tF x.2.1 x.2.2.1).2.2.1) ∈ GT ∧ x.2.1 < 15 ∧ x.2.2.1 < (uQ x.2.1).2.2) ∧
    (∀ x ∈ LNe o, (.fieldLinkNest (CN o) x.1 (tF x.2.1 x.2.2.1).1 (tF x.2.1 x.2.2.1).2.1 (tF x.2.1 x.2.2.1).2.2.1 (HN o)) ∈ lw_tbl ∧ x.2.1 < 15 ∧ x.2.2.1 < (uQ x.2.1).2.2) ∧
    (∀ x ∈ LSt o, (.fieldLink (CN o) x.1 (FS x.2.1).1 (FS x.2.1).2.1 (FS x.2.1).2.2) ∈ GT) ∧
    (∀ x ∈ LZt o, (x.2.1 = 99 → (.fieldLink (CN o) x.1 "jdk/internal/util/Preconditions" "SIOOBE_FORMATTER" "Ljava/util/function/BiFunction;") ∈ GT) ∧ (x.2.1 ≠ 99 → ∃ z, ZS[x.2.1]? = some z ∧ (.fieldLink (CN o) x.1 z.1 z.2.1 z.2.2.1) ∈ GT)) ∧
    (∀ x ∈ LZn o, ∃ z, ZS[x.2.1]? = some z ∧ (.fieldLinkNest (CN o) x.1 z.1 z.2.1 z.2.2.1 (HN o)) ∈ lw_tbl) ∧
    (∀ x ∈ LCl o, (.classLink (CN o) x.1 (clX x.2.1)) ∈ GT) ∧
    (∀ x ∈ LJg o, (.constantLong (CN o) x.1 (Int64.ofInt x.2.1)) ∈ GT) ∧
    (∀ x ∈ LPr o, (.methodLink (CN o) x.1 (prX x.2.1)) ∈ GT) ∧
    (∀ x ∈ LSf o, (.fieldLink (CN o) x.1 "java/util/ArrayList" (tF x.2.1 x.2.2.1).2.1 (tF x.2.1 x.2.2.1).2.2.1) ∈ GT ∧ (.sameField "java/util/ArrayList" (tF x.2.1 x.2.2.1).1 (tF x.2.1 x.2.2.1).2.1 (tF x.2.1 x.2.2.1).2.2.1) ∈ GT ∧ x.2.1 < 15 ∧ x.2.2.1 < (uQ x.2.1).2.2) ∧
    (∀ x ∈ LIn o, (.constant (CN o) x.1 (Int32.ofInt x.2.1)) ∈ GT) := by
  have h := tab_at o
  unfold tabOK at h
  simp only [Bool.and_eq_true, List.all_eq_true, decide_eq_true_eq] at h
  obtain ⟨⟨⟨⟨⟨⟨⟨⟨⟨h1, h2⟩, hsf⟩, h3⟩, h4⟩, h5⟩, h6⟩, h7⟩, hin⟩, h8⟩ := h
  refine ⟨fun x hx => ⟨inT_ok (h1 x hx).1.1, (h1 x hx).1.2, (h1 x hx).2⟩, fun x hx => ⟨inU_ok (h2 x hx).1.1, (h2 x hx).1.2, (h2 x hx).2⟩, fun x hx => inT_ok (h3 x hx), fun x hx => ⟨fun g => ?_, fun g => ?_⟩, fun x hx => ?_, fun x hx => inT_ok (h6 x hx), fun x hx => inT_ok (h7 x hx), fun x hx => inT_ok (h8 x hx), fun x hx => ⟨inT_ok (hsf x hx).1.1.1, inT_ok (hsf x hx).1.1.2, (hsf x hx).1.2, (hsf x hx).2⟩, fun x hx => inT_ok (hin x hx)⟩
  · have := h4 x hx
    rw [if_pos g] at this
    exact inT_ok this
  · have := h4 x hx
    rw [if_neg g] at this
    split at this
    · rename_i z hz
      exact ⟨z, hz, inT_ok this⟩
    · cases this
  · have := h5 x hx
    split at this
    · rename_i z hz
      exact ⟨z, hz, inU_ok this⟩
    · cases this
theorem tab_J {o : Nat} {x : Nat × Int × Nat} (h : x ∈ LJg o) : (.constantLong (CN o) x.1 (Int64.ofInt x.2.1)) ∈ GT := (tab_sp o).2.2.2.2.2.2.1 x h
theorem sn_i2c {p : Program} {l : Launch} {e : Env} {R : Room} {s : State} {m : MethodId} {args : Array Value} {below : List Frame} {meth : Method} {c : Code} {H : Heap} {locs : List Loc} {cells slots : Nat} {Q : State → Prop} {cc : ByteArray} {pc nL : Nat} {D : va_G} {cl : List vw_C} {A : Nat → Prop} {sad : Nat → Nat} {ws0 : va_W} {mls r : List MV} {h : MH} {ls : Array Slot} {st : List Value} (hx : p.tables.exec = Jvm.exec) (hb : c.code = cc) {x : Int} (hF : Fr D cl A sad ws0 s nL H locs mls (qI x :: r) h ls st) (hd : decode cc pc = .ok (.i2c, 1))
    (k : ∀ st : List Value, Fr D cl A sad ws0 s nL H locs mls (qI (x.emod 65536) :: r) h ls st → W p l e R s m args below meth c H locs cells slots Q (F0 m (pc + 1) ls st)) : W p l e R s m args below meth c H locs cells slots Q (F0 m pc ls st) := by
  obtain ⟨ws, tys, h1, h2, h3, h4, h5, h6, h7, h8⟩ := hF
  obtain ⟨c1, u1, rfl, ⟨x', rfl, hx'⟩, h7_1⟩ := rS_c h7
  refine lv_i2c hx hb hd rfl (k _ ⟨ws, tys, h1, h2, h3, h4, h5, h6, ⟨⟨_, rfl, ?_⟩, h7_1⟩, h8⟩)
  subst hx'
  exact i2c_rel x'
/-! ===== A STEP OF THE SMALL MACHINE IS STEPS OF THE LARGE ONE ===== -/
def Cx (sad : Nat → Nat) (G : MG) (A : Nat → Prop) (p : Program) (R : Room) (s : State) (m : MethodId) (args : Array Value) (meth : Method) (c : Code) (o : Nat) (ini : Bool) (cc : ByteArray) (nL : Nat) : Prop :=
  p.tables.exec = Jvm.exec ∧ c.code = cc ∧ c.maxLocals = nL ∧ s.vm.findClass (CN o) = some m.cls ∧ (∀ w ∈ GT, w.before args s = true) ∧ (∀ q, s.heap.size ≤ q → A q) ∧ sS sad G A s s.heap ∧ (ini = true → meth.name = "<init>") ∧ (∀ a b, a < 46 → b < 46 → sad a = sad b → a = b) ∧ G.2.2.2 = CF ∧ 1 ≤ R.frames ∧ 100 ≤ R.locals
def Nxt (D : va_G) (A : Nat → Prop) (sad : Nat → Nat) (ws0 : va_W) (B : Nat → List MI) (P : Nat → Nat) (is : List MI) (q : Nat) (p : Program) (l : Launch) (e : Env) (R : Room) (s : State) (m : MethodId) (args : Array Value) (below : List Frame) (meth : Method) (c : Code) (cells slots : Nat) (Q : State → Prop) (nL : Nat) (h : MH) (is2 : List MI) (mls2 mst2 : List MV) (h2 : MH) : Prop :=
  ∀ (pc2 : Nat) (H : Heap) (locs : List Loc) (ls : Array Slot) (st : List Value) (cells2 slots2 : Nat), ((is2 = is ∧ pc2 = q) ∨ ∃ k, is2 = B k ∧ pc2 = P k) → Fr D clsT A sad ws0 s nL H locs mls2 mst2 h2 ls st → cells + h2.2.2.1 = cells2 + h.2.2.1 → slots + h2.2.2.2 = slots2 + h.2.2.2 → W p l e R s m args below meth c H locs cells2 slots2 Q (F0 m pc2 ls st)
section NX
variable {p : Program} {l : Launch} {e : Env} {R : Room} {s : State} {m : MethodId} {args : Array Value} {below : List Frame} {meth : Method} {c : Code} {H : Heap} {locs : List Loc} {cells slots : Nat} {Q : State → Prop}
variable {cc : ByteArray} {pc nL q : Nat} {D : va_G} {A : Nat → Prop} {sad : Nat → Nat} {ws0 : va_W} {mls mst mls2 mst2 : List MV} {h h2 : MH} {ls : Array Slot} {st : List Value}
variable {o : Nat} {ini : Bool} {ret : Option FieldType} {B : Nat → List MI} {P : Nat → Nat} {G : MG} {is is2 : List MI} {ar : List Nat} {v : Int}
theorem nx_iadd (C : Cx sad G A p R s m args meth c o ini cc nL)  (hs : mStep G B (.iadd, ar, v) is mls mst h = some (.inl (is2, mls2, mst2, h2))) (ho : okI o ini ret cc P pc (.iadd, ar, v) = some q) (hF : Fr D clsT A sad ws0 s nL H locs mls mst h ls st) (hr1 : cells + h2.2.2.1 ≤ R.cells + h.2.2.1) (hr2 : slots + h2.2.2.2 ≤ R.slots + h.2.2.2) (kk : Nxt D A sad ws0 B P is q p l e R s m args below meth c cells slots Q nL h is2 mls2 mst2 h2) : W p l e R s m args below meth c H locs cells slots Q (F0 m pc ls st) := by
  obtain ⟨hx, hb, hml, hown, hts, hA, hS0, hini, hinj, hG, hRf, hRl⟩ := C
  unfold okI at ho
  obtain ⟨hd, rfl⟩ := s1_ok ho
  unfold mStep at hs
  dsimp only at hs
  split at hs
  · cases hs
    exact sn_iadd hx hb hF hd (fun st hF2 => kk _ _ _ _ _ _ _ (Or.inl ⟨rfl, rfl⟩) hF2 rfl rfl)
  · cases hs
theorem nx_isub (C : Cx sad G A p R s m args meth c o ini cc nL)  (hs : mStep G B (.isub, ar, v) is mls mst h = some (.inl (is2, mls2, mst2, h2))) (ho : okI o ini ret cc P pc (.isub, ar, v) = some q) (hF : Fr D clsT A sad ws0 s nL H locs mls mst h ls st) (hr1 : cells + h2.2.2.1 ≤ R.cells + h.2.2.1) (hr2 : slots + h2.2.2.2 ≤ R.slots + h.2.2.2) (kk : Nxt D A sad ws0 B P is q p l e R s m args below meth c cells slots Q nL h is2 mls2 mst2 h2) : W p l e R s m args below meth c H locs cells slots Q (F0 m pc ls st) := by
  obtain ⟨hx, hb, hml, hown, hts, hA, hS0, hini, hinj, hG, hRf, hRl⟩ := C
  unfold okI at ho
  obtain ⟨hd, rfl⟩ := s1_ok ho
  unfold mStep at hs
  dsimp only at hs
  split at hs
  · cases hs
    exact sn_isub hx hb hF hd (fun st hF2 => kk _ _ _ _ _ _ _ (Or.inl ⟨rfl, rfl⟩) hF2 rfl rfl)
  · cases hs
theorem nx_imul (C : Cx sad G A p R s m args meth c o ini cc nL)  (hs : mStep G B (.imul, ar, v) is mls mst h = some (.inl (is2, mls2, mst2, h2))) (ho : okI o ini ret cc P pc (.imul, ar, v) = some q) (hF : Fr D clsT A sad ws0 s nL H locs mls mst h ls st) (hr1 : cells + h2.2.2.1 ≤ R.cells + h.2.2.1) (hr2 : slots + h2.2.2.2 ≤ R.slots + h.2.2.2) (kk : Nxt D A sad ws0 B P is q p l e R s m args below meth c cells slots Q nL h is2 mls2 mst2 h2) : W p l e R s m args below meth c H locs cells slots Q (F0 m pc ls st) := by
  obtain ⟨hx, hb, hml, hown, hts, hA, hS0, hini, hinj, hG, hRf, hRl⟩ := C
  unfold okI at ho
  obtain ⟨hd, rfl⟩ := s1_ok ho
  unfold mStep at hs
  dsimp only at hs
  split at hs
  · cases hs
    exact sn_imul hx hb hF hd (fun st hF2 => kk _ _ _ _ _ _ _ (Or.inl ⟨rfl, rfl⟩) hF2 rfl rfl)
  · cases hs
theorem nx_ineg (C : Cx sad G A p R s m args meth c o ini cc nL)  (hs : mStep G B (.ineg, ar, v) is mls mst h = some (.inl (is2, mls2, mst2, h2))) (ho : okI o ini ret cc P pc (.ineg, ar, v) = some q) (hF : Fr D clsT A sad ws0 s nL H locs mls mst h ls st) (hr1 : cells + h2.2.2.1 ≤ R.cells + h.2.2.1) (hr2 : slots + h2.2.2.2 ≤ R.slots + h.2.2.2) (kk : Nxt D A sad ws0 B P is q p l e R s m args below meth c cells slots Q nL h is2 mls2 mst2 h2) : W p l e R s m args below meth c H locs cells slots Q (F0 m pc ls st) := by
  obtain ⟨hx, hb, hml, hown, hts, hA, hS0, hini, hinj, hG, hRf, hRl⟩ := C
  unfold okI at ho
  obtain ⟨hd, rfl⟩ := s1_ok ho
  unfold mStep at hs
  dsimp only at hs
  split at hs
  · cases hs
    exact sn_ineg hx hb hF hd (fun st hF2 => kk _ _ _ _ _ _ _ (Or.inl ⟨rfl, rfl⟩) hF2 rfl rfl)
  · cases hs
theorem nx_iand (C : Cx sad G A p R s m args meth c o ini cc nL)  (hs : mStep G B (.iand, ar, v) is mls mst h = some (.inl (is2, mls2, mst2, h2))) (ho : okI o ini ret cc P pc (.iand, ar, v) = some q) (hF : Fr D clsT A sad ws0 s nL H locs mls mst h ls st) (hr1 : cells + h2.2.2.1 ≤ R.cells + h.2.2.1) (hr2 : slots + h2.2.2.2 ≤ R.slots + h.2.2.2) (kk : Nxt D A sad ws0 B P is q p l e R s m args below meth c cells slots Q nL h is2 mls2 mst2 h2) : W p l e R s m args below meth c H locs cells slots Q (F0 m pc ls st) := by
  obtain ⟨hx, hb, hml, hown, hts, hA, hS0, hini, hinj, hG, hRf, hRl⟩ := C
  unfold okI at ho
  obtain ⟨hd, rfl⟩ := s1_ok ho
  unfold mStep at hs
  dsimp only at hs
  split at hs
  · cases hs
    exact sn_iand hx hb hF hd (fun st hF2 => kk _ _ _ _ _ _ _ (Or.inl ⟨rfl, rfl⟩) hF2 rfl rfl)
  · cases hs
theorem nx_ior (C : Cx sad G A p R s m args meth c o ini cc nL)  (hs : mStep G B (.ior, ar, v) is mls mst h = some (.inl (is2, mls2, mst2, h2))) (ho : okI o ini ret cc P pc (.ior, ar, v) = some q) (hF : Fr D clsT A sad ws0 s nL H locs mls mst h ls st) (hr1 : cells + h2.2.2.1 ≤ R.cells + h.2.2.1) (hr2 : slots + h2.2.2.2 ≤ R.slots + h.2.2.2) (kk : Nxt D A sad ws0 B P is q p l e R s m args below meth c cells slots Q nL h is2 mls2 mst2 h2) : W p l e R s m args below meth c H locs cells slots Q (F0 m pc ls st) := by
  obtain ⟨hx, hb, hml, hown, hts, hA, hS0, hini, hinj, hG, hRf, hRl⟩ := C
  unfold okI at ho
  obtain ⟨hd, rfl⟩ := s1_ok ho
  unfold mStep at hs
  dsimp only at hs
  split at hs
  · cases hs
    exact sn_ior hx hb hF hd (fun st hF2 => kk _ _ _ _ _ _ _ (Or.inl ⟨rfl, rfl⟩) hF2 rfl rfl)
  · cases hs
theorem nx_ishr (C : Cx sad G A p R s m args meth c o ini cc nL)  (hs : mStep G B (.ishr, ar, v) is mls mst h = some (.inl (is2, mls2, mst2, h2))) (ho : okI o ini ret cc P pc (.ishr, ar, v) = some q) (hF : Fr D clsT A sad ws0 s nL H locs mls mst h ls st) (hr1 : cells + h2.2.2.1 ≤ R.cells + h.2.2.1) (hr2 : slots + h2.2.2.2 ≤ R.slots + h.2.2.2) (kk : Nxt D A sad ws0 B P is q p l e R s m args below meth c cells slots Q nL h is2 mls2 mst2 h2) : W p l e R s m args below meth c H locs cells slots Q (F0 m pc ls st) := by
  obtain ⟨hx, hb, hml, hown, hts, hA, hS0, hini, hinj, hG, hRf, hRl⟩ := C
  unfold okI at ho
  obtain ⟨hd, rfl⟩ := s1_ok ho
  unfold mStep at hs
  dsimp only at hs
  split at hs
  · cases hs
    exact sn_ishr hx hb hF hd (fun st hF2 => kk _ _ _ _ _ _ _ (Or.inl ⟨rfl, rfl⟩) hF2 rfl rfl)
  · cases hs
theorem nx_ishl (C : Cx sad G A p R s m args meth c o ini cc nL)  (hs : mStep G B (.ishl, ar, v) is mls mst h = some (.inl (is2, mls2, mst2, h2))) (ho : okI o ini ret cc P pc (.ishl, ar, v) = some q) (hF : Fr D clsT A sad ws0 s nL H locs mls mst h ls st) (hr1 : cells + h2.2.2.1 ≤ R.cells + h.2.2.1) (hr2 : slots + h2.2.2.2 ≤ R.slots + h.2.2.2) (kk : Nxt D A sad ws0 B P is q p l e R s m args below meth c cells slots Q nL h is2 mls2 mst2 h2) : W p l e R s m args below meth c H locs cells slots Q (F0 m pc ls st) := by
  obtain ⟨hx, hb, hml, hown, hts, hA, hS0, hini, hinj, hG, hRf, hRl⟩ := C
  unfold okI at ho
  obtain ⟨hd, rfl⟩ := s1_ok ho
  unfold mStep at hs
  dsimp only at hs
  split at hs
  · cases hs
    exact sn_ishl hx hb hF hd (fun st hF2 => kk _ _ _ _ _ _ _ (Or.inl ⟨rfl, rfl⟩) hF2 rfl rfl)
  · cases hs
theorem nx_iushr (C : Cx sad G A p R s m args meth c o ini cc nL)  (hs : mStep G B (.iushr, ar, v) is mls mst h = some (.inl (is2, mls2, mst2, h2))) (ho : okI o ini ret cc P pc (.iushr, ar, v) = some q) (hF : Fr D clsT A sad ws0 s nL H locs mls mst h ls st) (hr1 : cells + h2.2.2.1 ≤ R.cells + h.2.2.1) (hr2 : slots + h2.2.2.2 ≤ R.slots + h.2.2.2) (kk : Nxt D A sad ws0 B P is q p l e R s m args below meth c cells slots Q nL h is2 mls2 mst2 h2) : W p l e R s m args below meth c H locs cells slots Q (F0 m pc ls st) := by
  obtain ⟨hx, hb, hml, hown, hts, hA, hS0, hini, hinj, hG, hRf, hRl⟩ := C
  unfold okI at ho
  obtain ⟨hd, rfl⟩ := s1_ok ho
  unfold mStep at hs
  dsimp only at hs
  split at hs
  · cases hs
    exact sn_iushr hx hb hF hd (fun st hF2 => kk _ _ _ _ _ _ _ (Or.inl ⟨rfl, rfl⟩) hF2 rfl rfl)
  · cases hs
theorem nx_i2b (C : Cx sad G A p R s m args meth c o ini cc nL)  (hs : mStep G B (.i2b, ar, v) is mls mst h = some (.inl (is2, mls2, mst2, h2))) (ho : okI o ini ret cc P pc (.i2b, ar, v) = some q) (hF : Fr D clsT A sad ws0 s nL H locs mls mst h ls st) (hr1 : cells + h2.2.2.1 ≤ R.cells + h.2.2.1) (hr2 : slots + h2.2.2.2 ≤ R.slots + h.2.2.2) (kk : Nxt D A sad ws0 B P is q p l e R s m args below meth c cells slots Q nL h is2 mls2 mst2 h2) : W p l e R s m args below meth c H locs cells slots Q (F0 m pc ls st) := by
  obtain ⟨hx, hb, hml, hown, hts, hA, hS0, hini, hinj, hG, hRf, hRl⟩ := C
  unfold okI at ho
  obtain ⟨hd, rfl⟩ := s1_ok ho
  unfold mStep at hs
  dsimp only at hs
  split at hs
  · cases hs
    exact sn_i2b hx hb hF hd (fun st hF2 => kk _ _ _ _ _ _ _ (Or.inl ⟨rfl, rfl⟩) hF2 rfl rfl)
  · cases hs
theorem nx_i2c (C : Cx sad G A p R s m args meth c o ini cc nL)  (hs : mStep G B (.i2c, ar, v) is mls mst h = some (.inl (is2, mls2, mst2, h2))) (ho : okI o ini ret cc P pc (.i2c, ar, v) = some q) (hF : Fr D clsT A sad ws0 s nL H locs mls mst h ls st) (hr1 : cells + h2.2.2.1 ≤ R.cells + h.2.2.1) (hr2 : slots + h2.2.2.2 ≤ R.slots + h.2.2.2) (kk : Nxt D A sad ws0 B P is q p l e R s m args below meth c cells slots Q nL h is2 mls2 mst2 h2) : W p l e R s m args below meth c H locs cells slots Q (F0 m pc ls st) := by
  obtain ⟨hx, hb, hml, hown, hts, hA, hS0, hini, hinj, hG, hRf, hRl⟩ := C
  unfold okI at ho
  obtain ⟨hd, rfl⟩ := s1_ok ho
  unfold mStep at hs
  dsimp only at hs
  split at hs
  · cases hs
    exact sn_i2c hx hb hF hd (fun st hF2 => kk _ _ _ _ _ _ _ (Or.inl ⟨rfl, rfl⟩) hF2 rfl rfl)
  · cases hs
theorem nx_i2l (C : Cx sad G A p R s m args meth c o ini cc nL)  (hs : mStep G B (.i2l, ar, v) is mls mst h = some (.inl (is2, mls2, mst2, h2))) (ho : okI o ini ret cc P pc (.i2l, ar, v) = some q) (hF : Fr D clsT A sad ws0 s nL H locs mls mst h ls st) (hr1 : cells + h2.2.2.1 ≤ R.cells + h.2.2.1) (hr2 : slots + h2.2.2.2 ≤ R.slots + h.2.2.2) (kk : Nxt D A sad ws0 B P is q p l e R s m args below meth c cells slots Q nL h is2 mls2 mst2 h2) : W p l e R s m args below meth c H locs cells slots Q (F0 m pc ls st) := by
  obtain ⟨hx, hb, hml, hown, hts, hA, hS0, hini, hinj, hG, hRf, hRl⟩ := C
  unfold okI at ho
  obtain ⟨hd, rfl⟩ := s1_ok ho
  unfold mStep at hs
  dsimp only at hs
  split at hs
  · cases hs
    exact sn_i2l hx hb hF hd (fun st hF2 => kk _ _ _ _ _ _ _ (Or.inl ⟨rfl, rfl⟩) hF2 rfl rfl)
  · cases hs
theorem nx_ladd (C : Cx sad G A p R s m args meth c o ini cc nL)  (hs : mStep G B (.ladd, ar, v) is mls mst h = some (.inl (is2, mls2, mst2, h2))) (ho : okI o ini ret cc P pc (.ladd, ar, v) = some q) (hF : Fr D clsT A sad ws0 s nL H locs mls mst h ls st) (hr1 : cells + h2.2.2.1 ≤ R.cells + h.2.2.1) (hr2 : slots + h2.2.2.2 ≤ R.slots + h.2.2.2) (kk : Nxt D A sad ws0 B P is q p l e R s m args below meth c cells slots Q nL h is2 mls2 mst2 h2) : W p l e R s m args below meth c H locs cells slots Q (F0 m pc ls st) := by
  obtain ⟨hx, hb, hml, hown, hts, hA, hS0, hini, hinj, hG, hRf, hRl⟩ := C
  unfold okI at ho
  obtain ⟨hd, rfl⟩ := s1_ok ho
  unfold mStep at hs
  dsimp only at hs
  split at hs
  · cases hs
    exact sn_ladd hx hb hF hd (fun st hF2 => kk _ _ _ _ _ _ _ (Or.inl ⟨rfl, rfl⟩) hF2 rfl rfl)
  · cases hs
theorem nx_lmul (C : Cx sad G A p R s m args meth c o ini cc nL)  (hs : mStep G B (.lmul, ar, v) is mls mst h = some (.inl (is2, mls2, mst2, h2))) (ho : okI o ini ret cc P pc (.lmul, ar, v) = some q) (hF : Fr D clsT A sad ws0 s nL H locs mls mst h ls st) (hr1 : cells + h2.2.2.1 ≤ R.cells + h.2.2.1) (hr2 : slots + h2.2.2.2 ≤ R.slots + h.2.2.2) (kk : Nxt D A sad ws0 B P is q p l e R s m args below meth c cells slots Q nL h is2 mls2 mst2 h2) : W p l e R s m args below meth c H locs cells slots Q (F0 m pc ls st) := by
  obtain ⟨hx, hb, hml, hown, hts, hA, hS0, hini, hinj, hG, hRf, hRl⟩ := C
  unfold okI at ho
  obtain ⟨hd, rfl⟩ := s1_ok ho
  unfold mStep at hs
  dsimp only at hs
  split at hs
  · cases hs
    exact sn_lmul hx hb hF hd (fun st hF2 => kk _ _ _ _ _ _ _ (Or.inl ⟨rfl, rfl⟩) hF2 rfl rfl)
  · cases hs
theorem nx_lcmp (C : Cx sad G A p R s m args meth c o ini cc nL)  (hs : mStep G B (.lcmp, ar, v) is mls mst h = some (.inl (is2, mls2, mst2, h2))) (ho : okI o ini ret cc P pc (.lcmp, ar, v) = some q) (hF : Fr D clsT A sad ws0 s nL H locs mls mst h ls st) (hr1 : cells + h2.2.2.1 ≤ R.cells + h.2.2.1) (hr2 : slots + h2.2.2.2 ≤ R.slots + h.2.2.2) (kk : Nxt D A sad ws0 B P is q p l e R s m args below meth c cells slots Q nL h is2 mls2 mst2 h2) : W p l e R s m args below meth c H locs cells slots Q (F0 m pc ls st) := by
  obtain ⟨hx, hb, hml, hown, hts, hA, hS0, hini, hinj, hG, hRf, hRl⟩ := C
  unfold okI at ho
  obtain ⟨hd, rfl⟩ := s1_ok ho
  unfold mStep at hs
  dsimp only at hs
  split at hs
  · cases hs
    exact sn_lcmp hx hb hF hd (fun st hF2 => kk _ _ _ _ _ _ _ (Or.inl ⟨rfl, rfl⟩) hF2 rfl rfl)
  · cases hs
theorem nx_i2d (C : Cx sad G A p R s m args meth c o ini cc nL)  (hs : mStep G B (.i2d, ar, v) is mls mst h = some (.inl (is2, mls2, mst2, h2))) (ho : okI o ini ret cc P pc (.i2d, ar, v) = some q) (hF : Fr D clsT A sad ws0 s nL H locs mls mst h ls st) (hr1 : cells + h2.2.2.1 ≤ R.cells + h.2.2.1) (hr2 : slots + h2.2.2.2 ≤ R.slots + h.2.2.2) (kk : Nxt D A sad ws0 B P is q p l e R s m args below meth c cells slots Q nL h is2 mls2 mst2 h2) : W p l e R s m args below meth c H locs cells slots Q (F0 m pc ls st) := by
  obtain ⟨hx, hb, hml, hown, hts, hA, hS0, hini, hinj, hG, hRf, hRl⟩ := C
  unfold okI at ho
  obtain ⟨hd, rfl⟩ := s1_ok ho
  unfold mStep at hs
  dsimp only at hs
  split at hs
  · cases hs
    exact sn_i2d hx hb hF hd (fun st hF2 => kk _ _ _ _ _ _ _ (Or.inl ⟨rfl, rfl⟩) hF2 rfl rfl)
  · cases hs
theorem nx_dcmp (C : Cx sad G A p R s m args meth c o ini cc nL) {w : CmpOp} (hs : mStep G B (.dcmp w, ar, v) is mls mst h = some (.inl (is2, mls2, mst2, h2))) (ho : okI o ini ret cc P pc (.dcmp w, ar, v) = some q) (hF : Fr D clsT A sad ws0 s nL H locs mls mst h ls st) (hr1 : cells + h2.2.2.1 ≤ R.cells + h.2.2.1) (hr2 : slots + h2.2.2.2 ≤ R.slots + h.2.2.2) (kk : Nxt D A sad ws0 B P is q p l e R s m args below meth c cells slots Q nL h is2 mls2 mst2 h2) : W p l e R s m args below meth c H locs cells slots Q (F0 m pc ls st) := by
  obtain ⟨hx, hb, hml, hown, hts, hA, hS0, hini, hinj, hG, hRf, hRl⟩ := C
  unfold okI at ho
  obtain ⟨hd, rfl⟩ := s1_ok ho
  unfold mStep at hs
  dsimp only at hs
  split at hs
  · cases hs
    exact sn_dcmp hx hb hF hd (fun st hF2 => kk _ _ _ _ _ _ _ (Or.inl ⟨rfl, rfl⟩) hF2 rfl rfl)
  · cases hs
theorem nx_idiv (C : Cx sad G A p R s m args meth c o ini cc nL)  (hs : mStep G B (.idiv, ar, v) is mls mst h = some (.inl (is2, mls2, mst2, h2))) (ho : okI o ini ret cc P pc (.idiv, ar, v) = some q) (hF : Fr D clsT A sad ws0 s nL H locs mls mst h ls st) (hr1 : cells + h2.2.2.1 ≤ R.cells + h.2.2.1) (hr2 : slots + h2.2.2.2 ≤ R.slots + h.2.2.2) (kk : Nxt D A sad ws0 B P is q p l e R s m args below meth c cells slots Q nL h is2 mls2 mst2 h2) : W p l e R s m args below meth c H locs cells slots Q (F0 m pc ls st) := by
  obtain ⟨hx, hb, hml, hown, hts, hA, hS0, hini, hinj, hG, hRf, hRl⟩ := C
  unfold okI at ho
  obtain ⟨hd, rfl⟩ := s1_ok ho
  unfold mStep at hs
  dsimp only at hs
  split at hs
  · split at hs
    · cases hs
    · rename_i h0
      cases hs
      exact sn_idiv hx hb h0 hF hd (fun st hF2 => kk _ _ _ _ _ _ _ (Or.inl ⟨rfl, rfl⟩) hF2 rfl rfl)
  · cases hs
theorem nx_irem (C : Cx sad G A p R s m args meth c o ini cc nL)  (hs : mStep G B (.irem, ar, v) is mls mst h = some (.inl (is2, mls2, mst2, h2))) (ho : okI o ini ret cc P pc (.irem, ar, v) = some q) (hF : Fr D clsT A sad ws0 s nL H locs mls mst h ls st) (hr1 : cells + h2.2.2.1 ≤ R.cells + h.2.2.1) (hr2 : slots + h2.2.2.2 ≤ R.slots + h.2.2.2) (kk : Nxt D A sad ws0 B P is q p l e R s m args below meth c cells slots Q nL h is2 mls2 mst2 h2) : W p l e R s m args below meth c H locs cells slots Q (F0 m pc ls st) := by
  obtain ⟨hx, hb, hml, hown, hts, hA, hS0, hini, hinj, hG, hRf, hRl⟩ := C
  unfold okI at ho
  obtain ⟨hd, rfl⟩ := s1_ok ho
  unfold mStep at hs
  dsimp only at hs
  split at hs
  · split at hs
    · cases hs
    · rename_i h0
      cases hs
      exact sn_irem hx hb h0 hF hd (fun st hF2 => kk _ _ _ _ _ _ _ (Or.inl ⟨rfl, rfl⟩) hF2 rfl rfl)
  · cases hs
theorem nx_ddiv (C : Cx sad G A p R s m args meth c o ini cc nL)  (hs : mStep G B (.ddiv, ar, v) is mls mst h = some (.inl (is2, mls2, mst2, h2))) (ho : okI o ini ret cc P pc (.ddiv, ar, v) = some q) (hF : Fr D clsT A sad ws0 s nL H locs mls mst h ls st) (hr1 : cells + h2.2.2.1 ≤ R.cells + h.2.2.1) (hr2 : slots + h2.2.2.2 ≤ R.slots + h.2.2.2) (kk : Nxt D A sad ws0 B P is q p l e R s m args below meth c cells slots Q nL h is2 mls2 mst2 h2) : W p l e R s m args below meth c H locs cells slots Q (F0 m pc ls st) := by
  obtain ⟨hx, hb, hml, hown, hts, hA, hS0, hini, hinj, hG, hRf, hRl⟩ := C
  unfold okI at ho
  obtain ⟨hd, rfl⟩ := s1_ok ho
  unfold mStep at hs
  dsimp only at hs
  split at hs
  · split at hs
    · rename_i h0
      cases hs
      exact sn_ddiv hx hb h0 hF hd (fun st hF2 => kk _ _ _ _ _ _ _ (Or.inl ⟨rfl, rfl⟩) hF2 rfl rfl)
    · cases hs
  · cases hs
theorem nx_sipush (C : Cx sad G A p R s m args meth c o ini cc nL) {n : Int} (hs : mStep G B (.sipush n, ar, v) is mls mst h = some (.inl (is2, mls2, mst2, h2))) (ho : okI o ini ret cc P pc (.sipush n, ar, v) = some q) (hF : Fr D clsT A sad ws0 s nL H locs mls mst h ls st) (hr1 : cells + h2.2.2.1 ≤ R.cells + h.2.2.1) (hr2 : slots + h2.2.2.2 ≤ R.slots + h.2.2.2) (kk : Nxt D A sad ws0 B P is q p l e R s m args below meth c cells slots Q nL h is2 mls2 mst2 h2) : W p l e R s m args below meth c H locs cells slots Q (F0 m pc ls st) := by
  obtain ⟨hx, hb, hml, hown, hts, hA, hS0, hini, hinj, hG, hRf, hRl⟩ := C
  unfold okI at ho
  unfold mStep at hs
  dsimp only at hs ho
  cases hs
  split at ho
  · rename_i g
    cases ho
    simp only [Bool.and_eq_true, decide_eq_true_eq] at g
    exact sn_iconst hx hb hF (dc_ok g.1) g.2 (fun st hF2 => kk _ _ _ _ _ _ _ (Or.inl ⟨rfl, rfl⟩) hF2 rfl rfl)
  · split at ho
    · rename_i g
      cases ho
      simp only [Bool.and_eq_true, decide_eq_true_eq] at g
      exact sn_bipush hx hb hF (dc_ok g.1) g.2 (fun st hF2 => kk _ _ _ _ _ _ _ (Or.inl ⟨rfl, rfl⟩) hF2 rfl rfl)
    · split at ho
      · rename_i g
        cases ho
        simp only [Bool.and_eq_true, decide_eq_true_eq] at g
        exact sn_sipush hx hb hF (dc_ok g.1) g.2 (fun st hF2 => kk _ _ _ _ _ _ _ (Or.inl ⟨rfl, rfl⟩) hF2 rfl rfl)
      · cases ho
theorem nx_lconst (C : Cx sad G A p R s m args meth c o ini cc nL) {n : Fin 2} (hs : mStep G B (.lconst n, ar, v) is mls mst h = some (.inl (is2, mls2, mst2, h2))) (ho : okI o ini ret cc P pc (.lconst n, ar, v) = some q) (hF : Fr D clsT A sad ws0 s nL H locs mls mst h ls st) (hr1 : cells + h2.2.2.1 ≤ R.cells + h.2.2.1) (hr2 : slots + h2.2.2.2 ≤ R.slots + h.2.2.2) (kk : Nxt D A sad ws0 B P is q p l e R s m args below meth c cells slots Q nL h is2 mls2 mst2 h2) : W p l e R s m args below meth c H locs cells slots Q (F0 m pc ls st) := by
  obtain ⟨hx, hb, hml, hown, hts, hA, hS0, hini, hinj, hG, hRf, hRl⟩ := C
  unfold okI at ho
  unfold mStep at hs
  dsimp only at hs ho
  cases hs
  obtain ⟨g, ho⟩ := gd_ok ho
  obtain ⟨hd, rfl⟩ := s1_ok ho
  exact sn_lconst hx hb hF hd (of_decide_eq_true g) (fun st hF2 => kk _ _ _ _ _ _ _ (Or.inl ⟨rfl, rfl⟩) hF2 rfl rfl)
theorem nx_dconst (C : Cx sad G A p R s m args meth c o ini cc nL) {n : Fin 2} (hs : mStep G B (.dconst n, ar, v) is mls mst h = some (.inl (is2, mls2, mst2, h2))) (ho : okI o ini ret cc P pc (.dconst n, ar, v) = some q) (hF : Fr D clsT A sad ws0 s nL H locs mls mst h ls st) (hr1 : cells + h2.2.2.1 ≤ R.cells + h.2.2.1) (hr2 : slots + h2.2.2.2 ≤ R.slots + h.2.2.2) (kk : Nxt D A sad ws0 B P is q p l e R s m args below meth c cells slots Q nL h is2 mls2 mst2 h2) : W p l e R s m args below meth c H locs cells slots Q (F0 m pc ls st) := by
  obtain ⟨hx, hb, hml, hown, hts, hA, hS0, hini, hinj, hG, hRf, hRl⟩ := C
  unfold okI at ho
  obtain ⟨hd, rfl⟩ := s1_ok ho
  unfold mStep at hs
  dsimp only at hs
  split at hs
  · rename_i g
    subst g
    cases hs
    exact sn_dconst0 hx hb hF hd (fun st hF2 => kk _ _ _ _ _ _ _ (Or.inl ⟨rfl, rfl⟩) hF2 rfl rfl)
  · cases hs
theorem nx_ldc2 (C : Cx sad G A p R s m args meth c o ini cc nL) {n : Nat} (hs : mStep G B (.ldc2_w n, ar, v) is mls mst h = some (.inl (is2, mls2, mst2, h2))) (ho : okI o ini ret cc P pc (.ldc2_w n, ar, v) = some q) (hF : Fr D clsT A sad ws0 s nL H locs mls mst h ls st) (hr1 : cells + h2.2.2.1 ≤ R.cells + h.2.2.1) (hr2 : slots + h2.2.2.2 ≤ R.slots + h.2.2.2) (kk : Nxt D A sad ws0 B P is q p l e R s m args below meth c cells slots Q nL h is2 mls2 mst2 h2) : W p l e R s m args below meth c H locs cells slots Q (F0 m pc ls st) := by
  obtain ⟨hx, hb, hml, hown, hts, hA, hS0, hini, hinj, hG, hRf, hRl⟩ := C
  unfold okI at ho
  unfold mStep at hs
  dsimp only at hs ho
  cases hs
  obtain ⟨g, ho⟩ := gd_ok ho
  obtain ⟨hd, rfl⟩ := s1_ok ho
  obtain ⟨x, hx1, hx2⟩ := List.any_eq_true.mp g
  simp only [Bool.and_eq_true, decide_eq_true_eq, beq_iff_eq] at hx2
  obtain ⟨rfl, hx3⟩ := hx2
  exact sn_ldc2 hx hb hown (hts _ (tab_J hx1)) hF hd hx3 (fun st hF2 => kk _ _ _ _ _ _ _ (Or.inl ⟨rfl, rfl⟩) hF2 rfl rfl)
theorem nx_iload (C : Cx sad G A p R s m args meth c o ini cc nL) {n : Nat} (hs : mStep G B (.iload n, ar, v) is mls mst h = some (.inl (is2, mls2, mst2, h2))) (ho : okI o ini ret cc P pc (.iload n, ar, v) = some q) (hF : Fr D clsT A sad ws0 s nL H locs mls mst h ls st) (hr1 : cells + h2.2.2.1 ≤ R.cells + h.2.2.1) (hr2 : slots + h2.2.2.2 ≤ R.slots + h.2.2.2) (kk : Nxt D A sad ws0 B P is q p l e R s m args below meth c cells slots Q nL h is2 mls2 mst2 h2) : W p l e R s m args below meth c H locs cells slots Q (F0 m pc ls st) := by
  obtain ⟨hx, hb, hml, hown, hts, hA, hS0, hini, hinj, hG, hRf, hRl⟩ := C
  unfold okI at ho
  unfold mStep at hs
  dsimp only at hs ho
  split at hs
  · rename_i x hl
    cases hs
    rcases ld2_ok ho with ⟨hd, rfl⟩ | ⟨k, hk, hd, rfl⟩
    · exact sn_iload hx hb hl hF hd (fun st hF2 => kk _ _ _ _ _ _ _ (Or.inl ⟨rfl, rfl⟩) hF2 rfl rfl)
    · exact sn_iload_n hx hb hk hl hF hd (fun st hF2 => kk _ _ _ _ _ _ _ (Or.inl ⟨rfl, rfl⟩) hF2 rfl rfl)
  · cases hs
theorem nx_lload (C : Cx sad G A p R s m args meth c o ini cc nL) {n : Nat} (hs : mStep G B (.lload n, ar, v) is mls mst h = some (.inl (is2, mls2, mst2, h2))) (ho : okI o ini ret cc P pc (.lload n, ar, v) = some q) (hF : Fr D clsT A sad ws0 s nL H locs mls mst h ls st) (hr1 : cells + h2.2.2.1 ≤ R.cells + h.2.2.1) (hr2 : slots + h2.2.2.2 ≤ R.slots + h.2.2.2) (kk : Nxt D A sad ws0 B P is q p l e R s m args below meth c cells slots Q nL h is2 mls2 mst2 h2) : W p l e R s m args below meth c H locs cells slots Q (F0 m pc ls st) := by
  obtain ⟨hx, hb, hml, hown, hts, hA, hS0, hini, hinj, hG, hRf, hRl⟩ := C
  unfold okI at ho
  unfold mStep at hs
  dsimp only at hs ho
  split at hs
  · rename_i x hl
    cases hs
    rcases ld2_ok ho with ⟨hd, rfl⟩ | ⟨k, hk, hd, rfl⟩
    · exact sn_lload hx hb hl hF hd (fun st hF2 => kk _ _ _ _ _ _ _ (Or.inl ⟨rfl, rfl⟩) hF2 rfl rfl)
    · exact sn_lload_n hx hb hk hl hF hd (fun st hF2 => kk _ _ _ _ _ _ _ (Or.inl ⟨rfl, rfl⟩) hF2 rfl rfl)
  · cases hs
theorem nx_dload (C : Cx sad G A p R s m args meth c o ini cc nL) {n : Nat} (hs : mStep G B (.dload n, ar, v) is mls mst h = some (.inl (is2, mls2, mst2, h2))) (ho : okI o ini ret cc P pc (.dload n, ar, v) = some q) (hF : Fr D clsT A sad ws0 s nL H locs mls mst h ls st) (hr1 : cells + h2.2.2.1 ≤ R.cells + h.2.2.1) (hr2 : slots + h2.2.2.2 ≤ R.slots + h.2.2.2) (kk : Nxt D A sad ws0 B P is q p l e R s m args below meth c cells slots Q nL h is2 mls2 mst2 h2) : W p l e R s m args below meth c H locs cells slots Q (F0 m pc ls st) := by
  obtain ⟨hx, hb, hml, hown, hts, hA, hS0, hini, hinj, hG, hRf, hRl⟩ := C
  unfold okI at ho
  unfold mStep at hs
  dsimp only at hs ho
  split at hs
  · rename_i x hl
    cases hs
    rcases ld2_ok ho with ⟨hd, rfl⟩ | ⟨k, hk, hd, rfl⟩
    · exact sn_dload hx hb hl hF hd (fun st hF2 => kk _ _ _ _ _ _ _ (Or.inl ⟨rfl, rfl⟩) hF2 rfl rfl)
    · exact sn_dload_n hx hb hk hl hF hd (fun st hF2 => kk _ _ _ _ _ _ _ (Or.inl ⟨rfl, rfl⟩) hF2 rfl rfl)
  · cases hs
theorem nx_aload (C : Cx sad G A p R s m args meth c o ini cc nL) {n : Nat} (hs : mStep G B (.aload n, ar, v) is mls mst h = some (.inl (is2, mls2, mst2, h2))) (ho : okI o ini ret cc P pc (.aload n, ar, v) = some q) (hF : Fr D clsT A sad ws0 s nL H locs mls mst h ls st) (hr1 : cells + h2.2.2.1 ≤ R.cells + h.2.2.1) (hr2 : slots + h2.2.2.2 ≤ R.slots + h.2.2.2) (kk : Nxt D A sad ws0 B P is q p l e R s m args below meth c cells slots Q nL h is2 mls2 mst2 h2) : W p l e R s m args below meth c H locs cells slots Q (F0 m pc ls st) := by
  obtain ⟨hx, hb, hml, hown, hts, hA, hS0, hini, hinj, hG, hRf, hRl⟩ := C
  unfold okI at ho
  unfold mStep at hs
  dsimp only at hs ho
  split at hs
  · rename_i x hl
    cases hs
    rcases ld2_ok ho with ⟨hd, rfl⟩ | ⟨k, hk, hd, rfl⟩
    · exact sn_aload hx hb hl rfl hF hd (fun st hF2 => kk _ _ _ _ _ _ _ (Or.inl ⟨rfl, rfl⟩) hF2 rfl rfl)
    · exact sn_aload_n hx hb hk hl rfl hF hd (fun st hF2 => kk _ _ _ _ _ _ _ (Or.inl ⟨rfl, rfl⟩) hF2 rfl rfl)
  · rename_i x hl
    cases hs
    rcases ld2_ok ho with ⟨hd, rfl⟩ | ⟨k, hk, hd, rfl⟩
    · exact sn_aload hx hb hl rfl hF hd (fun st hF2 => kk _ _ _ _ _ _ _ (Or.inl ⟨rfl, rfl⟩) hF2 rfl rfl)
    · exact sn_aload_n hx hb hk hl rfl hF hd (fun st hF2 => kk _ _ _ _ _ _ _ (Or.inl ⟨rfl, rfl⟩) hF2 rfl rfl)
  · rename_i hl
    cases hs
    rcases ld2_ok ho with ⟨hd, rfl⟩ | ⟨k, hk, hd, rfl⟩
    · exact sn_aload hx hb hl rfl hF hd (fun st hF2 => kk _ _ _ _ _ _ _ (Or.inl ⟨rfl, rfl⟩) hF2 rfl rfl)
    · exact sn_aload_n hx hb hk hl rfl hF hd (fun st hF2 => kk _ _ _ _ _ _ _ (Or.inl ⟨rfl, rfl⟩) hF2 rfl rfl)
  · cases hs
theorem nx_istore (C : Cx sad G A p R s m args meth c o ini cc nL) {n : Nat} (hs : mStep G B (.istore n, ar, v) is mls mst h = some (.inl (is2, mls2, mst2, h2))) (ho : okI o ini ret cc P pc (.istore n, ar, v) = some q) (hF : Fr D clsT A sad ws0 s nL H locs mls mst h ls st) (hr1 : cells + h2.2.2.1 ≤ R.cells + h.2.2.1) (hr2 : slots + h2.2.2.2 ≤ R.slots + h.2.2.2) (kk : Nxt D A sad ws0 B P is q p l e R s m args below meth c cells slots Q nL h is2 mls2 mst2 h2) : W p l e R s m args below meth c H locs cells slots Q (F0 m pc ls st) := by
  obtain ⟨hx, hb, hml, hown, hts, hA, hS0, hini, hinj, hG, hRf, hRl⟩ := C
  unfold okI at ho
  unfold mStep at hs
  dsimp only at hs ho
  split at hs
  · split at hs
    · rename_i g
      cases hs
      rcases ld2_ok ho with ⟨hd, rfl⟩ | ⟨k, hk, hd, rfl⟩
      · exact sn_istore hx hb g.1 g.2 hF hd (fun ls st hF2 => kk _ _ _ _ _ _ _ (Or.inl ⟨rfl, rfl⟩) hF2 rfl rfl)
      · exact sn_istore_n hx hb hk g.1 g.2 hF hd (fun ls st hF2 => kk _ _ _ _ _ _ _ (Or.inl ⟨rfl, rfl⟩) hF2 rfl rfl)
    · cases hs
  · cases hs
theorem nx_lstore (C : Cx sad G A p R s m args meth c o ini cc nL) {n : Nat} (hs : mStep G B (.lstore n, ar, v) is mls mst h = some (.inl (is2, mls2, mst2, h2))) (ho : okI o ini ret cc P pc (.lstore n, ar, v) = some q) (hF : Fr D clsT A sad ws0 s nL H locs mls mst h ls st) (hr1 : cells + h2.2.2.1 ≤ R.cells + h.2.2.1) (hr2 : slots + h2.2.2.2 ≤ R.slots + h.2.2.2) (kk : Nxt D A sad ws0 B P is q p l e R s m args below meth c cells slots Q nL h is2 mls2 mst2 h2) : W p l e R s m args below meth c H locs cells slots Q (F0 m pc ls st) := by
  obtain ⟨hx, hb, hml, hown, hts, hA, hS0, hini, hinj, hG, hRf, hRl⟩ := C
  unfold okI at ho
  unfold mStep at hs
  dsimp only at hs ho
  split at hs
  · split at hs
    · rename_i g
      cases hs
      rcases ld2_ok ho with ⟨hd, rfl⟩ | ⟨k, hk, hd, rfl⟩
      · exact sn_lstore hx hb g.1 g.2 hF hd (fun ls st hF2 => kk _ _ _ _ _ _ _ (Or.inl ⟨rfl, rfl⟩) hF2 rfl rfl)
      · exact sn_lstore_n hx hb hk g.1 g.2 hF hd (fun ls st hF2 => kk _ _ _ _ _ _ _ (Or.inl ⟨rfl, rfl⟩) hF2 rfl rfl)
    · cases hs
  · cases hs
theorem nx_dstore (C : Cx sad G A p R s m args meth c o ini cc nL) {n : Nat} (hs : mStep G B (.dstore n, ar, v) is mls mst h = some (.inl (is2, mls2, mst2, h2))) (ho : okI o ini ret cc P pc (.dstore n, ar, v) = some q) (hF : Fr D clsT A sad ws0 s nL H locs mls mst h ls st) (hr1 : cells + h2.2.2.1 ≤ R.cells + h.2.2.1) (hr2 : slots + h2.2.2.2 ≤ R.slots + h.2.2.2) (kk : Nxt D A sad ws0 B P is q p l e R s m args below meth c cells slots Q nL h is2 mls2 mst2 h2) : W p l e R s m args below meth c H locs cells slots Q (F0 m pc ls st) := by
  obtain ⟨hx, hb, hml, hown, hts, hA, hS0, hini, hinj, hG, hRf, hRl⟩ := C
  unfold okI at ho
  unfold mStep at hs
  dsimp only at hs ho
  split at hs
  · split at hs
    · rename_i g
      cases hs
      rcases ld2_ok ho with ⟨hd, rfl⟩ | ⟨k, hk, hd, rfl⟩
      · exact sn_dstore hx hb g.1 g.2 hF hd (fun ls st hF2 => kk _ _ _ _ _ _ _ (Or.inl ⟨rfl, rfl⟩) hF2 rfl rfl)
      · exact sn_dstore_n hx hb hk g.1 g.2 hF hd (fun ls st hF2 => kk _ _ _ _ _ _ _ (Or.inl ⟨rfl, rfl⟩) hF2 rfl rfl)
    · cases hs
  · cases hs
theorem nx_astore (C : Cx sad G A p R s m args meth c o ini cc nL) {n : Nat} (hs : mStep G B (.astore n, ar, v) is mls mst h = some (.inl (is2, mls2, mst2, h2))) (ho : okI o ini ret cc P pc (.astore n, ar, v) = some q) (hF : Fr D clsT A sad ws0 s nL H locs mls mst h ls st) (hr1 : cells + h2.2.2.1 ≤ R.cells + h.2.2.1) (hr2 : slots + h2.2.2.2 ≤ R.slots + h.2.2.2) (kk : Nxt D A sad ws0 B P is q p l e R s m args below meth c cells slots Q nL h is2 mls2 mst2 h2) : W p l e R s m args below meth c H locs cells slots Q (F0 m pc ls st) := by
  obtain ⟨hx, hb, hml, hown, hts, hA, hS0, hini, hinj, hG, hRf, hRl⟩ := C
  unfold okI at ho
  unfold mStep at hs
  dsimp only at hs ho
  split at hs
  · split at hs
    · rename_i g
      cases hs
      rcases ld2_ok ho with ⟨hd, rfl⟩ | ⟨k, hk, hd, rfl⟩
      · exact sn_astore hx hb g.1 g.2.1 g.2.2 hF hd (fun ls st hF2 => kk _ _ _ _ _ _ _ (Or.inl ⟨rfl, rfl⟩) hF2 rfl rfl)
      · exact sn_astore_n hx hb hk g.1 g.2.1 g.2.2 hF hd (fun ls st hF2 => kk _ _ _ _ _ _ _ (Or.inl ⟨rfl, rfl⟩) hF2 rfl rfl)
    · cases hs
  · cases hs
theorem nx_iinc (C : Cx sad G A p R s m args meth c o ini cc nL) {n : Nat} {k : Int} (hs : mStep G B (.iinc n k, ar, v) is mls mst h = some (.inl (is2, mls2, mst2, h2))) (ho : okI o ini ret cc P pc (.iinc n k, ar, v) = some q) (hF : Fr D clsT A sad ws0 s nL H locs mls mst h ls st) (hr1 : cells + h2.2.2.1 ≤ R.cells + h.2.2.1) (hr2 : slots + h2.2.2.2 ≤ R.slots + h.2.2.2) (kk : Nxt D A sad ws0 B P is q p l e R s m args below meth c cells slots Q nL h is2 mls2 mst2 h2) : W p l e R s m args below meth c H locs cells slots Q (F0 m pc ls st) := by
  obtain ⟨hx, hb, hml, hown, hts, hA, hS0, hini, hinj, hG, hRf, hRl⟩ := C
  unfold okI at ho
  obtain ⟨hd, rfl⟩ := s1_ok ho
  unfold mStep at hs
  dsimp only at hs
  split at hs
  · rename_i x hl
    split at hs
    · rename_i g
      cases hs
      exact sn_iinc hx hb hl g.1 g.2 hF hd (fun ls hF2 => kk _ _ _ _ _ _ _ (Or.inl ⟨rfl, rfl⟩) hF2 rfl rfl)
    · cases hs
  · cases hs
theorem nx_dup (C : Cx sad G A p R s m args meth c o ini cc nL)  (hs : mStep G B (.dup, ar, v) is mls mst h = some (.inl (is2, mls2, mst2, h2))) (ho : okI o ini ret cc P pc (.dup, ar, v) = some q) (hF : Fr D clsT A sad ws0 s nL H locs mls mst h ls st) (hr1 : cells + h2.2.2.1 ≤ R.cells + h.2.2.1) (hr2 : slots + h2.2.2.2 ≤ R.slots + h.2.2.2) (kk : Nxt D A sad ws0 B P is q p l e R s m args below meth c cells slots Q nL h is2 mls2 mst2 h2) : W p l e R s m args below meth c H locs cells slots Q (F0 m pc ls st) := by
  obtain ⟨hx, hb, hml, hown, hts, hA, hS0, hini, hinj, hG, hRf, hRl⟩ := C
  unfold okI at ho
  obtain ⟨hd, rfl⟩ := s1_ok ho
  unfold mStep at hs
  dsimp only at hs
  split at hs
  · split at hs
    · cases hs
    · rename_i g
      cases hs
      exact sn_dup hx hb g hF hd (fun st hF2 => kk _ _ _ _ _ _ _ (Or.inl ⟨rfl, rfl⟩) hF2 rfl rfl)
  · cases hs
theorem nx_pop (C : Cx sad G A p R s m args meth c o ini cc nL)  (hs : mStep G B (.pop, ar, v) is mls mst h = some (.inl (is2, mls2, mst2, h2))) (ho : okI o ini ret cc P pc (.pop, ar, v) = some q) (hF : Fr D clsT A sad ws0 s nL H locs mls mst h ls st) (hr1 : cells + h2.2.2.1 ≤ R.cells + h.2.2.1) (hr2 : slots + h2.2.2.2 ≤ R.slots + h.2.2.2) (kk : Nxt D A sad ws0 B P is q p l e R s m args below meth c cells slots Q nL h is2 mls2 mst2 h2) : W p l e R s m args below meth c H locs cells slots Q (F0 m pc ls st) := by
  obtain ⟨hx, hb, hml, hown, hts, hA, hS0, hini, hinj, hG, hRf, hRl⟩ := C
  unfold okI at ho
  obtain ⟨hd, rfl⟩ := s1_ok ho
  unfold mStep at hs
  dsimp only at hs
  split at hs
  · split at hs
    · cases hs
    · rename_i g
      cases hs
      exact sn_pop hx hb g hF hd (fun st hF2 => kk _ _ _ _ _ _ _ (Or.inl ⟨rfl, rfl⟩) hF2 rfl rfl)
  · cases hs
theorem nx_dup2 (C : Cx sad G A p R s m args meth c o ini cc nL)  (hs : mStep G B (.dup2, ar, v) is mls mst h = some (.inl (is2, mls2, mst2, h2))) (ho : okI o ini ret cc P pc (.dup2, ar, v) = some q) (hF : Fr D clsT A sad ws0 s nL H locs mls mst h ls st) (hr1 : cells + h2.2.2.1 ≤ R.cells + h.2.2.1) (hr2 : slots + h2.2.2.2 ≤ R.slots + h.2.2.2) (kk : Nxt D A sad ws0 B P is q p l e R s m args below meth c cells slots Q nL h is2 mls2 mst2 h2) : W p l e R s m args below meth c H locs cells slots Q (F0 m pc ls st) := by
  obtain ⟨hx, hb, hml, hown, hts, hA, hS0, hini, hinj, hG, hRf, hRl⟩ := C
  unfold okI at ho
  obtain ⟨hd, rfl⟩ := s1_ok ho
  unfold mStep at hs
  dsimp only at hs
  split at hs
  · split at hs
    · cases hs
    · rename_i g
      cases hs
      exact sn_dup2 hx hb (fun z => g (Or.inl z)) (fun z => g (Or.inr z)) hF hd (fun st hF2 => kk _ _ _ _ _ _ _ (Or.inl ⟨rfl, rfl⟩) hF2 rfl rfl)
  · cases hs
theorem nx_dup_x1 (C : Cx sad G A p R s m args meth c o ini cc nL)  (hs : mStep G B (.dup_x1, ar, v) is mls mst h = some (.inl (is2, mls2, mst2, h2))) (ho : okI o ini ret cc P pc (.dup_x1, ar, v) = some q) (hF : Fr D clsT A sad ws0 s nL H locs mls mst h ls st) (hr1 : cells + h2.2.2.1 ≤ R.cells + h.2.2.1) (hr2 : slots + h2.2.2.2 ≤ R.slots + h.2.2.2) (kk : Nxt D A sad ws0 B P is q p l e R s m args below meth c cells slots Q nL h is2 mls2 mst2 h2) : W p l e R s m args below meth c H locs cells slots Q (F0 m pc ls st) := by
  obtain ⟨hx, hb, hml, hown, hts, hA, hS0, hini, hinj, hG, hRf, hRl⟩ := C
  unfold okI at ho
  obtain ⟨hd, rfl⟩ := s1_ok ho
  unfold mStep at hs
  dsimp only at hs
  split at hs
  · split at hs
    · cases hs
    · rename_i g
      cases hs
      exact sn_dup_x1 hx hb (fun z => g (Or.inl z)) (fun z => g (Or.inr z)) hF hd (fun st hF2 => kk _ _ _ _ _ _ _ (Or.inl ⟨rfl, rfl⟩) hF2 rfl rfl)
  · cases hs
theorem nx_goto (C : Cx sad G A p R s m args meth c o ini cc nL) {off : Int} (hs : mStep G B (.goto off, ar, v) is mls mst h = some (.inl (is2, mls2, mst2, h2))) (ho : okI o ini ret cc P pc (.goto off, ar, v) = some q) (hF : Fr D clsT A sad ws0 s nL H locs mls mst h ls st) (hr1 : cells + h2.2.2.1 ≤ R.cells + h.2.2.1) (hr2 : slots + h2.2.2.2 ≤ R.slots + h.2.2.2) (kk : Nxt D A sad ws0 B P is q p l e R s m args below meth c cells slots Q nL h is2 mls2 mst2 h2) : W p l e R s m args below meth c H locs cells slots Q (F0 m pc ls st) := by
  obtain ⟨hx, hb, hml, hown, hts, hA, hS0, hini, hinj, hG, hRf, hRl⟩ := C
  unfold okI at ho
  unfold mStep at hs
  dsimp only at hs ho
  split at hs
  · cases hs
    dsimp only at ho
    obtain ⟨g, ho⟩ := gd_ok ho
    obtain ⟨hd, rfl⟩ := s1_ok ho
    exact sn_goto hx hb hd (of_decide_eq_true g) (kk _ _ _ _ _ _ _ (Or.inr ⟨_, rfl, rfl⟩) hF rfl rfl)
  · cases hs
theorem nx_ifCond (C : Cx sad G A p R s m args meth c o ini cc nL) {w : ClassFile.Cond} {off : Int} (hs : mStep G B (.ifCond w off, ar, v) is mls mst h = some (.inl (is2, mls2, mst2, h2))) (ho : okI o ini ret cc P pc (.ifCond w off, ar, v) = some q) (hF : Fr D clsT A sad ws0 s nL H locs mls mst h ls st) (hr1 : cells + h2.2.2.1 ≤ R.cells + h.2.2.1) (hr2 : slots + h2.2.2.2 ≤ R.slots + h.2.2.2) (kk : Nxt D A sad ws0 B P is q p l e R s m args below meth c cells slots Q nL h is2 mls2 mst2 h2) : W p l e R s m args below meth c H locs cells slots Q (F0 m pc ls st) := by
  obtain ⟨hx, hb, hml, hown, hts, hA, hS0, hini, hinj, hG, hRf, hRl⟩ := C
  unfold okI at ho
  unfold mStep at hs
  dsimp only at hs ho
  split at hs
  · dsimp only at ho
    obtain ⟨g, ho⟩ := gd_ok ho
    obtain ⟨hd, rfl⟩ := s1_ok ho
    cases w
    · refine sn_if_eq hx hb hF hd (of_decide_eq_true g) (fun hc st hF2 => ?_) (fun hc st hF2 => ?_)
      · rw [mCnd_t hc] at hs
        cases hs
        exact kk _ _ _ _ _ _ _ (Or.inr ⟨_, rfl, rfl⟩) hF2 rfl rfl
      · rw [mCnd_f hc] at hs
        cases hs
        exact kk _ _ _ _ _ _ _ (Or.inl ⟨rfl, rfl⟩) hF2 rfl rfl
    · refine sn_if_ne hx hb hF hd (of_decide_eq_true g) (fun hc st hF2 => ?_) (fun hc st hF2 => ?_)
      · rw [mCnd_t hc] at hs
        cases hs
        exact kk _ _ _ _ _ _ _ (Or.inr ⟨_, rfl, rfl⟩) hF2 rfl rfl
      · rw [mCnd_f hc] at hs
        cases hs
        exact kk _ _ _ _ _ _ _ (Or.inl ⟨rfl, rfl⟩) hF2 rfl rfl
    · refine sn_if_lt hx hb hF hd (of_decide_eq_true g) (fun hc st hF2 => ?_) (fun hc st hF2 => ?_)
      · rw [mCnd_t hc] at hs
        cases hs
        exact kk _ _ _ _ _ _ _ (Or.inr ⟨_, rfl, rfl⟩) hF2 rfl rfl
      · rw [mCnd_f hc] at hs
        cases hs
        exact kk _ _ _ _ _ _ _ (Or.inl ⟨rfl, rfl⟩) hF2 rfl rfl
    · refine sn_if_ge hx hb hF hd (of_decide_eq_true g) (fun hc st hF2 => ?_) (fun hc st hF2 => ?_)
      · rw [mCnd_t hc] at hs
        cases hs
        exact kk _ _ _ _ _ _ _ (Or.inr ⟨_, rfl, rfl⟩) hF2 rfl rfl
      · rw [mCnd_f hc] at hs
        cases hs
        exact kk _ _ _ _ _ _ _ (Or.inl ⟨rfl, rfl⟩) hF2 rfl rfl
    · refine sn_if_gt hx hb hF hd (of_decide_eq_true g) (fun hc st hF2 => ?_) (fun hc st hF2 => ?_)
      · rw [mCnd_t hc] at hs
        cases hs
        exact kk _ _ _ _ _ _ _ (Or.inr ⟨_, rfl, rfl⟩) hF2 rfl rfl
      · rw [mCnd_f hc] at hs
        cases hs
        exact kk _ _ _ _ _ _ _ (Or.inl ⟨rfl, rfl⟩) hF2 rfl rfl
    · refine sn_if_le hx hb hF hd (of_decide_eq_true g) (fun hc st hF2 => ?_) (fun hc st hF2 => ?_)
      · rw [mCnd_t hc] at hs
        cases hs
        exact kk _ _ _ _ _ _ _ (Or.inr ⟨_, rfl, rfl⟩) hF2 rfl rfl
      · rw [mCnd_f hc] at hs
        cases hs
        exact kk _ _ _ _ _ _ _ (Or.inl ⟨rfl, rfl⟩) hF2 rfl rfl
  · cases hs
theorem nx_if_icmp (C : Cx sad G A p R s m args meth c o ini cc nL) {w : ClassFile.Cond} {off : Int} (hs : mStep G B (.if_icmp w off, ar, v) is mls mst h = some (.inl (is2, mls2, mst2, h2))) (ho : okI o ini ret cc P pc (.if_icmp w off, ar, v) = some q) (hF : Fr D clsT A sad ws0 s nL H locs mls mst h ls st) (hr1 : cells + h2.2.2.1 ≤ R.cells + h.2.2.1) (hr2 : slots + h2.2.2.2 ≤ R.slots + h.2.2.2) (kk : Nxt D A sad ws0 B P is q p l e R s m args below meth c cells slots Q nL h is2 mls2 mst2 h2) : W p l e R s m args below meth c H locs cells slots Q (F0 m pc ls st) := by
  obtain ⟨hx, hb, hml, hown, hts, hA, hS0, hini, hinj, hG, hRf, hRl⟩ := C
  unfold okI at ho
  unfold mStep at hs
  dsimp only at hs ho
  split at hs
  · dsimp only at ho
    obtain ⟨g, ho⟩ := gd_ok ho
    obtain ⟨hd, rfl⟩ := s1_ok ho
    cases w
    · refine sn_icmp_eq hx hb hF hd (of_decide_eq_true g) (fun hc st hF2 => ?_) (fun hc st hF2 => ?_)
      · rw [mCnd_t hc] at hs
        cases hs
        exact kk _ _ _ _ _ _ _ (Or.inr ⟨_, rfl, rfl⟩) hF2 rfl rfl
      · rw [mCnd_f hc] at hs
        cases hs
        exact kk _ _ _ _ _ _ _ (Or.inl ⟨rfl, rfl⟩) hF2 rfl rfl
    · refine sn_icmp_ne hx hb hF hd (of_decide_eq_true g) (fun hc st hF2 => ?_) (fun hc st hF2 => ?_)
      · rw [mCnd_t hc] at hs
        cases hs
        exact kk _ _ _ _ _ _ _ (Or.inr ⟨_, rfl, rfl⟩) hF2 rfl rfl
      · rw [mCnd_f hc] at hs
        cases hs
        exact kk _ _ _ _ _ _ _ (Or.inl ⟨rfl, rfl⟩) hF2 rfl rfl
    · refine sn_icmp_lt hx hb hF hd (of_decide_eq_true g) (fun hc st hF2 => ?_) (fun hc st hF2 => ?_)
      · rw [mCnd_t hc] at hs
        cases hs
        exact kk _ _ _ _ _ _ _ (Or.inr ⟨_, rfl, rfl⟩) hF2 rfl rfl
      · rw [mCnd_f hc] at hs
        cases hs
        exact kk _ _ _ _ _ _ _ (Or.inl ⟨rfl, rfl⟩) hF2 rfl rfl
    · refine sn_icmp_ge hx hb hF hd (of_decide_eq_true g) (fun hc st hF2 => ?_) (fun hc st hF2 => ?_)
      · rw [mCnd_t hc] at hs
        cases hs
        exact kk _ _ _ _ _ _ _ (Or.inr ⟨_, rfl, rfl⟩) hF2 rfl rfl
      · rw [mCnd_f hc] at hs
        cases hs
        exact kk _ _ _ _ _ _ _ (Or.inl ⟨rfl, rfl⟩) hF2 rfl rfl
    · refine sn_icmp_gt hx hb hF hd (of_decide_eq_true g) (fun hc st hF2 => ?_) (fun hc st hF2 => ?_)
      · rw [mCnd_t hc] at hs
        cases hs
        exact kk _ _ _ _ _ _ _ (Or.inr ⟨_, rfl, rfl⟩) hF2 rfl rfl
      · rw [mCnd_f hc] at hs
        cases hs
        exact kk _ _ _ _ _ _ _ (Or.inl ⟨rfl, rfl⟩) hF2 rfl rfl
    · refine sn_icmp_le hx hb hF hd (of_decide_eq_true g) (fun hc st hF2 => ?_) (fun hc st hF2 => ?_)
      · rw [mCnd_t hc] at hs
        cases hs
        exact kk _ _ _ _ _ _ _ (Or.inr ⟨_, rfl, rfl⟩) hF2 rfl rfl
      · rw [mCnd_f hc] at hs
        cases hs
        exact kk _ _ _ _ _ _ _ (Or.inl ⟨rfl, rfl⟩) hF2 rfl rfl
  · cases hs
theorem nx_acmp_eq (C : Cx sad G A p R s m args meth c o ini cc nL) {off : Int} (hs : mStep G B (.if_acmp .eq off, ar, v) is mls mst h = some (.inl (is2, mls2, mst2, h2))) (ho : okI o ini ret cc P pc (.if_acmp .eq off, ar, v) = some q) (hF : Fr D clsT A sad ws0 s nL H locs mls mst h ls st) (hr1 : cells + h2.2.2.1 ≤ R.cells + h.2.2.1) (hr2 : slots + h2.2.2.2 ≤ R.slots + h.2.2.2) (kk : Nxt D A sad ws0 B P is q p l e R s m args below meth c cells slots Q nL h is2 mls2 mst2 h2) : W p l e R s m args below meth c H locs cells slots Q (F0 m pc ls st) := by
  obtain ⟨hx, hb, hml, hown, hts, hA, hS0, hini, hinj, hG, hRf, hRl⟩ := C
  unfold okI at ho
  unfold mStep at hs
  dsimp only at hs ho
  split at hs
  · dsimp only at ho
    obtain ⟨g, ho⟩ := gd_ok ho
    obtain ⟨hd, rfl⟩ := s1_ok ho
    split at hs
    · rename_i hlt
      refine sn_acmp hx hb true ⟨hinj _ _ hlt.1 hlt.2, fun z => by rw [z]⟩ (by omega) (by omega) hF hd (of_decide_eq_true g) (fun hc st hF2 => ?_) (fun hc st hF2 => ?_)
      · rw [if_pos hc] at hs
        cases hs
        exact kk _ _ _ _ _ _ _ (Or.inr ⟨_, rfl, rfl⟩) hF2 rfl rfl
      · rw [if_neg hc] at hs
        cases hs
        exact kk _ _ _ _ _ _ _ (Or.inl ⟨rfl, rfl⟩) hF2 rfl rfl
    · split at hs
      · rename_i hxy
        obtain ⟨rfl, h9⟩ := hxy
        cases hs
        exact sn_acmpS hx hb true h9 hF hd (of_decide_eq_true g) (fun st hF2 => kk _ _ _ _ _ _ _ (Or.inr ⟨_, rfl, rfl⟩) hF2 rfl rfl)
      · cases hs
  · cases hs
theorem nx_acmp_ne (C : Cx sad G A p R s m args meth c o ini cc nL) {off : Int} (hs : mStep G B (.if_acmp .ne off, ar, v) is mls mst h = some (.inl (is2, mls2, mst2, h2))) (ho : okI o ini ret cc P pc (.if_acmp .ne off, ar, v) = some q) (hF : Fr D clsT A sad ws0 s nL H locs mls mst h ls st) (hr1 : cells + h2.2.2.1 ≤ R.cells + h.2.2.1) (hr2 : slots + h2.2.2.2 ≤ R.slots + h.2.2.2) (kk : Nxt D A sad ws0 B P is q p l e R s m args below meth c cells slots Q nL h is2 mls2 mst2 h2) : W p l e R s m args below meth c H locs cells slots Q (F0 m pc ls st) := by
  obtain ⟨hx, hb, hml, hown, hts, hA, hS0, hini, hinj, hG, hRf, hRl⟩ := C
  unfold okI at ho
  unfold mStep at hs
  dsimp only at hs ho
  split at hs
  · dsimp only at ho
    obtain ⟨g, ho⟩ := gd_ok ho
    obtain ⟨hd, rfl⟩ := s1_ok ho
    split at hs
    · rename_i hlt
      refine sn_acmp hx hb false ⟨hinj _ _ hlt.1 hlt.2, fun z => by rw [z]⟩ (by omega) (by omega) hF hd (of_decide_eq_true g) (fun hc st hF2 => ?_) (fun hc st hF2 => ?_)
      · rw [if_pos hc] at hs
        cases hs
        exact kk _ _ _ _ _ _ _ (Or.inl ⟨rfl, rfl⟩) hF2 rfl rfl
      · rw [if_neg hc] at hs
        cases hs
        exact kk _ _ _ _ _ _ _ (Or.inr ⟨_, rfl, rfl⟩) hF2 rfl rfl
    · split at hs
      · rename_i hxy
        obtain ⟨rfl, h9⟩ := hxy
        cases hs
        exact sn_acmpS hx hb false h9 hF hd (of_decide_eq_true g) (fun st hF2 => kk _ _ _ _ _ _ _ (Or.inl ⟨rfl, rfl⟩) hF2 rfl rfl)
      · cases hs
  · cases hs
end NX
