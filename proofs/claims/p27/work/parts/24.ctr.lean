/-! ===== EVERY METHOD KEEPS ITS CONTRACT ===== -/
theorem mStep_end {G : MG} {B : Nat → List MI} {ins : Instr} {ar : List Nat} {v : Int} {is : List MI} {ls st : List MV} {h : MH} {r : Option MV ⊕ Nat} (hs : mStep G B (ins, ar, v) is ls st h = some (.inr (.inr r))) :
    (ins = .ireturn ∧ ∃ x, st = [qI x] ∧ r = .inl (some (qI x)) ∧ (ar = [0] ∨ (ar = [1] ∧ 0 ≤ x ∧ x ≤ 1) ∨ (ar = [2] ∧ -128 ≤ x ∧ x ≤ 127) ∨ (ar = [3] ∧ 0 ≤ x ∧ x < 65536))) ∨
    (ins = .lreturn ∧ ∃ x, st = [qL x] ∧ r = .inl (some (qL x))) ∨ (ins = .dreturn ∧ ∃ x, st = [qD x] ∧ r = .inl (some (qD x))) ∨ (ins = .areturn ∧ ∃ w, st = [w] ∧ isRf w = true ∧ r = .inl (some w)) ∨ (ins = .return_ ∧ st = [] ∧ r = .inl none) ∨
    (ins = .invokedynamic 3 ∧ ∃ e l, ar = e :: l ∧ hgt st ≤ 8 ∧ r = .inr e) := by
  by_cases hi : ins = .invokedynamic 3
  · subst hi
    rw [mS_d3] at hs
    split at hs
    · split at hs
      · rename_i g
        cases hs
        exact Or.inr (Or.inr (Or.inr (Or.inr (Or.inr ⟨rfl, _, _, rfl, g, rfl⟩))))
      · cases hs
    · cases hs
  · unfold mStep at hs
    dsimp only at hs
    split at hs
    all_goals try unfold mCnd at hs
    all_goals repeat' split at hs
    all_goals try (cases hs; done)
    all_goals try exact absurd rfl hi
    · cases hs; exact Or.inl ⟨rfl, _, rfl, rfl, Or.inl rfl⟩
    · rename_i g; cases hs; exact Or.inl ⟨rfl, _, rfl, rfl, Or.inr (Or.inl ⟨rfl, g⟩)⟩
    · rename_i g; cases hs; exact Or.inl ⟨rfl, _, rfl, rfl, Or.inr (Or.inr (Or.inl ⟨rfl, g⟩))⟩
    · rename_i g; cases hs; exact Or.inl ⟨rfl, _, rfl, rfl, Or.inr (Or.inr (Or.inr ⟨rfl, g⟩))⟩
    · cases hs; exact Or.inr (Or.inl ⟨rfl, _, rfl, rfl⟩)
    · cases hs; exact Or.inr (Or.inr (Or.inl ⟨rfl, _, rfl, rfl⟩))
    · rename_i g; cases hs; exact Or.inr (Or.inr (Or.inr (Or.inl ⟨rfl, _, rfl, g, rfl⟩)))
    · cases hs; exact Or.inr (Or.inr (Or.inr (Or.inr (Or.inl ⟨rfl, rfl, rfl⟩))))
theorem narrow_z {x : Int32} {v : Int} (hx : x.toInt = v) (h0 : 0 ≤ v) (h1 : v ≤ 1) : narrow .boolean (.int x) = .int x := by
  rcases (show v = 0 ∨ v = 1 by omega) with rfl | rfl
  · obtain rfl : x = 0 := Int32.toInt_inj.mp hx
    rfl
  · obtain rfl : x = 1 := Int32.toInt_inj.mp hx
    rfl
theorem narrow_b {x : Int32} {v : Int} (hx : x.toInt = v) (h0 : -128 ≤ v) (h1 : v ≤ 127) : narrow .byte (.int x) = .int x := by
  show Value.int (vp_nar .byte x) = _
  rw [Int32.toInt_inj.mp ((nar_b hx h0 h1).trans hx.symm)]
theorem narrow_c {x : Int32} {v : Int} (hx : x.toInt = v) (h0 : 0 ≤ v) (h1 : v < 65536) : narrow .char (.int x) = .int x := by
  show Value.int (x.toUInt32.toUInt16.toUInt32.toInt32) = .int x
  have e : x.toUInt32.toUInt16.toUInt32.toInt32 = x := by
    obtain ⟨⟨b⟩⟩ := x
    have hb : b.toInt = v := hx
    have hn : b.toNat < 65536 := by
      rw [BitVec.toInt_eq_toNat_bmod, Int.bmod_def] at hb
      simp only [Nat.reducePow] at hb
      have := b.isLt
      split at hb <;> omega
    apply Int32.toBitVec_inj.mp
    apply BitVec.eq_of_toNat_eq
    show ((b.setWidth 16).setWidth 32).toNat = b.toNat
    rw [BitVec.toNat_setWidth, BitVec.toNat_setWidth]
    omega
  rw [e]
section RET
variable {p : Program} {l : Launch} {e : Env} {R : Room} {s : State} {m : MethodId} {args : Array Value} {below : List Frame} {meth : Method} {c : Code} {H : Heap} {locs : List Loc} {cells slots : Nat}
variable {cc : ByteArray} {pc nL q : Nat} {D : va_G} {A : Nat → Prop} {sad : Nat → Nat} {ws0 : va_W} {mls mst : List MV} {h h2 : MH} {ls : Array Slot} {st : List Value}
variable {o : Nat} {ini : Bool} {ret : Option FieldType} {B : Nat → List MI} {P : Nat → Nat} {G : MG} {is : List MI} {ar : List Nat} {v : Int} {r : Option MV} {ins : Instr}
/-- the end of a body that returns -/
theorem ret_end {hh : List (Nat × Nat × Nat × Nat)} (C : Cx sad G A p R s m args meth c o ini cc nL) (hret : meth.sig.returnType = ret) (hlk : meth.locks = false) (hs : mStep G B (ins, ar, v) is mls mst h = some (.inr (.inr (.inl r)))) (ho : okI o ini ret cc P pc (ins, ar, v) = some q) (hxi : xI o hh P pc (ins, ar, v) = true)
    (hF : Fr D clsT A sad ws0 s nL H locs mls mst h ls st) : W p l e R s m args below meth c H locs cells slots (MQ below (QcM sad A D ws0 r h) args s cells slots A) (F0 m pc ls st) := by
  obtain ⟨hx, hb, hml, hown, hts, hA, hS0, hini, hinj, hG, hRf, hRl⟩ := C
  obtain ⟨ws, tys, h1, h2, h3, h4, h5, h6, h7, h8⟩ := hF
  have en : ∀ v' : Option Value, resM sad ws r v' → ∀ t : State, t.heap = H → s.WarmedH t.vm → QcM sad A D ws0 r h args s (.returned v') t := fun v' hv t ht hW =>
    ⟨⟨ws, v', rfl, hv, tys, h1, by rw [ht]; exact h2, h3.moved hW.alike, h4, h8⟩, h5.F ht⟩
  rcases mStep_end hs with ⟨rfl, x, rfl, hr, har⟩ | ⟨rfl, x, rfl, hr⟩ | ⟨rfl, x, rfl, hr⟩ | ⟨rfl, x, rfl, hrf, hr⟩ | ⟨rfl, rfl, hr⟩ | ⟨rfl, e9, l9, rfl, hg, hr⟩
  · cases hr
    unfold okI at ho
    dsimp only at ho
    obtain ⟨g, ho⟩ := gd_ok ho
    obtain ⟨hd, rfl⟩ := s1_ok ho
    obtain ⟨c1, u1, rfl, ⟨x', rfl, hx'⟩, h7_1⟩ := rS_c h7
    cases u1 with
    | cons a b => exact h7_1.elim
    | nil =>
      have e9 := en (some (.int x')) ⟨x', rfl, hx'⟩
      rcases har with rfl | ⟨rfl, j1, j2⟩ | ⟨rfl, j1, j2⟩ | ⟨rfl, j1, j2⟩
      · exact W.iret hx hb (hret.trans (of_decide_eq_true g)) e9 h5.2.2 hd hlk
      · exact W.zret hx hb (hret.trans (of_decide_eq_true g)) (narrow_z hx' j1 j2) e9 h5.2.2 hd hlk
      · exact W.zret hx hb (hret.trans (of_decide_eq_true g)) (narrow_b hx' j1 j2) e9 h5.2.2 hd hlk
      · exact W.zret hx hb (hret.trans (of_decide_eq_true g)) (narrow_c hx' j1 j2) e9 h5.2.2 hd hlk
  · cases hr
    unfold okI at ho
    dsimp only at ho
    obtain ⟨g, ho⟩ := gd_ok ho
    obtain ⟨hd, rfl⟩ := s1_ok ho
    obtain ⟨c1, u1, rfl, ⟨x', rfl, hx'⟩, h7_1⟩ := rS_c h7
    cases u1 with
    | cons a b => exact h7_1.elim
    | nil => exact W.lret hx hb (hret.trans (of_decide_eq_true g)) (en (some (.long x')) ⟨x', rfl, hx'⟩) h5.2.2 hd hlk
  · cases hr
    unfold okI at ho
    dsimp only at ho
    obtain ⟨g, ho⟩ := gd_ok ho
    obtain ⟨hd, rfl⟩ := s1_ok ho
    obtain ⟨c1, u1, rfl, hv, h7_1⟩ := rS_c h7
    obtain rfl : c1 = .double x := hv
    cases u1 with
    | cons a b => exact h7_1.elim
    | nil => exact W.dret hx hb (hret.trans (of_decide_eq_true g)) (en (some (.double x)) rfl) h5.2.2 hd hlk
  · cases hr
    unfold okI at ho
    dsimp only at ho
    obtain ⟨g, ho⟩ := gd_ok ho
    obtain ⟨hd, rfl⟩ := s1_ok ho
    obtain ⟨c1, u1, rfl, hv, h7_1⟩ := rS_c h7
    have hrt : ∃ rt, ret = some rt ∧ ((∃ n, rt = .object n) ∨ ∃ t, rt = .array t) := by
      split at g
      · exact ⟨_, rfl, Or.inl ⟨_, rfl⟩⟩
      · exact ⟨_, rfl, Or.inr ⟨_, rfl⟩⟩
      · cases g
    obtain ⟨rt, hrt1, hrt2⟩ := hrt
    have hv2 : c1 = .null ∨ ∃ a, c1 = .ref a := by
      rcases x with n | n | u | a | a | (_ | _)
      · cases hrf
      · cases hrf
      · cases hrf
      · obtain ⟨b, e9, rfl, -⟩ := hv; exact Or.inr ⟨b, rfl⟩
      · obtain ⟨b, rfl, -⟩ := hv; exact Or.inr ⟨b, rfl⟩
      · exact Or.inl hv
      · cases hrf
    cases u1 with
    | cons a b => exact h7_1.elim
    | nil => exact W.aret hx hb (hret.trans hrt1) hrt2 hv2 (en (some c1) hv) h5.2.2 hd hlk
  · cases hr
    unfold okI at ho
    dsimp only at ho
    obtain ⟨g, ho⟩ := gd_ok ho
    obtain ⟨hd, rfl⟩ := s1_ok ho
    cases st with
    | cons a b => exact h7.elim
    | nil => exact W.vret hx hb (hret.trans (of_decide_eq_true g)) (en none trivial) h5.2.2 hd hlk
  · cases hr
/-- the end of a body that throws -/
theorem thr_end {hh : List (Nat × Nat × Nat × Nat)} {ex : Nat} (C : Cx sad G A p R s m args meth c o ini cc nL) (hl : l.stackTraces = false) (hR1 : 20 ≤ R.frames) (hR2 : 200 ≤ R.locals) (hlk : meth.locks = false) (hex : c.exceptionTable.toList = tableOf hh) (hs : mStep G B (ins, ar, v) is mls mst h = some (.inr (.inr (.inr ex)))) (ho : okI o ini ret cc P pc (ins, ar, v) = some q) (hxi : xI o hh P pc (ins, ar, v) = true)
    (hF : Fr D clsT A sad ws0 s nL H locs mls mst h ls st) (hc1 : cells + 1 ≤ R.cells) (hs1 : slots + 6 ≤ R.slots) : W p l e R s m args below meth c H locs cells slots (vx_MQ below QcF (XcM sad A D ws0 ex (h.1, h.2.1, h.2.2.1 + 1, h.2.2.2 + 6)) args s (cells + 1) (slots + 6) A) (F0 m pc ls st) := by
  obtain ⟨hx, hb, hml, hown, hts, hA, hS0, hini, hinj, hG, hRf, hRl⟩ := C
  obtain ⟨ws, tys, h1, h2, h3, h4, h5, h6, h7, h8⟩ := hF
  rcases mStep_end hs with ⟨rfl, x, rfl, hr, har⟩ | ⟨rfl, x, rfl, hr⟩ | ⟨rfl, x, rfl, hr⟩ | ⟨rfl, x, rfl, hrf, hr⟩ | ⟨rfl, rfl, hr⟩ | ⟨rfl, e9, l9, rfl, hg, hr⟩
  · cases hr
  · cases hr
  · cases hr
  · cases hr
  · cases hr
  · cases hr
    have hhe : hh = [] := by
      have : hh.isEmpty = true := hxi
      simpa using this
    subst hhe
    have hno : ∀ pc9 : Nat, ∀ x ∈ c.exceptionTable.toList, covers x pc9 = false := fun pc9 x hx => by
      rw [hex] at hx
      cases hx
    rw [oI_d3] at ho
    split at ho
    · rename_i ik is9 ic w he
      cases he
      obtain ⟨g, ho⟩ := gd_ok ho
      cases ho
      simp only [Bool.and_eq_true] at g
      obtain ⟨⟨⟨g1, g2⟩, g3⟩, g4⟩ := g
      obtain ⟨x, hx1, hx2⟩ := List.any_eq_true.mp g1
      simp only [Bool.and_eq_true, beq_iff_eq] at hx2
      obtain ⟨⟨⟨⟨rfl, rfl⟩, rfl⟩, rfl⟩, rfl⟩ := hx2
      have hxc := xc_at hx1
      unfold xcOK at hxc
      simp only [Bool.and_eq_true, decide_eq_true_eq, List.all_eq_true] at hxc
      obtain ⟨⟨⟨⟨x1, x2⟩, x3⟩, x4⟩, x5⟩ := hxc
      have hS1 := hS0
      obtain ⟨-, -, -, -, -, -, s7, s8, -, -, -, s12, -, -, -, -, s17, -, s19, -⟩ := hS1
      obtain ⟨sa, hstr⟩ := s12 o x hx1
      have hat : ∀ w ∈ vx_atS (CN o) x.2.2.1 (excN x.2.2.2.1) nmX, w.before args s = true := fun w hw => by
        have h9 := (x5 w hw).2
        simp only [Bool.or_eq_true, decide_eq_true_eq] at h9
        rcases h9 with (h9 | h9) | h9
        · rw [h9]
          exact (s17 _ x1).use rfl
        · obtain ⟨n, hn1, hn2⟩ := List.any_eq_true.mp h9
          rw [of_decide_eq_true hn2]
          exact (s19 n hn1).use rfl
        · exact hts _ (inG_ok h9)
      have hot : ∀ w ∈ Cond.classLink (CN o) x.1 (excN x.2.2.2.1) :: Cond.initialized (excN x.2.2.2.1) :: vx_atS (CN o) x.2.2.1 (excN x.2.2.2.1) nmX, vx_ot w = true := fun w hw => by
        rcases List.mem_cons.mp hw with rfl | hw
        · rfl
        · rcases List.mem_cons.mp hw with rfl | hw
          · rfl
          · exact (x5 w hw).1
      have hxx : ∀ t : State, s.vm.Alike t.vm → H.size ≤ t.heap.size → (∀ q : Nat, q < H.size → t.heap[q]? = H[q]?) → XcM sad A D ws0 x.2.2.2.1 (h.1, h.2.1, h.2.2.1 + 1, h.2.2.2 + 6) (excN x.2.2.2.1) s t := fun t ht1 ht2 ht3 => by
        refine ⟨rfl, ⟨ws, tys, h1, h2.kept (fun k q hk => ht3 q.1 (vx_lt h2 hk)), h3.moved ht1, h4, h8⟩, Nat.le_trans h5.1 ht2, fun q hq hnA => ?_⟩
        rw [ht3 q (Nat.lt_of_lt_of_le hq h5.1)]
        exact h5.2.1 q hq hnA
      have hrl : (st.map fun v => v.category).sum + (13 * (nmX.length + 1) + 43) ≤ R.locals := by
        rw [rS_hgt h7]
        show hgt mst + (13 * (2 + 1) + 43) ≤ _
        omega
      split at g4
      · simp only [Bool.and_eq_true] at g4
        exact vx_throwS hx hb hl hown x2 (fun n hn => List.all_eq_true.mp nm0 n hn) (hts _ (inG_ok x3)) (hts _ (inG_ok x4)) hstr hat hot s7 s8 h5 (h6.1.trans hml.symm) (dc_ok g2) (dc_ok g3) (dc_ok g4.1.1) (dc_ok g4.1.2) (dc_ok g4.2) (hno _) (by show 2 + 3 < _; omega) hrl hc1 hs1 hlk hxx h5.2.2 (Nat.le_refl _) (Nat.le_refl _)
      · simp only [Bool.and_eq_true] at g4
        exact vx_throwSW hx hb hl hown x2 (fun n hn => List.all_eq_true.mp nm0 n hn) (hts _ (inG_ok x3)) (hts _ (inG_ok x4)) hstr hat hot s7 s8 h5 (h6.1.trans hml.symm) (dc_ok g2) (dc_ok g3) (dc_ok g4.1.1) (dc_ok g4.1.2) (dc_ok g4.2) (hno _) (by show 2 + 3 < _; omega) hrl hc1 hs1 hlk hxx h5.2.2 (Nat.le_refl _) (Nat.le_refl _)
    · cases ho
end RET
theorem body_cx {p : Program} {l : Launch} {e : Env} {s s₁ : State} {mid : MethodId} {args : Array Value} {below : List Frame} {meth : Method} {c : Code} {d m mc ms : Nat} {sad : Nat → Nat} {G : MG} {A : Nat → Prop} {D : va_G} {ws : va_W} {tys : List (ClassId × FieldType)} {h : MH} {as : List MV}
    (hG4 : G.2.2.2 = CF) (hinj : ∀ a b, a < 46 → b < 46 → sad a = sad b → a = b) (m1 : m < 288) (m2 : m ≠ 269) (hma : (margs as).length ≤ lM m)
    (B : BodyLoose p l (yM m) (headSpec (mtC m :: GT) (rm9 d mc ms)) (cM m) (lM m) (rM m) e s mid args below meth c s₁) (hml : c.maxLocals = lM m) (hP : PcM sad G A D ws tys h as args s) :
    Cx sad G A p (rm9 d mc ms) s mid args meth c (oM m) (decide ((yM m).name = "<init>")) (cM m) (lM m) ∧ c.exceptionTable.toList = tableOf (hM m) ∧
    ∃ ls : Array Slot, entryFrame mid args (lM m) = F0 mid 0 ls [] ∧ Fr D clsT A sad ws s (lM m) s.heap [] (mpad (lM m) (margs as)) [] h ls [] := by
  obtain ⟨h1, h2, h3, h4, h5, h6, h7⟩ := hP
  obtain ⟨g1, g2, g3, g4, g5, g6, g7, g8⟩ := mt_sp m1 m2
  have hat := atoms_spec (ws := mtC m :: GT) B.pre
  refine ⟨⟨B.exec, B.bytes, hml, ?_, fun w hw => hat w (List.mem_cons_of_mem _ hw), h7, h6, fun hi => ?_, hinj, hG4, ?_, ?_⟩, ?_, ?_⟩
  · rw [g4]
    exact findClass_of_methodNamed B.named
  · rw [(name_of_methodNamed B.named B.method).1]
    exact of_decide_eq_true hi
  · show 1 ≤ d + 20
    omega
  · show 100 ≤ 200 + 60 * d
    omega
  · have hw := hat _ List.mem_cons_self
    by_cases hhe : hM m = []
    · rw [mtC_c hhe] at hw
      obtain ⟨meth9, c9, e1, e2, -, -, -, -, e7, -⟩ := Cond.code_spec B.named hw
      cases Option.some.inj (e1.symm.trans B.method)
      cases Option.some.inj (e2.symm.trans (Stand.of_body B).code)
      rw [hhe, Array.isEmpty_iff.mp e7]
      rfl
    · rw [mtC_w hhe] at hw
      exact vx_table (x := yM m) B hw
  · have hargs : args = args.toList.toArray := by simp
    refine ⟨_, by rw [hargs]; exact lg_entry_eq mid args.toList (lM m), ws, tys, h1, h2, h3, h4, va_S.rf, rL_entry h5 hma, trivial, rP.rf⟩
theorem ctr_all {l : Launch} (hl : l.stackTraces = false) {sad : Nat → Nat} {G : MG} {A : Nat → Prop} {D : va_G} (hG1 : G.1 = METH) (hG4 : G.2.2.2 = CF) (hinj : ∀ a b, a < 46 → b < 46 → sad a = sad b → a = b) : ∀ n, CT l sad G A D n := by
  intro n
  induction n using Nat.strongRecOn with
  | _ n IH =>
    intro d m as h og m1 m2 hma hr ws tys
    have hgr := mRun_grow hr
    obtain ⟨-, -, -, -, g5, -, -, -⟩ := mt_sp m1 m2
    obtain ⟨r, h2⟩ := og
    dsimp only at hgr
    obtain ⟨mc, hmc⟩ : ∃ mc, mc = h2.2.2.1 - h.2.2.1 := ⟨_, rfl⟩
    obtain ⟨ms, hms⟩ : ∃ ms, ms = h2.2.2.2 - h.2.2.2 := ⟨_, rfl⟩
    cases r with
    | inl r =>
      show Met l (yM m) (mtC m :: GT) (rm9 d (h2.2.2.1 - h.2.2.1) (h2.2.2.2 - h.2.2.2)) (PcM sad G A D ws tys h as) (QcM sad A D ws r h2) (h2.2.2.1 - h.2.2.1) (h2.2.2.2 - h.2.2.2) A
      rw [← hmc, ← hms]
      have go : ∀ p e s mid args below meth c s₁, BodyLoose p l (yM m) (headSpec (mtC m :: GT) (rm9 d mc ms)) (cM m) (lM m) (rM m) e s mid args below meth c s₁ → c.maxLocals = lM m → PcM sad G A D ws tys h as args s → W p l e (headSpec (mtC m :: GT) (rm9 d mc ms)).room s mid args below meth c s.heap [] 0 0 (MQ below (QcM sad A D ws r h2) args s mc ms A) (entryFrame mid args (lM m)) := by
        intro p e s mid args below meth c s₁ B hml hP
        obtain ⟨C, hex, ls, he, hF⟩ := body_cx hG4 hinj m1 m2 hma B hml hP
        rw [he]
        refine frm (P := (bp m).2.1) (B := (bp m).1) (hh := hM m) (ret := rM m) (c0 := h.2.2.1) (s0 := h.2.2.2) (og := (.inl r, h2)) C hG1 (fun _ => hex) (blk_all m1) (xo_all m1) (by show h2.2.2.1 ≤ mc + h.2.2.1; omega) (by show h2.2.2.2 ≤ ms + h.2.2.2; omega) ?_ n (fun n' hn => IH n' hn) d _ _ _ _ 0 _ _ _ _ 0 0 (Nat.le_refl _) (Nat.le_refl _) hr ?_ ?_ hF (by omega) (by omega)
        · intro i is pc q mls mst h' r' H locs ls st cells slots hs ho hxi hF hc hsl heq
          obtain ⟨ins, ar, v⟩ := i
          cases r' with
          | inl v' =>
            cases heq
            have e1 : mc = cells := by omega
            have e2 : ms = slots := by omega
            subst e1
            subst e2
            exact ret_end C B.returns B.notSynchronized hs ho hxi hF
          | inr e => cases heq
        · have := blk_all m1 0
          rw [p0_all m1] at this
          exact this
        · have := xo_all m1 0
          rw [p0_all m1] at this
          exact this
      by_cases hhe : hM m = []
      · exact Met.ofW (ws' := GT) g5 (by rw [mtC_c hhe]) go
      · exact va_MetW (ws' := GT) (hh := hM m) g5 (by rw [mtC_w hhe]) go
    | inr ex =>
      show vx_Met l (yM m) (mtC m :: GT) (rm9 d (h2.2.2.1 - h.2.2.1) (h2.2.2.2 - h.2.2.2)) (PcM sad G A D ws tys h as) QcF (XcM sad A D ws ex h2) (h2.2.2.1 - h.2.2.1) (h2.2.2.2 - h.2.2.2) A
      rw [← hmc, ← hms]
      have go : ∀ p e s mid args below meth c s₁, BodyLoose p l (yM m) (headSpec (mtC m :: GT) (rm9 d mc ms)) (cM m) (lM m) (rM m) e s mid args below meth c s₁ → c.maxLocals = lM m → PcM sad G A D ws tys h as args s → W p l e (headSpec (mtC m :: GT) (rm9 d mc ms)).room s mid args below meth c s.heap [] 0 0 (vx_MQ below QcF (XcM sad A D ws ex h2) args s mc ms A) (entryFrame mid args (lM m)) := by
        intro p e s mid args below meth c s₁ B hml hP
        obtain ⟨C, hex, ls, he, hF⟩ := body_cx hG4 hinj m1 m2 hma B hml hP
        rw [he]
        refine frm (P := (bp m).2.1) (B := (bp m).1) (hh := hM m) (ret := rM m) (c0 := h.2.2.1) (s0 := h.2.2.2) (og := (.inr ex, h2)) C hG1 (fun _ => hex) (blk_all m1) (xo_all m1) (by show h2.2.2.1 ≤ mc + h.2.2.1; omega) (by show h2.2.2.2 ≤ ms + h.2.2.2; omega) ?_ n (fun n' hn => IH n' hn) d _ _ _ _ 0 _ _ _ _ 0 0 (Nat.le_refl _) (Nat.le_refl _) hr ?_ ?_ hF (by omega) (by omega)
        · intro i is pc q mls mst h' r' H locs ls st cells slots hs ho hxi hF hc hsl heq
          obtain ⟨ins, ar, v⟩ := i
          cases r' with
          | inl v' => cases heq
          | inr e =>
            cases heq
            have e1 : mc = cells + 1 := by
              have : mc = h'.2.2.1 + 1 - h.2.2.1 := hmc
              omega
            have e2 : ms = slots + 6 := by
              have : ms = h'.2.2.2 + 6 - h.2.2.2 := hms
              omega
            rw [e1, e2] at C ⊢
            exact thr_end C hl (by show 20 ≤ d + 20; omega) (by show 200 ≤ 200 + 60 * d; omega) B.notSynchronized hex hs ho hxi hF (Nat.le_refl _) (Nat.le_refl _)
        · have := blk_all m1 0
          rw [p0_all m1] at this
          exact this
        · have := xo_all m1 0
          rw [p0_all m1] at this
          exact this
      by_cases hhe : hM m = []
      · exact vx_ofW (ws' := GT) g5 (by rw [mtC_c hhe]) (fun p e s mid args below meth c s₁ B hml _ hP => go p e s mid args below meth c s₁ B hml hP)
      · exact vx_ofWH (ws' := GT) (hh := hM m) g5 (by rw [mtC_w hhe]) go
