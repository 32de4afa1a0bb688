/-! ===== THE REST OF THE STEPS: constants, fields, rows, new cells, switches ===== -/
theorem uq_at {ci : Nat} (h : ci < 15) : clsT[ci]? = some (uQ ci) := by
  have hl : ci < clsT.length := h
  unfold uQ
  rw [List.getD_eq_getElem?_getD, List.getElem?_eq_getElem hl]
  rfl
theorem cl_all : ∀ ci, ci < 15 → clOK ci = true := by
  intro ci h
  match ci, h with
  | 0, _ => exact cl0
  | 1, _ => exact cl1
  | 2, _ => exact cl2
  | 3, _ => exact cl3
  | 4, _ => exact cl4
  | 5, _ => exact cl5
  | 6, _ => exact cl6
  | 7, _ => exact cl7
  | 8, _ => exact cl8
  | 9, _ => exact cl9
  | 10, _ => exact cl10
  | 11, _ => exact cl11
  | 12, _ => exact cl12
  | 13, _ => exact cl13
  | 14, _ => exact cl14
  | n + 15, h => exact absurd h (by omega)
theorem cl_sp {ci : Nat} (h : ci < 15) : (∀ k, k < (uQ ci).2.2 → u_lay (uQ ci).1 (uQ ci).2.1 k ∈ GT ∧ (parseFieldDescriptor (tF ci k).2.2.1).isSome = true ∧ (parseFieldDescriptor (tF ci k).2.2.1).map defaultValue = some (vp_V (mval (CF ci)) k) ∧ ∀ j, j < (uQ ci).2.2 → k ≠ j → (tF ci k).2.1 ≠ (tF ci j).2.1) ∧ (CF ci).length = (uQ ci).2.2 := by
  have h1 := cl_all ci h
  unfold clOK at h1
  simp only [Bool.and_eq_true, List.all_eq_true, decide_eq_true_eq, List.mem_range, Bool.or_eq_true] at h1
  refine ⟨fun k hk => ?_, h1.2⟩
  obtain ⟨⟨⟨a1, a2⟩, a3⟩, a4⟩ := h1.1 k hk
  exact ⟨inT_ok a1, a2, a3, fun j hj hkj => (a4 j hj).resolve_left hkj⟩
theorem cls_ok : ClsOK clsT GT := by
  intro ci q hq
  have hci : ci < 15 := (List.getElem?_eq_some_iff.mp hq).1
  rw [uq_at hci] at hq
  cases hq
  obtain ⟨h1, -⟩ := cl_sp hci
  refine ⟨fun w hw => ?_, ⟨fun k => (parseFieldDescriptor (tF ci k).2.2.1).getD .int, fun k hk => ?_⟩, fun a ha b hb hab => (h1 a ha).2.2.2 b hb hab⟩
  · obtain ⟨k, hk, rfl⟩ := List.mem_map.mp hw
    exact (h1 k (List.mem_range.mp hk)).1
  · have := (h1 k hk).2.1
    show parseFieldDescriptor (tF ci k).2.2.1 = some ((parseFieldDescriptor (tF ci k).2.2.1).getD .int)
    cases hx : parseFieldDescriptor (tF ci k).2.2.1 with
    | none => rw [hx] at this; cases this
    | some y => rfl
theorem isF_ok {o idx ci k : Nat} (h : isF o idx ci k = true) : (.fieldLink (CN o) idx (tF ci k).1 (tF ci k).2.1 (tF ci k).2.2.1) ∈ GT ∧ ci < 15 ∧ k < (uQ ci).2.2 := by
  obtain ⟨x, h1, h2⟩ := List.any_eq_true.mp h
  simp only [Bool.and_eq_true, beq_iff_eq] at h2
  obtain ⟨⟨rfl, rfl⟩, rfl⟩ := h2
  exact (tab_sp o).1 x h1
theorem isNF_ok {o idx ci k : Nat} (h : isNF o idx ci k = true) : ∃ x ∈ LNe o, x.1 = idx ∧ x.2.1 = ci ∧ x.2.2.1 = k := by
  obtain ⟨x, h1, h2⟩ := List.any_eq_true.mp h
  simp only [Bool.and_eq_true, beq_iff_eq] at h2
  exact ⟨x, h1, h2.1.1, h2.1.2, h2.2⟩
theorem fl_of {sad : Nat → Nat} {G : MG} {A : Nat → Prop} {s : State} {args : Array Value} {o idx ci k : Nat} (hts : ∀ w ∈ GT, w.before args s = true) (hS : sS sad G A s s.heap) (h : (isF o idx ci k || isNF o idx ci k || isSF o idx ci k) = true) : fLink s args (CN o) idx (tF ci k) ∧ ci < 15 ∧ k < (uQ ci).2.2 := by
  rcases Bool.or_eq_true _ _ |>.mp h with h | h
  rotate_left
  · obtain ⟨x, h1, h2⟩ := List.any_eq_true.mp h
    simp only [Bool.and_eq_true, beq_iff_eq] at h2
    obtain ⟨⟨rfl, rfl⟩, rfl⟩ := h2
    obtain ⟨g1, g2, g3, g4⟩ := (tab_sp o).2.2.2.2.2.2.2.2.1 x h1
    exact ⟨Or.inr (Or.inr ⟨_, hts _ g1, hts _ g2⟩), g3, g4⟩
  rcases Bool.or_eq_true _ _ |>.mp h with h | h
  · obtain ⟨h1, h2, h3⟩ := isF_ok h
    exact ⟨Or.inl (hts _ h1), h2, h3⟩
  · obtain ⟨x, h1, rfl, rfl, rfl⟩ := isNF_ok h
    obtain ⟨-, h3, h4⟩ := (tab_sp o).2.1 x h1
    obtain ⟨-, -, -, -, -, -, -, -, g, -⟩ := hS
    exact ⟨Or.inr (Or.inl ⟨HN o, (g o x h1).use rfl⟩), h3, h4⟩
theorem tyT_ok {ci k t : Nat} (h : tyT ci k t = true) : ∃ ty, parseFieldDescriptor (tF ci k).2.2.1 = some ty ∧ (t = 0 → ty = .int) ∧ (t = 1 → ty = .long) ∧ (t = 2 → (∃ C, ty = .object C) ∨ ∃ z, ty = .array z) ∧ (t = 3 → ty = .byte) ∧ (t = 4 → ty = .boolean) := by
  unfold tyT at h
  split at h
  · rename_i hq
    have h := beq_iff_eq.mp h
    subst h
    exact ⟨_, hq, fun _ => rfl, fun q => (by cases q), fun q => (by cases q), fun q => (by cases q), fun q => (by cases q)⟩
  · rename_i hq
    have h := beq_iff_eq.mp h
    subst h
    exact ⟨_, hq, fun q => (by cases q), fun _ => rfl, fun q => (by cases q), fun q => (by cases q), fun q => (by cases q)⟩
  · rename_i hq
    have h := beq_iff_eq.mp h
    subst h
    exact ⟨_, hq, fun q => (by cases q), fun q => (by cases q), fun _ => Or.inl ⟨_, rfl⟩, fun q => (by cases q), fun q => (by cases q)⟩
  · rename_i hq
    have h := beq_iff_eq.mp h
    subst h
    exact ⟨_, hq, fun q => (by cases q), fun q => (by cases q), fun _ => Or.inr ⟨_, rfl⟩, fun q => (by cases q), fun q => (by cases q)⟩
  · rename_i hq
    have h := beq_iff_eq.mp h
    subst h
    exact ⟨_, hq, fun q => (by cases q), fun q => (by cases q), fun q => (by cases q), fun _ => rfl, fun q => (by cases q)⟩
  · rename_i hq
    have h := beq_iff_eq.mp h
    subst h
    exact ⟨_, hq, fun q => (by cases q), fun q => (by cases q), fun q => (by cases q), fun q => (by cases q), fun _ => rfl⟩
  · cases h
theorem lcl_ne : ∀ o, ∀ x ∈ LCl o, mdC x.2.1 = true := by
  intro o x hx
  by_cases ho : o < 26
  · have h : (List.range 26).all (fun o => (LCl o).all (fun x => mdC x.2.1)) = true := by decide +kernel
    exact List.all_eq_true.mp (List.all_eq_true.mp h o (List.mem_range.mpr ho)) x hx
  · rw [(tab_none ho).2.2.2.2.2.1] at hx
    cases hx
theorem ci_all : ∀ ci, ci < 15 → mdC ci = true → ciOK ci = true := by
  intro ci h h0
  match ci, h, h0 with
  | 0, _, _ => exact ci0
  | 1, _, _ => exact ci1
  | 2, _, h0 => cases h0
  | 3, _, _ => exact ci3
  | 4, _, _ => exact ci4
  | 5, _, _ => exact ci5
  | 6, _, _ => exact ci6
  | 7, _, _ => exact ci7
  | 8, _, _ => exact ci8
  | 9, _, _ => exact ci9
  | 10, _, _ => exact ci10
  | 11, _, _ => exact ci11
  | 12, _, _ => exact ci12
  | 13, _, h0 => cases h0
  | 14, _, _ => exact ci14
  | n + 15, h, _ => exact absurd h (by omega)
theorem pr_sp : (.native arraycopyName) ∈ GT ∧ (.static arraycopyName) ∈ GT ∧ (.initialized "java/lang/System") ∈ GT ∧ (.initialized "java/lang/Math") ∈ GT ∧ (.static Lib.Math.max.name) ∈ GT ∧ (.code Lib.Math.max.name Lib.Math.max.code 2 (some .int)) ∈ GT ∧ (.static Lib.Math.min.name) ∈ GT ∧ (.code Lib.Math.min.name Lib.Math.min.code 2 (some .int)) ∈ GT ∧ (.instanceMethod Lib.objectInit) ∈ GT ∧ (.code Lib.objectInit ⟨#[0xb1]⟩ 1 none) ∈ GT ∧ (.arrayClass .int) ∈ GT ∧ (.arrayClass .byte) ∈ GT ∧ (.arrayClass .boolean) ∈ GT ∧ (.arrayClass .long) ∈ GT := by
  have h := pr0
  unfold prOK at h
  simp only [Bool.and_eq_true] at h
  obtain ⟨⟨⟨⟨⟨⟨⟨⟨⟨⟨⟨⟨⟨h1, h2⟩, h3⟩, h4⟩, h5⟩, h6⟩, h7⟩, h8⟩, h9⟩, h10⟩, h11⟩, h12⟩, h13⟩, h14⟩ := h
  exact ⟨inT_ok h1, inT_ok h2, inT_ok h3, inT_ok h4, inT_ok h5, inT_ok h6, inT_ok h7, inT_ok h8, inT_ok h9, inT_ok h10, inT_ok h11, inT_ok h12, inT_ok h13, inT_ok h14⟩
theorem pr_sp2 : (.sameMethod "[B" "java/lang/Object" "clone" "()Ljava/lang/Object;") ∈ GT ∧ (.native ⟨"java/lang/Object", "clone", "()Ljava/lang/Object;"⟩) ∈ GT ∧ (.instanceMethod ⟨"java/lang/Object", "clone", "()Ljava/lang/Object;"⟩) ∈ GT ∧ (.selects "[B" cloneX ⟨"java/lang/Object", "clone", "()Ljava/lang/Object;"⟩) ∈ GT ∧ (.native gcX) ∈ GT ∧ (.instanceMethod gcX) ∈ GT ∧ (.selects "[Ljava/lang/Object;" gcX gcX) ∈ GT := by
  have h := pr2
  unfold prOK2 at h
  simp only [Bool.and_eq_true] at h
  obtain ⟨⟨⟨⟨⟨⟨h1, h2⟩, h3⟩, h4⟩, h5⟩, h6⟩, h7⟩ := h
  exact ⟨inT_ok h1, inT_ok h2, inT_ok h3, inT_ok h4, inT_ok h5, inT_ok h6, inT_ok h7⟩
theorem isC_ok {o idx ci : Nat} (h : isC o idx ci = true) : (.classLink (CN o) idx (clX ci)) ∈ GT ∧ mdC ci = true := by
  obtain ⟨x, h1, h2⟩ := List.any_eq_true.mp h
  simp only [Bool.and_eq_true, beq_iff_eq] at h2
  obtain ⟨rfl, rfl⟩ := h2
  exact ⟨(tab_sp o).2.2.2.2.2.1 x h1, lcl_ne o x h1⟩
theorem isP_ok {o idx k : Nat} (h : isP o idx k = true) : (.methodLink (CN o) idx (prX k)) ∈ GT := by
  obtain ⟨x, h1, h2⟩ := List.any_eq_true.mp h
  simp only [Bool.and_eq_true, beq_iff_eq] at h2
  obtain ⟨rfl, rfl⟩ := h2
  exact (tab_sp o).2.2.2.2.2.2.2.1 x h1
theorem isS_ok {o idx k : Nat} (h : isS o idx k = true) : (.fieldLink (CN o) idx (FS k).1 (FS k).2.1 (FS k).2.2) ∈ GT := by
  obtain ⟨x, h1, h2⟩ := List.any_eq_true.mp h
  simp only [Bool.and_eq_true, beq_iff_eq] at h2
  obtain ⟨rfl, rfl⟩ := h2
  exact (tab_sp o).2.2.1 x h1
theorem tgs_at {P : Nat → Nat} {pc : Nat} : ∀ {os : List Int} {ks : List Nat}, tgs P pc os ks = true → os.length = ks.length ∧ ∀ (j : Nat) (x : Int), os[j]? = some x → ∃ k, ks[j]? = some k ∧ (pc : Int) + x = (P k : Int)
  | [], [], _ => ⟨rfl, fun j x h => by simp at h⟩
  | [], _ :: _, h => by cases h
  | _ :: _, [], h => by cases h
  | x :: os, k :: ks, h => by
    unfold tgs at h
    simp only [Bool.and_eq_true] at h
    obtain ⟨h1, h2⟩ := h
    obtain ⟨i1, i2⟩ := tgs_at h2
    refine ⟨congrArg (· + 1) i1, fun j y hy => ?_⟩
    cases j with
    | zero => cases hy; exact ⟨k, rfl, of_decide_eq_true h1⟩
    | succ j => exact i2 j y hy
theorem sw_at {P : Nat → Nat} {pc k : Nat} {d lo hi x : Int} {offs : Array Int} {ks : List Nat} (h1 : tg P pc d k = true) (h2 : tgs P pc offs.toList ks = true) (h3 : hi - lo + 1 = (offs.size : Int)) : ∃ off, (if x < lo ∨ hi < x then some d else offs[(x - lo).toNat]?) = some off ∧ (pc : Int) + off = (P (swL x lo k ks) : Int) := by
  obtain ⟨i1, i2⟩ := tgs_at h2
  have hd : (pc : Int) + d = (P k : Int) := of_decide_eq_true h1
  by_cases hq : x < lo ∨ hi < x
  · refine ⟨d, if_pos hq, ?_⟩
    rw [hd]
    unfold swL
    by_cases hl : x < lo
    · rw [if_pos hl]
    · rw [if_neg hl, List.getD_eq_getElem?_getD, List.getElem?_eq_none (by rw [← i1]; simp only [Array.length_toList]; omega)]
      rfl
  · rw [if_neg hq]
    have hlt : (x - lo).toNat < offs.size := by omega
    refine ⟨offs[(x - lo).toNat], Array.getElem?_eq_getElem hlt, ?_⟩
    obtain ⟨k2, e1, e2⟩ := i2 (x - lo).toNat offs[(x - lo).toNat] (by rw [List.getElem?_eq_getElem (by simpa using hlt)]; simp)
    rw [e2]
    unfold swL
    rw [if_neg (by omega), List.getD_eq_getElem?_getD, e1]
    rfl
theorem lk_at {P : Nat → Nat} {pc k : Nat} {d x : Int} (h1 : tg P pc d k = true) : ∀ {ps : List (Int × Int)} {ks : List Nat}, tgs P pc (ps.map (fun q => q.2)) ks = true → (pc : Int) + Op.lookupswitch.offset ps d x = (P (lkL x k ps ks) : Int)
  | [], [], _ => of_decide_eq_true h1
  | [], _ :: _, h => by cases h
  | _ :: _, [], h => by cases h
  | (a, b) :: ps, k2 :: ks, h => by
    have h := Bool.and_eq_true _ _ |>.mp h
    obtain ⟨h2, h3⟩ := h
    rw [Op.lookupswitch.offset_cons]
    unfold lkL
    by_cases hx : a = x
    · rw [if_pos hx, if_pos hx.symm]
      exact of_decide_eq_true h2
    · rw [if_neg hx, if_neg (fun z => hx z.symm)]
      exact lk_at h1 h3
section NX2
variable {p : Program} {l : Launch} {e : Env} {R : Room} {s : State} {m : MethodId} {args : Array Value} {below : List Frame} {meth : Method} {c : Code} {H : Heap} {locs : List Loc} {cells slots : Nat} {Q : State → Prop}
variable {cc : ByteArray} {pc nL q : Nat} {D : va_G} {A : Nat → Prop} {sad : Nat → Nat} {ws0 : va_W} {mls mst mls2 mst2 : List MV} {h h2 : MH} {ls : Array Slot} {st : List Value}
variable {o : Nat} {ini : Bool} {ret : Option FieldType} {B : Nat → List MI} {P : Nat → Nat} {G : MG} {is is2 : List MI} {ar : List Nat} {v : Int}
theorem nx_ldc (C : Cx sad G A p R s m args meth c o ini cc nL) {n : Nat} (hs : mStep G B (.ldc n, ar, v) is mls mst h = some (.inl (is2, mls2, mst2, h2))) (ho : okI o ini ret cc P pc (.ldc n, ar, v) = some q) (hF : Fr D clsT A sad ws0 s nL H locs mls mst h ls st) (hr1 : cells + h2.2.2.1 ≤ R.cells + h.2.2.1) (hr2 : slots + h2.2.2.2 ≤ R.slots + h.2.2.2) (kk : Nxt D A sad ws0 B P is q p l e R s m args below meth c cells slots Q nL h is2 mls2 mst2 h2) : W p l e R s m args below meth c H locs cells slots Q (F0 m pc ls st) := by
  obtain ⟨hx, hb, hml, hown, hts, hA, hS0, hini, hinj, hG, hRf, hRl⟩ := C
  unfold okI at ho
  unfold mStep at hs
  dsimp only at hs ho
  split at hs
  · cases hs
    try dsimp only at ho
    obtain ⟨g, ho⟩ := gd_ok ho
    obtain ⟨hd, rfl⟩ := s1_ok ho
    obtain ⟨x, hx1, hx2⟩ := List.any_eq_true.mp g
    simp only [Bool.and_eq_true, beq_iff_eq] at hx2
    obtain ⟨rfl, rfl⟩ := hx2
    obtain ⟨-, -, -, -, -, -, -, -, -, -, -, -, g13, -⟩ := hS0
    obtain ⟨ws, tys, h1, h2, h3, h4, h5, h6, h7, h8⟩ := hF
    exact va_ldcS hx hb hown (g13 o x hx1) hd (kk _ _ _ _ _ _ _ (Or.inl ⟨rfl, rfl⟩) ⟨ws, tys, h1, h2, h3, h4, h5, h6, ⟨⟨_, rfl, Or.inr rfl⟩, h7⟩, h8⟩ rfl rfl)
  · cases hs
    try dsimp only at ho
    obtain ⟨g, ho⟩ := gd_ok ho
    obtain ⟨hd, rfl⟩ := s1_ok ho
    obtain ⟨x, hx1, hx2⟩ := List.any_eq_true.mp g
    simp only [Bool.and_eq_true, beq_iff_eq, decide_eq_true_eq] at hx2
    obtain ⟨rfl, hx3⟩ := hx2
    have hlk := (tab_sp o).2.2.2.2.2.2.2.2.2 x hx1
    exact sn_ldc hx hb hown (hts _ hlk) hF hd hx3 (fun st hF2 => kk _ _ _ _ _ _ _ (Or.inl ⟨rfl, rfl⟩) hF2 rfl rfl)
  · cases hs
theorem zs_of {x : Nat} {v : MV} (h : (ZS[x]?).map (fun z => z.2.2.2) = some v) : ∃ z, ZS[x]? = some z ∧ z ∈ ZS ∧ z.2.2.2 = v := by
  cases hz : ZS[x]? with
  | none => rw [hz] at h; cases h
  | some z => rw [hz] at h; cases h; exact ⟨z, rfl, List.mem_of_getElem? hz, rfl⟩
theorem zs_n99 {x : Nat} {z : String × String × String × MV} (h : ZS[x]? = some z) : x ≠ 99 := by
  intro hx
  subst hx
  cases h
theorem nx_getstatic (C : Cx sad G A p R s m args meth c o ini cc nL) {n : Nat} (hs : mStep G B (.getstatic n, ar, v) is mls mst h = some (.inl (is2, mls2, mst2, h2))) (ho : okI o ini ret cc P pc (.getstatic n, ar, v) = some q) (hF : Fr D clsT A sad ws0 s nL H locs mls mst h ls st) (hr1 : cells + h2.2.2.1 ≤ R.cells + h.2.2.1) (hr2 : slots + h2.2.2.2 ≤ R.slots + h.2.2.2) (kk : Nxt D A sad ws0 B P is q p l e R s m args below meth c cells slots Q nL h is2 mls2 mst2 h2) : W p l e R s m args below meth c H locs cells slots Q (F0 m pc ls st) := by
  obtain ⟨hx, hb, hml, hown, hts, hA, hS0, hini, hinj, hG, hRf, hRl⟩ := C
  unfold okI at ho
  unfold mStep at hs
  dsimp only at hs ho
  have hS1 := hS0
  obtain ⟨-, -, g3, g4, -, -, -, -, -, g10, -⟩ := hS1
  split at hs
  · rename_i a
    cases hs
    try dsimp only at ho
    obtain ⟨g, ho⟩ := gd_ok ho
    obtain ⟨hd, rfl⟩ := s1_ok ho
    rcases Bool.or_eq_true _ _ |>.mp g with g | g
    · obtain ⟨x, hx1, hx2⟩ := List.any_eq_true.mp g
      simp only [Bool.and_eq_true, beq_iff_eq, decide_eq_true_eq] at hx2
      obtain ⟨rfl, hx3⟩ := hx2
      obtain ⟨z, hz1, hz2, hz3⟩ := zs_of hx3
      obtain ⟨z', hz1', hlk⟩ := ((tab_sp o).2.2.2.1 x hx1).2 (zs_n99 hz1)
      rw [hz1] at hz1'
      cases hz1'
      obtain ⟨cv, hZ2, hZ3⟩ := g3 z hz2
      rw [hz3] at hZ3
      exact sn_gets hx hb hown hZ2 hZ3 (hts _ hlk) hF hd (fun st hF2 => kk _ _ _ _ _ _ _ (Or.inl ⟨rfl, rfl⟩) hF2 rfl rfl)
    · obtain ⟨x, hx1, hx2⟩ := List.any_eq_true.mp g
      simp only [Bool.and_eq_true, beq_iff_eq, decide_eq_true_eq] at hx2
      obtain ⟨rfl, hx3⟩ := hx2
      obtain ⟨z, hz1, hz2, hz3⟩ := zs_of hx3
      obtain ⟨cv, hZ2, hZ3⟩ := g3 z hz2
      rw [hz3] at hZ3
      obtain ⟨ws, tys, h1, h2, h3, h4, h5, h6, h7, h8⟩ := hF
      exact va_getsN hx hb hZ2 h5 hown ((g10 o x hx1 z hz1).use rfl) (fun _ z => z) hd (kk _ _ _ _ _ _ _ (Or.inl ⟨rfl, rfl⟩) ⟨ws, tys, h1, h2, h3, h4, h5, h6, ⟨rV_bare hZ3, h7⟩, h8⟩ rfl rfl)
  · cases hs
    try dsimp only at ho
    obtain ⟨g, ho⟩ := gd_ok ho
    obtain ⟨hd, rfl⟩ := s1_ok ho
    obtain ⟨x, hx1, hx2⟩ := List.any_eq_true.mp g
    simp only [Bool.and_eq_true, beq_iff_eq, decide_eq_true_eq] at hx2
    obtain ⟨rfl, hx3⟩ := hx2
    obtain ⟨z, hz1, hz2, hz3⟩ := zs_of hx3
    obtain ⟨z', hz1', hlk⟩ := ((tab_sp o).2.2.2.1 x hx1).2 (zs_n99 hz1)
    rw [hz1] at hz1'
    cases hz1'
    obtain ⟨cv, hZ2, hZ3⟩ := g3 z hz2
    rw [hz3] at hZ3
    exact sn_gets hx hb hown hZ2 hZ3 (hts _ hlk) hF hd (fun st hF2 => kk _ _ _ _ _ _ _ (Or.inl ⟨rfl, rfl⟩) hF2 rfl rfl)
  · try dsimp only at ho
    obtain ⟨g, ho⟩ := gd_ok ho
    obtain ⟨hd, rfl⟩ := s1_ok ho
    obtain ⟨x, hx1, hx2⟩ := List.any_eq_true.mp g
    simp only [Bool.and_eq_true, beq_iff_eq] at hx2
    obtain ⟨rfl, hx3⟩ := hx2
    split at hs
    · rename_i w hw
      split at hs
      · cases hs
        have hlk := ((tab_sp o).2.2.2.1 x hx1).1 hx3
        obtain ⟨cv, hZ2, hZ3⟩ := g4
        exact sn_gets hx hb hown hZ2 (hZ3 _ hw) (hts _ hlk) hF hd (fun st hF2 => kk _ _ _ _ _ _ _ (Or.inl ⟨rfl, rfl⟩) hF2 rfl rfl)
      · cases hs
    · cases hs
  · cases hs
theorem nx_getfield (C : Cx sad G A p R s m args meth c o ini cc nL) {n : Nat} (hs : mStep G B (.getfield n, ar, v) is mls mst h = some (.inl (is2, mls2, mst2, h2))) (ho : okI o ini ret cc P pc (.getfield n, ar, v) = some q) (hF : Fr D clsT A sad ws0 s nL H locs mls mst h ls st) (hr1 : cells + h2.2.2.1 ≤ R.cells + h.2.2.1) (hr2 : slots + h2.2.2.2 ≤ R.slots + h.2.2.2) (kk : Nxt D A sad ws0 B P is q p l e R s m args below meth c cells slots Q nL h is2 mls2 mst2 h2) : W p l e R s m args below meth c H locs cells slots Q (F0 m pc ls st) := by
  obtain ⟨hx, hb, hml, hown, hts, hA, hS0, hini, hinj, hG, hRf, hRl⟩ := C
  unfold okI at ho
  unfold mStep at hs
  dsimp only at hs ho
  split at hs
  · rename_i ci k x w r
    try dsimp only at ho
    obtain ⟨g, ho⟩ := gd_ok ho
    obtain ⟨hd, rfl⟩ := s1_ok ho
    split at hs
    · rename_i w2 hw
      cases hs
      unfold rdF at hw
      split at hw
      · rename_i a
        split at hw
        · rename_i c2 fs hc
          split at hw
          · rename_i gg
            obtain ⟨rfl, hk⟩ := gg
            rw [if_pos hk] at g
            obtain ⟨hl, hci, hkn⟩ := fl_of hts hS0 g
            exact sn_get hx hb hts cls_ok hown (uq_at hci) hkn hl hF hc hw hd (fun st hF2 => kk _ _ _ _ _ _ _ (Or.inl ⟨rfl, rfl⟩) hF2 rfl rfl)
          · split at hw
            · rename_i gg
              obtain ⟨rfl, k1, k2⟩ := gg
              rw [if_neg (by omega)] at g
              have h9 := hts _ (isS_ok g)
              have hl : fLink s args (CN o) n ((uQ 14).2.1 (k - 53)) := Or.inl (by
                rcases (show k = 53 ∨ k = 54 by omega) with rfl | rfl <;> exact h9)
              have hk4 : k - 53 < (uQ 14).2.2 := by
                have : (uQ 14).2.2 = 4 := rfl
                omega
              exact sn_get hx hb hts cls_ok hown (uq_at (by decide)) hk4 hl hF hc hw hd (fun st hF2 => kk _ _ _ _ _ _ _ (Or.inl ⟨rfl, rfl⟩) hF2 rfl rfl)
            · cases hw
        · cases hw
      · rename_i a
        split at hw
        · rename_i hk
          rw [if_neg (by omega)] at g
          obtain ⟨g1, -⟩ := hS0
          obtain ⟨g2, cv, g3, g4⟩ := g1 a k w2 hk hw
          exact sn_getS hx hb hown g3 g4 g2 (hts _ (isS_ok g)) hF hd (fun st hF2 => kk _ _ _ _ _ _ _ (Or.inl ⟨rfl, rfl⟩) hF2 rfl rfl)
        · cases hw
      · cases hw
    · cases hs
  · cases hs
theorem nx_putfield (C : Cx sad G A p R s m args meth c o ini cc nL) {n : Nat} (hs : mStep G B (.putfield n, ar, v) is mls mst h = some (.inl (is2, mls2, mst2, h2))) (ho : okI o ini ret cc P pc (.putfield n, ar, v) = some q) (hF : Fr D clsT A sad ws0 s nL H locs mls mst h ls st) (hr1 : cells + h2.2.2.1 ≤ R.cells + h.2.2.1) (hr2 : slots + h2.2.2.2 ≤ R.slots + h.2.2.2) (kk : Nxt D A sad ws0 B P is q p l e R s m args below meth c cells slots Q nL h is2 mls2 mst2 h2) : W p l e R s m args below meth c H locs cells slots Q (F0 m pc ls st) := by
  obtain ⟨hx, hb, hml, hown, hts, hA, hS0, hini, hinj, hG, hRf, hRl⟩ := C
  unfold okI at ho
  unfold mStep at hs
  dsimp only at hs ho
  split at hs
  · rename_i ci k t w a r
    try dsimp only at ho
    obtain ⟨g, ho⟩ := gd_ok ho
    obtain ⟨hd, rfl⟩ := s1_ok ho
    simp only [Bool.and_eq_true, decide_eq_true_eq] at g
    obtain ⟨⟨g1, g2⟩, g3⟩ := g
    obtain ⟨ty, t1, t2⟩ := tyT_ok g2
    split at hs
    · rename_i c2 fs hc
      split at hs
      · rename_i gg
        obtain ⟨rfl, hk, hfit⟩ := gg
        cases hs
        split at g3
        · rename_i hfin
          simp only [Bool.and_eq_true, decide_eq_true_eq] at g3
          obtain ⟨⟨i1, i2⟩, i3⟩ := g3
          obtain ⟨hl, hci, hkn⟩ := isF_ok i2
          exact sn_put hx hb hts cls_ok hown (uq_at hci) hkn (Or.inl (hts _ hl)) (Or.inr ⟨hfin, hini i1, i3, hts _ hl⟩) t1 t2 hF hc hk hfit hd (fun H locs st hF2 => kk _ _ _ _ _ _ _ (Or.inl ⟨rfl, rfl⟩) hF2 rfl rfl)
        · rename_i hfin
          obtain ⟨hl, hci, hkn⟩ := fl_of hts hS0 g3
          exact sn_put hx hb hts cls_ok hown (uq_at hci) hkn hl (Or.inl (by simpa using hfin)) t1 t2 hF hc hk hfit hd (fun H locs st hF2 => kk _ _ _ _ _ _ _ (Or.inl ⟨rfl, rfl⟩) hF2 rfl rfl)
      · cases hs
    · cases hs
  · cases hs
theorem nx_alen (C : Cx sad G A p R s m args meth c o ini cc nL)  (hs : mStep G B (.arraylength, ar, v) is mls mst h = some (.inl (is2, mls2, mst2, h2))) (ho : okI o ini ret cc P pc (.arraylength, ar, v) = some q) (hF : Fr D clsT A sad ws0 s nL H locs mls mst h ls st) (hr1 : cells + h2.2.2.1 ≤ R.cells + h.2.2.1) (hr2 : slots + h2.2.2.2 ≤ R.slots + h.2.2.2) (kk : Nxt D A sad ws0 B P is q p l e R s m args below meth c cells slots Q nL h is2 mls2 mst2 h2) : W p l e R s m args below meth c H locs cells slots Q (F0 m pc ls st) := by
  obtain ⟨hx, hb, hml, hown, hts, hA, hS0, hini, hinj, hG, hRf, hRl⟩ := C
  unfold okI at ho
  obtain ⟨hd, rfl⟩ := s1_ok ho
  unfold mStep at hs
  dsimp only at hs
  split at hs
  · split at hs
    · rename_i n hn
      split at hs
      · rename_i hlt
        cases hs
        unfold rdN at hn
        split at hn
        · split at hn
          · rename_i hc
            cases hn
            exact sn_alen (x := 0) hx hb hF (Or.inl ⟨_, _, hc⟩) (by omega) hd (fun st hF2 => kk _ _ _ _ _ _ _ (Or.inl ⟨rfl, rfl⟩) hF2 rfl rfl)
          · rename_i hc
            cases hn
            exact sn_alen (x := 0) hx hb hF (Or.inr (Or.inl ⟨_, hc⟩)) (by omega) hd (fun st hF2 => kk _ _ _ _ _ _ _ (Or.inl ⟨rfl, rfl⟩) hF2 rfl rfl)
          · rename_i hc
            cases hn
            exact sn_alen (x := 0) hx hb hF (Or.inr (Or.inr ⟨_, _, hc⟩)) (by omega) hd (fun st hF2 => kk _ _ _ _ _ _ _ (Or.inl ⟨rfl, rfl⟩) hF2 rfl rfl)
          · cases hn
        · split at hn
          · rename_i hc
            cases hn
            obtain ⟨-, g2, -⟩ := hS0
            obtain ⟨i1, fv, i2, i3⟩ := g2 _ _ _ _ hc
            exact sn_tlen hx hb i1 i2 hF (by omega) hd (fun st hF2 => kk _ _ _ _ _ _ _ (Or.inl ⟨rfl, rfl⟩) hF2 rfl rfl)
          · cases hn
        · cases hn
      · cases hs
    · cases hs
  · cases hs
theorem nx_iaload (C : Cx sad G A p R s m args meth c o ini cc nL)  (hs : mStep G B (.iaload, ar, v) is mls mst h = some (.inl (is2, mls2, mst2, h2))) (ho : okI o ini ret cc P pc (.iaload, ar, v) = some q) (hF : Fr D clsT A sad ws0 s nL H locs mls mst h ls st) (hr1 : cells + h2.2.2.1 ≤ R.cells + h.2.2.1) (hr2 : slots + h2.2.2.2 ≤ R.slots + h.2.2.2) (kk : Nxt D A sad ws0 B P is q p l e R s m args below meth c cells slots Q nL h is2 mls2 mst2 h2) : W p l e R s m args below meth c H locs cells slots Q (F0 m pc ls st) := by
  obtain ⟨hx, hb, hml, hown, hts, hA, hS0, hini, hinj, hG, hRf, hRl⟩ := C
  unfold okI at ho
  obtain ⟨hd, rfl⟩ := s1_ok ho
  unfold mStep at hs
  dsimp only at hs
  split at hs
  · split at hs
    · rename_i y hn
      cases hs
      unfold rdI at hn
      split at hn
      · split at hn
        · rename_i hc
          split at hn
          · rename_i hq
            cases hn
            exact sn_iald hx hb hF hc hq.1 hq.2 hd (fun st hF2 => kk _ _ _ _ _ _ _ (Or.inl ⟨rfl, rfl⟩) hF2 rfl rfl)
          · cases hn
        · cases hn
      · split at hn
        · rename_i hc
          split at hn
          · rename_i hq
            split at hn
            · rename_i hf
              cases hn
              obtain ⟨-, g2, -⟩ := hS0
              obtain ⟨i1, fv, i2, i3⟩ := g2 _ _ _ _ hc
              exact sn_ti hx hb i1 i2 i3 hF hq.1 hq.2 hf hd (fun st hF2 => kk _ _ _ _ _ _ _ (Or.inl ⟨rfl, rfl⟩) hF2 rfl rfl)
            · cases hn
          · cases hn
        · cases hn
      · cases hn
    · cases hs
  · cases hs
theorem nx_baload (C : Cx sad G A p R s m args meth c o ini cc nL)  (hs : mStep G B (.baload, ar, v) is mls mst h = some (.inl (is2, mls2, mst2, h2))) (ho : okI o ini ret cc P pc (.baload, ar, v) = some q) (hF : Fr D clsT A sad ws0 s nL H locs mls mst h ls st) (hr1 : cells + h2.2.2.1 ≤ R.cells + h.2.2.1) (hr2 : slots + h2.2.2.2 ≤ R.slots + h.2.2.2) (kk : Nxt D A sad ws0 B P is q p l e R s m args below meth c cells slots Q nL h is2 mls2 mst2 h2) : W p l e R s m args below meth c H locs cells slots Q (F0 m pc ls st) := by
  obtain ⟨hx, hb, hml, hown, hts, hA, hS0, hini, hinj, hG, hRf, hRl⟩ := C
  unfold okI at ho
  obtain ⟨hd, rfl⟩ := s1_ok ho
  unfold mStep at hs
  dsimp only at hs
  split at hs
  · split at hs
    · rename_i y hn
      cases hs
      unfold rdI at hn
      split at hn
      · split at hn
        · rename_i hc
          split at hn
          · rename_i hq
            cases hn
            exact sn_bald hx hb hF hc hq.1 hq.2 hd (fun st hF2 => kk _ _ _ _ _ _ _ (Or.inl ⟨rfl, rfl⟩) hF2 rfl rfl)
          · cases hn
        · cases hn
      · split at hn
        · rename_i hc
          split at hn
          · rename_i hq
            split at hn
            · rename_i hf
              cases hn
              obtain ⟨-, g2, -⟩ := hS0
              obtain ⟨i1, fv, i2, i3⟩ := g2 _ _ _ _ hc
              exact sn_tb hx hb i1 i2 i3 hF hq.1 hq.2 hf hd (fun st hF2 => kk _ _ _ _ _ _ _ (Or.inl ⟨rfl, rfl⟩) hF2 rfl rfl)
            · cases hn
          · cases hn
        · cases hn
      · cases hn
    · rename_i y hn
      cases hs
      unfold rdI at hn
      split at hn
      · split at hn
        · rename_i hc
          split at hn
          · rename_i hq
            cases hn
            exact sn_zald hx hb hF hc hq.1 hq.2 hd (fun st hF2 => kk _ _ _ _ _ _ _ (Or.inl ⟨rfl, rfl⟩) hF2 rfl rfl)
          · cases hn
        · cases hn
      · split at hn
        · rename_i hc
          split at hn
          · rename_i hq
            split at hn
            · rename_i hf
              cases hn
              obtain ⟨-, g2, -⟩ := hS0
              obtain ⟨i1, fv, i2, i3⟩ := g2 _ _ _ _ hc
              exact sn_tz hx hb i1 i2 i3 hF hq.1 hq.2 hf hd (fun st hF2 => kk _ _ _ _ _ _ _ (Or.inl ⟨rfl, rfl⟩) hF2 rfl rfl)
            · cases hn
          · cases hn
        · cases hn
      · cases hn
    · cases hs
  · cases hs
theorem nx_laload (C : Cx sad G A p R s m args meth c o ini cc nL)  (hs : mStep G B (.laload, ar, v) is mls mst h = some (.inl (is2, mls2, mst2, h2))) (ho : okI o ini ret cc P pc (.laload, ar, v) = some q) (hF : Fr D clsT A sad ws0 s nL H locs mls mst h ls st) (hr1 : cells + h2.2.2.1 ≤ R.cells + h.2.2.1) (hr2 : slots + h2.2.2.2 ≤ R.slots + h.2.2.2) (kk : Nxt D A sad ws0 B P is q p l e R s m args below meth c cells slots Q nL h is2 mls2 mst2 h2) : W p l e R s m args below meth c H locs cells slots Q (F0 m pc ls st) := by
  obtain ⟨hx, hb, hml, hown, hts, hA, hS0, hini, hinj, hG, hRf, hRl⟩ := C
  unfold okI at ho
  obtain ⟨hd, rfl⟩ := s1_ok ho
  unfold mStep at hs
  dsimp only at hs
  split at hs
  · split at hs
    · rename_i hc
      split at hs
      · rename_i hq
        cases hs
        exact sn_lald hx hb hF hc hq.1 hq.2 hd (fun st hF2 => kk _ _ _ _ _ _ _ (Or.inl ⟨rfl, rfl⟩) hF2 rfl rfl)
      · cases hs
    · cases hs
  · cases hs
theorem isRT_ok {ty : FieldType} (h : isRT ty = true) : (∃ C, ty = .object C) ∨ ∃ z, ty = .array z := by
  cases ty <;> first | exact Or.inl ⟨_, rfl⟩ | exact Or.inr ⟨_, rfl⟩ | cases h
theorem nx_aaload (C : Cx sad G A p R s m args meth c o ini cc nL)  (hs : mStep G B (.aaload, ar, v) is mls mst h = some (.inl (is2, mls2, mst2, h2))) (ho : okI o ini ret cc P pc (.aaload, ar, v) = some q) (hF : Fr D clsT A sad ws0 s nL H locs mls mst h ls st) (hr1 : cells + h2.2.2.1 ≤ R.cells + h.2.2.1) (hr2 : slots + h2.2.2.2 ≤ R.slots + h.2.2.2) (kk : Nxt D A sad ws0 B P is q p l e R s m args below meth c cells slots Q nL h is2 mls2 mst2 h2) : W p l e R s m args below meth c H locs cells slots Q (F0 m pc ls st) := by
  obtain ⟨hx, hb, hml, hown, hts, hA, hS0, hini, hinj, hG, hRf, hRl⟩ := C
  unfold okI at ho
  obtain ⟨hd, rfl⟩ := s1_ok ho
  unfold mStep at hs
  dsimp only at hs
  split at hs
  · split at hs
    · rename_i w hn
      cases hs
      unfold rdQ at hn
      split at hn
      · split at hn
        · rename_i hc
          split at hn
          · rename_i hq
            cases hn
            exact sn_aald hx hb (isRT_ok hq.2.2) hF hc hq.1 hq.2.1 hd (fun st hF2 => kk _ _ _ _ _ _ _ (Or.inl ⟨rfl, rfl⟩) hF2 rfl rfl)
          · cases hn
        · cases hn
      · split at hn
        · rename_i hc
          split at hn
          · rename_i hq
            cases hn
            obtain ⟨-, g2, -⟩ := hS0
            obtain ⟨i1, fv, i2, i3⟩ := g2 _ _ _ _ hc
            exact sn_tq hx hb i1 i2 i3 hF hq.1 hq.2 hd (fun st hF2 => kk _ _ _ _ _ _ _ (Or.inl ⟨rfl, rfl⟩) hF2 rfl rfl)
          · cases hn
        · cases hn
      · cases hn
    · cases hs
  · cases hs
theorem nx_iastore (C : Cx sad G A p R s m args meth c o ini cc nL)  (hs : mStep G B (.iastore, ar, v) is mls mst h = some (.inl (is2, mls2, mst2, h2))) (ho : okI o ini ret cc P pc (.iastore, ar, v) = some q) (hF : Fr D clsT A sad ws0 s nL H locs mls mst h ls st) (hr1 : cells + h2.2.2.1 ≤ R.cells + h.2.2.1) (hr2 : slots + h2.2.2.2 ≤ R.slots + h.2.2.2) (kk : Nxt D A sad ws0 B P is q p l e R s m args below meth c cells slots Q nL h is2 mls2 mst2 h2) : W p l e R s m args below meth c H locs cells slots Q (F0 m pc ls st) := by
  obtain ⟨hx, hb, hml, hown, hts, hA, hS0, hini, hinj, hG, hRf, hRl⟩ := C
  unfold okI at ho
  obtain ⟨hd, rfl⟩ := s1_ok ho
  unfold mStep at hs
  dsimp only at hs
  split at hs
  · split at hs
    · rename_i hc
      split at hs
      · rename_i hq
        cases hs
        exact sn_iast hx hb hF hc hq.1 hq.2 hd (fun H locs st hF2 => kk _ _ _ _ _ _ _ (Or.inl ⟨rfl, rfl⟩) hF2 rfl rfl)
      · cases hs
    · cases hs
  · cases hs
theorem nx_lastore (C : Cx sad G A p R s m args meth c o ini cc nL)  (hs : mStep G B (.lastore, ar, v) is mls mst h = some (.inl (is2, mls2, mst2, h2))) (ho : okI o ini ret cc P pc (.lastore, ar, v) = some q) (hF : Fr D clsT A sad ws0 s nL H locs mls mst h ls st) (hr1 : cells + h2.2.2.1 ≤ R.cells + h.2.2.1) (hr2 : slots + h2.2.2.2 ≤ R.slots + h.2.2.2) (kk : Nxt D A sad ws0 B P is q p l e R s m args below meth c cells slots Q nL h is2 mls2 mst2 h2) : W p l e R s m args below meth c H locs cells slots Q (F0 m pc ls st) := by
  obtain ⟨hx, hb, hml, hown, hts, hA, hS0, hini, hinj, hG, hRf, hRl⟩ := C
  unfold okI at ho
  obtain ⟨hd, rfl⟩ := s1_ok ho
  unfold mStep at hs
  dsimp only at hs
  split at hs
  · split at hs
    · rename_i hc
      split at hs
      · rename_i hq
        cases hs
        exact sn_last hx hb hF hc hq.1 hq.2 hd (fun H locs st hF2 => kk _ _ _ _ _ _ _ (Or.inl ⟨rfl, rfl⟩) hF2 rfl rfl)
      · cases hs
    · cases hs
  · cases hs
theorem nx_bastore (C : Cx sad G A p R s m args meth c o ini cc nL)  (hs : mStep G B (.bastore, ar, v) is mls mst h = some (.inl (is2, mls2, mst2, h2))) (ho : okI o ini ret cc P pc (.bastore, ar, v) = some q) (hF : Fr D clsT A sad ws0 s nL H locs mls mst h ls st) (hr1 : cells + h2.2.2.1 ≤ R.cells + h.2.2.1) (hr2 : slots + h2.2.2.2 ≤ R.slots + h.2.2.2) (kk : Nxt D A sad ws0 B P is q p l e R s m args below meth c cells slots Q nL h is2 mls2 mst2 h2) : W p l e R s m args below meth c H locs cells slots Q (F0 m pc ls st) := by
  obtain ⟨hx, hb, hml, hown, hts, hA, hS0, hini, hinj, hG, hRf, hRl⟩ := C
  unfold okI at ho
  obtain ⟨hd, rfl⟩ := s1_ok ho
  unfold mStep at hs
  dsimp only at hs
  split at hs
  · split at hs
    · rename_i hc
      split at hs
      · rename_i hq
        cases hs
        exact sn_bast hx hb hF hc hq.1 hq.2.1 hq.2.2.1 hq.2.2.2 hd (fun H locs st hF2 => kk _ _ _ _ _ _ _ (Or.inl ⟨rfl, rfl⟩) hF2 rfl rfl)
      · cases hs
    · rename_i hc
      split at hs
      · rename_i hq
        cases hs
        exact sn_zast hx hb hF hc hq.1 hq.2.1 hq.2.2.1 hq.2.2.2 hd (fun H locs st hF2 => kk _ _ _ _ _ _ _ (Or.inl ⟨rfl, rfl⟩) hF2 rfl rfl)
      · cases hs
    · cases hs
  · cases hs
theorem nx_aastore (C : Cx sad G A p R s m args meth c o ini cc nL)  (hs : mStep G B (.aastore, ar, v) is mls mst h = some (.inl (is2, mls2, mst2, h2))) (ho : okI o ini ret cc P pc (.aastore, ar, v) = some q) (hF : Fr D clsT A sad ws0 s nL H locs mls mst h ls st) (hr1 : cells + h2.2.2.1 ≤ R.cells + h.2.2.1) (hr2 : slots + h2.2.2.2 ≤ R.slots + h.2.2.2) (kk : Nxt D A sad ws0 B P is q p l e R s m args below meth c cells slots Q nL h is2 mls2 mst2 h2) : W p l e R s m args below meth c H locs cells slots Q (F0 m pc ls st) := by
  obtain ⟨hx, hb, hml, hown, hts, hA, hS0, hini, hinj, hG, hRf, hRl⟩ := C
  unfold okI at ho
  obtain ⟨hd, rfl⟩ := s1_ok ho
  unfold mStep at hs
  dsimp only at hs
  split at hs
  · split at hs
    · rename_i hc
      split at hs
      · rename_i hq
        obtain ⟨q1, q2, rfl, q3⟩ := hq
        cases hs
        obtain ⟨-, -, -, -, g5, -⟩ := hS0
        exact sn_aast hx hb (g5 _ q3) (by omega) (fun a b h1 h2 => vb_asgS a b h1 h2) hF hc q1 q2 hd (fun H locs st hF2 => kk _ _ _ _ _ _ _ (Or.inl ⟨rfl, rfl⟩) hF2 rfl rfl)
      · cases hs
    · cases hs
  · split at hs
    · rename_i hc
      split at hs
      · rename_i hq
        obtain ⟨q1, q2, q3⟩ := hq
        cases hs
        obtain ⟨-, -, -, -, -, -, -, -, -, -, -, -, -, -, g15, -, -, -, -, g20⟩ := hS0
        unfold okQ at q3
        split at q3
        · rename_i t k g hv
          simp only [Bool.or_eq_true, Bool.and_eq_true, decide_eq_true_eq] at q3
          rcases q3 with ⟨rfl, rfl | rfl⟩ | ⟨rfl, rfl⟩
          · exact sn_aastA hx hb (Or.inl rfl) g15 hv hF hc q1 q2 hd (fun H locs st hF2 => kk _ _ _ _ _ _ _ (Or.inl ⟨rfl, rfl⟩) hF2 rfl rfl)
          · exact sn_aastO hx hb g20.2.2.2.2.1 (by rw [hv]; rfl) hF hc q1 q2 hd (fun H locs st hF2 => kk _ _ _ _ _ _ _ (Or.inl ⟨rfl, rfl⟩) hF2 rfl rfl)
          · exact sn_aastA hx hb (Or.inr rfl) g20.2.1 hv hF hc q1 q2 hd (fun H locs st hF2 => kk _ _ _ _ _ _ _ (Or.inl ⟨rfl, rfl⟩) hF2 rfl rfl)
        · cases q3
      · cases hs
    · cases hs
  · split at hs
    · rename_i hc
      split at hs
      · rename_i hq
        obtain ⟨q1, q2, rfl⟩ := hq
        cases hs
        exact sn_aastN hx hb hF hc q1 q2 hd (fun H locs st hF2 => kk _ _ _ _ _ _ _ (Or.inl ⟨rfl, rfl⟩) hF2 rfl rfl)
      · cases hs
    · cases hs
  · cases hs
theorem nx_newarray (C : Cx sad G A p R s m args meth c o ini cc nL) {ty : ArrayType} (hs : mStep G B (.newarray ty, ar, v) is mls mst h = some (.inl (is2, mls2, mst2, h2))) (ho : okI o ini ret cc P pc (.newarray ty, ar, v) = some q) (hF : Fr D clsT A sad ws0 s nL H locs mls mst h ls st) (hr1 : cells + h2.2.2.1 ≤ R.cells + h.2.2.1) (hr2 : slots + h2.2.2.2 ≤ R.slots + h.2.2.2) (kk : Nxt D A sad ws0 B P is q p l e R s m args below meth c cells slots Q nL h is2 mls2 mst2 h2) : W p l e R s m args below meth c H locs cells slots Q (F0 m pc ls st) := by
  obtain ⟨hx, hb, hml, hown, hts, hA, hS0, hini, hinj, hG, hRf, hRl⟩ := C
  unfold okI at ho
  obtain ⟨hd, rfl⟩ := s1_ok ho
  unfold mStep at hs
  dsimp only at hs
  obtain ⟨-, -, -, -, -, -, -, -, -, -, w1, w2, w3, w4⟩ := pr_sp
  split at hs
  · split at hs
    · rename_i hq
      split at hs
      · cases hs
        exact sn_newI hx hb (hts _ w1) hA hF hq.1 hq.2 (by have : cells + (h.2.2.1 + 1) ≤ R.cells + h.2.2.1 := hr1; omega) (by have : slots + (h.2.2.2 + _) ≤ R.slots + h.2.2.2 := hr2; omega) hd (fun H st hF2 => kk _ _ _ _ _ _ _ (Or.inl ⟨rfl, rfl⟩) hF2 (by show cells + (h.2.2.1 + 1) = cells + 1 + h.2.2.1; omega) (by show slots + (h.2.2.2 + _) = slots + _ + h.2.2.2; omega))
      · cases hs
        exact sn_newB hx hb (hts _ w2) hA hF hq.1 hq.2 (by have : cells + (h.2.2.1 + 1) ≤ R.cells + h.2.2.1 := hr1; omega) (by have : slots + (h.2.2.2 + _) ≤ R.slots + h.2.2.2 := hr2; omega) hd (fun H st hF2 => kk _ _ _ _ _ _ _ (Or.inl ⟨rfl, rfl⟩) hF2 (by show cells + (h.2.2.1 + 1) = cells + 1 + h.2.2.1; omega) (by show slots + (h.2.2.2 + _) = slots + _ + h.2.2.2; omega))
      · cases hs
        exact sn_newZ hx hb (hts _ w3) hA hF hq.1 hq.2 (by have : cells + (h.2.2.1 + 1) ≤ R.cells + h.2.2.1 := hr1; omega) (by have : slots + (h.2.2.2 + _) ≤ R.slots + h.2.2.2 := hr2; omega) hd (fun H st hF2 => kk _ _ _ _ _ _ _ (Or.inl ⟨rfl, rfl⟩) hF2 (by show cells + (h.2.2.1 + 1) = cells + 1 + h.2.2.1; omega) (by show slots + (h.2.2.2 + _) = slots + _ + h.2.2.2; omega))
      · cases hs
        exact sn_newL hx hb (hts _ w4) hA hF hq.1 hq.2 (by have : cells + (h.2.2.1 + 1) ≤ R.cells + h.2.2.1 := hr1; omega) (by have : slots + (h.2.2.2 + _) ≤ R.slots + h.2.2.2 := hr2; omega) hd (fun H st hF2 => kk _ _ _ _ _ _ _ (Or.inl ⟨rfl, rfl⟩) hF2 (by show cells + (h.2.2.1 + 1) = cells + 1 + h.2.2.1; omega) (by show slots + (h.2.2.2 + _) = slots + _ + h.2.2.2; omega))
      · cases hs
    · cases hs
  · cases hs
theorem nx_new (C : Cx sad G A p R s m args meth c o ini cc nL) {n : Nat} (hs : mStep G B (.new n, ar, v) is mls mst h = some (.inl (is2, mls2, mst2, h2))) (ho : okI o ini ret cc P pc (.new n, ar, v) = some q) (hF : Fr D clsT A sad ws0 s nL H locs mls mst h ls st) (hr1 : cells + h2.2.2.1 ≤ R.cells + h.2.2.1) (hr2 : slots + h2.2.2.2 ≤ R.slots + h.2.2.2) (kk : Nxt D A sad ws0 B P is q p l e R s m args below meth c cells slots Q nL h is2 mls2 mst2 h2) : W p l e R s m args below meth c H locs cells slots Q (F0 m pc ls st) := by
  obtain ⟨hx, hb, hml, hown, hts, hA, hS0, hini, hinj, hG, hRf, hRl⟩ := C
  unfold okI at ho
  unfold mStep at hs
  dsimp only at hs ho
  split at hs
  · rename_i ci
    cases hs
    try dsimp only at ho
    obtain ⟨g, ho⟩ := gd_ok ho
    obtain ⟨hd, rfl⟩ := s1_ok ho
    simp only [Bool.and_eq_true, decide_eq_true_eq] at g
    obtain ⟨g1, g2⟩ := g
    obtain ⟨w1, n0⟩ := isC_ok g1
    have ecl : clX ci = (uQ ci).1 := by
      unfold clX
      rw [if_neg (by omega), if_neg (by omega), if_neg (by omega), if_neg (by omega), if_neg (by omega), if_neg (by omega), if_neg (by omega), if_neg (by omega), if_neg (by omega)]
    rw [ecl] at w1
    have hci := ci_all ci g2 n0
    unfold ciOK at hci
    simp only [Bool.and_eq_true] at hci
    obtain ⟨c1, c2⟩ := cl_sp g2
    rw [hG] at hr1 hr2 kk
    exact sn_new hx hb hts cls_ok hown (uq_at g2) (hts _ w1) (hts _ (inT_ok hci.1)) (hts _ (inT_ok hci.2)) hA c2 (fun j hj => (c1 j hj).2.2.1) hF (by have : cells + (h.2.2.1 + 1) ≤ R.cells + h.2.2.1 := hr1; omega) (by have : slots + (h.2.2.2 + _) ≤ R.slots + h.2.2.2 := hr2; omega) hd (fun H st hF2 => kk _ _ _ _ _ _ _ (Or.inl ⟨rfl, rfl⟩) hF2 (by show cells + (h.2.2.1 + 1) = cells + 1 + h.2.2.1; omega) (by show slots + (h.2.2.2 + _) = slots + _ + h.2.2.2; omega))
  · cases hs
theorem nq_cases (ar : List Nat) : (nqT ar = .array .int ∧ nqC ar = 104) ∨ (nqT ar = tOb ∧ nqC ar = 105) ∨ (nqT ar = .array .boolean ∧ nqC ar = 106) ∨ (nqT ar = .object "TavernRumours$Kind" ∧ nqC ar = 99) :=
  match ar with
  | [] => Or.inr (Or.inr (Or.inr ⟨rfl, rfl⟩))
  | [0] => Or.inr (Or.inr (Or.inr ⟨rfl, rfl⟩))
  | [1] => Or.inl ⟨rfl, rfl⟩
  | [2] => Or.inr (Or.inl ⟨rfl, rfl⟩)
  | [3] => Or.inr (Or.inr (Or.inl ⟨rfl, rfl⟩))
  | [_ + 4] => Or.inr (Or.inr (Or.inr ⟨rfl, rfl⟩))
  | a :: b :: t => Or.inr (Or.inr (Or.inr ⟨by unfold nqT; split <;> simp_all, by unfold nqC; split <;> simp_all⟩))
theorem nx_anewarray (C : Cx sad G A p R s m args meth c o ini cc nL) {n : Nat} (hs : mStep G B (.anewarray n, ar, v) is mls mst h = some (.inl (is2, mls2, mst2, h2))) (ho : okI o ini ret cc P pc (.anewarray n, ar, v) = some q) (hF : Fr D clsT A sad ws0 s nL H locs mls mst h ls st) (hr1 : cells + h2.2.2.1 ≤ R.cells + h.2.2.1) (hr2 : slots + h2.2.2.2 ≤ R.slots + h.2.2.2) (kk : Nxt D A sad ws0 B P is q p l e R s m args below meth c cells slots Q nL h is2 mls2 mst2 h2) : W p l e R s m args below meth c H locs cells slots Q (F0 m pc ls st) := by
  obtain ⟨hx, hb, hml, hown, hts, hA, hS0, hini, hinj, hG, hRf, hRl⟩ := C
  unfold okI at ho
  unfold mStep at hs
  dsimp only at hs ho
  split at hs
  · split at hs
    · rename_i hq
      cases hs
      obtain ⟨g, ho⟩ := gd_ok ho
      obtain ⟨hd, rfl⟩ := s1_ok ho
      obtain ⟨w1, -⟩ := isC_ok g
      obtain ⟨-, -, -, -, -, -, -, -, -, -, -, -, -, g14, g15, -, -, -, -, g20⟩ := hS0
      rcases nq_cases ar with ⟨e1, e2⟩ | ⟨e1, e2⟩ | ⟨e1, e2⟩ | ⟨e1, e2⟩
      · rw [e2] at w1
        rw [e1] at hr1 hr2 kk
        exact sn_newQA hx hb hown (t := .int) (hts _ w1) g15 hA hF hq.1 hq.2 (by have : cells + (h.2.2.1 + 1) ≤ R.cells + h.2.2.1 := hr1; omega) (by have : slots + (h.2.2.2 + _) ≤ R.slots + h.2.2.2 := hr2; omega) hd (fun H st hF2 => kk _ _ _ _ _ _ _ (Or.inl ⟨rfl, rfl⟩) hF2 (by show cells + (h.2.2.1 + 1) = cells + 1 + h.2.2.1; omega) (by show slots + (h.2.2.2 + _) = slots + _ + h.2.2.2; omega))
      · rw [e2] at w1
        rw [e1] at hr1 hr2 kk
        exact sn_newQ hx hb hown (hts _ w1) g20.1 hA hF hq.1 hq.2 (by have : cells + (h.2.2.1 + 1) ≤ R.cells + h.2.2.1 := hr1; omega) (by have : slots + (h.2.2.2 + _) ≤ R.slots + h.2.2.2 := hr2; omega) hd (fun H st hF2 => kk _ _ _ _ _ _ _ (Or.inl ⟨rfl, rfl⟩) hF2 (by show cells + (h.2.2.1 + 1) = cells + 1 + h.2.2.1; omega) (by show slots + (h.2.2.2 + _) = slots + _ + h.2.2.2; omega))
      · rw [e2] at w1
        rw [e1] at hr1 hr2 kk
        exact sn_newQA hx hb hown (t := .boolean) (hts _ w1) g20.2.1 hA hF hq.1 hq.2 (by have : cells + (h.2.2.1 + 1) ≤ R.cells + h.2.2.1 := hr1; omega) (by have : slots + (h.2.2.2 + _) ≤ R.slots + h.2.2.2 := hr2; omega) hd (fun H st hF2 => kk _ _ _ _ _ _ _ (Or.inl ⟨rfl, rfl⟩) hF2 (by show cells + (h.2.2.1 + 1) = cells + 1 + h.2.2.1; omega) (by show slots + (h.2.2.2 + _) = slots + _ + h.2.2.2; omega))
      · rw [e2] at w1
        rw [e1] at hr1 hr2 kk
        exact sn_newQ hx hb hown (hts _ w1) g14 hA hF hq.1 hq.2 (by have : cells + (h.2.2.1 + 1) ≤ R.cells + h.2.2.1 := hr1; omega) (by have : slots + (h.2.2.2 + _) ≤ R.slots + h.2.2.2 := hr2; omega) hd (fun H st hF2 => kk _ _ _ _ _ _ _ (Or.inl ⟨rfl, rfl⟩) hF2 (by show cells + (h.2.2.1 + 1) = cells + 1 + h.2.2.1; omega) (by show slots + (h.2.2.2 + _) = slots + _ + h.2.2.2; omega))
    · cases hs
  · cases hs
theorem nx_mna (C : Cx sad G A p R s m args meth c o ini cc nL) {n d : Nat} (hs : mStep G B (.multianewarray n d, ar, v) is mls mst h = some (.inl (is2, mls2, mst2, h2))) (ho : okI o ini ret cc P pc (.multianewarray n d, ar, v) = some q) (hF : Fr D clsT A sad ws0 s nL H locs mls mst h ls st) (hr1 : cells + h2.2.2.1 ≤ R.cells + h.2.2.1) (hr2 : slots + h2.2.2.2 ≤ R.slots + h.2.2.2) (kk : Nxt D A sad ws0 B P is q p l e R s m args below meth c cells slots Q nL h is2 mls2 mst2 h2) : W p l e R s m args below meth c H locs cells slots Q (F0 m pc ls st) := by
  obtain ⟨hx, hb, hml, hown, hts, hA, hS0, hini, hinj, hG, hRf, hRl⟩ := C
  obtain ⟨-, -, -, -, -, -, -, -, -, -, w1, w2, w3, w4⟩ := pr_sp
  obtain ⟨-, -, -, -, -, -, -, -, -, -, -, -, -, -, g15, g16, -, -, -, g20⟩ := hS0
  by_cases hd2 : d = 2
  · subst hd2
    unfold okI at ho
    unfold mStep at hs
    dsimp only at hs ho
    split at hs
    · rename_i t k n0 r
      split at hs
      · rename_i hq
        cases hs
        try dsimp only at ho
        obtain ⟨g, ho⟩ := gd_ok ho
        obtain ⟨hd, rfl⟩ := s1_ok ho
        simp only [Bool.and_eq_true, Bool.or_eq_true, beq_iff_eq] at g
        obtain ⟨c1, -⟩ := isC_ok g.1
        have hr1' : cells + (h.2.2.1 + 1 + n0.toNat) ≤ R.cells + h.2.2.1 := hr1
        have hr2' : slots + (h.2.2.2 + n0.toNat + n0.toNat * k.toNat) ≤ R.slots + h.2.2.2 := hr2
        rcases g.2 with (rfl | rfl) | rfl
        · exact sn_mna (t := 0) (ty := .int) (Or.inl ⟨rfl, rfl⟩) hx hb hown (hts _ c1) g15 (hts _ w1) hA hF hq.1 hq.2.1 hq.2.2.1 hq.2.2.2 (by omega) (by omega) hd (fun H st hF2 => kk _ _ _ _ _ _ _ (Or.inl ⟨rfl, rfl⟩) hF2 (by show cells + (h.2.2.1 + 1 + _) = cells + 1 + _ + h.2.2.1; omega) (by show slots + (h.2.2.2 + _ + _) = slots + _ + _ + h.2.2.2; omega))
        · exact sn_mna (t := 1) (ty := .long) (Or.inr (Or.inl ⟨rfl, rfl⟩)) hx hb hown (hts _ c1) g16 (hts _ w4) hA hF hq.1 hq.2.1 hq.2.2.1 hq.2.2.2 (by omega) (by omega) hd (fun H st hF2 => kk _ _ _ _ _ _ _ (Or.inl ⟨rfl, rfl⟩) hF2 (by show cells + (h.2.2.1 + 1 + _) = cells + 1 + _ + h.2.2.1; omega) (by show slots + (h.2.2.2 + _ + _) = slots + _ + _ + h.2.2.2; omega))
        · exact sn_mna (t := 3) (ty := .boolean) (Or.inr (Or.inr ⟨rfl, rfl⟩)) hx hb hown (hts _ c1) g20.2.1 (hts _ w3) hA hF hq.1 hq.2.1 hq.2.2.1 hq.2.2.2 (by omega) (by omega) hd (fun H st hF2 => kk _ _ _ _ _ _ _ (Or.inl ⟨rfl, rfl⟩) hF2 (by show cells + (h.2.2.1 + 1 + _) = cells + 1 + _ + h.2.2.1; omega) (by show slots + (h.2.2.2 + _ + _) = slots + _ + _ + h.2.2.2; omega))
      · cases hs
    · cases hs
  · unfold okI at ho
    split at ho <;> simp_all
theorem nx_tsw (C : Cx sad G A p R s m args meth c o ini cc nL) {d lo hi : Int} {offs : Array Int} (hs : mStep G B (.tableswitch d lo hi offs, ar, v) is mls mst h = some (.inl (is2, mls2, mst2, h2))) (ho : okI o ini ret cc P pc (.tableswitch d lo hi offs, ar, v) = some q) (hF : Fr D clsT A sad ws0 s nL H locs mls mst h ls st) (hr1 : cells + h2.2.2.1 ≤ R.cells + h.2.2.1) (hr2 : slots + h2.2.2.2 ≤ R.slots + h.2.2.2) (kk : Nxt D A sad ws0 B P is q p l e R s m args below meth c cells slots Q nL h is2 mls2 mst2 h2) : W p l e R s m args below meth c H locs cells slots Q (F0 m pc ls st) := by
  obtain ⟨hx, hb, hml, hown, hts, hA, hS0, hini, hinj, hG, hRf, hRl⟩ := C
  unfold okI at ho
  unfold mStep at hs
  dsimp only at hs ho
  split at hs
  · rename_i d0 ks x r
    cases hs
    split at ho
    · rename_i k1 ks1 r1 n1 he hdc
      cases he
      obtain ⟨g, ho⟩ := gd_ok ho
      cases ho
      simp only [Bool.and_eq_true, decide_eq_true_eq] at g
      obtain ⟨⟨⟨rfl, g2⟩, g3⟩, g4⟩ := g
      obtain ⟨off, e1, e2⟩ := sw_at g2 g3 g4 (x := x)
      exact sn_tsw hx hb hF hdc e1 e2 (fun st hF2 => kk _ _ _ _ _ _ _ (Or.inr ⟨_, rfl, rfl⟩) hF2 rfl rfl)
    · cases ho
  · cases hs
theorem nx_lsw (C : Cx sad G A p R s m args meth c o ini cc nL) {d : Int} {ps : Array (Int × Int)} (hs : mStep G B (.lookupswitch d ps, ar, v) is mls mst h = some (.inl (is2, mls2, mst2, h2))) (ho : okI o ini ret cc P pc (.lookupswitch d ps, ar, v) = some q) (hF : Fr D clsT A sad ws0 s nL H locs mls mst h ls st) (hr1 : cells + h2.2.2.1 ≤ R.cells + h.2.2.1) (hr2 : slots + h2.2.2.2 ≤ R.slots + h.2.2.2) (kk : Nxt D A sad ws0 B P is q p l e R s m args below meth c cells slots Q nL h is2 mls2 mst2 h2) : W p l e R s m args below meth c H locs cells slots Q (F0 m pc ls st) := by
  obtain ⟨hx, hb, hml, hown, hts, hA, hS0, hini, hinj, hG, hRf, hRl⟩ := C
  unfold okI at ho
  unfold mStep at hs
  dsimp only at hs ho
  split at hs
  · rename_i d0 ks x r
    cases hs
    split at ho
    · rename_i k1 ks1 r1 n1 he hdc
      cases he
      obtain ⟨g, ho⟩ := gd_ok ho
      cases ho
      simp only [Bool.and_eq_true, decide_eq_true_eq] at g
      obtain ⟨⟨⟨rfl, g2⟩, g3⟩, g4⟩ := g
      exact sn_lsw hx hb hF hdc g4 rfl (lk_at g2 g3) (fun st hF2 => kk _ _ _ _ _ _ _ (Or.inr ⟨_, rfl, rfl⟩) hF2 rfl rfl)
    · cases ho
  · cases hs
theorem mS_d0 {G : MG} {B : Nat → List MI} {ar : List Nat} {v : Int} {is : List MI} {ls st : List MV} {h : MH} : mStep G B (.invokedynamic 0, ar, v) is ls st h = (match st with
    | .inl n :: .inl dp :: .inr (.inr (.inr (.inl b))) :: .inl sp :: .inr (.inr (.inr (.inl a))) :: r => match mCopy G h a sp b dp n with
        | some g => if hgt r ≤ 8 then nx is ls r g else none
        | none => none
    | .inl n :: .inl dp :: .inr (.inr (.inr (.inl b))) :: .inl sp :: .inr (.inr (.inr (.inr (.inl a)))) :: r => match mCopyS G h a sp b dp n with
        | some g => if hgt r ≤ 8 then nx is ls r g else none
        | none => none
    | _ => none) := rfl
theorem mS_d1 {G : MG} {B : Nat → List MI} {ar : List Nat} {v : Int} {is : List MI} {ls st : List MV} {h : MH} : mStep G B (.invokedynamic 1, ar, v) is ls st h = (match st with
    | .inl y :: .inl x :: r => if hgt r ≤ 8 then nx is ls (qI (max x y) :: r) h else none
    | _ => none) := rfl
theorem mS_d2 {G : MG} {B : Nat → List MI} {ar : List Nat} {v : Int} {is : List MI} {ls st : List MV} {h : MH} : mStep G B (.invokedynamic 2, ar, v) is ls st h = (match st with
    | .inl y :: .inl x :: r => if hgt r ≤ 8 then nx is ls (qI (min x y) :: r) h else none
    | _ => none) := rfl
theorem mS_d3 {G : MG} {B : Nat → List MI} {ar : List Nat} {v : Int} {is : List MI} {ls st : List MV} {h : MH} : mStep G B (.invokedynamic 3, ar, v) is ls st h = (match ar with
    | e :: _ => if hgt st ≤ 8 then some (.inr (.inr (.inr e))) else none
    | _ => none) := rfl
theorem mS_d4 {G : MG} {B : Nat → List MI} {ar : List Nat} {v : Int} {is : List MI} {ls st : List MV} {h : MH} : mStep G B (.invokedynamic 4, ar, v) is ls st h = (match ar with
    | [k] => nx (B k) ls st h
    | _ => none) := rfl
theorem mS_d5 {G : MG} {B : Nat → List MI} {ar : List Nat} {v : Int} {is : List MI} {ls st : List MV} {h : MH} : mStep G B (.invokedynamic 5, ar, v) is ls st h = (match st with
    | .inr (.inr (.inr (.inl _))) :: r => if hgt r ≤ 8 then nx is ls r h else none
    | _ => none) := rfl
theorem oI_d0 {o : Nat} {ini : Bool} {ret : Option FieldType} {cc : ByteArray} {P : Nat → Nat} {pc : Nat} {ar : List Nat} {v : Int} : okI o ini ret cc P pc (.invokedynamic 0, ar, v) = (match ar with
    | [idx] => gd (isP o idx 0) (s1 cc pc (.invokestatic idx) 3)
    | _ => none) := rfl
theorem oI_d1 {o : Nat} {ini : Bool} {ret : Option FieldType} {cc : ByteArray} {P : Nat → Nat} {pc : Nat} {ar : List Nat} {v : Int} : okI o ini ret cc P pc (.invokedynamic 1, ar, v) = (match ar with
    | [idx] => gd (isP o idx 1) (s1 cc pc (.invokestatic idx) 3)
    | _ => none) := rfl
theorem oI_d2 {o : Nat} {ini : Bool} {ret : Option FieldType} {cc : ByteArray} {P : Nat → Nat} {pc : Nat} {ar : List Nat} {v : Int} : okI o ini ret cc P pc (.invokedynamic 2, ar, v) = (match ar with
    | [idx] => gd (isP o idx 2) (s1 cc pc (.invokestatic idx) 3)
    | _ => none) := rfl
theorem oI_d3 {o : Nat} {ini : Bool} {ret : Option FieldType} {cc : ByteArray} {P : Nat → Nat} {pc : Nat} {ar : List Nat} {v : Int} : okI o ini ret cc P pc (.invokedynamic 3, ar, v) = (match ar with
    | [e, ik, is, ic, w] => gd ((LXc o).any (fun x => x.1 == ik && x.2.1 == is && x.2.2.1 == ic && x.2.2.2.1 == e && x.2.2.2.2.1 == w) && dc cc pc (.new ik) 3 && dc cc (pc + 3) .dup 1 && (if w = 0 then (dc cc (pc + 4) (.ldc is) 2 && dc cc (pc + 6) (.invokespecial ic) 3 && dc cc (pc + 9) .athrow 1) else (dc cc (pc + 4) (.ldc_w is) 3 && dc cc (pc + 7) (.invokespecial ic) 3 && dc cc (pc + 10) .athrow 1))) (some pc)
    | _ => none) := rfl
theorem oI_d4 {o : Nat} {ini : Bool} {ret : Option FieldType} {cc : ByteArray} {P : Nat → Nat} {pc : Nat} {ar : List Nat} {v : Int} : okI o ini ret cc P pc (.invokedynamic 4, ar, v) = (match ar with
    | [k] => gd (decide (pc = P k)) (some pc)
    | _ => none) := rfl
theorem oI_d5 {o : Nat} {ini : Bool} {ret : Option FieldType} {cc : ByteArray} {P : Nat → Nat} {pc : Nat} {ar : List Nat} {v : Int} : okI o ini ret cc P pc (.invokedynamic 5, ar, v) = (match ar with
    | [idx] => gd (isP o idx 5) (s1 cc pc (.invokespecial idx) 3)
    | _ => none) := rfl
theorem nx_copy (C : Cx sad G A p R s m args meth c o ini cc nL)  (hs : mStep G B (.invokedynamic 0, ar, v) is mls mst h = some (.inl (is2, mls2, mst2, h2))) (ho : okI o ini ret cc P pc (.invokedynamic 0, ar, v) = some q) (hF : Fr D clsT A sad ws0 s nL H locs mls mst h ls st) (hr1 : cells + h2.2.2.1 ≤ R.cells + h.2.2.1) (hr2 : slots + h2.2.2.2 ≤ R.slots + h.2.2.2) (kk : Nxt D A sad ws0 B P is q p l e R s m args below meth c cells slots Q nL h is2 mls2 mst2 h2) : W p l e R s m args below meth c H locs cells slots Q (F0 m pc ls st) := by
  obtain ⟨hx, hb, hml, hown, hts, hA, hS0, hini, hinj, hG, hRf, hRl⟩ := C
  rw [mS_d0] at hs
  rw [oI_d0] at ho
  split at hs
  · rename_i n dp b sp a r
    split at ho
    · obtain ⟨g, ho⟩ := gd_ok ho
      obtain ⟨hd, rfl⟩ := s1_ok ho
      have hlk := isP_ok g
      obtain ⟨p1, p2, p3, -⟩ := pr_sp
      split at hs
      · rename_i g9 hg9
        split at hs
        · rename_i hgt
          cases hs
          unfold mCopy at hg9
          split at hg9
          · rename_i hca hcb
            split at hg9
            · rename_i hq
              obtain ⟨rfl, rfl, q3, q4, q5, q6, q7, q8⟩ := hq
              cases hg9
              exact sn_copy hx hb hml hown (hts _ hlk) (hts _ p1) (hts _ p2) (hts _ p3) hF hca hcb q3 q4 q5 q6 q7 q8 hgt hRf hRl hd (fun H locs st hF2 => kk _ _ _ _ _ _ _ (Or.inl ⟨rfl, rfl⟩) hF2 rfl rfl)
            · split at hg9
              · rename_i hq
                obtain ⟨rfl, rfl, q3, q4, q5, q6, q7, q8, q9⟩ := hq
                cases hg9
                exact sn_copyB hx hb hml hown (hts _ hlk) (hts _ p1) (hts _ p2) (hts _ p3) hF hca hcb (fun i hi => of_decide_eq_true (List.all_eq_true.mp q9 i (List.mem_range.mpr hi))) q3 q4 q5 q6 q7 q8 hgt hRf hRl hd (fun H locs st hF2 => kk _ _ _ _ _ _ _ (Or.inl ⟨rfl, rfl⟩) hF2 rfl rfl)
              · split at hg9
                · rename_i hq
                  obtain ⟨rfl, rfl, q3, q4, q5, q6, q7, q8, q9⟩ := hq
                  cases hg9
                  exact sn_copyY hx hb hml hown (hts _ hlk) (hts _ p1) (hts _ p2) (hts _ p3) hF hca hcb (fun i hi => of_decide_eq_true (List.all_eq_true.mp q9 i (List.mem_range.mpr hi))) q4 q5 q6 q7 q8 hgt hRf hRl hd (fun H locs st hF2 => kk _ _ _ _ _ _ _ (Or.inl ⟨rfl, rfl⟩) hF2 rfl rfl)
                · cases hg9
          · rename_i hca hcb
            split at hg9
            · rename_i hq
              obtain ⟨rfl, rfl, q4, q5, q6, q7, q8, q9⟩ := hq
              cases hg9
              obtain ⟨-, -, -, -, -, -, -, -, -, -, -, -, -, -, -, -, -, -, -, g20⟩ := hS0
              exact sn_copyQ hx hb hml hown (hts _ hlk) (hts _ p1) (hts _ p2) (hts _ p3) g20.2.2.2.2.1 hF hca hcb (fun i hi => List.all_eq_true.mp q9 i (List.mem_range.mpr hi)) q4 q5 q6 q7 q8 hgt hRf hRl hd (fun H locs st hF2 => kk _ _ _ _ _ _ _ (Or.inl ⟨rfl, rfl⟩) hF2 rfl rfl)
            · cases hg9
          · cases hg9
        · cases hs
      · cases hs
    · cases ho
  · rename_i n dp b sp a r
    split at ho
    · obtain ⟨g, ho⟩ := gd_ok ho
      obtain ⟨hd, rfl⟩ := s1_ok ho
      have hlk := isP_ok g
      obtain ⟨p1, p2, p3, -⟩ := pr_sp
      split at hs
      · rename_i g9 hg9
        split at hs
        · rename_i hgt
          cases hs
          unfold mCopyS at hg9
          split at hg9
          · rename_i hca hcb
            split at hg9
            · rename_i hq
              obtain ⟨rfl, rfl, q4, q5, q6, q7, q8, q9⟩ := hq
              cases hg9
              obtain ⟨-, g2, -⟩ := hS0
              obtain ⟨i1, fv, i2, i3⟩ := g2 _ _ _ _ hca
              exact sn_copyS hx hb hml hown (hts _ hlk) (hts _ p1) (hts _ p2) (hts _ p3) i1 i2 i3 (fun i hi => List.all_eq_true.mp q9 i (List.mem_range.mpr hi)) hF hcb q4 q5 q6 q7 q8 hgt hRf hRl hd (fun H locs st hF2 => kk _ _ _ _ _ _ _ (Or.inl ⟨rfl, rfl⟩) hF2 rfl rfl)
            · cases hg9
          · cases hg9
        · cases hs
      · cases hs
    · cases ho
  · cases hs
theorem nx_max (C : Cx sad G A p R s m args meth c o ini cc nL)  (hs : mStep G B (.invokedynamic 1, ar, v) is mls mst h = some (.inl (is2, mls2, mst2, h2))) (ho : okI o ini ret cc P pc (.invokedynamic 1, ar, v) = some q) (hF : Fr D clsT A sad ws0 s nL H locs mls mst h ls st) (hr1 : cells + h2.2.2.1 ≤ R.cells + h.2.2.1) (hr2 : slots + h2.2.2.2 ≤ R.slots + h.2.2.2) (kk : Nxt D A sad ws0 B P is q p l e R s m args below meth c cells slots Q nL h is2 mls2 mst2 h2) : W p l e R s m args below meth c H locs cells slots Q (F0 m pc ls st) := by
  obtain ⟨hx, hb, hml, hown, hts, hA, hS0, hini, hinj, hG, hRf, hRl⟩ := C
  rw [mS_d1] at hs
  rw [oI_d1] at ho
  split at hs
  · rename_i y x r
    split at ho
    · obtain ⟨g, ho⟩ := gd_ok ho
      obtain ⟨hd, rfl⟩ := s1_ok ho
      have hlk := isP_ok g
      obtain ⟨-, -, -, p1, p2, p3, -⟩ := pr_sp
      split at hs
      · rename_i hgt
        cases hs
        exact sn_max hx hb hml hown (hts _ hlk) (hts _ p2) (hts _ p1) (hts _ p3) hRf hRl (by omega) (by omega) hF hgt hd (fun st hF2 => kk _ _ _ _ _ _ _ (Or.inl ⟨rfl, rfl⟩) hF2 rfl rfl)
      · cases hs
    · cases ho
  · cases hs
theorem nx_min (C : Cx sad G A p R s m args meth c o ini cc nL)  (hs : mStep G B (.invokedynamic 2, ar, v) is mls mst h = some (.inl (is2, mls2, mst2, h2))) (ho : okI o ini ret cc P pc (.invokedynamic 2, ar, v) = some q) (hF : Fr D clsT A sad ws0 s nL H locs mls mst h ls st) (hr1 : cells + h2.2.2.1 ≤ R.cells + h.2.2.1) (hr2 : slots + h2.2.2.2 ≤ R.slots + h.2.2.2) (kk : Nxt D A sad ws0 B P is q p l e R s m args below meth c cells slots Q nL h is2 mls2 mst2 h2) : W p l e R s m args below meth c H locs cells slots Q (F0 m pc ls st) := by
  obtain ⟨hx, hb, hml, hown, hts, hA, hS0, hini, hinj, hG, hRf, hRl⟩ := C
  rw [mS_d2] at hs
  rw [oI_d2] at ho
  split at hs
  · rename_i y x r
    split at ho
    · obtain ⟨g, ho⟩ := gd_ok ho
      obtain ⟨hd, rfl⟩ := s1_ok ho
      have hlk := isP_ok g
      obtain ⟨-, -, -, p1, -, -, p2, p3, -⟩ := pr_sp
      split at hs
      · rename_i hgt
        cases hs
        exact sn_min hx hb hml hown (hts _ hlk) (hts _ p2) (hts _ p1) (hts _ p3) hRf hRl (by omega) (by omega) hF hgt hd (fun st hF2 => kk _ _ _ _ _ _ _ (Or.inl ⟨rfl, rfl⟩) hF2 rfl rfl)
      · cases hs
    · cases ho
  · cases hs
theorem nx_fall (C : Cx sad G A p R s m args meth c o ini cc nL)  (hs : mStep G B (.invokedynamic 4, ar, v) is mls mst h = some (.inl (is2, mls2, mst2, h2))) (ho : okI o ini ret cc P pc (.invokedynamic 4, ar, v) = some q) (hF : Fr D clsT A sad ws0 s nL H locs mls mst h ls st) (hr1 : cells + h2.2.2.1 ≤ R.cells + h.2.2.1) (hr2 : slots + h2.2.2.2 ≤ R.slots + h.2.2.2) (kk : Nxt D A sad ws0 B P is q p l e R s m args below meth c cells slots Q nL h is2 mls2 mst2 h2) : W p l e R s m args below meth c H locs cells slots Q (F0 m pc ls st) := by
  obtain ⟨hx, hb, hml, hown, hts, hA, hS0, hini, hinj, hG, hRf, hRl⟩ := C
  rw [mS_d4] at hs
  rw [oI_d4] at ho
  split at hs
  · cases hs
    try dsimp only at ho
    obtain ⟨g, ho⟩ := gd_ok ho
    cases ho
    exact kk _ _ _ _ _ _ _ (Or.inr ⟨_, rfl, of_decide_eq_true g⟩) hF rfl rfl
  · cases hs
theorem nx_oinit (C : Cx sad G A p R s m args meth c o ini cc nL)  (hs : mStep G B (.invokedynamic 5, ar, v) is mls mst h = some (.inl (is2, mls2, mst2, h2))) (ho : okI o ini ret cc P pc (.invokedynamic 5, ar, v) = some q) (hF : Fr D clsT A sad ws0 s nL H locs mls mst h ls st) (hr1 : cells + h2.2.2.1 ≤ R.cells + h.2.2.1) (hr2 : slots + h2.2.2.2 ≤ R.slots + h.2.2.2) (kk : Nxt D A sad ws0 B P is q p l e R s m args below meth c cells slots Q nL h is2 mls2 mst2 h2) : W p l e R s m args below meth c H locs cells slots Q (F0 m pc ls st) := by
  obtain ⟨hx, hb, hml, hown, hts, hA, hS0, hini, hinj, hG, hRf, hRl⟩ := C
  rw [mS_d5] at hs
  rw [oI_d5] at ho
  split at hs
  · split at ho
    · obtain ⟨g, ho⟩ := gd_ok ho
      obtain ⟨hd, rfl⟩ := s1_ok ho
      have hlk := isP_ok g
      obtain ⟨-, -, -, -, -, -, -, -, p1, p2, -⟩ := pr_sp
      split at hs
      · rename_i hgt
        cases hs
        exact sn_oinit hx hb hml hown (hts _ hlk) (hts _ p1) (hts _ p2) hRf hRl hF hgt hd (fun st hF2 => kk _ _ _ _ _ _ _ (Or.inl ⟨rfl, rfl⟩) hF2 rfl rfl)
      · cases hs
    · cases ho
  · cases hs
theorem nx_null (C : Cx sad G A p R s m args meth c o ini cc nL)  (hs : mStep G B (.aconst_null, ar, v) is mls mst h = some (.inl (is2, mls2, mst2, h2))) (ho : okI o ini ret cc P pc (.aconst_null, ar, v) = some q) (hF : Fr D clsT A sad ws0 s nL H locs mls mst h ls st) (hr1 : cells + h2.2.2.1 ≤ R.cells + h.2.2.1) (hr2 : slots + h2.2.2.2 ≤ R.slots + h.2.2.2) (kk : Nxt D A sad ws0 B P is q p l e R s m args below meth c cells slots Q nL h is2 mls2 mst2 h2) : W p l e R s m args below meth c H locs cells slots Q (F0 m pc ls st) := by
  obtain ⟨hx, hb, hml, hown, hts, hA, hS0, hini, hinj, hG, hRf, hRl⟩ := C
  unfold okI at ho
  obtain ⟨hd, rfl⟩ := s1_ok ho
  unfold mStep at hs
  cases hs
  exact sn_null hx hb hF hd (fun st hF2 => kk _ _ _ _ _ _ _ (Or.inl ⟨rfl, rfl⟩) hF2 rfl rfl)
theorem nx_ifnull (C : Cx sad G A p R s m args meth c o ini cc nL) {off : Int} (hs : mStep G B (.ifnull off, ar, v) is mls mst h = some (.inl (is2, mls2, mst2, h2))) (ho : okI o ini ret cc P pc (.ifnull off, ar, v) = some q) (hF : Fr D clsT A sad ws0 s nL H locs mls mst h ls st) (hr1 : cells + h2.2.2.1 ≤ R.cells + h.2.2.1) (hr2 : slots + h2.2.2.2 ≤ R.slots + h.2.2.2) (kk : Nxt D A sad ws0 B P is q p l e R s m args below meth c cells slots Q nL h is2 mls2 mst2 h2) : W p l e R s m args below meth c H locs cells slots Q (F0 m pc ls st) := by
  obtain ⟨hx, hb, hml, hown, hts, hA, hS0, hini, hinj, hG, hRf, hRl⟩ := C
  unfold okI at ho
  unfold mStep at hs
  dsimp only at hs ho
  split at hs
  · dsimp only at ho
    obtain ⟨g, ho⟩ := gd_ok ho
    obtain ⟨hd, rfl⟩ := s1_ok ho
    split at hs
    · rename_i hrf
      refine sn_ifnull hx hb hrf hF hd (of_decide_eq_true g) (fun hc st hF2 => ?_) (fun hc st hF2 => ?_)
      · rw [if_pos hc] at hs
        cases hs
        exact kk _ _ _ _ _ _ _ (Or.inr ⟨_, rfl, rfl⟩) hF2 rfl rfl
      · rw [if_neg hc] at hs
        cases hs
        exact kk _ _ _ _ _ _ _ (Or.inl ⟨rfl, rfl⟩) hF2 rfl rfl
    · cases hs
  · cases hs
theorem nx_ifnonnull (C : Cx sad G A p R s m args meth c o ini cc nL) {off : Int} (hs : mStep G B (.ifnonnull off, ar, v) is mls mst h = some (.inl (is2, mls2, mst2, h2))) (ho : okI o ini ret cc P pc (.ifnonnull off, ar, v) = some q) (hF : Fr D clsT A sad ws0 s nL H locs mls mst h ls st) (hr1 : cells + h2.2.2.1 ≤ R.cells + h.2.2.1) (hr2 : slots + h2.2.2.2 ≤ R.slots + h.2.2.2) (kk : Nxt D A sad ws0 B P is q p l e R s m args below meth c cells slots Q nL h is2 mls2 mst2 h2) : W p l e R s m args below meth c H locs cells slots Q (F0 m pc ls st) := by
  obtain ⟨hx, hb, hml, hown, hts, hA, hS0, hini, hinj, hG, hRf, hRl⟩ := C
  unfold okI at ho
  unfold mStep at hs
  dsimp only at hs ho
  split at hs
  · dsimp only at ho
    obtain ⟨g, ho⟩ := gd_ok ho
    obtain ⟨hd, rfl⟩ := s1_ok ho
    split at hs
    · rename_i hrf
      refine sn_ifnonnull hx hb hrf hF hd (of_decide_eq_true g) (fun hc st hF2 => ?_) (fun hc st hF2 => ?_)
      · rw [if_pos hc] at hs
        cases hs
        exact kk _ _ _ _ _ _ _ (Or.inl ⟨rfl, rfl⟩) hF2 rfl rfl
      · rw [if_neg hc] at hs
        cases hs
        exact kk _ _ _ _ _ _ _ (Or.inr ⟨_, rfl, rfl⟩) hF2 rfl rfl
    · cases hs
  · cases hs
theorem nx_cast (C : Cx sad G A p R s m args meth c o ini cc nL) {n : Nat} (hs : mStep G B (.checkcast n, ar, v) is mls mst h = some (.inl (is2, mls2, mst2, h2))) (ho : okI o ini ret cc P pc (.checkcast n, ar, v) = some q) (hF : Fr D clsT A sad ws0 s nL H locs mls mst h ls st) (hr1 : cells + h2.2.2.1 ≤ R.cells + h.2.2.1) (hr2 : slots + h2.2.2.2 ≤ R.slots + h.2.2.2) (kk : Nxt D A sad ws0 B P is q p l e R s m args below meth c cells slots Q nL h is2 mls2 mst2 h2) : W p l e R s m args below meth c H locs cells slots Q (F0 m pc ls st) := by
  obtain ⟨hx, hb, hml, hown, hts, hA, hS0, hini, hinj, hG, hRf, hRl⟩ := C
  unfold okI at ho
  unfold mStep at hs
  dsimp only at hs ho
  split at hs
  · dsimp only at ho
    obtain ⟨g, ho⟩ := gd_ok ho
    obtain ⟨hd, rfl⟩ := s1_ok ho
    simp only [Bool.and_eq_true, decide_eq_true_eq] at g
    obtain ⟨w1, -⟩ := isC_ok g.1
    split at hs
    · rename_i t a r hck
      cases hs
      unfold ckC at hck
      split at hck
      · rename_i ty k f hc
        simp only [Bool.or_eq_true, Bool.and_eq_true, beq_iff_eq, decide_eq_true_eq] at hck
        rcases hck with ⟨rfl, rfl⟩ | ⟨rfl, rfl⟩
        · exact sn_castA hx hb hown (nm := "[I") (ty := .int) rfl (hts _ w1) hF (Or.inl ⟨_, _, hc⟩) hd (fun st hF2 => kk _ _ _ _ _ _ _ (Or.inl ⟨rfl, rfl⟩) hF2 rfl rfl)
        · exact sn_castA hx hb hown (nm := "[B") (ty := .byte) rfl (hts _ w1) hF (Or.inl ⟨_, _, hc⟩) hd (fun st hF2 => kk _ _ _ _ _ _ _ (Or.inl ⟨rfl, rfl⟩) hF2 rfl rfl)
      · rename_i ty k f hc
        simp only [Bool.and_eq_true, beq_iff_eq, decide_eq_true_eq] at hck
        obtain ⟨rfl, rfl⟩ := hck
        exact sn_castA hx hb hown (nm := "[Ljava/lang/Object;") (ty := tOb) rfl (hts _ w1) hF (Or.inr ⟨_, _, hc⟩) hd (fun st hF2 => kk _ _ _ _ _ _ _ (Or.inl ⟨rfl, rfl⟩) hF2 rfl rfl)
      · cases hck
    · cases hs
  · cases hs
theorem mS_d6 {G : MG} {B : Nat → List MI} {ar : List Nat} {v : Int} {is : List MI} {ls st : List MV} {h : MH} : mStep G B (.invokedynamic 6, ar, v) is ls st h = (match st with
    | .inr (.inr (.inr (.inl a))) :: r => (match h.1 a with
        | .inl (ty, n, f) => if ty = .byte ∧ hgt r ≤ 8 ∧ (List.range n).all (fun i => decide (-128 ≤ f i ∧ f i ≤ 127)) = true then nx is ls (qR h.2.1 :: r) (mnew h (cI .byte n f) n) else none
        | _ => none)
    | _ => none) := rfl
theorem mS_d7 {G : MG} {B : Nat → List MI} {ar : List Nat} {v : Int} {is : List MI} {ls st : List MV} {h : MH} : mStep G B (.invokedynamic 7, ar, v) is ls st h = (match st with
    | .inr (.inr (.inr (.inl a))) :: r => (match h.1 a with
        | .inr (.inr (.inl (ty, _, _))) => if ty = tOb ∧ hgt r ≤ 8 then nx is ls (qS 990 :: r) h else none
        | _ => none)
    | _ => none) := rfl
theorem mS_d8 {G : MG} {B : Nat → List MI} {ar : List Nat} {v : Int} {is : List MI} {ls st : List MV} {h : MH} : mStep G B (.invokedynamic 8, ar, v) is ls st h = nx is ls (qS 990 :: st) h := rfl
theorem oI_d6 {o : Nat} {ini : Bool} {ret : Option FieldType} {cc : ByteArray} {P : Nat → Nat} {pc : Nat} {ar : List Nat} {v : Int} : okI o ini ret cc P pc (.invokedynamic 6, ar, v) = (match ar with
    | [idx] => gd (isP o idx 6) (s1 cc pc (.invokevirtual idx) 3)
    | _ => none) := rfl
theorem oI_d7 {o : Nat} {ini : Bool} {ret : Option FieldType} {cc : ByteArray} {P : Nat → Nat} {pc : Nat} {ar : List Nat} {v : Int} : okI o ini ret cc P pc (.invokedynamic 7, ar, v) = (match ar with
    | [idx] => gd (isP o idx 7) (s1 cc pc (.invokevirtual idx) 3)
    | _ => none) := rfl
theorem oI_d8 {o : Nat} {ini : Bool} {ret : Option FieldType} {cc : ByteArray} {P : Nat → Nat} {pc : Nat} {ar : List Nat} {v : Int} : okI o ini ret cc P pc (.invokedynamic 8, ar, v) = (match ar with
    | [idx] => gd (isC o idx 102) (s1 cc pc (.ldc idx) 2)
    | _ => none) := rfl
theorem nx_clone (C : Cx sad G A p R s m args meth c o ini cc nL)  (hs : mStep G B (.invokedynamic 6, ar, v) is mls mst h = some (.inl (is2, mls2, mst2, h2))) (ho : okI o ini ret cc P pc (.invokedynamic 6, ar, v) = some q) (hF : Fr D clsT A sad ws0 s nL H locs mls mst h ls st) (hr1 : cells + h2.2.2.1 ≤ R.cells + h.2.2.1) (hr2 : slots + h2.2.2.2 ≤ R.slots + h.2.2.2) (kk : Nxt D A sad ws0 B P is q p l e R s m args below meth c cells slots Q nL h is2 mls2 mst2 h2) : W p l e R s m args below meth c H locs cells slots Q (F0 m pc ls st) := by
  obtain ⟨hx, hb, hml, hown, hts, hA, hS0, hini, hinj, hG, hRf, hRl⟩ := C
  rw [mS_d6] at hs
  rw [oI_d6] at ho
  split at hs
  · rename_i a r
    split at hs
    · rename_i ty n f hc
      split at hs
      · rename_i hq
        obtain ⟨rfl, hg, hby⟩ := hq
        cases hs
        split at ho
        · obtain ⟨g, ho⟩ := gd_ok ho
          obtain ⟨hd, rfl⟩ := s1_ok ho
          have hlk := isP_ok g
          obtain ⟨p1, p2, p3, p4, -⟩ := pr_sp2
          obtain ⟨-, -, -, -, -, -, -, -, -, -, -, -, -, -, -, -, -, -, -, g20⟩ := hS0
          have hr1' : cells + (h.2.2.1 + 1) ≤ R.cells + h.2.2.1 := hr1
          have hr2' : slots + (h.2.2.2 + n) ≤ R.slots + h.2.2.2 := hr2
          exact sn_clone hx hb hml hown (hts _ hlk) (hts _ p1) (hts _ p2) (hts _ p3) (hts _ p4) g20.2.2.2.2.2.1 hA hF hc (fun i hi => of_decide_eq_true (List.all_eq_true.mp hby i (List.mem_range.mpr hi))) hg hRf hRl (by omega) (by omega) hd (fun H st hF2 => kk _ _ _ _ _ _ _ (Or.inl ⟨rfl, rfl⟩) hF2 (by show cells + (h.2.2.1 + 1) = cells + 1 + h.2.2.1; omega) (by show slots + (h.2.2.2 + n) = slots + n + h.2.2.2; omega))
        · cases ho
      · cases hs
    · cases hs
  · cases hs
theorem nx_getC (C : Cx sad G A p R s m args meth c o ini cc nL)  (hs : mStep G B (.invokedynamic 7, ar, v) is mls mst h = some (.inl (is2, mls2, mst2, h2))) (ho : okI o ini ret cc P pc (.invokedynamic 7, ar, v) = some q) (hF : Fr D clsT A sad ws0 s nL H locs mls mst h ls st) (hr1 : cells + h2.2.2.1 ≤ R.cells + h.2.2.1) (hr2 : slots + h2.2.2.2 ≤ R.slots + h.2.2.2) (kk : Nxt D A sad ws0 B P is q p l e R s m args below meth c cells slots Q nL h is2 mls2 mst2 h2) : W p l e R s m args below meth c H locs cells slots Q (F0 m pc ls st) := by
  obtain ⟨hx, hb, hml, hown, hts, hA, hS0, hini, hinj, hG, hRf, hRl⟩ := C
  rw [mS_d7] at hs
  rw [oI_d7] at ho
  split at hs
  · rename_i a r
    split at hs
    · rename_i ty n f hc
      split at hs
      · rename_i hq
        obtain ⟨rfl, hg⟩ := hq
        cases hs
        split at ho
        · obtain ⟨g, ho⟩ := gd_ok ho
          obtain ⟨hd, rfl⟩ := s1_ok ho
          have hlk := isP_ok g
          obtain ⟨-, -, -, -, p1, p2, p3⟩ := pr_sp2
          obtain ⟨-, -, -, -, -, -, -, -, -, -, -, -, -, -, -, -, -, -, -, g20⟩ := hS0
          exact sn_getC hx hb hml hown (hts _ hlk) g20.2.2.2.1 (hts _ p3) (hts _ p2) (hts _ p1) g20.2.2.1 hF hc hg hRf hRl hd (fun st hF2 => kk _ _ _ _ _ _ _ (Or.inl ⟨rfl, rfl⟩) hF2 rfl rfl)
        · cases ho
      · cases hs
    · cases hs
  · cases hs
theorem nx_ldcM (C : Cx sad G A p R s m args meth c o ini cc nL)  (hs : mStep G B (.invokedynamic 8, ar, v) is mls mst h = some (.inl (is2, mls2, mst2, h2))) (ho : okI o ini ret cc P pc (.invokedynamic 8, ar, v) = some q) (hF : Fr D clsT A sad ws0 s nL H locs mls mst h ls st) (hr1 : cells + h2.2.2.1 ≤ R.cells + h.2.2.1) (hr2 : slots + h2.2.2.2 ≤ R.slots + h.2.2.2) (kk : Nxt D A sad ws0 B P is q p l e R s m args below meth c cells slots Q nL h is2 mls2 mst2 h2) : W p l e R s m args below meth c H locs cells slots Q (F0 m pc ls st) := by
  obtain ⟨hx, hb, hml, hown, hts, hA, hS0, hini, hinj, hG, hRf, hRl⟩ := C
  rw [mS_d8] at hs
  rw [oI_d8] at ho
  cases hs
  split at ho
  · obtain ⟨g, ho⟩ := gd_ok ho
    obtain ⟨hd, rfl⟩ := s1_ok ho
    obtain ⟨w1, -⟩ := isC_ok g
    obtain ⟨-, -, -, -, -, -, -, -, -, -, -, -, -, -, -, -, -, -, -, g20⟩ := hS0
    exact sn_ldcM hx hb hown (hts _ w1) g20.2.2.1 hF hd (fun st hF2 => kk _ _ _ _ _ _ _ (Or.inl ⟨rfl, rfl⟩) hF2 rfl rfl)
  · cases ho
end NX2
