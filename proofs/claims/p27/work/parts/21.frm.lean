/-! ===== A RUN OF THE SMALL MACHINE IS A RUN OF THE LARGE ONE ===== -/
section LST
variable {sad : Nat → Nat} {ws : va_W}
theorem rS_app : ∀ {a : List MV} {c : List Value} {b : List MV} {d : List Value}, rS sad ws a c → rS sad ws b d → rS sad ws (a ++ b) (c ++ d)
  | [], [], _, _, _, h => h
  | _ :: _, _ :: _, _, _, h1, h2 => ⟨h1.1, rS_app h1.2 h2⟩
theorem rS_rev : ∀ {a : List MV} {c : List Value}, rS sad ws a c → rS sad ws a.reverse c.reverse
  | [], [], _ => trivial
  | v :: a, x :: c, h => by
    rw [List.reverse_cons, List.reverse_cons]
    exact rS_app (rS_rev h.2) ⟨h.1, trivial⟩
theorem rS_take : ∀ {n : Nat} {a : List MV} {c : List Value}, rS sad ws a c → rS sad ws (a.take n) (c.take n)
  | 0, a, c, _ => by rw [List.take_zero, List.take_zero]; trivial
  | n + 1, [], [], _ => trivial
  | n + 1, _ :: _, _ :: _, h => ⟨h.1, rS_take h.2⟩
theorem rS_drop : ∀ {n : Nat} {a : List MV} {c : List Value}, rS sad ws a c → rS sad ws (a.drop n) (c.drop n)
  | 0, a, c, h => h
  | n + 1, [], [], _ => trivial
  | n + 1, _ :: _, _ :: _, h => rS_drop (n := n) h.2
theorem rS_margs : ∀ {as : List MV} {vs : List Value}, rS sad ws as vs → (lg_sl vs).length = (margs as).length ∧ ∀ (i : Nat) (v : MV), (margs as)[i]? = some v → v ≠ qU → ∃ c, (lg_sl vs)[i]? = some (.val c) ∧ rV sad ws v c
  | [], [], _ => ⟨rfl, fun i v h => by simp [margs] at h⟩
  | v :: t, c :: u, h => by
    obtain ⟨i1, i2⟩ := rS_margs h.2
    have hc := rV_cat h.1
    have e : lg_sl (c :: u) = (if c.category = 2 then [.val c, .second] else [.val c]) ++ lg_sl u := by simp [lg_sl]
    rw [e]
    by_cases hw : wide v = true
    · rw [if_pos hw] at hc
      rw [if_pos hc]
      have e2 : margs (v :: t) = v :: qU :: margs t := by rw [margs, if_pos hw]
      rw [e2]
      refine ⟨by simp [i1], fun i w h1 h2 => ?_⟩
      match i, h1 with
      | 0, h1 => cases h1; exact ⟨c, rfl, h.1⟩
      | 1, h1 => cases h1; exact absurd rfl h2
      | i + 2, h1 => exact i2 i w h1 h2
    · rw [if_neg hw] at hc
      rw [if_neg (by omega)]
      have e2 : margs (v :: t) = v :: margs t := by rw [margs, if_neg hw]
      rw [e2]
      refine ⟨by simp [i1], fun i w h1 h2 => ?_⟩
      match i, h1 with
      | 0, h1 => cases h1; exact ⟨c, rfl, h.1⟩
      | i + 1, h1 => exact i2 i w h1 h2
theorem rL_entry {as : List MV} {vs : List Value} {nL : Nat} (h : rS sad ws as vs) (hn : (margs as).length ≤ nL) : rL sad ws nL (mpad nL (margs as)) ((lg_sl vs ++ List.replicate (nL - (lg_sl vs).length) Slot.unset).toArray) := by
  obtain ⟨i1, i2⟩ := rS_margs h
  have he := lv_entry vs (n := nL) (by omega)
  refine ⟨he.1, he.2.1, ?_, fun i v h1 h2 => ?_⟩
  · unfold mpad
    simp
    omega
  · unfold mpad at h1
    by_cases hi : i < (margs as).length
    · rw [List.getElem?_append_left hi] at h1
      obtain ⟨c, g1, g2⟩ := i2 i v h1 h2
      refine ⟨c, ?_, g2⟩
      rw [List.getElem?_toArray, List.getElem?_append_left (by omega)]
      exact g1
    · rw [List.getElem?_append_right (by omega)] at h1
      have := List.mem_of_getElem? h1
      exact absurd (List.eq_of_mem_replicate this) h2
end LST
theorem mCopy_same {G : MG} {h g : MH} {a b : Nat} {sp dp n : Int} (hg : mCopy G h a sp b dp n = some g) : g.2 = h.2 := by
  unfold mCopy at hg
  repeat' split at hg
  all_goals first
    | (cases hg; done)
    | (cases hg; rfl)
theorem mCopyS_same {G : MG} {h g : MH} {a b : Nat} {sp dp n : Int} (hg : mCopyS G h a sp b dp n = some g) : g.2 = h.2 := by
  unfold mCopyS at hg
  repeat' split at hg
  all_goals first
    | (cases hg; done)
    | (cases hg; rfl)
theorem mStep_grow {G : MG} {B : Nat → List MI} {i : MI} {is is2 : List MI} {ls st ls2 st2 : List MV} {h h2 : MH} (hs : mStep G B i is ls st h = some (.inl (is2, ls2, st2, h2))) : h.2.2.1 ≤ h2.2.2.1 ∧ h.2.2.2 ≤ h2.2.2.2 := by
  unfold mStep at hs
  split at hs
  all_goals try unfold mCnd at hs
  all_goals repeat' split at hs
  all_goals first
    | (cases hs; done)
    | (cases hs; exact ⟨Nat.le_refl _, Nat.le_refl _⟩)
    | (cases hs; exact ⟨Nat.le_add_right _ _, Nat.le_add_right _ _⟩)
    | (cases hs; exact ⟨by show _ ≤ _ + 1 + _; omega, by show _ ≤ _ + _ + _; omega⟩)
    | (rename_i hg _; cases hs; first | (rw [mCopy_same hg]; exact ⟨Nat.le_refl _, Nat.le_refl _⟩) | (rw [mCopyS_same hg]; exact ⟨Nat.le_refl _, Nat.le_refl _⟩))
theorem mStep_call {G : MG} {B : Nat → List MI} {ins : Instr} {ar : List Nat} {v : Int} {is : List MI} {ls st as st2 : List MV} {h : MH} {m : Nat} (hs : mStep G B (ins, ar, v) is ls st h = some (.inr (.inl (m, as, st2)))) :
    (∃ idx n l, ins = .invokevirtual idx ∧ ar = m :: n :: l ∧ n ≤ st.length ∧ hgt st2 ≤ 8 ∧ (margs as).length ≤ (G.1 m).2.1 ∧ rcv h (G.1 m).2.2 as = true ∧ as = (st.take n).reverse ∧ st2 = st.drop n) ∨
    (∃ idx n l, ins = .invokestatic idx ∧ ar = m :: n :: l ∧ n ≤ st.length ∧ hgt st2 ≤ 8 ∧ (margs as).length ≤ (G.1 m).2.1 ∧ as = (st.take n).reverse ∧ st2 = st.drop n) ∨
    (∃ idx n l, ins = .invokespecial idx ∧ ar = m :: n :: l ∧ n ≤ st.length ∧ hgt st2 ≤ 8 ∧ (margs as).length ≤ (G.1 m).2.1 ∧ rcv h (G.1 m).2.2 as = true ∧ as = (st.take n).reverse ∧ st2 = st.drop n) ∨
    (∃ idx n9 n l, ins = .invokeinterface idx n9 ∧ ar = m :: n :: l ∧ n ≤ st.length ∧ hgt st2 ≤ 8 ∧ (margs as).length ≤ (G.1 m).2.1 ∧ rcv h (G.1 m).2.2 as = true ∧ as = (st.take n).reverse ∧ st2 = st.drop n) := by
  unfold mStep at hs
  dsimp only at hs
  split at hs
  all_goals try unfold mCnd at hs
  all_goals repeat' split at hs
  all_goals try (cases hs; done)
  · rename_i hq
    cases hs
    exact Or.inl ⟨_, _, _, rfl, rfl, hq.1, hq.2.1, hq.2.2.1, hq.2.2.2, rfl, rfl⟩
  · rename_i hq
    cases hs
    exact Or.inr (Or.inl ⟨_, _, _, rfl, rfl, hq.1, hq.2.1, hq.2.2, rfl, rfl⟩)
  · rename_i hq
    cases hs
    exact Or.inr (Or.inr (Or.inl ⟨_, _, _, rfl, rfl, hq.1, hq.2.1, hq.2.2.1, hq.2.2.2, rfl, rfl⟩))
  · rename_i hq
    cases hs
    exact Or.inr (Or.inr (Or.inr ⟨_, _, _, _, rfl, rfl, hq.1, hq.2.1, hq.2.2.1, hq.2.2.2, rfl, rfl⟩))
theorem mRun_grow {G : MG} : ∀ {n d : Nat} {B : Nat → List MI} {is : List MI} {ls st : List MV} {h : MH} {o : (Option MV ⊕ Nat) × MH}, mRun G n d B is ls st h = some o → h.2.2.1 ≤ o.2.2.2.1 ∧ h.2.2.2 ≤ o.2.2.2.2 := by
  intro n
  induction n with
  | zero => intro d B is ls st h o hr; unfold mRun at hr; cases hr
  | succ n ih =>
    intro d B is ls st h o hr
    cases is with
    | nil => unfold mRun at hr; cases hr
    | cons i is =>
      unfold mRun at hr
      split at hr
      · cases hr
      · rename_i hm
        have a := mStep_grow hm
        have b := ih hr
        exact ⟨Nat.le_trans a.1 b.1, Nat.le_trans a.2 b.2⟩
      · split at hr
        · cases hr
        · split at hr
          · cases hr
          · rename_i hc
            have a := ih hc
            have b := ih hr
            exact ⟨Nat.le_trans a.1 b.1, Nat.le_trans a.2 b.2⟩
          · rename_i hc
            have a := ih hc
            split at hr
            · split at hr
              · have b := ih hr
                exact ⟨Nat.le_trans a.1 b.1, Nat.le_trans a.2 b.2⟩
              · split at hr
                · split at hr
                  · have b := ih hr
                    exact ⟨Nat.le_trans a.1 b.1, Nat.le_trans a.2 b.2⟩
                  · cases hr
                · cases hr
            · cases hr
      · cases hr
        exact ⟨Nat.le_refl _, Nat.le_refl _⟩
      · cases hr
        exact ⟨Nat.le_succ _, Nat.le_add_right _ _⟩
/-! the words of a callee -/
theorem gt_good {w : Jvm.Cond} (h : w ∈ GT) : w ∈ GT ∧ ((w.onTables && w.keeps) = true ∨ ∃ ty, w = .arrayClass ty) := ⟨h, by
  rcases List.mem_append.mp h with h | h
  · exact good_of_word (List.mem_filter.mp h).2
  · obtain ⟨y, -, rfl⟩ := List.mem_map.mp h
    exact good_of_word rfl⟩
theorem gtG {w : Jvm.Cond} (h : w ∈ GT) : GoodIn GT (w :: GT) := fun x hx => by
  rcases List.mem_cons.mp hx with rfl | hx
  · exact gt_good h
  · exact gt_good hx
theorem mtC_c {m : Nat} (h : hM m = []) : mtC m = .code (yM m) (cM m) (lM m) (rM m) := by
  unfold hM at h
  unfold mtC yM cM lM rM
  generalize mInf m = q at h
  obtain ⟨y, cc, o, nL, ret, sta, p1, p2, p3, p4, hh⟩ := q
  dsimp only at h ⊢
  rw [h]
  rfl
theorem mtC_w {m : Nat} (h : hM m ≠ []) : mtC m = .codeWith (yM m) (cM m) (lM m) (rM m) (hM m) := by
  unfold hM at h ⊢
  unfold mtC yM cM lM rM
  generalize mInf m = q at h ⊢
  obtain ⟨y, cc, o, nL, ret, sta, p1, p2, p3, p4, hh⟩ := q
  dsimp only at h ⊢
  cases hh with
  | nil => exact absurd rfl h
  | cons a b => rfl
theorem mt_sp {m : Nat} (h : m < 288) (h2 : m ≠ 269) : mtC m ∈ GT ∧ (if sM m = true then Jvm.Cond.static (yM m) else .instanceMethod (yM m)) ∈ GT ∧ (.initialized (yM m).cls) ∈ GT ∧ CN (oM m) = (yM m).cls ∧ plainName (yM m).cls = true ∧ ((yM m).cls ≠ "java/lang/invoke/MethodHandle" ∧ (yM m).cls ≠ "java/lang/invoke/VarHandle") ∧ lM m ≤ 30 ∧ oM m < 26 := by
  obtain ⟨g1, g2⟩ := wd_all h h2
  refine ⟨g2, ?_⟩
  unfold mtOK at g1
  unfold sM yM oM lM
  generalize mInf m = q at g1
  obtain ⟨y, cc, o, nL, ret, sta, p1, p2, p3, p4, hh⟩ := q
  simp only [Bool.and_eq_true, decide_eq_true_eq] at g1
  obtain ⟨⟨⟨⟨⟨⟨⟨a1, a2⟩, a3⟩, a4⟩, a5⟩, a6⟩, a7⟩, a8⟩ := g1
  exact ⟨inT_ok a1, inT_ok a2, a3, a4, ⟨a5, a6⟩, a7, a8⟩
theorem isM_ok {o idx m kd n : Nat} (h : isM o idx m kd n = true) : ∃ pos, (idx, m, kd, n, pos) ∈ LMt o := by
  obtain ⟨⟨a, b, c, d, e⟩, h1, h2⟩ := List.any_eq_true.mp h
  simp only [Bool.and_eq_true, beq_iff_eq] at h2
  obtain ⟨⟨⟨rfl, rfl⟩, rfl⟩, rfl⟩ := h2
  exact ⟨e, h1⟩
def kdW (o idx m kd n : Nat) : Prop := match kd with
  | 0 => (.methodLink (CN o) idx (yM m)) ∈ GT ∧ sM m = false ∧ (.selects (yM m).cls (yM m) (yM m)) ∈ GT ∧ nPar m = some (n - 1) ∧ 0 < n ∧ hM m = []
  | 1 => (.methodLink (CN o) idx (yM m)) ∈ GT ∧ sM m = true ∧ nPar m = some n ∧ hM m = []
  | 2 => (.methodLink (CN o) idx (yM m)) ∈ GT ∧ sM m = false ∧ (yM m).name = "<init>" ∧ rM m = none ∧ nPar m = some (n - 1) ∧ 0 < n ∧ hM m = []
  | 3 => sM m = false ∧ (yM m).name = "<init>" ∧ rM m = none ∧ nPar m = some (n - 1) ∧ 0 < n ∧ hM m = []
  | 4 => sM m = true ∧ nPar m = some n ∧ hM m = []
  | 5 => (.methodLink (CN o) idx ordX) ∈ GT ∧ (.sameMethod ordX.cls "java/lang/Enum" ordX.name ordX.desc) ∈ GT ∧ (.selects "TavernRumours$Kind" ordX (yM m)) ∈ GT ∧ nPar m = some 0 ∧ n = 1 ∧ sM m = false ∧ hM m = []
  | 6 => (.methodLink (CN o) idx (yM m)) ∈ GT ∧ sM m = true ∧ nPar m = some n ∧ hM m ≠ []
  | 8 => (.methodLink (CN o) idx (yM m)) ∈ GT ∧ sM m = false ∧ (.selects sbN (yM m) (yM m)) ∈ GT ∧ (.sameMethod (yM m).cls (yM m).cls (yM m).name (yM m).desc) ∈ GT ∧ nPar m = some (n - 1) ∧ 0 < n ∧ hM m = []
  | 9 => (.methodLink (CN o) idx ⟨itI, (yM m).name, (yM m).desc⟩) ∈ GT ∧ sM m = false ∧ (.selects itN ⟨itI, (yM m).name, (yM m).desc⟩ (yM m)) ∈ GT ∧ nPar m = some (n - 1) ∧ 0 < n ∧ hM m = [] ∧ (yM m = hnY ∨ yM m = nxY)
  | 10 => (.methodLink (CN o) idx (yM m)) ∈ GT ∧ sM m = false ∧ (.sameMethod (yM m).cls (yM m).cls (yM m).name (yM m).desc) ∈ GT ∧ (.superclass (CN o) (yM m).cls) ∈ GT ∧ (yM m).name ≠ "<init>" ∧ nPar m = some (n - 1) ∧ 0 < n ∧ hM m = []
  | 11 => (.methodLink (CN o) idx (yM mLen)) ∈ GT ∧ sM m = false ∧ (.selects sbN (yM mLen) (yM m)) ∈ GT ∧ (.sameMethod (yM mLen).cls (yM mLen).cls (yM mLen).name (yM mLen).desc) ∈ GT ∧ nPar mLen = some (n - 1) ∧ 0 < n ∧ hM m = []
  | _ => False
theorem lm_row {o idx m kd n pos : Nat} (h : (idx, m, kd, n, pos) ∈ LMt o) : m < 288 ∧ m ≠ 269 ∧ kdW o idx m kd n := by
  obtain ⟨h1, h2, h3⟩ := lm_at h
  refine ⟨h1, h2, ?_⟩
  unfold lmOK at h3
  have h4 := List.all_eq_true.mp h3 _ h
  simp only [Bool.and_eq_true] at h4
  have h5 := h4.2
  unfold kdW
  split at h5
  · simp only [Bool.and_eq_true, decide_eq_true_eq, Bool.not_eq_true', List.isEmpty_iff] at h5
    obtain ⟨⟨⟨⟨⟨a1, a2⟩, a3⟩, a4⟩, a5⟩, a6⟩ := h5
    exact ⟨inT_ok a1, a2, inT_ok a3, a4, a5, a6⟩
  · simp only [Bool.and_eq_true, decide_eq_true_eq, List.isEmpty_iff] at h5
    obtain ⟨⟨⟨a1, a2⟩, a3⟩, a4⟩ := h5
    exact ⟨inT_ok a1, a2, a3, a4⟩
  · simp only [Bool.and_eq_true, decide_eq_true_eq, Bool.not_eq_true', List.isEmpty_iff] at h5
    obtain ⟨⟨⟨⟨⟨⟨a1, a2⟩, a3⟩, a4⟩, a5⟩, a6⟩, a7⟩ := h5
    exact ⟨inT_ok a1, a2, a3, a4, a5, a6, a7⟩
  · simp only [Bool.and_eq_true, decide_eq_true_eq, Bool.not_eq_true', List.isEmpty_iff] at h5
    obtain ⟨⟨⟨⟨⟨⟨a1, a2⟩, a3⟩, a4⟩, a5⟩, a6⟩, a7⟩ := h5
    exact ⟨a2, a3, a4, a5, a6, a7⟩
  · simp only [Bool.and_eq_true, decide_eq_true_eq, List.isEmpty_iff] at h5
    obtain ⟨⟨⟨a1, a2⟩, a3⟩, a4⟩ := h5
    exact ⟨a2, a3, a4⟩
  · simp only [Bool.and_eq_true, decide_eq_true_eq, Bool.not_eq_true', List.isEmpty_iff] at h5
    obtain ⟨⟨⟨⟨⟨⟨a1, a2⟩, a3⟩, a4⟩, a5⟩, a6⟩, a7⟩ := h5
    exact ⟨inT_ok a1, inT_ok a2, inT_ok a3, a4, a5, a6, a7⟩
  · simp only [Bool.and_eq_true, decide_eq_true_eq, Bool.not_eq_true', List.isEmpty_eq_false_iff] at h5
    obtain ⟨⟨⟨a1, a2⟩, a3⟩, a4⟩ := h5
    exact ⟨inT_ok a1, a2, a3, a4⟩
  · simp only [Bool.and_eq_true, Bool.or_eq_true, decide_eq_true_eq, Bool.not_eq_true', List.isEmpty_iff] at h5
    obtain ⟨⟨⟨⟨⟨⟨a1, a2⟩, a3⟩, a4⟩, a5⟩, a6⟩, a7⟩ := h5
    refine ⟨inT_ok a1, a2, ?_, inT_ok a4, a5, a6, a7⟩
    rcases a3 with a3 | a3
    · exact inT_ok a3
    · obtain ⟨y, hy, e⟩ := List.any_eq_true.mp a3
      exact List.mem_append_right _ (List.mem_map.mpr ⟨y, hy, by rw [of_decide_eq_true e]; rfl⟩)
  · simp only [Bool.and_eq_true, Bool.or_eq_true, decide_eq_true_eq, Bool.not_eq_true', List.isEmpty_iff] at h5
    obtain ⟨⟨⟨⟨⟨⟨a1, a2⟩, a3⟩, a4⟩, a5⟩, a6⟩, a7⟩ := h5
    exact ⟨inT_ok a1, a2, inT_ok a3, a4, a5, a6, a7⟩
  · simp only [Bool.and_eq_true, decide_eq_true_eq, Bool.not_eq_true', List.isEmpty_iff] at h5
    obtain ⟨⟨⟨⟨⟨⟨⟨a1, a2⟩, a3⟩, a4⟩, a5⟩, a6⟩, a7⟩, a8⟩ := h5
    exact ⟨inT_ok a1, a2, inT_ok a3, inT_ok a4, a5, a6, a7, a8⟩
  · simp only [Bool.and_eq_true, decide_eq_true_eq, Bool.not_eq_true', List.isEmpty_iff] at h5
    obtain ⟨⟨⟨⟨⟨⟨a1, a2⟩, a3⟩, a4⟩, a5⟩, a6⟩, a7⟩ := h5
    exact ⟨inT_ok a1, a2, inT_ok a3, inT_ok a4, a5, a6, a7⟩
  · cases h5
/-! contracts -/
def resM (sad : Nat → Nat) (ws : va_W) : Option MV → Option Value → Prop
  | none, none => True
  | some v, some c => rV sad ws v c
  | _, _ => False
def PcM (sad : Nat → Nat) (G : MG) (A : Nat → Prop) (D : va_G) (ws : va_W) (tys : List (ClassId × FieldType)) (h : MH) (as : List MV) : Array Value → State → Prop := fun a U =>
  rH sad ws tys h ∧ va_P D clsT ws U.heap ∧ va_K D clsT tys U ∧ va_D A ws ∧ rS sad ws as a.toList ∧ sS sad G A U U.heap ∧ ∀ q, U.heap.size ≤ q → A q
def EnM (sad : Nat → Nat) (A : Nat → Prop) (D : va_G) (ws ws' : va_W) (h2 : MH) (t : State) : Prop := ∃ tys' : List (ClassId × FieldType), rH sad ws' tys' h2 ∧ va_P D clsT ws' t.heap ∧ va_K D clsT tys' t ∧ va_D A ws' ∧ rP ws ws'
def QcM (sad : Nat → Nat) (A : Nat → Prop) (D : va_G) (ws : va_W) (r : Option MV) (h2 : MH) : Array Value → State → Outcome → State → Prop := fun _ st oc t =>
  (∃ (ws' : va_W) (v' : Option Value), oc = .returned v' ∧ resM sad ws' r v' ∧ EnM sad A D ws ws' h2 t) ∧ va_F A st t
def QcF : Array Value → State → Outcome → State → Prop := fun _ _ _ _ => False
def XcM (sad : Nat → Nat) (A : Nat → Prop) (D : va_G) (ws : va_W) (ex : Nat) (h2 : MH) : String → State → State → Prop := fun E st t => E = excN ex ∧ (∃ ws' : va_W, EnM sad A D ws ws' h2 t) ∧ va_F A st t
def rm9 (d mc ms : Nat) : Room := { frames := d + 20, cells := mc, slots := ms, locals := 200 + 60 * d }
def Ctr (l : Launch) (sad : Nat → Nat) (G : MG) (A : Nat → Prop) (D : va_G) (d m : Nat) (as : List MV) (h : MH) (o : (Option MV ⊕ Nat) × MH) : Prop := ∀ (ws : va_W) (tys : List (ClassId × FieldType)), match o with
  | (.inl r, h2) => Met l (yM m) (mtC m :: GT) (rm9 d (h2.2.2.1 - h.2.2.1) (h2.2.2.2 - h.2.2.2)) (PcM sad G A D ws tys h as) (QcM sad A D ws r h2) (h2.2.2.1 - h.2.2.1) (h2.2.2.2 - h.2.2.2) A
  | (.inr ex, h2) => vx_Met l (yM m) (mtC m :: GT) (rm9 d (h2.2.2.1 - h.2.2.1) (h2.2.2.2 - h.2.2.2)) (PcM sad G A D ws tys h as) QcF (XcM sad A D ws ex h2) (h2.2.2.1 - h.2.2.1) (h2.2.2.2 - h.2.2.2) A
theorem pcm_blind {sad : Nat → Nat} {G : MG} {A : Nat → Prop} {D : va_G} {ws : va_W} {tys : List (ClassId × FieldType)} {h : MH} {as : List MV} : FrameBlind (PcM sad G A D ws tys h as) := fun a U g mk hp => by
  obtain ⟨h1, h2, h3, h4, h5, h6, h7⟩ := hp
  exact ⟨h1, h2, va_K.moved (u := U) (U := U.calling g mk a) (Vm.Alike.refl U.vm) h3, h4, h5, sS.same (s := U) (U := U.calling g mk a) rfl h6, h7⟩
/-- a call that takes k bytes of code -/
def RunK (k : Nat) (p : Program) (l : Launch) (e : Env) (R : Room) (s : State) (m : MethodId) (args : Array Value) (below : List Frame) (meth : Method) (c : Code) (H : Heap) (locs : List Loc) (cells slots mc ms : Nat) (g : JFrame) (rest : List Value) (Qa : State → Outcome → State → Prop) (free : Addr → Prop) : Prop :=
  ∀ T : State, T.heap = H → Stand p l e R s m args below meth c T locs cells slots → ∃ (v : Option Value) (st₀ t T' : State) (L : List Loc), st₀.heap = H ∧ Stand p l e R s m args below meth c T' (locs ++ L) (cells + mc) (slots + ms) ∧ (∀ q ∈ L, free q.base) ∧ T'.heap = t.heap ∧ T'.vm = t.vm ∧ Qa st₀ (.returned v) t ∧
    Goes p e below T g T' { g with pc := g.pc + k, stack := v.toList ++ rest }
section CALL
variable {p : Program} {l : Launch} {e : Env} {R : Room} {s : State} {m : MethodId} {args : Array Value} {below : List Frame} {meth : Method} {c : Code} {H : Heap} {locs : List Loc} {cells slots : Nat} {Q : State → Prop}
variable {cc : ByteArray} {pc nL q : Nat} {D : va_G} {A : Nat → Prop} {sad : Nat → Nat} {ws0 ws : va_W} {mls mst : List MV} {h h2 : MH} {ls : Array Slot} {st : List Value} {tys : List (ClassId × FieldType)}
variable {o : Nat} {ini : Bool} {ret : Option FieldType} {B : Nat → List MI} {P : Nat → Nat} {G : MG} {is : List MI} {ar : List Nat} {v : Int} {r : Option MV} {ex mc ms : Nat} {rest : List Value} {a : Array Value} {st2 as : List MV} {ins : Instr} {m' d : Nat}
theorem run_ret {k9 : Nat} (hr : RunK k9 p l e R s m args below meth c H locs cells slots mc ms (F0 m pc ls st) rest (QcM sad A D ws r h2 a) A) (hS : va_S A s.heap H locs) (hL : rL sad ws nL mls ls) (hR : rS sad ws st2 rest) (h8 : rP ws0 ws)
    (kk : ∀ (H : Heap) (locs : List Loc) (st : List Value), Fr D clsT A sad ws0 s nL H locs mls (r.toList ++ st2) h2 ls st → W p l e R s m args below meth c H locs (cells + mc) (slots + ms) Q (F0 m (pc + k9) ls st)) : W p l e R s m args below meth c H locs cells slots Q (F0 m pc ls st) := by
  intro T hT X
  obtain ⟨v, st₀, t, T', L, h0, X', hL', e1, e2, ⟨⟨ws', v', hv, hres, tys', g1, g2, g3, g4, g5⟩, hz, hk⟩, stp⟩ := hr T hT X
  cases hv
  rw [h0] at hz hk
  have hal : s.vm.Alike t.vm := by rw [← e2]; exact X'.warmed.alike
  have hst : rS sad ws' (r.toList ++ st2) (v.toList ++ rest) := by
    cases r with
    | none => cases v with
      | none => exact hR.up g5
      | some c => exact hres.elim
    | some w => cases v with
      | none => exact hres.elim
      | some c => exact ⟨hres, hR.up g5⟩
  obtain ⟨t2, a1, b1⟩ := kk T'.heap (locs ++ L) _ ⟨ws', tys', g1, by rw [e1]; exact g2, g3.moved hal.symm, g4, ⟨Nat.le_trans hS.1 (by rw [e1]; exact hz), fun q h1 h2 => by rw [e1, hk q (Nat.lt_of_lt_of_le h1 hS.1) h2]; exact hS.2.1 q h1 h2, fun q hq => by
      rcases List.mem_append.mp hq with h | h
      · exact hS.2.2 q h
      · exact hL' q h⟩, hL.up g5, hst, h8.tr g5⟩ T' rfl X'
  exact ⟨t2, stp t2 a1, b1⟩
theorem run_thr (hr : vx_Run p l e R s m args below meth c H locs cells slots mc ms (F0 m pc ls st) rest (QcF a) (XcM sad A D ws ex h2) A) (hS : va_S A s.heap H locs) (hL : rL sad ws nL mls ls) (h8 : rP ws0 ws)
    (kk : ∀ (H : Heap) (locs : List Loc) (q : Addr) (ce : Cell), Fr D clsT A sad ws0 s nL H locs mls [qS 999] h2 ls [.ref q] → H[q]? = some ce → ce.vm = .none → s.vm.findClass (excN ex) = some ce.cls → vx_W p l e R s m args below meth c H locs (cells + mc) (slots + ms) Q (F0 m pc ls rest) q) : W p l e R s m args below meth c H locs cells slots Q (F0 m pc ls st) := by
  intro T hT X
  rcases hr T hT X with ⟨v, st₀, t, T', L, h0, X', hL', e1, e2, hq, stp⟩ | ⟨q, st₀, t, T', L, E, ce, h0, X', hL', e1, e2, ⟨rfl, ⟨ws', tys', g1, g2, g3, g4, g5⟩, hz, hk⟩, hce, hcv, hcl, stp⟩
  · exact hq.elim
  · rw [h0] at hz hk
    have hal : s.vm.Alike t.vm := by rw [← e2]; exact X'.warmed.alike
    obtain ⟨t2, a1, b1⟩ := kk T'.heap (locs ++ L) q ce ⟨ws', tys', g1, by rw [e1]; exact g2, g3.moved hal.symm, g4, ⟨Nat.le_trans hS.1 (by rw [e1]; exact hz), fun q h1 h2 => by rw [e1, hk q (Nat.lt_of_lt_of_le h1 hS.1) h2]; exact hS.2.1 q h1 h2, fun q hq => by
        rcases List.mem_append.mp hq with h | h
        · exact hS.2.2 q h
        · exact hL' q h⟩, hL.up g5, ⟨⟨q, rfl, Or.inl rfl⟩, trivial⟩, h8.tr g5⟩ (by rw [e1]; exact hce) hcv hcl T' rfl X'
    exact ⟨t2, stp.trans a1, b1⟩
theorem pcm_of (h1 : rH sad ws tys h) (h2 : va_P D clsT ws H) (h3 : va_K D clsT tys s) (h4 : va_D A ws) (h5 : va_S A s.heap H locs) (hS0 : sS sad G A s s.heap) (hA : ∀ q, s.heap.size ≤ q → A q) {As : List Value} (hR : rS sad ws as As) : ∀ U : State, U.heap = H → s.WarmedH U.vm → PcM sad G A D ws tys h as As.toArray U := fun U hU hW =>
  ⟨h1, by rw [hU]; exact h2, h3.moved hW.alike, h4, hR, hS0.warm hW (by rw [hU]; exact h5.2.1), fun q hq => hA q (Nat.le_trans h5.1 (by rw [← hU]; exact hq))⟩
/-- the receiver -/
theorem rcv_ref (h7 : rS sad ws as (st : List Value)) {t : Nat} (hq : rcv h t as = true) : ∃ (b : Nat) (As : List Value), st = .ref b :: As := by
  cases as with
  | nil => cases hq
  | cons v as =>
    obtain ⟨c1, u1, rfl, hv, -⟩ := rS_c h7
    rcases v with n | n | u | a | a | (_ | _)
    · cases hq
    · cases hq
    · cases hq
    · obtain ⟨b, e9, rfl, -⟩ := hv
      exact ⟨b, u1, rfl⟩
    · obtain ⟨b, rfl, -⟩ := hv
      exact ⟨b, u1, rfl⟩
    · cases hq
    · cases hq
theorem rcv_cell {t9 : Nat} (ht9 : (mdC t9 = true ∧ t9 < 15) ∨ t9 = 18) (h1 : rH sad ws tys h) (h2 : va_P D clsT ws H) (h3 : va_K D clsT tys s) (h5 : va_S A s.heap H locs) (hS0 : sS sad G A s s.heap) {b : Nat} {As : List Value} (h7 : rS sad ws as (.ref b :: As)) (hq : rcv h t9 as = true) : ∃ cell : Cell, H[b]? = some cell ∧ cell.vm.isStatics = false ∧ s.vm.findClass (if t9 = 18 then "TavernRumours$Kind" else CN t9) = some cell.cls := by
  cases as with
  | nil => cases hq
  | cons v as =>
    obtain ⟨hv, -⟩ := h7
    rcases v with n | n | u | a | a | (_ | _)
    · cases hq
    · cases hq
    · cases hq
    · obtain ⟨b', e9, hb, hw⟩ := hv
      cases hb
      unfold rcv at hq
      dsimp only at hq
      split at hq
      · rename_i ci fs hc
        have hr := h1.2 a _ hw
        rw [hc] at hr
        obtain ⟨vs, rfl, -⟩ := hr
        simp only [Bool.or_eq_true, Bool.and_eq_true, decide_eq_true_eq, beq_iff_eq] at hq
        have ht : ci = t9 := by omega
        subst ht
        obtain ⟨q', g0, cell, g1, g2, g3, -⟩ := h2 a _ hw
        have hci : ci < 15 := (List.getElem?_eq_some_iff.mp g0).1
        rw [uq_at hci] at g0
        cases g0
        refine ⟨cell, g1, by rw [g3]; rfl, ?_⟩
        rw [if_neg (by omega), ← cls_n hci (ht9.resolve_right (by omega)).1, g2]
        exact (h3.1 ci _ (uq_at hci)).2.1
      · cases hq
    · obtain ⟨b', hb, hw⟩ := hv
      cases hb
      unfold rcv at hq
      dsimp only at hq
      simp only [Bool.or_eq_true, Bool.and_eq_true, decide_eq_true_eq] at hq
      obtain ⟨-, -, -, -, g5, g6, -⟩ := hS0
      rcases hq with (⟨ha, ht⟩ | ⟨⟨ha, ha2⟩, rfl⟩) | ⟨⟨ha, ha2⟩, rfl⟩
      · obtain rfl := hw.resolve_left (by omega)
        obtain ⟨cell, o1, o2, o3, -⟩ := (g5 a ha).kept h5.2.1
        refine ⟨cell, o1, o2, ?_⟩
        have e : (if t9 = 18 then "TavernRumours$Kind" else CN t9) = "TavernRumours$Kind" := by
          rcases ht with rfl | rfl <;> rfl
        rw [e]
        exact o3
      · obtain rfl := hw.resolve_left (by omega)
        have hs6 := g6 (a - 100) (by omega)
        rw [show 100 + (a - 100) = a by omega] at hs6
        obtain ⟨cell, o1, o2, o3, -⟩ := hs6.kept h5.2.1
        exact ⟨cell, o1, o2, o3⟩
      · obtain rfl := hw.resolve_left (by omega)
        have hs6 := g6 (a - 100) (by omega)
        rw [show 100 + (a - 100) = a by omega] at hs6
        obtain ⟨cell, o1, o2, o3, -⟩ := hs6.kept h5.2.1
        exact ⟨cell, o1, o2, o3⟩
    · cases hq
    · cases hq
/-- the same of a method of the text's upper class -/
theorem rcv_cell20 (h1 : rH sad ws tys h) (h2 : va_P D clsT ws H) (h3 : va_K D clsT tys s) {b : Nat} {As : List Value} (h7 : rS sad ws as (.ref b :: As)) (hq : rcv h 20 as = true) : ∃ cell : Cell, H[b]? = some cell ∧ cell.vm.isStatics = false ∧ s.vm.findClass sbN = some cell.cls := by
  cases as with
  | nil => cases hq
  | cons v as =>
    obtain ⟨hv, -⟩ := h7
    rcases v with n | n | u | a | a | (_ | _)
    · cases hq
    · cases hq
    · cases hq
    · obtain ⟨b', e9, hb, hw⟩ := hv
      cases hb
      unfold rcv at hq
      dsimp only at hq
      split at hq
      · rename_i ci fs hc
        have hr := h1.2 a _ hw
        rw [hc] at hr
        obtain ⟨vs, rfl, -⟩ := hr
        obtain ⟨q', g0, cell, g1, g2, g3, -⟩ := h2 a _ hw
        have hci : ci < 15 := (List.getElem?_eq_some_iff.mp g0).1
        simp only [Bool.or_eq_true, Bool.and_eq_true, decide_eq_true_eq, beq_iff_eq] at hq
        have ht : ci = 11 := by omega
        subst ht
        rw [uq_at hci] at g0
        cases g0
        refine ⟨cell, g1, by rw [g3]; rfl, ?_⟩
        rw [g2]
        exact (h3.1 11 _ (uq_at hci)).2.1
      · cases hq
    · unfold rcv at hq
      dsimp only at hq
      simp only [Bool.or_eq_true, Bool.and_eq_true, decide_eq_true_eq] at hq
      omega
    · cases hq
    · cases hq
/-- what a call asks, by the tables -/
theorem mkB (hm : m' < 288) (hm2 : m' ≠ 269) (hts : ∀ w ∈ GT, w.before args s = true) (hh : hM m' = []) {k idx : Nat} (hlen : nPar m' = some k) (hlk : (Jvm.Cond.methodLink (CN o) idx (yM m')).before args s = true) (hR1 : d + 21 ≤ R.frames) (hR2 : 260 + 60 * d ≤ R.locals) : CallB R s args (CN o) idx (yM m') (cM m') (lM m') (rM m') (mtC m' :: GT) (rm9 d mc ms) mc ms k := by
  obtain ⟨g1, g2, g3, g4, g5, g6, g7, g8⟩ := mt_sp hm hm2
  have e := mtC_c hh
  refine ⟨rfl, rfl, hR1, ?_, pay_in hts (gtG g1), by rw [e]; exact List.mem_cons_self, by rw [← e]; exact hts _ g1, hts _ g3, g6, fun sig hsig => ?_, hlk⟩
  · show 8 + (lM m' + 11) + (200 + 60 * d) ≤ R.locals
    omega
  · unfold nPar at hlen
    rw [hsig] at hlen
    exact (Option.some.inj hlen).symm
theorem mkN (hm : m' < 288) (hm2 : m' ≠ 269) (hts : ∀ w ∈ GT, w.before args s = true) (hh : hM m' = []) {k idx : Nat} (hlen : nPar m' = some k) (hlk : (Jvm.Cond.methodLinkNest (CN o) idx (yM m') (HN o)).before args s = true) (hR1 : d + 21 ≤ R.frames) (hR2 : 260 + 60 * d ≤ R.locals) : va_CN R s args (CN o) idx (yM m') (HN o) (cM m') (lM m') (rM m') (mtC m' :: GT) (rm9 d mc ms) mc ms k := by
  obtain ⟨g1, g2, g3, g4, g5, g6, g7, g8⟩ := mt_sp hm hm2
  have e := mtC_c hh
  refine ⟨⟨rfl, rfl, hR1, ?_, pay_in hts (gtG g1), by rw [e]; exact List.mem_cons_self⟩, by rw [← e]; exact hts _ g1, hts _ g3, g6, fun sig hsig => ?_, hlk⟩
  · show 8 + (lM m' + 11) + (200 + 60 * d) ≤ R.locals
    omega
  · unfold nPar at hlen
    rw [hsig] at hlen
    exact (Option.some.inj hlen).symm
theorem mkW (hm : m' < 288) (hm2 : m' ≠ 269) (hts : ∀ w ∈ GT, w.before args s = true) (hh : hM m' ≠ []) {k idx : Nat} (hlen : nPar m' = some k) (hlk : (Jvm.Cond.methodLink (CN o) idx (yM m')).before args s = true) (hst : (Jvm.Cond.static (yM m')).before args s = true) (hR1 : d + 21 ≤ R.frames) (hR2 : 260 + 60 * d ≤ R.locals) : vx_CSW R s args (CN o) idx (yM m') (cM m') (lM m') (rM m') (hM m') (mtC m' :: GT) (rm9 d mc ms) mc ms k := by
  obtain ⟨g1, g2, g3, g4, g5, g6, g7, g8⟩ := mt_sp hm hm2
  have e := mtC_w hh
  refine ⟨⟨rfl, rfl, hR1, ?_, pay_in hts (gtG g1), by rw [e]; exact List.mem_cons_self⟩, by rw [← e]; exact hts _ g1, hts _ g3, g6, fun sig hsig => ?_, hlk, hst⟩
  · show 8 + (lM m' + 11) + (200 + 60 * d) ≤ R.locals
    omega
  · unfold nPar at hlen
    rw [hsig] at hlen
    exact (Option.some.inj hlen).symm
/-- the stack of a call -/
theorem stk {n : Nat} (h7 : rS sad ws mst st) (hn : n ≤ mst.length) : rS sad ws (mst.take n).reverse (st.take n).reverse ∧ rS sad ws (mst.drop n) (st.drop n) ∧ (st.take n).reverse.length = n ∧ st = (st.take n).reverse.reverse ++ st.drop n := by
  have hl := rS_len h7
  refine ⟨rS_rev (rS_take h7), rS_drop h7, ?_, ?_⟩
  · rw [List.length_reverse, List.length_take]
    omega
  · rw [List.reverse_reverse, List.take_append_drop]
end CALL
