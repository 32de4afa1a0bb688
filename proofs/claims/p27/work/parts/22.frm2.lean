theorem yOk : (List.range 288).all (fun m => oM m != 18 || decide (yM m = ⟨"java/lang/Enum", ordX.name, ordX.desc⟩)) = true := by decide +kernel
theorem yO {m : Nat} (h : m < 288) (he : oM m = 18) : yM m = ⟨"java/lang/Enum", ordX.name, ordX.desc⟩ := by
  have := List.all_eq_true.mp yOk m (List.mem_range.mpr h)
  simp only [Bool.or_eq_true, bne_iff_ne, decide_eq_true_eq] at this
  exact this.resolve_left (fun z => z he)
section CALL2
variable {p : Program} {l : Launch} {e : Env} {R : Room} {s : State} {m : MethodId} {args : Array Value} {below : List Frame} {meth : Method} {c : Code} {H : Heap} {locs : List Loc} {cells slots : Nat} {Q : State → Prop}
variable {cc : ByteArray} {pc nL q : Nat} {D : va_G} {A : Nat → Prop} {sad : Nat → Nat} {ws0 ws : va_W} {mls mst : List MV} {h h2 : MH} {ls : Array Slot} {st : List Value} {tys : List (ClassId × FieldType)}
variable {o : Nat} {ini : Bool} {ret : Option FieldType} {B : Nat → List MI} {P : Nat → Nat} {G : MG} {is : List MI} {ar : List Nat} {v : Int} {r : Option MV} {ex mc ms : Nat} {rest : List Value} {a : Array Value} {st2 as : List MV} {ins : Instr} {m' d : Nat}
theorem hgt_W (h7 : rS sad ws st2 rest) (hg : hgt st2 ≤ 8) : 2 * (F0 m pc ls st).monitorRoom + (rest.map fun v => v.category).sum ≤ 8 := by
  rw [rS_hgt h7]
  show 2 * 0 + _ ≤ 8
  omega
theorem call_who (hs : mStep G B (ins, ar, v) is mls mst h = some (.inr (.inl (m', as, st2)))) (ho : okI o ini ret cc P pc (ins, ar, v) = some q) : m' < 288 ∧ m' ≠ 269 ∧ (margs as).length ≤ (G.1 m').2.1 := by
  have go : ∀ {idx kd n : Nat}, isM o idx m' kd n = true → m' < 288 ∧ m' ≠ 269 := fun g => by
    obtain ⟨pos, hpos⟩ := isM_ok g
    exact ⟨(lm_row hpos).1, (lm_row hpos).2.1⟩
  rcases mStep_call hs with ⟨idx, n, lb, rfl, rfl, hn, hg8, hmar, hrcv, rfl, rfl⟩ | ⟨idx, n, lb, rfl, rfl, hn, hg8, hmar, rfl, rfl⟩ | ⟨idx, n, lb, rfl, rfl, hn, hg8, hmar, hrcv, rfl, rfl⟩ | ⟨idx, n9, n, lb, rfl, rfl, hn, hg8, hmar, hrcv, rfl, rfl⟩
  · unfold okI at ho
    dsimp only at ho
    obtain ⟨g, ho⟩ := gd_ok ho
    simp only [Bool.or_eq_true] at g
    rcases g with ((g | g) | g) | g
    · exact ⟨(go g).1, (go g).2, hmar⟩
    · exact ⟨(go g).1, (go g).2, hmar⟩
    · exact ⟨(go g).1, (go g).2, hmar⟩
    · exact ⟨(go g).1, (go g).2, hmar⟩
  · unfold okI at ho
    dsimp only at ho
    obtain ⟨g, ho⟩ := gd_ok ho
    simp only [Bool.or_eq_true] at g
    rcases g with (g | g) | g
    · exact ⟨(go g).1, (go g).2, hmar⟩
    · exact ⟨(go g).1, (go g).2, hmar⟩
    · exact ⟨(go g).1, (go g).2, hmar⟩
  · unfold okI at ho
    dsimp only at ho
    obtain ⟨g, ho⟩ := gd_ok ho
    simp only [Bool.or_eq_true] at g
    rcases g with (g | g) | g
    · exact ⟨(go g).1, (go g).2, hmar⟩
    · exact ⟨(go g).1, (go g).2, hmar⟩
    · exact ⟨(go g).1, (go g).2, hmar⟩
  · unfold okI at ho
    dsimp only at ho
    obtain ⟨g, ho⟩ := gd_ok ho
    exact ⟨(go g).1, (go g).2, hmar⟩
/-- a call that returns -/
theorem call_run (C : Cx sad G A p R s m args meth c o ini cc nL) (hR1 : d + 21 ≤ R.frames) (hR2 : 260 + 60 * d ≤ R.locals) (hG1 : G.1 = METH) (hs : mStep G B (ins, ar, v) is mls mst h = some (.inr (.inl (m', as, st2)))) (ho : okI o ini ret cc P pc (ins, ar, v) = some q)
    (h1 : rH sad ws tys h) (h2' : va_P D clsT ws H) (h3 : va_K D clsT tys s) (h4 : va_D A ws) (h5 : va_S A s.heap H locs) (h6 : rL sad ws nL mls ls) (h7 : rS sad ws mst st)
    (hM : Met l (yM m') (mtC m' :: GT) (rm9 d mc ms) (PcM sad G A D ws tys h as) (QcM sad A D ws r h2) mc ms A) (hf : cells + mc ≤ R.cells ∧ slots + ms ≤ R.slots) :
    ∃ (rest : List Value) (a : Array Value) (k9 : Nat), q = pc + k9 ∧ rS sad ws st2 rest ∧ RunK k9 p l e R s m args below meth c H locs cells slots mc ms (F0 m pc ls st) rest (QcM sad A D ws r h2 a) A := by
  obtain ⟨hx, hb, hml, hown, hts, hA, hS0, hini, hinj, hG, hRf, hRl⟩ := C
  have S : CallFix p m c cc nL s args GT (CN o) := ⟨hx, hb, hml, hown, hts⟩
  have hmet : ∀ m, (G.1 m).2.2 = oM m := fun m => by rw [hG1]; rfl
  rcases mStep_call hs with ⟨idx, n, lb, rfl, rfl, hn, hg8, hmar, hrcv, rfl, rfl⟩ | ⟨idx, n, lb, rfl, rfl, hn, hg8, hmar, rfl, rfl⟩ | ⟨idx, n, lb, rfl, rfl, hn, hg8, hmar, hrcv, rfl, rfl⟩ | ⟨idx, n9, n, lb, rfl, rfl, hn, hg8, hmar, hrcv, rfl, rfl⟩
  · unfold okI at ho
    dsimp only at ho
    obtain ⟨g, ho⟩ := gd_ok ho
    obtain ⟨hd, rfl⟩ := s1_ok ho
    obtain ⟨k1, k2, k3, k4⟩ := stk h7 hn
    rw [hmet] at hrcv
    obtain ⟨b, As, hAs⟩ := rcv_ref k1 hrcv
    rw [hAs] at k1 k3 k4
    have hlen : As.length = n - 1 := by simp only [List.length_cons] at k3; omega
    have hpre := pcm_of h1 h2' h3 h4 h5 hS0 hA k1
    have hst : st = As.reverse ++ .ref b :: st.drop n := by rw [List.reverse_cons, List.append_assoc] at k4; exact k4
    simp only [Bool.or_eq_true] at g
    rcases g with ((g | g) | g) | g
    · obtain ⟨pos, hpos⟩ := isM_ok g
      obtain ⟨m1, m2, a1, a2, a3, a4, a5, a6⟩ := lm_row hpos
      obtain ⟨-, g2, g3, g4, g5, g6, g7, g8⟩ := mt_sp m1 m2
      rw [a2, if_neg (by decide)] at g2
      have hne := (k05 hpos).2.1 rfl
      obtain ⟨cell, o1, o2, o3⟩ := rcv_cell (Or.inl hne) h1 h2' h3 h5 hS0 k1 hrcv
      rw [if_neg (by have := hne.2; omega), g4] at o3
      exact ⟨st.drop n, _, 3, rfl, k2, va_runV (C := (yM m').cls) (n := n - 1) (index := idx) S hM ⟨mkB m1 m2 hts a6 a4 (hts _ a1) hR1 hR2, hts _ g2, hts _ a3⟩ ⟨pcm_blind, ⟨cell, o1, o2, o3⟩, hpre⟩ rfl hlen h6.1 hst (hgt_W k2 hg8) hd hf⟩
    · obtain ⟨pos, hpos⟩ := isM_ok g
      obtain ⟨m1, m2, a1, a2, a3, a4, rfl, a5, a6⟩ := lm_row hpos
      obtain ⟨g1, g2, g3, g4, g5, g6, g7, g8⟩ := mt_sp m1 m2
      rw [a5, if_neg (by decide)] at g2
      have he : oM m' = 18 := (k05 hpos).1 rfl
      obtain ⟨cell, o1, o2, o3⟩ := rcv_cell (Or.inr he) h1 h2' h3 h5 hS0 k1 hrcv
      rw [if_pos he] at o3
      have hy : yM m' = ⟨"java/lang/Enum", ordX.name, ordX.desc⟩ := yO m1 he
      have e := mtC_c a6
      exact ⟨st.drop 1, _, 3, rfl, k2, va_runU (C := "TavernRumours$Kind") (n := 0) (index := idx) S hM (va_cwU (Ts := GT) (owner := "java/lang/Enum") (x := ordX) 0 hts (fun w hw => by
        unfold va_wsU at hw
        simp only [List.cons_append, List.nil_append, List.mem_cons] at hw
        rcases hw with rfl | rfl | rfl | rfl | rfl | hw
        · exact gt_good a1
        · exact gt_good a2
        · exact gt_good a3
        · exact gt_good g2
        · exact gt_good g3
        · rcases hw with rfl | hw
          · exact gt_good g1
          · exact gt_good hw) (by rw [e]) rfl rfl hy ⟨by decide, by decide, rfl⟩ ⟨hR1, by show 8 + (lM m' + 11) + (200 + 60 * d) ≤ R.locals; omega⟩) ⟨pcm_blind, ⟨cell, o1, o2, o3⟩, hpre⟩ rfl hlen h6.1 hst (hgt_W k2 hg8) hd hf⟩
    · obtain ⟨pos, hpos⟩ := isM_ok g
      obtain ⟨m1, m2, a1, a2, a3, a4, a5, a6, a7⟩ := lm_row hpos
      obtain ⟨g1, g2, g3, g4, g5, g6, g7, g8⟩ := mt_sp m1 m2
      rw [a2, if_neg (by decide)] at g2
      rw [(k05 hpos).2.2.1 rfl] at hrcv
      obtain ⟨cell, o1, o2, o3⟩ := rcv_cell20 h1 h2' h3 k1 hrcv
      have e := mtC_c a7
      exact ⟨st.drop n, _, 3, rfl, k2, va_runU (C := sbN) (n := n - 1) (index := idx) S hM (va_cwU (Ts := GT) (owner := (yM m').cls) (x := yM m') (n - 1) hts (fun w hw => by
        unfold va_wsU at hw
        simp only [List.cons_append, List.nil_append, List.mem_cons] at hw
        rcases hw with rfl | rfl | rfl | rfl | rfl | hw
        · exact gt_good a1
        · exact gt_good a4
        · exact gt_good a3
        · exact gt_good g2
        · exact gt_good g3
        · rcases hw with rfl | hw
          · exact gt_good g1
          · exact gt_good hw) (by rw [e]) rfl rfl rfl ⟨g6.1, g6.2, a5⟩ ⟨hR1, by show 8 + (lM m' + 11) + (200 + 60 * d) ≤ R.locals; omega⟩) ⟨pcm_blind, ⟨cell, o1, o2, o3⟩, hpre⟩ rfl hlen h6.1 hst (hgt_W k2 hg8) hd hf⟩
    · obtain ⟨pos, hpos⟩ := isM_ok g
      obtain ⟨m1, m2, a1, a2, a3, a4, a5, a6, a7⟩ := lm_row hpos
      obtain ⟨g1, g2, g3, g4, g5, g6, g7, g8⟩ := mt_sp m1 m2
      rw [a2, if_neg (by decide)] at g2
      obtain ⟨l1, l2, -, -, -, l6, -, -⟩ := mt_sp (m := mLen) (by decide) (by decide)
      have l0 : sM mLen = false := rfl
      rw [l0, if_neg (by decide)] at l2
      have hk : oM m' = 11 := (k05 hpos).2.2.2.2.2 rfl
      obtain ⟨cell, o1, o2, o3⟩ := rcv_cell (t9 := oM m') (Or.inl (by rw [hk]; exact ⟨by decide, by decide⟩)) h1 h2' h3 h5 hS0 k1 hrcv
      rw [if_neg (by omega), hk] at o3
      have e := mtC_c a7
      have eL : mtC mLen = .code (yM mLen) (cM mLen) (lM mLen) (rM mLen) := mtC_c rfl
      rw [eL] at l1
      exact ⟨st.drop n, _, 3, rfl, k2, va_runU (C := sbN) (n := n - 1) (index := idx) S hM (va_cwO (Ts := GT) (owner := (yM mLen).cls) (x := yM mLen) (n - 1) hts (fun w hw => by
        unfold va_wsO at hw
        simp only [List.cons_append, List.nil_append, List.mem_cons] at hw
        rcases hw with rfl | rfl | rfl | rfl | rfl | rfl | hw
        · exact gt_good a1
        · exact gt_good a4
        · exact gt_good l2
        · exact gt_good a3
        · exact gt_good g2
        · exact gt_good g3
        · rcases hw with rfl | hw
          · exact gt_good g1
          · exact gt_good hw) (by rw [e]) rfl rfl l1 ⟨l6.1, l6.2, a5⟩ ⟨hR1, by show 8 + (lM m' + 11) + (200 + 60 * d) ≤ R.locals; omega⟩) ⟨pcm_blind, ⟨cell, o1, o2, o3⟩, hpre⟩ rfl hlen h6.1 hst (hgt_W k2 hg8) hd hf⟩
  · unfold okI at ho
    dsimp only at ho
    obtain ⟨g, ho⟩ := gd_ok ho
    obtain ⟨hd, rfl⟩ := s1_ok ho
    obtain ⟨k1, k2, k3, k4⟩ := stk h7 hn
    have hpre := pcm_of h1 h2' h3 h4 h5 hS0 hA k1
    rcases Bool.or_eq_true _ _ |>.mp g with g | g
    · rcases Bool.or_eq_true _ _ |>.mp g with g | g
      · obtain ⟨pos, hpos⟩ := isM_ok g
        obtain ⟨m1, m2, a1, a2, a3, a4⟩ := lm_row hpos
        obtain ⟨-, g2, g3, g4, g5, g6, g7, g8⟩ := mt_sp m1 m2
        rw [a2, if_pos rfl] at g2
        exact ⟨st.drop n, _, 3, rfl, k2, va_runS (n := n) (index := idx) S hM ⟨mkB m1 m2 hts a4 a3 (hts _ a1) hR1 hR2, hts _ g2⟩ ⟨pcm_blind, hpre⟩ rfl k3 h6.1 k4 (hgt_W k2 hg8) hd hf⟩
      · obtain ⟨pos, hpos⟩ := isM_ok g
        obtain ⟨m1, m2, a2, a3, a4⟩ := lm_row hpos
        obtain ⟨-, g2, g3, g4, g5, g6, g7, g8⟩ := mt_sp m1 m2
        rw [a2, if_pos rfl] at g2
        obtain ⟨-, -, -, -, -, -, -, -, -, -, s11, -⟩ := hS0
        have hlk := (s11 o _ hpos (Or.inr rfl)).use (A := args) rfl
        exact ⟨st.drop n, _, 3, rfl, k2, va_runSN (n := n) (index := idx) S hM ⟨mkN m1 m2 hts a4 a3 hlk hR1 hR2, hts _ g2, trivial⟩ ⟨pcm_blind, hpre⟩ rfl k3 h6.1 k4 (hgt_W k2 hg8) hd hf⟩
    · obtain ⟨pos, hpos⟩ := isM_ok g
      obtain ⟨m1, m2, a1, a2, a3, a4⟩ := lm_row hpos
      obtain ⟨-, g2, g3, g4, g5, g6, g7, g8⟩ := mt_sp m1 m2
      rw [a2, if_pos rfl] at g2
      exact ⟨st.drop n, _, 3, rfl, k2, vx_runSW (n := n) (index := idx) S hM (mkW m1 m2 hts a4 a3 (hts _ a1) (hts _ g2) hR1 hR2) ⟨pcm_blind, hpre⟩ rfl k3 h6.1 k4 (hgt_W k2 hg8) hd hf⟩
  · unfold okI at ho
    dsimp only at ho
    obtain ⟨g, ho⟩ := gd_ok ho
    obtain ⟨hd, rfl⟩ := s1_ok ho
    obtain ⟨k1, k2, k3, k4⟩ := stk h7 hn
    rw [hmet] at hrcv
    obtain ⟨b, As, hAs⟩ := rcv_ref k1 hrcv
    rw [hAs] at k1 k3 k4
    have hlen : As.length = n - 1 := by simp only [List.length_cons] at k3; omega
    have hpre := pcm_of h1 h2' h3 h4 h5 hS0 hA k1
    have hst : st = As.reverse ++ .ref b :: st.drop n := by rw [List.reverse_cons, List.append_assoc] at k4; exact k4
    simp only [Bool.or_eq_true] at g
    rcases g with (g | g) | g
    · obtain ⟨pos, hpos⟩ := isM_ok g
      obtain ⟨m1, m2, a1, a2, a3, a4, a5, a6, a7⟩ := lm_row hpos
      obtain ⟨-, g2, g3, g4, g5, g6, g7, g8⟩ := mt_sp m1 m2
      rw [a2, if_neg (by decide)] at g2
      have hcb := mkB (mc := mc) (ms := ms) m1 m2 hts a7 a5 (hts _ a1) hR1 hR2
      rw [a4] at hcb
      exact ⟨st.drop n, _, 3, rfl, k2, va_runI (n := n - 1) (index := idx) S hM ⟨hcb, a3, hts _ g2⟩ ⟨pcm_blind, hpre⟩ rfl hlen h6.1 hst (hgt_W k2 hg8) hd hf⟩
    · obtain ⟨pos, hpos⟩ := isM_ok g
      obtain ⟨m1, m2, a2, a3, a4, a5, a6, a7⟩ := lm_row hpos
      obtain ⟨-, g2, g3, g4, g5, g6, g7, g8⟩ := mt_sp m1 m2
      rw [a2, if_neg (by decide)] at g2
      obtain ⟨-, -, -, -, -, -, -, -, -, -, s11, -⟩ := hS0
      have hlk := (s11 o _ hpos (Or.inl rfl)).use (A := args) rfl
      have hcb := mkN (mc := mc) (ms := ms) m1 m2 hts a7 a5 hlk hR1 hR2
      rw [a4] at hcb
      exact ⟨st.drop n, _, 3, rfl, k2, va_runIN (n := n - 1) (index := idx) S hM ⟨hcb, a3, hts _ g2⟩ ⟨pcm_blind, hpre⟩ rfl hlen h6.1 hst (hgt_W k2 hg8) hd hf⟩
    · obtain ⟨pos, hpos⟩ := isM_ok g
      obtain ⟨m1, m2, a1, a2, a3, a4, a5, a6, a7, a8⟩ := lm_row hpos
      obtain ⟨g1, g2, g3, g4, g5, g6, g7, g8⟩ := mt_sp m1 m2
      rw [a2, if_neg (by decide)] at g2
      rw [(k05 hpos).2.2.2.2.1 rfl] at hrcv
      obtain ⟨cell, o1, o2, o3⟩ := rcv_cell20 h1 h2' h3 k1 hrcv
      have e := mtC_c a8
      exact ⟨st.drop n, _, 3, rfl, k2, va_runSU (C := sbN) (cC := D.1 11) (n := n - 1) (index := idx) (h3.1 11 _ (uq_at (by decide))).2 S hM (va_cwSU (Ts := GT) (n - 1) hts (fun w hw => by
        unfold va_wsSU at hw
        simp only [List.cons_append, List.nil_append, List.mem_cons] at hw
        rcases hw with rfl | rfl | rfl | rfl | rfl | hw
        · exact gt_good a1
        · exact gt_good a3
        · exact gt_good a4
        · exact gt_good g2
        · exact gt_good g3
        · rcases hw with rfl | hw
          · exact gt_good g1
          · exact gt_good hw) (by rw [e]) rfl rfl ⟨a5, a6⟩ ⟨hR1, by show 8 + (lM m' + 11) + (200 + 60 * d) ≤ R.locals; omega⟩) ⟨pcm_blind, ⟨cell, o1, o2, o3⟩, hpre⟩ rfl hlen h6.1 hst (hgt_W k2 hg8) hd hf⟩
  · unfold okI at ho
    dsimp only at ho
    obtain ⟨g, ho⟩ := gd_ok ho
    obtain ⟨hd, rfl⟩ := s1_ok ho
    obtain ⟨k1, k2, k3, k4⟩ := stk h7 hn
    rw [hmet] at hrcv
    obtain ⟨b, As, hAs⟩ := rcv_ref k1 hrcv
    rw [hAs] at k1 k3 k4
    have hlen : As.length = n - 1 := by simp only [List.length_cons] at k3; omega
    have hpre := pcm_of h1 h2' h3 h4 h5 hS0 hA k1
    have hst : st = As.reverse ++ .ref b :: st.drop n := by rw [List.reverse_cons, List.append_assoc] at k4; exact k4
    obtain ⟨pos, hpos⟩ := isM_ok g
    obtain ⟨m1, m2, a1, a2, a3, a4, a5, a6, a7⟩ := lm_row hpos
    obtain ⟨g1, g2, g3, g4, g5, g6, g7, g8⟩ := mt_sp m1 m2
    rw [a2, if_neg (by decide)] at g2
    have hk : oM m' = 0 := (k05 hpos).2.2.2.1 rfl
    obtain ⟨cell, o1, o2, o3⟩ := rcv_cell (t9 := oM m') (Or.inl (by rw [hk]; exact ⟨by decide, by decide⟩)) h1 h2' h3 h5 hS0 k1 hrcv
    rw [if_neg (by omega), hk] at o3
    obtain ⟨-, -, -, -, -, -, -, -, -, -, -, -, -, -, -, -, -, -, -, s20⟩ := hS0
    have hFw : va_Fw itN ⟨itI, (yM m').name, (yM m').desc⟩ (yM m') s := by
      rcases a7 with h | h
      · rw [h]; exact s20.2.2.2.2.2.2.1
      · rw [h]; exact s20.2.2.2.2.2.2.2
    have e := mtC_c a6
    exact ⟨st.drop n, _, 5, rfl, k2, va_runF (C := itN) (cC := D.1 0) (n := n - 1) (index := idx) (h3.1 0 _ (uq_at (by decide))).2 S hM (va_cwF (Ts := GT) (n - 1) hts (fun w hw => by
        unfold va_wsF at hw
        simp only [List.cons_append, List.nil_append, List.mem_cons] at hw
        rcases hw with rfl | rfl | rfl | rfl | hw
        · exact gt_good a1
        · exact gt_good a3
        · exact gt_good g2
        · exact gt_good g3
        · rcases hw with rfl | hw
          · exact gt_good g1
          · exact gt_good hw) (by rw [e]) rfl rfl hFw ⟨show itI ≠ _ by decide, show itI ≠ _ by decide, a4⟩ ⟨hR1, by show 8 + (lM m' + 11) + (200 + 60 * d) ≤ R.locals; omega⟩) ⟨pcm_blind, ⟨cell, o1, o2, o3⟩, hpre⟩ rfl hlen h6.1 hst (hgt_W k2 hg8) hd hf⟩
/-- a call that throws, by a caller that has a handler -/
theorem call_thr {hh : List (Nat × Nat × Nat × Nat)} (C : Cx sad G A p R s m args meth c o ini cc nL) (hR1 : d + 21 ≤ R.frames) (hR2 : 260 + 60 * d ≤ R.locals) (hG1 : G.1 = METH) (hs : mStep G B (ins, ar, v) is mls mst h = some (.inr (.inl (m', as, st2)))) (ho : okI o ini ret cc P pc (ins, ar, v) = some q) (hxi : xI o hh P pc (ins, ar, v) = true) (hlb : ar.drop 2 ≠ [])
    (h1 : rH sad ws tys h) (h2' : va_P D clsT ws H) (h3 : va_K D clsT tys s) (h4 : va_D A ws) (h5 : va_S A s.heap H locs) (h6 : rL sad ws nL mls ls) (h7 : rS sad ws mst st)
    (hM : vx_Met l (yM m') (mtC m' :: GT) (rm9 d mc ms) (PcM sad G A D ws tys h as) QcF (XcM sad A D ws ex h2) mc ms A) (hf : cells + mc ≤ R.cells ∧ slots + ms ≤ R.slots) :
    ∃ (rest : List Value) (a : Array Value), q = pc + 3 ∧ rS sad ws st2 rest ∧ vx_Run p l e R s m args below meth c H locs cells slots mc ms (F0 m pc ls st) rest (QcF a) (XcM sad A D ws ex h2) A := by
  obtain ⟨hx, hb, hml, hown, hts, hA, hS0, hini, hinj, hG, hRf, hRl⟩ := C
  have S : CallFix p m c cc nL s args GT (CN o) := ⟨hx, hb, hml, hown, hts⟩
  have hmet : ∀ m, (G.1 m).2.2 = oM m := fun m => by rw [hG1]; rfl
  rcases mStep_call hs with ⟨idx, n, lb, rfl, rfl, hn, hg8, hmar, hrcv, rfl, rfl⟩ | ⟨idx, n, lb, rfl, rfl, hn, hg8, hmar, rfl, rfl⟩ | ⟨idx, n, lb, rfl, rfl, hn, hg8, hmar, hrcv, rfl, rfl⟩ | ⟨idx, n9, n, lb, rfl, rfl, hn, hg8, hmar, hrcv, rfl, rfl⟩
  · unfold okI at ho
    dsimp only at ho
    obtain ⟨g, ho⟩ := gd_ok ho
    obtain ⟨hd, rfl⟩ := s1_ok ho
    obtain ⟨k1, k2, k3, k4⟩ := stk h7 hn
    rw [hmet] at hrcv
    obtain ⟨b, As, hAs⟩ := rcv_ref k1 hrcv
    rw [hAs] at k1 k3 k4
    have hlen : As.length = n - 1 := by simp only [List.length_cons] at k3; omega
    have hpre := pcm_of h1 h2' h3 h4 h5 hS0 hA k1
    have hst : st = As.reverse ++ .ref b :: st.drop n := by rw [List.reverse_cons, List.append_assoc] at k4; exact k4
    unfold xI at hxi
    dsimp only at hxi
    simp only [Bool.and_eq_true, Bool.or_eq_true] at hxi
    have g := hxi.1.resolve_left (fun z => hlb (by simpa using z))
    obtain ⟨pos, hpos⟩ := isM_ok g
    obtain ⟨m1, m2, a1, a2, a3, a4, a5, a6⟩ := lm_row hpos
    obtain ⟨-, g2, g3, g4, g5, g6, g7, g8⟩ := mt_sp m1 m2
    rw [a2, if_neg (by decide)] at g2
    have hne := (k05 hpos).2.1 rfl
    obtain ⟨cell, o1, o2, o3⟩ := rcv_cell (Or.inl hne) h1 h2' h3 h5 hS0 k1 hrcv
    rw [if_neg (by have := hne.2; omega), g4] at o3
    exact ⟨st.drop n, _, rfl, k2, vx_runV (C := (yM m').cls) (n := n - 1) (index := idx) S hM ⟨mkB m1 m2 hts a6 a4 (hts _ a1) hR1 hR2, hts _ g2, hts _ a3⟩ ⟨pcm_blind, ⟨cell, o1, o2, o3⟩, hpre⟩ rfl hlen h6.1 hst (hgt_W k2 hg8) hd hf⟩
  · unfold xI at hxi
    dsimp only at hxi
    exact absurd (by simpa using hxi) hlb
  · unfold xI at hxi
    dsimp only at hxi
    exact absurd (by simpa using hxi) hlb
  · unfold xI at hxi
    dsimp only at hxi
    exact absurd (by simpa using hxi) hlb
end CALL2
/-- where the table of handlers leads -/
theorem hOK_at {P : Nat → Nat} {pc ex k : Nat} : ∀ {hh : List (Nat × Nat × Nat × Nat)}, hOK P pc ex k hh = true → ∃ (pre : List ExceptionTableEntry) (x : ExceptionTableEntry) (suf : List ExceptionTableEntry), tableOf hh = pre ++ x :: suf ∧
    (∀ z ∈ pre, covers z pc = false ∨ (z.catchType ≠ 0 ∧ ∃ y, y = 0 ∧ y ≠ ex ∧ (.classLink (CN 13) z.catchType (excN y)) ∈ GT)) ∧ covers x pc = true ∧ x.catchType ≠ 0 ∧ (.classLink (CN 13) x.catchType (excN ex)) ∈ GT ∧ x.handlerPc = P k
  | [], h => by cases h
  | (a, b, c, t) :: hh, h => by
    unfold hOK at h
    split at h
    · rename_i hc
      split at h
      · rename_i x hx
        obtain ⟨h1, h2, h3⟩ := xhN_ok hx
        split at h
        · rename_i he
          subst he
          refine ⟨[], ⟨a, b, c, t⟩, tableOf hh, rfl, fun z hz => (by cases hz), ?_, h2, h1, of_decide_eq_true h⟩
          show (decide (a ≤ pc) && decide (pc < b)) = true
          rw [decide_eq_true hc.1, decide_eq_true hc.2]
          rfl
        · rename_i he
          obtain ⟨pre, y, suf, e1, e2, e3⟩ := hOK_at h
          refine ⟨⟨a, b, c, t⟩ :: pre, y, suf, by show _ :: tableOf hh = _; rw [e1]; rfl, fun z hz => ?_, e3⟩
          rcases List.mem_cons.mp hz with rfl | hz
          · exact Or.inr ⟨h2, x, xhN_0 hx, he, h1⟩
          · exact e2 z hz
      · cases h
    · rename_i hc
      obtain ⟨pre, y, suf, e1, e2, e3⟩ := hOK_at h
      refine ⟨⟨a, b, c, t⟩ :: pre, y, suf, by show _ :: tableOf hh = _; rw [e1]; rfl, fun z hz => ?_, e3⟩
      rcases List.mem_cons.mp hz with rfl | hz
      · refine Or.inl ?_
        show (decide (a ≤ pc) && decide (pc < b)) = false
        by_cases h1 : a ≤ pc
        · by_cases h2 : pc < b
          · exact absurd ⟨h1, h2⟩ hc
          · rw [decide_eq_false h2, Bool.and_false]
        · rw [decide_eq_false h1, Bool.false_and]
      · exact e2 z hz
