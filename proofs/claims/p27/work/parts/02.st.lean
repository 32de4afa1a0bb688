/-! ===== THE RULES OF THE SMALL MACHINE ===== -/
theorem mRun_succ {G : MG} : ∀ (n d : Nat) (B : Nat → List MI) (is : List MI) (ls st : List MV) (h : MH) (o : (Option MV ⊕ Nat) × MH), mRun G n d B is ls st h = some o → mRun G (n + 1) d B is ls st h = some o := by
  intro n
  induction n with
  | zero => intro d B is ls st h o hh; simp [mRun] at hh
  | succ n ih =>
    intro d B is ls st h o hh
    cases is with
    | nil => simp [mRun] at hh
    | cons i is =>
      unfold mRun at hh ⊢
      cases hs : mStep G B i is ls st h with
      | none => rw [hs] at hh; cases hh
      | some x =>
        rw [hs] at hh
        rcases x with ⟨is2, ls2, st2, h2⟩ | ⟨m, as, st2⟩ | v | e
        · exact ih _ _ _ _ _ _ _ hh
        · cases d with
          | zero => cases hh
          | succ d =>
            dsimp only at hh ⊢
            cases hr : mRun G n d (G.1 m).1 ((G.1 m).1 0) (mpad (G.1 m).2.1 (margs as)) [] h with
            | none => rw [hr] at hh; cases hh
            | some w =>
              rw [hr] at hh
              rw [ih _ _ _ _ _ _ _ hr]
              rcases w with ⟨v | e, h2⟩
              · exact ih _ _ _ _ _ _ _ hh
              · dsimp only at hh ⊢
                split at hh
                · split at hh
                  · rename_i he; rw [if_pos he]; exact ih _ _ _ _ _ _ _ hh
                  · rename_i he
                    rw [if_neg he]
                    split at hh
                    · split at hh
                      · rename_i he2; rw [if_pos he2]; exact ih _ _ _ _ _ _ _ hh
                      · cases hh
                    · cases hh
                · cases hh
        · exact hh
        · exact hh
theorem mRun_mono {G : MG} {n n' d : Nat} {B : Nat → List MI} {is : List MI} {ls st : List MV} {h : MH} {o : (Option MV ⊕ Nat) × MH} (hn : n ≤ n') (hh : mRun G n d B is ls st h = some o) : mRun G n' d B is ls st h = some o := by
  induction hn with
  | refl => exact hh
  | step _ ih => exact mRun_succ _ _ _ _ _ _ _ _ ih
theorem mRun_deep {G : MG} : ∀ (n d : Nat) (B : Nat → List MI) (is : List MI) (ls st : List MV) (h : MH) (o : (Option MV ⊕ Nat) × MH), mRun G n d B is ls st h = some o → mRun G n (d + 1) B is ls st h = some o := by
  intro n
  induction n with
  | zero => intro d B is ls st h o hh; simp [mRun] at hh
  | succ n ih =>
    intro d B is ls st h o hh
    cases is with
    | nil => simp [mRun] at hh
    | cons i is =>
      unfold mRun at hh ⊢
      cases hs : mStep G B i is ls st h with
      | none => rw [hs] at hh; cases hh
      | some x =>
        rw [hs] at hh
        rcases x with ⟨is2, ls2, st2, h2⟩ | ⟨m, as, st2⟩ | v | e
        · exact ih _ _ _ _ _ _ _ hh
        · cases d with
          | zero => cases hh
          | succ d =>
            dsimp only at hh ⊢
            cases hr : mRun G n d (G.1 m).1 ((G.1 m).1 0) (mpad (G.1 m).2.1 (margs as)) [] h with
            | none => rw [hr] at hh; cases hh
            | some w =>
              rw [hr] at hh
              rw [ih _ _ _ _ _ _ _ hr]
              rcases w with ⟨v | e, h2⟩
              · exact ih _ _ _ _ _ _ _ hh
              · dsimp only at hh ⊢
                split at hh
                · split at hh
                  · rename_i he; rw [if_pos he]; exact ih _ _ _ _ _ _ _ hh
                  · rename_i he
                    rw [if_neg he]
                    split at hh
                    · split at hh
                      · rename_i he2; rw [if_pos he2]; exact ih _ _ _ _ _ _ _ hh
                      · cases hh
                    · cases hh
                · cases hh
        · exact hh
        · exact hh
theorem mRun_up {G : MG} {n n' d d' : Nat} {B : Nat → List MI} {is : List MI} {ls st : List MV} {h : MH} {o : (Option MV ⊕ Nat) × MH} (hn : n ≤ n') (hd : d ≤ d') (hh : mRun G n d B is ls st h = some o) : mRun G n' d' B is ls st h = some o := by
  have h2 : mRun G n d' B is ls st h = some o := by
    induction hd with
    | refl => exact hh
    | step _ ih => exact mRun_deep _ _ _ _ _ _ _ _ ih
  exact mRun_mono hn h2
theorem St.up {G : MG} {d d' : Nat} {B : Nat → List MI} {is : List MI} {ls st : List MV} {h : MH} {o : (Option MV ⊕ Nat) × MH} (hd : d ≤ d') (hh : St G d B is ls st h o) : St G d' B is ls st h o := by
  obtain ⟨n, hn⟩ := hh
  exact ⟨n, mRun_up (Nat.le_refl _) hd hn⟩
theorem Ev.up {G : MG} {d d' m : Nat} {as : List MV} {h : MH} {o : (Option MV ⊕ Nat) × MH} (hd : d ≤ d') (hh : Ev G d m as h o) : Ev G d' m as h o := St.up hd hh
/-- behind a call -/
def Co (G : MG) (d : Nat) (B : Nat → List MI) (ex : List Nat) (is : List MI) (ls st : List MV) (r : Option MV ⊕ Nat) (h : MH) (o : (Option MV ⊕ Nat) × MH) : Prop := match r with
  | .inl v => St G d B is ls (v.toList ++ st) h o
  | .inr e => match ex with
    | e1 :: k1 :: l => if e = e1 then St G d B (B k1) ls [qS 999] h o else match l with
      | e2 :: k2 :: _ => if e = e2 then St G d B (B k2) ls [qS 999] h o else False
      | _ => False
    | _ => False
/-- at a call -/
def Cl (G : MG) (d : Nat) (B : Nat → List MI) (ex : List Nat) (is : List MI) (ls : List MV) (m : Nat) (as st : List MV) (h : MH) (o : (Option MV ⊕ Nat) × MH) : Prop :=
  ∃ (d' : Nat) (r : Option MV ⊕ Nat) (h2 : MH), d' < d ∧ Ev G d' m as h (r, h2) ∧ Co G d B ex is ls st r h2 o
/-- at what a step comes to -/
def SC (G : MG) (d : Nat) (B : Nat → List MI) (ex : List Nat) (is : List MI) (ls : List MV) (h : MH) (x : Option MS) (o : (Option MV ⊕ Nat) × MH) : Prop := match x with
  | none => False
  | some (.inl (is2, ls2, st2, h2)) => St G d B is2 ls2 st2 h2 o
  | some (.inr (.inl (m, as, st2))) => Cl G d B ex is ls m as st2 h o
  | some (.inr (.inr (.inl v))) => o = (.inl v, h)
  | some (.inr (.inr (.inr e))) => o = (.inr e, (h.1, h.2.1, h.2.2.1 + 1, h.2.2.2 + 6))
theorem St_cons {G : MG} {d : Nat} {B : Nat → List MI} {i : MI} {is : List MI} {ls st : List MV} {h : MH} {o : (Option MV ⊕ Nat) × MH} : St G d B (i :: is) ls st h o = SC G d B (i.2.1.drop 2) is ls h (mStep G B i is ls st h) o := by
  apply propext
  constructor
  · rintro ⟨n, hn⟩
    cases n with
    | zero => simp [mRun] at hn
    | succ n =>
      unfold mRun at hn
      unfold SC
      cases hs : mStep G B i is ls st h with
      | none => rw [hs] at hn; cases hn
      | some x =>
        rw [hs] at hn
        rcases x with ⟨is2, ls2, st2, h2⟩ | ⟨m, as, st2⟩ | v | e
        · exact ⟨n, hn⟩
        · cases d with
          | zero => cases hn
          | succ d =>
            dsimp only at hn ⊢
            cases hr : mRun G n d (G.1 m).1 ((G.1 m).1 0) (mpad (G.1 m).2.1 (margs as)) [] h with
            | none => rw [hr] at hn; cases hn
            | some w =>
              rw [hr] at hn
              refine ⟨d, w.1, w.2, Nat.lt_succ_self d, ⟨n, hr⟩, ?_⟩
              rcases w with ⟨v | e, h2⟩
              · exact ⟨n, hn⟩
              · unfold Co
                dsimp only at hn ⊢
                split at hn
                · rename_i heq
                  rw [heq]
                  dsimp only
                  split at hn
                  · rename_i he; rw [if_pos he]; exact ⟨n, hn⟩
                  · rename_i he
                    rw [if_neg he]
                    split at hn
                    · split at hn
                      · rename_i he2; dsimp only; rw [if_pos he2]; exact ⟨n, hn⟩
                      · cases hn
                    · cases hn
                · cases hn
        · exact (Option.some.inj hn).symm
        · exact (Option.some.inj hn).symm
  · intro hh
    unfold SC at hh
    cases hs : mStep G B i is ls st h with
    | none => rw [hs] at hh; exact hh.elim
    | some x =>
      rw [hs] at hh
      rcases x with ⟨is2, ls2, st2, h2⟩ | ⟨m, as, st2⟩ | v | e
      · obtain ⟨n, hn⟩ := hh
        refine ⟨n + 1, ?_⟩
        unfold mRun
        rw [hs]
        exact hn
      · obtain ⟨d', r, h2, hd, ⟨n1, hr⟩, hc⟩ := hh
        cases d with
        | zero => exact absurd hd (Nat.not_lt_zero _)
        | succ d =>
          have hr2 : mRun G n1 d (G.1 m).1 ((G.1 m).1 0) (mpad (G.1 m).2.1 (margs as)) [] h = some (r, h2) := mRun_up (Nat.le_refl _) (Nat.le_of_lt_succ hd) hr
          unfold Co at hc
          rcases r with v | e
          · obtain ⟨n2, hn⟩ := hc
            refine ⟨max n1 n2 + 1, ?_⟩
            unfold mRun
            rw [hs]
            dsimp only
            rw [mRun_mono (Nat.le_max_left n1 n2) hr2]
            exact mRun_mono (Nat.le_max_right n1 n2) hn
          · dsimp only at hc
            split at hc
            · rename_i e1 k1 l heq
              split at hc
              · rename_i he
                obtain ⟨n2, hn⟩ := hc
                refine ⟨max n1 n2 + 1, ?_⟩
                unfold mRun
                rw [hs]
                dsimp only
                rw [mRun_mono (Nat.le_max_left n1 n2) hr2]
                dsimp only
                rw [heq]
                dsimp only
                rw [if_pos he]
                exact mRun_mono (Nat.le_max_right n1 n2) hn
              · rename_i he
                split at hc
                · split at hc
                  · rename_i he2
                    obtain ⟨n2, hn⟩ := hc
                    refine ⟨max n1 n2 + 1, ?_⟩
                    unfold mRun
                    rw [hs]
                    dsimp only
                    rw [mRun_mono (Nat.le_max_left n1 n2) hr2]
                    dsimp only
                    rw [heq]
                    dsimp only
                    rw [if_neg he, if_pos he2]
                    exact mRun_mono (Nat.le_max_right n1 n2) hn
                  · exact hc.elim
                · exact hc.elim
            · exact hc.elim
      · refine ⟨1, ?_⟩
        unfold mRun
        rw [hs]
        exact congrArg some hh.symm
      · refine ⟨1, ?_⟩
        unfold mRun
        rw [hs]
        exact congrArg some hh.symm
theorem Cl_ret {G : MG} {d d' : Nat} {B : Nat → List MI} {ex : List Nat} {is : List MI} {ls : List MV} {m : Nat} {as st : List MV} {h h2 : MH} {v : Option MV} {o : (Option MV ⊕ Nat) × MH} (hE : Ev G d' m as h (.inl v, h2)) (hd : d' < d) (k : St G d B is ls (v.toList ++ st) h2 o) : Cl G d B ex is ls m as st h o := ⟨d', _, h2, hd, hE, k⟩
theorem Cl_thr {G : MG} {d d' : Nat} {B : Nat → List MI} {ex : List Nat} {is : List MI} {ls : List MV} {m : Nat} {as st : List MV} {h h2 : MH} {e : Nat} {o : (Option MV ⊕ Nat) × MH} (hE : Ev G d' m as h (.inr e, h2)) (hd : d' < d) (k : Co G d B ex is ls st (.inr e) h2 o) : Cl G d B ex is ls m as st h o := ⟨d', _, h2, hd, hE, k⟩
