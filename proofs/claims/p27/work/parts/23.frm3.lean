/-! ===== THE FRAME: a run of the small machine from a place is a run of the large one ===== -/
section NXT
variable {p : Program} {l : Launch} {e : Env} {R : Room} {s : State} {m : MethodId} {args : Array Value} {below : List Frame} {meth : Method} {c : Code} {H : Heap} {locs : List Loc} {cells slots : Nat} {Q : State → Prop}
variable {cc : ByteArray} {pc nL q : Nat} {D : va_G} {A : Nat → Prop} {sad : Nat → Nat} {ws0 : va_W} {mls mst mls2 mst2 : List MV} {h h2 : MH} {ls : Array Slot} {st : List Value}
variable {o : Nat} {ini : Bool} {ret : Option FieldType} {B : Nat → List MI} {P : Nat → Nat} {G : MG} {is is2 : List MI} {ar : List Nat} {v : Int}
theorem nx_dyn {k : Nat} (C : Cx sad G A p R s m args meth c o ini cc nL) (hs : mStep G B (.invokedynamic k, ar, v) is mls mst h = some (.inl (is2, mls2, mst2, h2))) (ho : okI o ini ret cc P pc (.invokedynamic k, ar, v) = some q) (hF : Fr D clsT A sad ws0 s nL H locs mls mst h ls st) (hr1 : cells + h2.2.2.1 ≤ R.cells + h.2.2.1) (hr2 : slots + h2.2.2.2 ≤ R.slots + h.2.2.2) (kk : Nxt D A sad ws0 B P is q p l e R s m args below meth c cells slots Q nL h is2 mls2 mst2 h2) : W p l e R s m args below meth c H locs cells slots Q (F0 m pc ls st) := by
  match k, hs, ho with
  | 0, hs, ho => exact nx_copy C hs ho hF hr1 hr2 kk
  | 1, hs, ho => exact nx_max C hs ho hF hr1 hr2 kk
  | 2, hs, ho => exact nx_min C hs ho hF hr1 hr2 kk
  | 3, hs, ho =>
    rw [mS_d3] at hs
    split at hs
    · split at hs <;> cases hs
    · cases hs
  | 4, hs, ho => exact nx_fall C hs ho hF hr1 hr2 kk
  | 5, hs, ho => exact nx_oinit C hs ho hF hr1 hr2 kk
  | 6, hs, ho => exact nx_clone C hs ho hF hr1 hr2 kk
  | 7, hs, ho => exact nx_getC C hs ho hF hr1 hr2 kk
  | 8, hs, ho => exact nx_ldcM C hs ho hF hr1 hr2 kk
  | k + 9, hs, ho =>
    change none = _ at hs
    cases hs
theorem nx_acmp {w : ACond} {off : Int} (C : Cx sad G A p R s m args meth c o ini cc nL) (hs : mStep G B (.if_acmp w off, ar, v) is mls mst h = some (.inl (is2, mls2, mst2, h2))) (ho : okI o ini ret cc P pc (.if_acmp w off, ar, v) = some q) (hF : Fr D clsT A sad ws0 s nL H locs mls mst h ls st) (hr1 : cells + h2.2.2.1 ≤ R.cells + h.2.2.1) (hr2 : slots + h2.2.2.2 ≤ R.slots + h.2.2.2) (kk : Nxt D A sad ws0 B P is q p l e R s m args below meth c cells slots Q nL h is2 mls2 mst2 h2) : W p l e R s m args below meth c H locs cells slots Q (F0 m pc ls st) := by
  cases w
  · exact nx_acmp_eq C hs ho hF hr1 hr2 kk
  · exact nx_acmp_ne C hs ho hF hr1 hr2 kk
theorem nx_fail {i : MI} {r : List MI × List MV × List MV × MH} (hn : mStep G B i is mls mst h = none) (hs : mStep G B i is mls mst h = some (.inl r)) : False := by
  rw [hn] at hs
  cases hs
theorem nxt {ins : Instr} (C : Cx sad G A p R s m args meth c o ini cc nL) (hs : mStep G B (ins, ar, v) is mls mst h = some (.inl (is2, mls2, mst2, h2))) (ho : okI o ini ret cc P pc (ins, ar, v) = some q) (hF : Fr D clsT A sad ws0 s nL H locs mls mst h ls st) (hr1 : cells + h2.2.2.1 ≤ R.cells + h.2.2.1) (hr2 : slots + h2.2.2.2 ≤ R.slots + h.2.2.2) (kk : Nxt D A sad ws0 B P is q p l e R s m args below meth c cells slots Q nL h is2 mls2 mst2 h2) : W p l e R s m args below meth c H locs cells slots Q (F0 m pc ls st) := by
  cases ins with
  | iadd => exact nx_iadd C hs ho hF hr1 hr2 kk
  | isub => exact nx_isub C hs ho hF hr1 hr2 kk
  | imul => exact nx_imul C hs ho hF hr1 hr2 kk
  | ineg => exact nx_ineg C hs ho hF hr1 hr2 kk
  | iand => exact nx_iand C hs ho hF hr1 hr2 kk
  | ior => exact nx_ior C hs ho hF hr1 hr2 kk
  | ishr => exact nx_ishr C hs ho hF hr1 hr2 kk
  | ishl => exact nx_ishl C hs ho hF hr1 hr2 kk
  | dup_x1 => exact nx_dup_x1 C hs ho hF hr1 hr2 kk
  | aconst_null => exact nx_null C hs ho hF hr1 hr2 kk
  | ifnull _ => exact nx_ifnull C hs ho hF hr1 hr2 kk
  | ifnonnull _ => exact nx_ifnonnull C hs ho hF hr1 hr2 kk
  | checkcast _ => exact nx_cast C hs ho hF hr1 hr2 kk
  | invokeinterface _ _ => exfalso; unfold mStep at hs; dsimp only at hs; split at hs <;> first | (cases hs; done) | (split at hs <;> cases hs)
  | iushr => exact nx_iushr C hs ho hF hr1 hr2 kk
  | i2b => exact nx_i2b C hs ho hF hr1 hr2 kk
  | i2c => exact nx_i2c C hs ho hF hr1 hr2 kk
  | i2l => exact nx_i2l C hs ho hF hr1 hr2 kk
  | ladd => exact nx_ladd C hs ho hF hr1 hr2 kk
  | lmul => exact nx_lmul C hs ho hF hr1 hr2 kk
  | lcmp => exact nx_lcmp C hs ho hF hr1 hr2 kk
  | i2d => exact nx_i2d C hs ho hF hr1 hr2 kk
  | idiv => exact nx_idiv C hs ho hF hr1 hr2 kk
  | irem => exact nx_irem C hs ho hF hr1 hr2 kk
  | ddiv => exact nx_ddiv C hs ho hF hr1 hr2 kk
  | dup => exact nx_dup C hs ho hF hr1 hr2 kk
  | pop => exact nx_pop C hs ho hF hr1 hr2 kk
  | dup2 => exact nx_dup2 C hs ho hF hr1 hr2 kk
  | iaload => exact nx_iaload C hs ho hF hr1 hr2 kk
  | baload => exact nx_baload C hs ho hF hr1 hr2 kk
  | laload => exact nx_laload C hs ho hF hr1 hr2 kk
  | aaload => exact nx_aaload C hs ho hF hr1 hr2 kk
  | iastore => exact nx_iastore C hs ho hF hr1 hr2 kk
  | lastore => exact nx_lastore C hs ho hF hr1 hr2 kk
  | bastore => exact nx_bastore C hs ho hF hr1 hr2 kk
  | aastore => exact nx_aastore C hs ho hF hr1 hr2 kk
  | sipush _ => exact nx_sipush C hs ho hF hr1 hr2 kk
  | lconst _ => exact nx_lconst C hs ho hF hr1 hr2 kk
  | dconst _ => exact nx_dconst C hs ho hF hr1 hr2 kk
  | iload _ => exact nx_iload C hs ho hF hr1 hr2 kk
  | lload _ => exact nx_lload C hs ho hF hr1 hr2 kk
  | dload _ => exact nx_dload C hs ho hF hr1 hr2 kk
  | aload _ => exact nx_aload C hs ho hF hr1 hr2 kk
  | istore _ => exact nx_istore C hs ho hF hr1 hr2 kk
  | lstore _ => exact nx_lstore C hs ho hF hr1 hr2 kk
  | dstore _ => exact nx_dstore C hs ho hF hr1 hr2 kk
  | astore _ => exact nx_astore C hs ho hF hr1 hr2 kk
  | goto _ => exact nx_goto C hs ho hF hr1 hr2 kk
  | ldc _ => exact nx_ldc C hs ho hF hr1 hr2 kk
  | getstatic _ => exact nx_getstatic C hs ho hF hr1 hr2 kk
  | getfield _ => exact nx_getfield C hs ho hF hr1 hr2 kk
  | putfield _ => exact nx_putfield C hs ho hF hr1 hr2 kk
  | newarray _ => exact nx_newarray C hs ho hF hr1 hr2 kk
  | new _ => exact nx_new C hs ho hF hr1 hr2 kk
  | anewarray _ => exact nx_anewarray C hs ho hF hr1 hr2 kk
  | dcmp _ => exact nx_dcmp C hs ho hF hr1 hr2 kk
  | ldc2_w _ => exact nx_ldc2 C hs ho hF hr1 hr2 kk
  | iinc _ _ => exact nx_iinc C hs ho hF hr1 hr2 kk
  | ifCond _ _ => exact nx_ifCond C hs ho hF hr1 hr2 kk
  | if_icmp _ _ => exact nx_if_icmp C hs ho hF hr1 hr2 kk
  | if_acmp _ _ => exact nx_acmp C hs ho hF hr1 hr2 kk
  | arraylength => exact nx_alen C hs ho hF hr1 hr2 kk
  | multianewarray _ _ => exact nx_mna C hs ho hF hr1 hr2 kk
  | tableswitch _ _ _ _ => exact nx_tsw C hs ho hF hr1 hr2 kk
  | lookupswitch _ _ => exact nx_lsw C hs ho hF hr1 hr2 kk
  | invokedynamic _ => exact nx_dyn C hs ho hF hr1 hr2 kk
  | invokevirtual _ => exfalso; unfold mStep at hs; dsimp only at hs; split at hs <;> first | (cases hs; done) | (split at hs <;> cases hs)
  | invokestatic _ => exfalso; unfold mStep at hs; dsimp only at hs; split at hs <;> first | (cases hs; done) | (split at hs <;> cases hs)
  | invokespecial _ => exfalso; unfold mStep at hs; dsimp only at hs; split at hs <;> first | (cases hs; done) | (split at hs <;> cases hs)
  | ireturn => exfalso; unfold mStep at hs; dsimp only at hs; split at hs <;> first | (cases hs; done) | (split at hs <;> cases hs)
  | lreturn => exfalso; unfold mStep at hs; dsimp only at hs; split at hs <;> cases hs
  | dreturn => exfalso; unfold mStep at hs; dsimp only at hs; split at hs <;> cases hs
  | areturn => exfalso; unfold mStep at hs; dsimp only at hs; split at hs <;> first | (cases hs; done) | (split at hs <;> cases hs)
  | return_ => exfalso; unfold mStep at hs; dsimp only at hs; split at hs <;> cases hs
  | _ => exact (nx_fail rfl hs).elim
end NXT
/-- a callee's contract at this fuel -/
def CT (l : Launch) (sad : Nat → Nat) (G : MG) (A : Nat → Prop) (D : va_G) (n : Nat) : Prop := ∀ (d m : Nat) (as : List MV) (h : MH) (og : (Option MV ⊕ Nat) × MH), m < 288 → m ≠ 269 → (margs as).length ≤ lM m → mRun G n d (bp m).1 ((bp m).1 0) (mpad (lM m) (margs as)) [] h = some og → Ctr l sad G A D d m as h og
/-- how a frame ends -/
def End (G : MG) (D : va_G) (A : Nat → Prop) (sad : Nat → Nat) (ws0 : va_W) (B : Nat → List MI) (P : Nat → Nat) (p : Program) (l : Launch) (e : Env) (R : Room) (s : State) (m : MethodId) (args : Array Value) (below : List Frame) (meth : Method) (c : Code) (o : Nat) (ini : Bool) (ret : Option FieldType) (cc : ByteArray) (hh : List (Nat × Nat × Nat × Nat)) (nL c0 s0 : Nat) (Q : State → Prop) (og : (Option MV ⊕ Nat) × MH) : Prop :=
  ∀ (i : MI) (is : List MI) (pc q : Nat) (mls mst : List MV) (h : MH) (r : Option MV ⊕ Nat) (H : Heap) (locs : List Loc) (ls : Array Slot) (st : List Value) (cells slots : Nat), mStep G B i is mls mst h = some (.inr (.inr r)) → okI o ini ret cc P pc i = some q → xI o hh P pc i = true → Fr D clsT A sad ws0 s nL H locs mls mst h ls st → cells + c0 = h.2.2.1 → slots + s0 = h.2.2.2 →
    og = (match r with | .inl v => (.inl v, h) | .inr e => (.inr e, (h.1, h.2.1, h.2.2.1 + 1, h.2.2.2 + 6))) → W p l e R s m args below meth c H locs cells slots Q (F0 m pc ls st)
theorem frm {p : Program} {l : Launch} {e : Env} {R : Room} {s : State} {m : MethodId} {args : Array Value} {below : List Frame} {meth : Method} {c : Code} {Q : State → Prop} {cc : ByteArray} {nL : Nat} {D : va_G} {A : Nat → Prop} {sad : Nat → Nat} {ws0 : va_W} {o : Nat} {ini : Bool} {ret : Option FieldType} {B : Nat → List MI} {P : Nat → Nat} {G : MG} {hh : List (Nat × Nat × Nat × Nat)} {c0 s0 : Nat} {og : (Option MV ⊕ Nat) × MH}
    (C : Cx sad G A p R s m args meth c o ini cc nL) (hG1 : G.1 = METH) (hex : hh ≠ [] → c.exceptionTable.toList = tableOf hh) (hB : ∀ k, okF o ini ret cc P (P k) (B k) = true) (hX : ∀ k, xF o ini ret cc hh P (P k) (B k) = true) (hm1 : og.2.2.2.1 ≤ R.cells + c0) (hm2 : og.2.2.2.2 ≤ R.slots + s0)
    (kend : End G D A sad ws0 B P p l e R s m args below meth c o ini ret cc hh nL c0 s0 Q og) :
    ∀ n, (∀ n', n' < n → CT l sad G A D n') → ∀ (d : Nat) (is : List MI) (mls mst : List MV) (h : MH) (pc : Nat) (H : Heap) (locs : List Loc) (ls : Array Slot) (st : List Value) (cells slots : Nat), d + 20 ≤ R.frames → 200 + 60 * d ≤ R.locals → mRun G n d B is mls mst h = some og → okF o ini ret cc P pc is = true → xF o ini ret cc hh P pc is = true → Fr D clsT A sad ws0 s nL H locs mls mst h ls st → cells + c0 = h.2.2.1 → slots + s0 = h.2.2.2 → W p l e R s m args below meth c H locs cells slots Q (F0 m pc ls st) := by
  intro n
  induction n with
  | zero => intro _ d is mls mst h pc H locs ls st cells slots _ _ hr; unfold mRun at hr; cases hr
  | succ n ih =>
    intro hCT d is mls mst h pc H locs ls st cells slots hd1 hd2 hr hok hxk hF hc hs
    have ih := ih (fun n' hn => hCT n' (by omega))
    cases is with
    | nil => unfold mRun at hr; cases hr
    | cons i is =>
      obtain ⟨ins, ar, v⟩ := i
      unfold okF at hok
      unfold xF at hxk
      simp only [Bool.and_eq_true] at hxk
      obtain ⟨hxi, hxk⟩ := hxk
      split at hok
      · rename_i q hq
        rw [hq] at hxk
        dsimp only at hxk
        unfold mRun at hr
        split at hr
        · cases hr
        · rename_i is2 mls2 mst2 h2 hms
          have hgr := mRun_grow hr
          refine nxt C hms hq hF (by omega) (by omega) (fun pc2 H2 locs2 ls2 st2 cells2 slots2 hpc hF2 e1 e2 => ?_)
          rcases hpc with ⟨rfl, rfl⟩ | ⟨k, rfl, rfl⟩
          · exact ih d _ _ _ _ _ _ _ _ _ _ _ hd1 hd2 hr hok hxk hF2 (by omega) (by omega)
          · exact ih d _ _ _ _ _ _ _ _ _ _ _ hd1 hd2 hr (hB k) (hX k) hF2 (by omega) (by omega)
        · rename_i m' as st2 hms
          cases d with
          | zero => cases hr
          | succ d =>
            dsimp only at hr
            obtain ⟨m1, m2, m3⟩ := call_who hms hq
            have hct := hCT n (by omega)
            split at hr
            · cases hr
            · rename_i r h2 hcall
              have g1 := mRun_grow hcall
              have g2 := mRun_grow hr
              rw [hG1] at hcall m3
              dsimp only at g1 g2
              obtain ⟨ws, tys, f1, f2, f3, f4, f5, f6, f7, f8⟩ := hF
              have hM := hct d m' as h _ m1 m2 m3 hcall ws tys
              have hf : cells + (h2.2.2.1 - h.2.2.1) ≤ R.cells ∧ slots + (h2.2.2.2 - h.2.2.2) ≤ R.slots := ⟨by omega, by omega⟩
              obtain ⟨rest, a, k9, rfl, i1, i2⟩ := call_run C (d := d) (by omega) (by omega) hG1 hms hq f1 f2 f3 f4 f5 f6 f7 hM hf
              exact run_ret i2 f5 f6 i1 f8 (fun H2 locs2 st3 hF2 => ih (d + 1) _ _ _ _ _ _ _ _ _ _ _ hd1 hd2 hr hok hxk hF2 (by omega) (by omega))
            · rename_i ex h2 hcall
              have g1 := mRun_grow hcall
              rw [hG1] at hcall m3
              dsimp only at g1
              have go : ∀ k1, ex < 3 → o = 13 → hOK P pc ex k1 hh = true → ar.drop 2 ≠ [] → mRun G n (d + 1) B (B k1) mls [qS 999] h2 = some og → W p l e R s m args below meth c H locs cells slots Q (F0 m pc ls st) := by
                intro k1 hex3 ho13 hok1 hlb hr2
                have hCC := C
                obtain ⟨hx, hb, hml, hown, hts, hA, hS0, hini, hinj, hG, hRf, hRl⟩ := hCC
                obtain ⟨-, -, -, -, -, -, -, -, -, -, -, -, -, -, -, -, s17, s18, -⟩ := hS0
                have g2 := mRun_grow hr2
                skip
                obtain ⟨ws, tys, f1, f2, f3, f4, f5, f6, f7, f8⟩ := hF
                have hM := hct d m' as h _ m1 m2 m3 hcall ws tys
                have hf : cells + (h2.2.2.1 - h.2.2.1) ≤ R.cells ∧ slots + (h2.2.2.2 - h.2.2.2) ≤ R.slots := ⟨by omega, by omega⟩
                obtain ⟨rest, a, hq3, i1, hrun⟩ := call_thr C (d := d) (by omega) (by omega) hG1 hms hq hxi hlb f1 f2 f3 f4 f5 f6 f7 hM hf
                obtain ⟨pre, x, suf, j1, j2, j3, j4, j5, j6⟩ := hOK_at hok1
                refine run_thr hrun f5 f6 f8 (fun H2 locs2 q ce hF2 hce hcv hcl => ?_)
                refine vx_catch (own := CN o) (name := excN ex) (E := excN ex) hown pre x suf ((hex (fun z => by rw [z] at hok1; cases hok1)).trans j1) (fun z hz => ?_) j3 j4 (by rw [ho13]; exact hts _ j5) ((s17 ex hex3).use rfl) hce hcv hcl ?_
                · rcases j2 z hz with h | ⟨h, y, y1, y2, y3⟩
                  · exact Or.inl h
                  · exact Or.inr ⟨h, excN y, by rw [ho13]; exact hts _ y3, s18 ex y hex3 (by omega) (fun z => y2 z.symm) y1⟩
                · rw [j6]
                  exact ih (d + 1) _ _ _ _ _ _ _ _ _ _ _ hd1 hd2 hr2 (hB k1) (hX k1) hF2 (by omega) (by omega)
              have hxl : xL o hh P pc (ar.drop 2) = true ∨ ar.drop 2 = [] := by
                rcases mStep_call hms with ⟨idx, n9, lb, rfl, rfl, -⟩ | ⟨idx, n9, lb, rfl, rfl, -⟩ | ⟨idx, n9, lb, rfl, rfl, -⟩ | ⟨idx, n8, n9, lb, rfl, rfl, -⟩
                · unfold xI at hxi
                  dsimp only at hxi
                  simp only [Bool.and_eq_true] at hxi
                  exact Or.inl hxi.2
                · unfold xI at hxi
                  dsimp only at hxi
                  exact Or.inr (by simpa using hxi)
                · unfold xI at hxi
                  dsimp only at hxi
                  exact Or.inr (by simpa using hxi)
                · unfold xI at hxi
                  dsimp only at hxi
                  exact Or.inr (by simpa using hxi)
              rcases hxl with hxl | hxl
              · split at hr
                · rename_i e1 k1 l9 hl9
                  skip
                  rw [hl9] at hxl go
                  match l9, hxl with
                  | [], hxl =>
                    unfold xL at hxl
                    simp only [Bool.and_eq_true, decide_eq_true_eq, beq_iff_eq] at hxl
                    split at hr
                    · rename_i he
                      subst he
                      exact go k1 hxl.1.2 hxl.1.1 hxl.2 (by simp) hr
                    · cases hr
                  | [e2, k2], hxl =>
                    unfold xL at hxl
                    simp only [Bool.and_eq_true, decide_eq_true_eq, beq_iff_eq] at hxl
                    split at hr
                    · rename_i he
                      subst he
                      exact go k1 hxl.1.1.1.2 hxl.1.1.1.1 hxl.1.1.2 (by simp) hr
                    · dsimp only at hr
                      split at hr
                      · rename_i he
                        subst he
                        exact go k2 hxl.1.2 hxl.1.1.1.1 hxl.2 (by simp) hr
                      · cases hr
                  | [_], hxl => cases hxl
                  | _ :: _ :: _ :: _, hxl => cases hxl
                · cases hr
              · split at hr
                · rename_i e1 k1 l9 hl9
                  skip
                  rw [hxl] at hl9
                  cases hl9
                · cases hr
        · rename_i r hms
          cases hr
          exact kend _ _ _ _ _ _ _ _ _ _ _ _ _ _ hms hq hxi hF hc hs rfl
        · rename_i ex hms
          cases hr
          exact kend _ _ _ _ _ _ _ _ _ _ _ _ _ _ hms hq hxi hF hc hs rfl
      · cases hok
