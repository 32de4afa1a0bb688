/-! ===== THE LAW'S START ===== -/
theorem lawD {s : State} {args : Array Value} (hts : ∀ w ∈ lw_tbl, w.before args s = true) : ∃ D : va_G, va_K D clsT [] s := by
  have h0 : ∀ ci : Nat, ∃ q : ClassId × (Nat → Nat), ci < 15 → u_Kn s (uQ ci).1 (uQ ci).2.1 (uQ ci).2.2 q.1 q.2 := by
    intro ci
    by_cases hci : ci < 15
    · have hgt : ∀ w ∈ GT, w.before args s = true := gt_all hts
      have hin := (cls_ok ci (uQ ci) (uq_at hci)).1
      have hi : ∃ n, (Cond.instantiable (uQ ci).1 n).before args s = true := by
        by_cases c2 : mdC ci = true
        · have h1 := ci_all ci hci c2
          unfold ciOK at h1
          simp only [Bool.and_eq_true] at h1
          exact ⟨_, hgt _ (inT_ok h1.1)⟩
        · have h1 := ci_all 1 (by decide) (by decide)
          unfold ciOK at h1
          simp only [Bool.and_eq_true] at h1
          have e : (uQ ci).1 = (uQ 1).1 := by
            have hc : ∀ j, j < 15 → ¬ mdC j = true → (uQ j).1 = (uQ 1).1 := by
              intro j hj hm
              match j, hj, hm with
              | 0, _, h => exact absurd rfl h
              | 1, _, h => rfl
              | 2, _, h => rfl
              | 3, _, h => exact absurd rfl h
              | 4, _, h => exact absurd rfl h
              | 5, _, h => exact absurd rfl h
              | 6, _, h => exact absurd rfl h
              | 7, _, h => exact absurd rfl h
              | 8, _, h => exact absurd rfl h
              | 9, _, h => exact absurd rfl h
              | 10, _, h => exact absurd rfl h
              | 11, _, h => exact absurd rfl h
              | 12, _, h => exact absurd rfl h
              | 13, _, h => rfl
              | 14, _, h => exact absurd rfl h
              | n + 15, h, _ => omega
            exact hc ci hci c2
          rw [e]
          exact ⟨_, hgt _ (inT_ok h1.1)⟩
      obtain ⟨n, hn⟩ := hi
      obtain ⟨cC, iS, hk⟩ := u_known hgt hin hn
      exact ⟨(cC, iS), fun _ => hk⟩
    · exact ⟨(0, fun _ => 0), fun h => absurd h hci⟩
  obtain ⟨f, hf⟩ := Classical.axiomOfChoice h0
  refine ⟨(fun ci => (f ci).1, fun ci => (f ci).2), fun ci q hq => ?_, fun k q hk => by simp at hk⟩
  have hci : ci < 15 := (List.getElem?_eq_some_iff.mp hq).1
  rw [uq_at hci] at hq
  cases hq
  exact hf ci hci
theorem whole_start {p : Program} {e : Env} {s : State} {m : MethodId} {below : List Frame} {meth : Method} {c : Code} (l : Launch) (hflags : l.flags = flags0) {b L : Nat} {xs : Nat → Int32} (hL : L ≤ 260) (C0 : lw_At p s m meth c b L xs) : W p l e room_1 s m #[Value.ref b] below meth c s.heap [] 0 0 (lw_Z below #[Value.ref b] s) (entryFrame m ([Value.ref b] : List Value).toArray 26) := by
  have hst : l.stackTraces = false := by unfold Launch.stackTraces; rw [hflags]; decide
  obtain ⟨sad, fm, e8, hinj, hS⟩ := sS_start C0
  obtain ⟨h2, ⟨n, hrun⟩, hr1, hr2⟩ := law_runs L (fun j => (xs j).toInt) fm hL
  obtain ⟨hx, hc, hr, hml, hown, hts, hX, hbs, hlk, hg⟩ := C0
  obtain ⟨D, hD⟩ := lawD hts
  have C : Cx sad (GG L (fun j => (xs j).toInt) fm) (fun q => s.heap.size ≤ q) p room_1 s m #[Value.ref b] meth c 13 false code 26 := ⟨hx, hc, hml, hown, gt_all hts, fun _ h => h, hS, (fun h => by cases h), hinj, rfl, by decide, by decide⟩
  rw [show ([Value.ref b] : List Value).toArray = [Value.ref b].toArray from rfl, lg_entry_eq]
  have hblk := blk_all (m := 269) (by decide)
  have hxk := xo_all (m := 269) (by decide)
  refine frm (P := PL_law) (B := BL_law) (hh := []) (ret := some .boolean) (c0 := 0) (s0 := 0) (ws0 := []) (D := D) (og := (.inl (some (qI 1)), h2)) C rfl (fun h => absurd rfl h) hblk hxk (by show h2.2.2.1 ≤ 600086 + 0; omega) (by show h2.2.2.2 ≤ 7301442 + 0; omega) ?_ n (fun n' _ => ctr_all hst rfl rfl hinj n') 68 _ _ _ _ 0 _ _ _ _ 0 0 (by decide) (by decide) hrun (hblk 0) (hxk 0) ?_ rfl rfl
  · intro i is pc q mls mst h' r' H locs ls st cells slots hs ho hxi hF hc1 hsl heq
    obtain ⟨ins, ar, v⟩ := i
    cases r' with
    | inr e => cases heq
    | inl v' =>
      cases heq
      rcases mStep_end hs with ⟨rfl, x, rfl, hr', har⟩ | ⟨rfl, x, rfl, hr'⟩ | ⟨rfl, x, rfl, hr'⟩ | ⟨rfl, x, rfl, hrf, hr'⟩ | ⟨rfl, rfl, hr'⟩ | ⟨rfl, e9, l9, rfl, hg9, hr'⟩
      · cases hr'
        unfold okI at ho
        dsimp only at ho
        obtain ⟨g, ho⟩ := gd_ok ho
        obtain ⟨hd, rfl⟩ := s1_ok ho
        obtain ⟨ws, tys, f1, f2, f3, f4, f5, f6, f7, f8⟩ := hF
        obtain ⟨c1, u1, rfl, ⟨x', rfl, hx'⟩, h7_1⟩ := rS_c f7
        cases u1 with
        | cons a b => exact h7_1.elim
        | nil =>
          obtain rfl : x' = 1 := Int32.toInt_inj.mp hx'
          refine va_forget f5.2.2 (W.widen (k := 600086) (n := 7301442) (by omega) (by omega) ?_)
          exact lw_ret (d0 := s.drawn) (Drawn.sameBut.refl s.drawn lw_cs) hx hc hr hlk hd
      · cases hr'
      · cases hr'
      · cases hr'
        cases hrf
      · cases hr'
      · cases hr'
  · refine ⟨[], [], ⟨rfl, fun a q h => by simp at h⟩, fun a q h => by simp at h, hD, ⟨fun i j p q h => by simp at h, fun k q h => by simp at h⟩, va_S.rf, ?_, trivial, rP.rf⟩
    exact rL_entry (as := [qS 998]) (vs := [Value.ref b]) ⟨⟨b, rfl, Or.inr e8.symm⟩, trivial⟩ (by decide)
