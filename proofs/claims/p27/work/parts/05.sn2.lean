/-! ===== ONE RULE AN INSTRUCTION: constants, the stack, branches ===== -/
def mP (c : ClassFile.Cond) (x y : Int) : Prop := match c with
  | .eq => x = y
  | .ne => x ≠ y
  | .lt => x < y
  | .ge => y ≤ x
  | .gt => y < x
  | .le => x ≤ y
theorem mCnd_t {c : ClassFile.Cond} {x y : Int} {a b : Option MS} (h : mP c x y) : mCnd c x y a b = a := by
  cases c
  · exact if_pos h
  · exact if_neg h
  · exact if_pos h
  · exact if_pos h
  · exact if_pos h
  · exact if_pos h
theorem mCnd_f {c : ClassFile.Cond} {x y : Int} {a b : Option MS} (h : ¬ mP c x y) : mCnd c x y a b = b := by
  cases c
  · exact if_neg h
  · exact if_pos (Classical.byContradiction fun q => h q)
  · exact if_neg h
  · exact if_neg h
  · exact if_neg h
  · exact if_neg h
theorem rS_len {sad : Nat → Nat} {ws : va_W} : ∀ {m : List MV} {c : List Value}, rS sad ws m c → c.length = m.length
  | [], [], _ => rfl
  | _ :: _, _ :: _, h => congrArg (· + 1) (rS_len h.2)
section SN2
variable {p : Program} {l : Launch} {e : Env} {R : Room} {s : State} {m : MethodId} {args : Array Value} {below : List Frame} {meth : Method} {c : Code} {H : Heap} {locs : List Loc} {cells slots : Nat} {Q : State → Prop}
variable {cc : ByteArray} {pc nL : Nat} {D : va_G} {cl : List vw_C} {A : Nat → Prop} {sad : Nat → Nat} {ws0 : va_W} {mls mst r : List MV} {h : MH} {ls : Array Slot} {st : List Value}
theorem sn_if_eq (hx : p.tables.exec = Jvm.exec) (hb : c.code = cc) {x off : Int} {tgt : Nat} (hF : Fr D cl A sad ws0 s nL H locs mls (qI x :: r) h ls st) (hd : decode cc pc = .ok (.ifCond .eq off, 3)) (ht : (pc : Int) + off = (tgt : Int))
    (kt : mP .eq x 0 → ∀ st : List Value, Fr D cl A sad ws0 s nL H locs mls r h ls st → W p l e R s m args below meth c H locs cells slots Q (F0 m tgt ls st)) (kf : ¬ mP .eq x 0 → ∀ st : List Value, Fr D cl A sad ws0 s nL H locs mls r h ls st → W p l e R s m args below meth c H locs cells slots Q (F0 m (pc + 3) ls st)) : W p l e R s m args below meth c H locs cells slots Q (F0 m pc ls st) := by
  obtain ⟨ws, tys, h1, h2, h3, h4, h5, h6, h7, h8⟩ := hF
  obtain ⟨c1, u1, rfl, ⟨x', rfl, hx'⟩, h7_1⟩ := rS_c h7
  have hF2 : Fr D cl A sad ws0 s nL H locs mls r h ls u1 := ⟨ws, tys, h1, h2, h3, h4, h5, h6, h7_1, h8⟩
  have z0 : (0 : Int32).toInt = 0 := rfl
  refine lv_if_eq hx hb hd ht (fun q => kt ?_ _ hF2) (fun q => kf ?_ _ hF2)
  · show x = 0
    rw [← hx', q]; rfl
  · show ¬ x = 0
    exact fun g => q (Int32.toInt_inj.mp (by rw [hx', g]; rfl))
theorem sn_icmp_eq (hx : p.tables.exec = Jvm.exec) (hb : c.code = cc) {x y off : Int} {tgt : Nat} (hF : Fr D cl A sad ws0 s nL H locs mls (qI y :: qI x :: r) h ls st) (hd : decode cc pc = .ok (.if_icmp .eq off, 3)) (ht : (pc : Int) + off = (tgt : Int))
    (kt : mP .eq x y → ∀ st : List Value, Fr D cl A sad ws0 s nL H locs mls r h ls st → W p l e R s m args below meth c H locs cells slots Q (F0 m tgt ls st)) (kf : ¬ mP .eq x y → ∀ st : List Value, Fr D cl A sad ws0 s nL H locs mls r h ls st → W p l e R s m args below meth c H locs cells slots Q (F0 m (pc + 3) ls st)) : W p l e R s m args below meth c H locs cells slots Q (F0 m pc ls st) := by
  obtain ⟨ws, tys, h1, h2, h3, h4, h5, h6, h7, h8⟩ := hF
  obtain ⟨c1, u1, rfl, ⟨y', rfl, hy'⟩, h7_1⟩ := rS_c h7
  obtain ⟨c2, u2, rfl, ⟨x', rfl, hx'⟩, h7_2⟩ := rS_c h7_1
  have hF2 : Fr D cl A sad ws0 s nL H locs mls r h ls u2 := ⟨ws, tys, h1, h2, h3, h4, h5, h6, h7_2, h8⟩
  refine lv_icmp_eq hx hb hd ht (fun q => kt ?_ _ hF2) (fun q => kf ?_ _ hF2)
  · show x = y
    rw [← hx', q, hy']
  · show ¬ x = y
    exact fun g => q (Int32.toInt_inj.mp (by rw [hx', hy', g]))
theorem sn_if_ne (hx : p.tables.exec = Jvm.exec) (hb : c.code = cc) {x off : Int} {tgt : Nat} (hF : Fr D cl A sad ws0 s nL H locs mls (qI x :: r) h ls st) (hd : decode cc pc = .ok (.ifCond .ne off, 3)) (ht : (pc : Int) + off = (tgt : Int))
    (kt : mP .ne x 0 → ∀ st : List Value, Fr D cl A sad ws0 s nL H locs mls r h ls st → W p l e R s m args below meth c H locs cells slots Q (F0 m tgt ls st)) (kf : ¬ mP .ne x 0 → ∀ st : List Value, Fr D cl A sad ws0 s nL H locs mls r h ls st → W p l e R s m args below meth c H locs cells slots Q (F0 m (pc + 3) ls st)) : W p l e R s m args below meth c H locs cells slots Q (F0 m pc ls st) := by
  obtain ⟨ws, tys, h1, h2, h3, h4, h5, h6, h7, h8⟩ := hF
  obtain ⟨c1, u1, rfl, ⟨x', rfl, hx'⟩, h7_1⟩ := rS_c h7
  have hF2 : Fr D cl A sad ws0 s nL H locs mls r h ls u1 := ⟨ws, tys, h1, h2, h3, h4, h5, h6, h7_1, h8⟩
  have z0 : (0 : Int32).toInt = 0 := rfl
  refine lv_if_ne hx hb hd ht (fun q => kt ?_ _ hF2) (fun q => kf ?_ _ hF2)
  · show ¬ x = 0
    exact fun g => q (Int32.toInt_inj.mp (by rw [hx', g]; rfl))
  · show ¬ ¬ x = 0
    exact fun g => g (by rw [← hx', q]; rfl)
theorem sn_icmp_ne (hx : p.tables.exec = Jvm.exec) (hb : c.code = cc) {x y off : Int} {tgt : Nat} (hF : Fr D cl A sad ws0 s nL H locs mls (qI y :: qI x :: r) h ls st) (hd : decode cc pc = .ok (.if_icmp .ne off, 3)) (ht : (pc : Int) + off = (tgt : Int))
    (kt : mP .ne x y → ∀ st : List Value, Fr D cl A sad ws0 s nL H locs mls r h ls st → W p l e R s m args below meth c H locs cells slots Q (F0 m tgt ls st)) (kf : ¬ mP .ne x y → ∀ st : List Value, Fr D cl A sad ws0 s nL H locs mls r h ls st → W p l e R s m args below meth c H locs cells slots Q (F0 m (pc + 3) ls st)) : W p l e R s m args below meth c H locs cells slots Q (F0 m pc ls st) := by
  obtain ⟨ws, tys, h1, h2, h3, h4, h5, h6, h7, h8⟩ := hF
  obtain ⟨c1, u1, rfl, ⟨y', rfl, hy'⟩, h7_1⟩ := rS_c h7
  obtain ⟨c2, u2, rfl, ⟨x', rfl, hx'⟩, h7_2⟩ := rS_c h7_1
  have hF2 : Fr D cl A sad ws0 s nL H locs mls r h ls u2 := ⟨ws, tys, h1, h2, h3, h4, h5, h6, h7_2, h8⟩
  refine lv_icmp_ne hx hb hd ht (fun q => kt ?_ _ hF2) (fun q => kf ?_ _ hF2)
  · show ¬ x = y
    exact fun g => q (Int32.toInt_inj.mp (by rw [hx', hy', g]))
  · show ¬ ¬ x = y
    exact fun g => g (by rw [← hx', q, hy'])
theorem sn_if_lt (hx : p.tables.exec = Jvm.exec) (hb : c.code = cc) {x off : Int} {tgt : Nat} (hF : Fr D cl A sad ws0 s nL H locs mls (qI x :: r) h ls st) (hd : decode cc pc = .ok (.ifCond .lt off, 3)) (ht : (pc : Int) + off = (tgt : Int))
    (kt : mP .lt x 0 → ∀ st : List Value, Fr D cl A sad ws0 s nL H locs mls r h ls st → W p l e R s m args below meth c H locs cells slots Q (F0 m tgt ls st)) (kf : ¬ mP .lt x 0 → ∀ st : List Value, Fr D cl A sad ws0 s nL H locs mls r h ls st → W p l e R s m args below meth c H locs cells slots Q (F0 m (pc + 3) ls st)) : W p l e R s m args below meth c H locs cells slots Q (F0 m pc ls st) := by
  obtain ⟨ws, tys, h1, h2, h3, h4, h5, h6, h7, h8⟩ := hF
  obtain ⟨c1, u1, rfl, ⟨x', rfl, hx'⟩, h7_1⟩ := rS_c h7
  have hF2 : Fr D cl A sad ws0 s nL H locs mls r h ls u1 := ⟨ws, tys, h1, h2, h3, h4, h5, h6, h7_1, h8⟩
  have z0 : (0 : Int32).toInt = 0 := rfl
  refine lv_if_lt hx hb hd ht (fun q => kt ?_ _ hF2) (fun q => kf ?_ _ hF2)
  · show x < 0
    have g := (Int32.lt_iff_toInt_lt).mp q
    rw [hx', z0] at g; exact g
  · show ¬ x < 0
    exact fun g => q ((Int32.lt_iff_toInt_lt).mpr (by rw [hx', z0]; exact g))
theorem sn_icmp_lt (hx : p.tables.exec = Jvm.exec) (hb : c.code = cc) {x y off : Int} {tgt : Nat} (hF : Fr D cl A sad ws0 s nL H locs mls (qI y :: qI x :: r) h ls st) (hd : decode cc pc = .ok (.if_icmp .lt off, 3)) (ht : (pc : Int) + off = (tgt : Int))
    (kt : mP .lt x y → ∀ st : List Value, Fr D cl A sad ws0 s nL H locs mls r h ls st → W p l e R s m args below meth c H locs cells slots Q (F0 m tgt ls st)) (kf : ¬ mP .lt x y → ∀ st : List Value, Fr D cl A sad ws0 s nL H locs mls r h ls st → W p l e R s m args below meth c H locs cells slots Q (F0 m (pc + 3) ls st)) : W p l e R s m args below meth c H locs cells slots Q (F0 m pc ls st) := by
  obtain ⟨ws, tys, h1, h2, h3, h4, h5, h6, h7, h8⟩ := hF
  obtain ⟨c1, u1, rfl, ⟨y', rfl, hy'⟩, h7_1⟩ := rS_c h7
  obtain ⟨c2, u2, rfl, ⟨x', rfl, hx'⟩, h7_2⟩ := rS_c h7_1
  have hF2 : Fr D cl A sad ws0 s nL H locs mls r h ls u2 := ⟨ws, tys, h1, h2, h3, h4, h5, h6, h7_2, h8⟩
  refine lv_icmp_lt hx hb hd ht (fun q => kt ?_ _ hF2) (fun q => kf ?_ _ hF2)
  · show x < y
    have g := (Int32.lt_iff_toInt_lt).mp q
    rw [hx', hy'] at g; exact g
  · show ¬ x < y
    exact fun g => q ((Int32.lt_iff_toInt_lt).mpr (by rw [hx', hy']; exact g))
theorem sn_if_ge (hx : p.tables.exec = Jvm.exec) (hb : c.code = cc) {x off : Int} {tgt : Nat} (hF : Fr D cl A sad ws0 s nL H locs mls (qI x :: r) h ls st) (hd : decode cc pc = .ok (.ifCond .ge off, 3)) (ht : (pc : Int) + off = (tgt : Int))
    (kt : mP .ge x 0 → ∀ st : List Value, Fr D cl A sad ws0 s nL H locs mls r h ls st → W p l e R s m args below meth c H locs cells slots Q (F0 m tgt ls st)) (kf : ¬ mP .ge x 0 → ∀ st : List Value, Fr D cl A sad ws0 s nL H locs mls r h ls st → W p l e R s m args below meth c H locs cells slots Q (F0 m (pc + 3) ls st)) : W p l e R s m args below meth c H locs cells slots Q (F0 m pc ls st) := by
  obtain ⟨ws, tys, h1, h2, h3, h4, h5, h6, h7, h8⟩ := hF
  obtain ⟨c1, u1, rfl, ⟨x', rfl, hx'⟩, h7_1⟩ := rS_c h7
  have hF2 : Fr D cl A sad ws0 s nL H locs mls r h ls u1 := ⟨ws, tys, h1, h2, h3, h4, h5, h6, h7_1, h8⟩
  have z0 : (0 : Int32).toInt = 0 := rfl
  refine lv_if_ge hx hb hd ht (fun q => kt ?_ _ hF2) (fun q => kf ?_ _ hF2)
  · show 0 ≤ x
    have g := (Int32.le_iff_toInt_le).mp q
    rw [hx', z0] at g; exact g
  · show ¬ 0 ≤ x
    exact fun g => q ((Int32.le_iff_toInt_le).mpr (by rw [hx', z0]; exact g))
theorem sn_icmp_ge (hx : p.tables.exec = Jvm.exec) (hb : c.code = cc) {x y off : Int} {tgt : Nat} (hF : Fr D cl A sad ws0 s nL H locs mls (qI y :: qI x :: r) h ls st) (hd : decode cc pc = .ok (.if_icmp .ge off, 3)) (ht : (pc : Int) + off = (tgt : Int))
    (kt : mP .ge x y → ∀ st : List Value, Fr D cl A sad ws0 s nL H locs mls r h ls st → W p l e R s m args below meth c H locs cells slots Q (F0 m tgt ls st)) (kf : ¬ mP .ge x y → ∀ st : List Value, Fr D cl A sad ws0 s nL H locs mls r h ls st → W p l e R s m args below meth c H locs cells slots Q (F0 m (pc + 3) ls st)) : W p l e R s m args below meth c H locs cells slots Q (F0 m pc ls st) := by
  obtain ⟨ws, tys, h1, h2, h3, h4, h5, h6, h7, h8⟩ := hF
  obtain ⟨c1, u1, rfl, ⟨y', rfl, hy'⟩, h7_1⟩ := rS_c h7
  obtain ⟨c2, u2, rfl, ⟨x', rfl, hx'⟩, h7_2⟩ := rS_c h7_1
  have hF2 : Fr D cl A sad ws0 s nL H locs mls r h ls u2 := ⟨ws, tys, h1, h2, h3, h4, h5, h6, h7_2, h8⟩
  refine lv_icmp_ge hx hb hd ht (fun q => kt ?_ _ hF2) (fun q => kf ?_ _ hF2)
  · show y ≤ x
    have g := (Int32.le_iff_toInt_le).mp q
    rw [hx', hy'] at g; exact g
  · show ¬ y ≤ x
    exact fun g => q ((Int32.le_iff_toInt_le).mpr (by rw [hx', hy']; exact g))
theorem sn_if_gt (hx : p.tables.exec = Jvm.exec) (hb : c.code = cc) {x off : Int} {tgt : Nat} (hF : Fr D cl A sad ws0 s nL H locs mls (qI x :: r) h ls st) (hd : decode cc pc = .ok (.ifCond .gt off, 3)) (ht : (pc : Int) + off = (tgt : Int))
    (kt : mP .gt x 0 → ∀ st : List Value, Fr D cl A sad ws0 s nL H locs mls r h ls st → W p l e R s m args below meth c H locs cells slots Q (F0 m tgt ls st)) (kf : ¬ mP .gt x 0 → ∀ st : List Value, Fr D cl A sad ws0 s nL H locs mls r h ls st → W p l e R s m args below meth c H locs cells slots Q (F0 m (pc + 3) ls st)) : W p l e R s m args below meth c H locs cells slots Q (F0 m pc ls st) := by
  obtain ⟨ws, tys, h1, h2, h3, h4, h5, h6, h7, h8⟩ := hF
  obtain ⟨c1, u1, rfl, ⟨x', rfl, hx'⟩, h7_1⟩ := rS_c h7
  have hF2 : Fr D cl A sad ws0 s nL H locs mls r h ls u1 := ⟨ws, tys, h1, h2, h3, h4, h5, h6, h7_1, h8⟩
  have z0 : (0 : Int32).toInt = 0 := rfl
  refine lv_if_gt hx hb hd ht (fun q => kt ?_ _ hF2) (fun q => kf ?_ _ hF2)
  · show 0 < x
    have g := (Int32.lt_iff_toInt_lt).mp q
    rw [hx', z0] at g; exact g
  · show ¬ 0 < x
    exact fun g => q ((Int32.lt_iff_toInt_lt).mpr (by rw [hx', z0]; exact g))
theorem sn_icmp_gt (hx : p.tables.exec = Jvm.exec) (hb : c.code = cc) {x y off : Int} {tgt : Nat} (hF : Fr D cl A sad ws0 s nL H locs mls (qI y :: qI x :: r) h ls st) (hd : decode cc pc = .ok (.if_icmp .gt off, 3)) (ht : (pc : Int) + off = (tgt : Int))
    (kt : mP .gt x y → ∀ st : List Value, Fr D cl A sad ws0 s nL H locs mls r h ls st → W p l e R s m args below meth c H locs cells slots Q (F0 m tgt ls st)) (kf : ¬ mP .gt x y → ∀ st : List Value, Fr D cl A sad ws0 s nL H locs mls r h ls st → W p l e R s m args below meth c H locs cells slots Q (F0 m (pc + 3) ls st)) : W p l e R s m args below meth c H locs cells slots Q (F0 m pc ls st) := by
  obtain ⟨ws, tys, h1, h2, h3, h4, h5, h6, h7, h8⟩ := hF
  obtain ⟨c1, u1, rfl, ⟨y', rfl, hy'⟩, h7_1⟩ := rS_c h7
  obtain ⟨c2, u2, rfl, ⟨x', rfl, hx'⟩, h7_2⟩ := rS_c h7_1
  have hF2 : Fr D cl A sad ws0 s nL H locs mls r h ls u2 := ⟨ws, tys, h1, h2, h3, h4, h5, h6, h7_2, h8⟩
  refine lv_icmp_gt hx hb hd ht (fun q => kt ?_ _ hF2) (fun q => kf ?_ _ hF2)
  · show y < x
    have g := (Int32.lt_iff_toInt_lt).mp q
    rw [hx', hy'] at g; exact g
  · show ¬ y < x
    exact fun g => q ((Int32.lt_iff_toInt_lt).mpr (by rw [hx', hy']; exact g))
theorem sn_if_le (hx : p.tables.exec = Jvm.exec) (hb : c.code = cc) {x off : Int} {tgt : Nat} (hF : Fr D cl A sad ws0 s nL H locs mls (qI x :: r) h ls st) (hd : decode cc pc = .ok (.ifCond .le off, 3)) (ht : (pc : Int) + off = (tgt : Int))
    (kt : mP .le x 0 → ∀ st : List Value, Fr D cl A sad ws0 s nL H locs mls r h ls st → W p l e R s m args below meth c H locs cells slots Q (F0 m tgt ls st)) (kf : ¬ mP .le x 0 → ∀ st : List Value, Fr D cl A sad ws0 s nL H locs mls r h ls st → W p l e R s m args below meth c H locs cells slots Q (F0 m (pc + 3) ls st)) : W p l e R s m args below meth c H locs cells slots Q (F0 m pc ls st) := by
  obtain ⟨ws, tys, h1, h2, h3, h4, h5, h6, h7, h8⟩ := hF
  obtain ⟨c1, u1, rfl, ⟨x', rfl, hx'⟩, h7_1⟩ := rS_c h7
  have hF2 : Fr D cl A sad ws0 s nL H locs mls r h ls u1 := ⟨ws, tys, h1, h2, h3, h4, h5, h6, h7_1, h8⟩
  have z0 : (0 : Int32).toInt = 0 := rfl
  refine lv_if_le hx hb hd ht (fun q => kt ?_ _ hF2) (fun q => kf ?_ _ hF2)
  · show x ≤ 0
    have g := (Int32.le_iff_toInt_le).mp q
    rw [hx', z0] at g; exact g
  · show ¬ x ≤ 0
    exact fun g => q ((Int32.le_iff_toInt_le).mpr (by rw [hx', z0]; exact g))
theorem sn_icmp_le (hx : p.tables.exec = Jvm.exec) (hb : c.code = cc) {x y off : Int} {tgt : Nat} (hF : Fr D cl A sad ws0 s nL H locs mls (qI y :: qI x :: r) h ls st) (hd : decode cc pc = .ok (.if_icmp .le off, 3)) (ht : (pc : Int) + off = (tgt : Int))
    (kt : mP .le x y → ∀ st : List Value, Fr D cl A sad ws0 s nL H locs mls r h ls st → W p l e R s m args below meth c H locs cells slots Q (F0 m tgt ls st)) (kf : ¬ mP .le x y → ∀ st : List Value, Fr D cl A sad ws0 s nL H locs mls r h ls st → W p l e R s m args below meth c H locs cells slots Q (F0 m (pc + 3) ls st)) : W p l e R s m args below meth c H locs cells slots Q (F0 m pc ls st) := by
  obtain ⟨ws, tys, h1, h2, h3, h4, h5, h6, h7, h8⟩ := hF
  obtain ⟨c1, u1, rfl, ⟨y', rfl, hy'⟩, h7_1⟩ := rS_c h7
  obtain ⟨c2, u2, rfl, ⟨x', rfl, hx'⟩, h7_2⟩ := rS_c h7_1
  have hF2 : Fr D cl A sad ws0 s nL H locs mls r h ls u2 := ⟨ws, tys, h1, h2, h3, h4, h5, h6, h7_2, h8⟩
  refine lv_icmp_le hx hb hd ht (fun q => kt ?_ _ hF2) (fun q => kf ?_ _ hF2)
  · show x ≤ y
    have g := (Int32.le_iff_toInt_le).mp q
    rw [hx', hy'] at g; exact g
  · show ¬ x ≤ y
    exact fun g => q ((Int32.le_iff_toInt_le).mpr (by rw [hx', hy']; exact g))
theorem sn_goto (hx : p.tables.exec = Jvm.exec) (hb : c.code = cc) {off : Int} {tgt : Nat} (hd : decode cc pc = .ok (.goto off, 3)) (ht : (pc : Int) + off = (tgt : Int)) (k : W p l e R s m args below meth c H locs cells slots Q (F0 m tgt ls st)) : W p l e R s m args below meth c H locs cells slots Q (F0 m pc ls st) := lv_goto hx hb hd ht k
theorem sn_iconst (hx : p.tables.exec = Jvm.exec) (hb : c.code = cc) {n : Int} (hF : Fr D cl A sad ws0 s nL H locs mls mst h ls st) (hd : decode cc pc = .ok (.iconst n, 1)) (hn : (Int32.ofInt n).toInt = n) (k : ∀ st : List Value, Fr D cl A sad ws0 s nL H locs mls (qI n :: mst) h ls st → W p l e R s m args below meth c H locs cells slots Q (F0 m (pc + 1) ls st)) : W p l e R s m args below meth c H locs cells slots Q (F0 m pc ls st) := by
  obtain ⟨ws, tys, h1, h2, h3, h4, h5, h6, h7, h8⟩ := hF
  exact lv_iconst hx hb hd rfl (k _ ⟨ws, tys, h1, h2, h3, h4, h5, h6, ⟨⟨_, rfl, hn⟩, h7⟩, h8⟩)
theorem sn_bipush (hx : p.tables.exec = Jvm.exec) (hb : c.code = cc) {n : Int} (hF : Fr D cl A sad ws0 s nL H locs mls mst h ls st) (hd : decode cc pc = .ok (.bipush n, 2)) (hn : (Int8.ofInt n).toInt32.toInt = n) (k : ∀ st : List Value, Fr D cl A sad ws0 s nL H locs mls (qI n :: mst) h ls st → W p l e R s m args below meth c H locs cells slots Q (F0 m (pc + 2) ls st)) : W p l e R s m args below meth c H locs cells slots Q (F0 m pc ls st) := by
  obtain ⟨ws, tys, h1, h2, h3, h4, h5, h6, h7, h8⟩ := hF
  exact lv_bipush hx hb hd rfl (k _ ⟨ws, tys, h1, h2, h3, h4, h5, h6, ⟨⟨_, rfl, hn⟩, h7⟩, h8⟩)
theorem sn_sipush (hx : p.tables.exec = Jvm.exec) (hb : c.code = cc) {n : Int} (hF : Fr D cl A sad ws0 s nL H locs mls mst h ls st) (hd : decode cc pc = .ok (.sipush n, 3)) (hn : (Int16.ofInt n).toInt32.toInt = n) (k : ∀ st : List Value, Fr D cl A sad ws0 s nL H locs mls (qI n :: mst) h ls st → W p l e R s m args below meth c H locs cells slots Q (F0 m (pc + 3) ls st)) : W p l e R s m args below meth c H locs cells slots Q (F0 m pc ls st) := by
  obtain ⟨ws, tys, h1, h2, h3, h4, h5, h6, h7, h8⟩ := hF
  exact lv_sipush hx hb hd rfl (k _ ⟨ws, tys, h1, h2, h3, h4, h5, h6, ⟨⟨_, rfl, hn⟩, h7⟩, h8⟩)
theorem sn_ldc (hx : p.tables.exec = Jvm.exec) (hb : c.code = cc) {n : Int} {v : Int32} {own : String} {index : Nat} (hown : s.vm.findClass own = some m.cls) (hc : (Jvm.Cond.constant own index v).before args s = true) (hF : Fr D cl A sad ws0 s nL H locs mls mst h ls st) (hd : decode cc pc = .ok (.ldc index, 2)) (hn : v.toInt = n) (k : ∀ st : List Value, Fr D cl A sad ws0 s nL H locs mls (qI n :: mst) h ls st → W p l e R s m args below meth c H locs cells slots Q (F0 m (pc + 2) ls st)) : W p l e R s m args below meth c H locs cells slots Q (F0 m pc ls st) := by
  obtain ⟨ws, tys, h1, h2, h3, h4, h5, h6, h7, h8⟩ := hF
  exact lv_ldc hx hb hown hc hd (k _ ⟨ws, tys, h1, h2, h3, h4, h5, h6, ⟨⟨_, rfl, hn⟩, h7⟩, h8⟩)
theorem sn_ldc2 (hx : p.tables.exec = Jvm.exec) (hb : c.code = cc) {n : Int} {v : Int64} {own : String} {index : Nat} (hown : s.vm.findClass own = some m.cls) (hc : (Jvm.Cond.constantLong own index v).before args s = true) (hF : Fr D cl A sad ws0 s nL H locs mls mst h ls st) (hd : decode cc pc = .ok (.ldc2_w index, 3)) (hn : v.toInt = n) (k : ∀ st : List Value, Fr D cl A sad ws0 s nL H locs mls (qL n :: mst) h ls st → W p l e R s m args below meth c H locs cells slots Q (F0 m (pc + 3) ls st)) : W p l e R s m args below meth c H locs cells slots Q (F0 m pc ls st) := by
  obtain ⟨ws, tys, h1, h2, h3, h4, h5, h6, h7, h8⟩ := hF
  exact lv_ldc2 hx hb hown hc hd (k _ ⟨ws, tys, h1, h2, h3, h4, h5, h6, ⟨⟨_, rfl, hn⟩, h7⟩, h8⟩)
theorem sn_lconst (hx : p.tables.exec = Jvm.exec) (hb : c.code = cc) {n : Int} {i : Fin 2} (hF : Fr D cl A sad ws0 s nL H locs mls mst h ls st) (hd : decode cc pc = .ok (.lconst i, 1)) (hn : (Int64.ofNat (i : Nat)).toInt = n) (k : ∀ st : List Value, Fr D cl A sad ws0 s nL H locs mls (qL n :: mst) h ls st → W p l e R s m args below meth c H locs cells slots Q (F0 m (pc + 1) ls st)) : W p l e R s m args below meth c H locs cells slots Q (F0 m pc ls st) := by
  obtain ⟨ws, tys, h1, h2, h3, h4, h5, h6, h7, h8⟩ := hF
  exact lv_lconst hx hb hd rfl (k _ ⟨ws, tys, h1, h2, h3, h4, h5, h6, ⟨⟨_, rfl, hn⟩, h7⟩, h8⟩)
theorem sn_dconst0 (hx : p.tables.exec = Jvm.exec) (hb : c.code = cc) (hF : Fr D cl A sad ws0 s nL H locs mls mst h ls st) (hd : decode cc pc = .ok (.dconst 0, 1)) (k : ∀ st : List Value, Fr D cl A sad ws0 s nL H locs mls (qD FP.dconst0 :: mst) h ls st → W p l e R s m args below meth c H locs cells slots Q (F0 m (pc + 1) ls st)) : W p l e R s m args below meth c H locs cells slots Q (F0 m pc ls st) := by
  obtain ⟨ws, tys, h1, h2, h3, h4, h5, h6, h7, h8⟩ := hF
  exact lv_dconst0 hx hb hd (k _ ⟨ws, tys, h1, h2, h3, h4, h5, h6, ⟨rfl, h7⟩, h8⟩)
theorem sn_lcmp (hx : p.tables.exec = Jvm.exec) (hb : c.code = cc) {x y : Int} (hF : Fr D cl A sad ws0 s nL H locs mls (qL y :: qL x :: r) h ls st) (hd : decode cc pc = .ok (.lcmp, 1)) (k : ∀ st : List Value, Fr D cl A sad ws0 s nL H locs mls (qI (if x < y then -1 else if x = y then 0 else 1) :: r) h ls st → W p l e R s m args below meth c H locs cells slots Q (F0 m (pc + 1) ls st)) : W p l e R s m args below meth c H locs cells slots Q (F0 m pc ls st) := by
  obtain ⟨ws, tys, h1, h2, h3, h4, h5, h6, h7, h8⟩ := hF
  obtain ⟨c1, u1, rfl, ⟨y', rfl, hy'⟩, h7_1⟩ := rS_c h7
  obtain ⟨c2, u2, rfl, ⟨x', rfl, hx'⟩, h7_2⟩ := rS_c h7_1
  refine W.lcmp hx hb hd (k _ ⟨ws, tys, h1, h2, h3, h4, h5, h6, ⟨⟨_, rfl, ?_⟩, h7_2⟩, h8⟩)
  unfold lg_cmp
  have e1 : x' < y' ↔ x < y := by rw [Int64.lt_iff_toInt_lt, hx', hy']
  have e2 : x' = y' ↔ x = y := by rw [← Int64.toInt_inj, hx', hy']
  have e3 : y' < x' ↔ y < x := by rw [Int64.lt_iff_toInt_lt, hx', hy']
  by_cases q1 : x < y
  · have n2 : ¬ x = y := by omega
    have n3 : ¬ y < x := by omega
    simp only [e1, e2, e3, q1, n2, n3, if_true, if_false, GT.gt]
    rfl
  · by_cases q2 : x = y
    · have n3 : ¬ y < x := by omega
      simp only [e1, e2, e3, q1, q2, n3, if_true, if_false, GT.gt, Int.lt_irrefl]
      rfl
    · have q3 : y < x := by omega
      simp only [e1, e2, e3, q1, q2, q3, if_true, if_false, GT.gt]
      rfl
theorem sn_dup (hx : p.tables.exec = Jvm.exec) (hb : c.code = cc) {v : MV} (hv : ¬ wide v = true) (hF : Fr D cl A sad ws0 s nL H locs mls (v :: r) h ls st) (hd : decode cc pc = .ok (.dup, 1)) (k : ∀ st : List Value, Fr D cl A sad ws0 s nL H locs mls (v :: v :: r) h ls st → W p l e R s m args below meth c H locs cells slots Q (F0 m (pc + 1) ls st)) : W p l e R s m args below meth c H locs cells slots Q (F0 m pc ls st) := by
  obtain ⟨ws, tys, h1, h2, h3, h4, h5, h6, h7, h8⟩ := hF
  obtain ⟨c1, u1, rfl, g1, h7_1⟩ := rS_c h7
  exact lv_dup hx hb hd (by rw [rV_cat g1, if_neg hv]) (k _ ⟨ws, tys, h1, h2, h3, h4, h5, h6, ⟨g1, g1, h7_1⟩, h8⟩)
theorem sn_pop (hx : p.tables.exec = Jvm.exec) (hb : c.code = cc) {v : MV} (hv : ¬ wide v = true) (hF : Fr D cl A sad ws0 s nL H locs mls (v :: r) h ls st) (hd : decode cc pc = .ok (.pop, 1)) (k : ∀ st : List Value, Fr D cl A sad ws0 s nL H locs mls r h ls st → W p l e R s m args below meth c H locs cells slots Q (F0 m (pc + 1) ls st)) : W p l e R s m args below meth c H locs cells slots Q (F0 m pc ls st) := by
  obtain ⟨ws, tys, h1, h2, h3, h4, h5, h6, h7, h8⟩ := hF
  obtain ⟨c1, u1, rfl, g1, h7_1⟩ := rS_c h7
  exact lv_pop hx hb hd (by rw [rV_cat g1, if_neg hv]) (k _ ⟨ws, tys, h1, h2, h3, h4, h5, h6, h7_1, h8⟩)
theorem sn_dup2 (hx : p.tables.exec = Jvm.exec) (hb : c.code = cc) {v w : MV} (hv : ¬ wide v = true) (hw : ¬ wide w = true) (hF : Fr D cl A sad ws0 s nL H locs mls (v :: w :: r) h ls st) (hd : decode cc pc = .ok (.dup2, 1)) (k : ∀ st : List Value, Fr D cl A sad ws0 s nL H locs mls (v :: w :: v :: w :: r) h ls st → W p l e R s m args below meth c H locs cells slots Q (F0 m (pc + 1) ls st)) : W p l e R s m args below meth c H locs cells slots Q (F0 m pc ls st) := by
  obtain ⟨ws, tys, h1, h2, h3, h4, h5, h6, h7, h8⟩ := hF
  obtain ⟨c1, u1, rfl, g1, h7_1⟩ := rS_c h7
  obtain ⟨c2, u2, rfl, g2, h7_2⟩ := rS_c h7_1
  exact lv_dup2_11 hx hb hd (by rw [rV_cat g1, if_neg hv]) (by rw [rV_cat g2, if_neg hw]) (k _ ⟨ws, tys, h1, h2, h3, h4, h5, h6, ⟨g1, g2, g1, g2, h7_2⟩, h8⟩)
theorem sn_tsw (hx : p.tables.exec = Jvm.exec) (hb : c.code = cc) {x dflt lo hi off : Int} {offs : Array Int} {len tgt : Nat} (hF : Fr D cl A sad ws0 s nL H locs mls (qI x :: r) h ls st) (hd : decode cc pc = .ok (.tableswitch dflt lo hi offs, len)) (ho : (if x < lo ∨ hi < x then some dflt else offs[(x - lo).toNat]?) = some off) (ht : (pc : Int) + off = (tgt : Int)) (k : ∀ st : List Value, Fr D cl A sad ws0 s nL H locs mls r h ls st → W p l e R s m args below meth c H locs cells slots Q (F0 m tgt ls st)) : W p l e R s m args below meth c H locs cells slots Q (F0 m pc ls st) := by
  obtain ⟨ws, tys, h1, h2, h3, h4, h5, h6, h7, h8⟩ := hF
  obtain ⟨c1, u1, rfl, ⟨x', rfl, hx'⟩, h7_1⟩ := rS_c h7
  subst hx'
  by_cases hq : x'.toInt < lo ∨ hi < x'.toInt
  · rw [if_pos hq] at ho
    cases ho
    exact lv_tableOut hx hb hd hq ht (k _ ⟨ws, tys, h1, h2, h3, h4, h5, h6, h7_1, h8⟩)
  · rw [if_neg hq] at ho
    exact lv_tableIn hx hb hd (fun z => hq (Or.inl z)) (fun z => hq (Or.inr z)) ho ht (k _ ⟨ws, tys, h1, h2, h3, h4, h5, h6, h7_1, h8⟩)
theorem sn_lsw (hx : p.tables.exec = Jvm.exec) (hb : c.code = cc) {x dflt off : Int} {ps : Array (Int × Int)} {len tgt : Nat} (hF : Fr D cl A sad ws0 s nL H locs mls (qI x :: r) h ls st) (hd : decode cc pc = .ok (.lookupswitch dflt ps, len)) (hp : (ps.toList.zip (ps.toList.drop 1)).all (fun (a, next) => a.1 < next.1) = true) (ho : Op.lookupswitch.offset ps.toList dflt x = off) (ht : (pc : Int) + off = (tgt : Int)) (k : ∀ st : List Value, Fr D cl A sad ws0 s nL H locs mls r h ls st → W p l e R s m args below meth c H locs cells slots Q (F0 m tgt ls st)) : W p l e R s m args below meth c H locs cells slots Q (F0 m pc ls st) := by
  obtain ⟨ws, tys, h1, h2, h3, h4, h5, h6, h7, h8⟩ := hF
  obtain ⟨c1, u1, rfl, ⟨x', rfl, hx'⟩, h7_1⟩ := rS_c h7
  subst hx'
  exact lv_lookup hx hb hd hp ho ht (k _ ⟨ws, tys, h1, h2, h3, h4, h5, h6, h7_1, h8⟩)
theorem sn_acmp (hx : p.tables.exec = Jvm.exec) (hb : c.code = cc) {x y : Nat} {off : Int} {tgt : Nat} (eq : Bool) (hxy : sad x = sad y ↔ x = y) (hx9 : x ≠ 999) (hy9 : y ≠ 999) (hF : Fr D cl A sad ws0 s nL H locs mls (qS y :: qS x :: r) h ls st) (hd : decode cc pc = .ok (.if_acmp (if eq then .eq else .ne) off, 3)) (ht : (pc : Int) + off = (tgt : Int))
    (kt : x = y → ∀ st : List Value, Fr D cl A sad ws0 s nL H locs mls r h ls st → W p l e R s m args below meth c H locs cells slots Q (F0 m (if eq then tgt else pc + 3) ls st)) (kf : ¬ x = y → ∀ st : List Value, Fr D cl A sad ws0 s nL H locs mls r h ls st → W p l e R s m args below meth c H locs cells slots Q (F0 m (if eq then pc + 3 else tgt) ls st)) : W p l e R s m args below meth c H locs cells slots Q (F0 m pc ls st) := by
  obtain ⟨ws, tys, h1, h2, h3, h4, h5, h6, h7, h8⟩ := hF
  obtain ⟨c1, u1, rfl, ⟨b1, rfl, g1⟩, h7_1⟩ := rS_c h7
  obtain ⟨c2, u2, rfl, ⟨b2, rfl, g2⟩, h7_2⟩ := rS_c h7_1
  have g1 := g1.resolve_left hy9
  have g2 := g2.resolve_left hx9
  have hF2 : Fr D cl A sad ws0 s nL H locs mls r h ls u2 := ⟨ws, tys, h1, h2, h3, h4, h5, h6, h7_2, h8⟩
  have e1 : (some b2 = some b1) ↔ x = y := by rw [Option.some.injEq, g1, g2]; exact hxy
  cases eq
  · exact lv_acmp_ne (rx := some b2) (ry := some b1) hx hb hd ht (fun q => kf (fun z => q (e1.mpr z)) _ hF2) (fun q => kt (e1.mp q) _ hF2)
  · exact lv_acmp_eq (rx := some b2) (ry := some b1) hx hb hd ht (fun q => kt (e1.mp q) _ hF2) (fun q => kf (fun z => q (e1.mpr z)) _ hF2)
end SN2
