/-! ===== ONE RULE AN INSTRUCTION: what the hand-made land, its text and its lists need besides ===== -/
theorem va_T_int {ty : FieldType} {b n : Nat} {fv : Nat → Value} {A : Nat → Prop} {U : State} {H : Heap} {g : Nat → Int32} (h : va_T ty b n fv A U H) (hg : ∀ j, j < n → fv j = .int (g j)) : va_T ty b n (fun j => .int (g j)) A U H := by
  obtain ⟨cell, h1, h2, h3, h4, h5, h6, h7⟩ := h
  exact ⟨cell, h1, h2, h3, h4, h5, fun j hj => (h6 j hj).trans (congrArg some (hg j hj)), h7⟩
section SN7
variable {p : Program} {l : Launch} {e : Env} {R : Room} {s : State} {m : MethodId} {args : Array Value} {below : List Frame} {meth : Method} {c : Code} {H : Heap} {locs : List Loc} {cells slots : Nat} {Q : State → Prop}
variable {cc : ByteArray} {pc nL : Nat} {D : va_G} {cl : List vw_C} {A : Nat → Prop} {sad : Nat → Nat} {ws0 : va_W} {mls mst r : List MV} {h : MH} {ls : Array Slot} {st : List Value}
variable {Ts : List Jvm.Cond} {own : String} {index : Nat}
theorem sn_ishl (hx : p.tables.exec = Jvm.exec) (hb : c.code = cc) {x y : Int} (hF : Fr D cl A sad ws0 s nL H locs mls (qI y :: qI x :: r) h ls st) (hd : decode cc pc = .ok (.ishl, 1))
    (k : ∀ st : List Value, Fr D cl A sad ws0 s nL H locs mls (qI (i32 (fun a b => a <<< (b &&& 31)) x y) :: r) h ls st → W p l e R s m args below meth c H locs cells slots Q (F0 m (pc + 1) ls st)) : W p l e R s m args below meth c H locs cells slots Q (F0 m pc ls st) := by
  obtain ⟨ws, tys, h1, h2, h3, h4, h5, h6, h7, h8⟩ := hF
  obtain ⟨c1, u1, rfl, ⟨y', rfl, hy⟩, h7_1⟩ := rS_c h7
  obtain ⟨c2, u2, rfl, ⟨x', rfl, hx'⟩, h7_2⟩ := rS_c h7_1
  refine lv_ishl hx hb hd (k _ ⟨ws, tys, h1, h2, h3, h4, h5, h6, ⟨⟨_, rfl, ?_⟩, h7_2⟩, h8⟩)
  unfold i32; rw [← hx', ← hy, t_of, t_of]
theorem sn_dup_x1 (hx : p.tables.exec = Jvm.exec) (hb : c.code = cc) {v w : MV} (hv : ¬ wide v = true) (hw : ¬ wide w = true) (hF : Fr D cl A sad ws0 s nL H locs mls (v :: w :: r) h ls st) (hd : decode cc pc = .ok (.dup_x1, 1)) (k : ∀ st : List Value, Fr D cl A sad ws0 s nL H locs mls (v :: w :: v :: r) h ls st → W p l e R s m args below meth c H locs cells slots Q (F0 m (pc + 1) ls st)) : W p l e R s m args below meth c H locs cells slots Q (F0 m pc ls st) := by
  obtain ⟨ws, tys, h1, h2, h3, h4, h5, h6, h7, h8⟩ := hF
  obtain ⟨c1, u1, rfl, g1, h7_1⟩ := rS_c h7
  obtain ⟨c2, u2, rfl, g2, h7_2⟩ := rS_c h7_1
  exact lv_dup_x1 hx hb hd (by rw [rV_cat g1, if_neg hv]) (by rw [rV_cat g2, if_neg hw]) (k _ ⟨ws, tys, h1, h2, h3, h4, h5, h6, ⟨g1, g2, g1, h7_2⟩, h8⟩)
theorem sn_null (hx : p.tables.exec = Jvm.exec) (hb : c.code = cc) (hF : Fr D cl A sad ws0 s nL H locs mls mst h ls st) (hd : decode cc pc = .ok (.aconst_null, 1)) (k : ∀ st : List Value, Fr D cl A sad ws0 s nL H locs mls (qN :: mst) h ls st → W p l e R s m args below meth c H locs cells slots Q (F0 m (pc + 1) ls st)) : W p l e R s m args below meth c H locs cells slots Q (F0 m pc ls st) := by
  obtain ⟨ws, tys, h1, h2, h3, h4, h5, h6, h7, h8⟩ := hF
  exact lv_null hx hb hd (k _ ⟨ws, tys, h1, h2, h3, h4, h5, h6, ⟨(rfl : Value.null = Value.null), h7⟩, h8⟩)
/-- a reference is null, or it is none -/
theorem rf_nl {ws : va_W} {v : MV} {cv : Value} (hr : isRf v = true) (hv : rV sad ws v cv) : (isNl v = true ∧ cv = .null) ∨ (¬ isNl v = true ∧ ∃ b, cv = .ref b) := by
  rcases v with n | n | u | a | a | (_ | _)
  · cases hr
  · cases hr
  · cases hr
  · obtain ⟨b, e, rfl, -⟩ := hv; exact Or.inr ⟨(fun q => by cases q), b, rfl⟩
  · obtain ⟨b, rfl, -⟩ := hv; exact Or.inr ⟨(fun q => by cases q), b, rfl⟩
  · exact Or.inl ⟨rfl, hv⟩
  · cases hr
theorem sn_ifnull (hx : p.tables.exec = Jvm.exec) (hb : c.code = cc) {v : MV} (hr : isRf v = true) {off : Int} {tgt : Nat} (hF : Fr D cl A sad ws0 s nL H locs mls (v :: r) h ls st) (hd : decode cc pc = .ok (.ifnull off, 3)) (ht : (pc : Int) + off = (tgt : Int))
    (kt : isNl v = true → ∀ st : List Value, Fr D cl A sad ws0 s nL H locs mls r h ls st → W p l e R s m args below meth c H locs cells slots Q (F0 m tgt ls st)) (kf : ¬ isNl v = true → ∀ st : List Value, Fr D cl A sad ws0 s nL H locs mls r h ls st → W p l e R s m args below meth c H locs cells slots Q (F0 m (pc + 3) ls st)) : W p l e R s m args below meth c H locs cells slots Q (F0 m pc ls st) := by
  obtain ⟨ws, tys, h1, h2, h3, h4, h5, h6, h7, h8⟩ := hF
  obtain ⟨c1, u1, rfl, g1, h7_1⟩ := rS_c h7
  rcases rf_nl hr g1 with ⟨hn, rfl⟩ | ⟨hn, b, rfl⟩
  · exact lv_ifnullN hx hb hd ht (kt hn _ ⟨ws, tys, h1, h2, h3, h4, h5, h6, h7_1, h8⟩)
  · exact lv_ifnull hx hb hd (kf hn _ ⟨ws, tys, h1, h2, h3, h4, h5, h6, h7_1, h8⟩)
theorem sn_ifnonnull (hx : p.tables.exec = Jvm.exec) (hb : c.code = cc) {v : MV} (hr : isRf v = true) {off : Int} {tgt : Nat} (hF : Fr D cl A sad ws0 s nL H locs mls (v :: r) h ls st) (hd : decode cc pc = .ok (.ifnonnull off, 3)) (ht : (pc : Int) + off = (tgt : Int))
    (kt : isNl v = true → ∀ st : List Value, Fr D cl A sad ws0 s nL H locs mls r h ls st → W p l e R s m args below meth c H locs cells slots Q (F0 m (pc + 3) ls st)) (kf : ¬ isNl v = true → ∀ st : List Value, Fr D cl A sad ws0 s nL H locs mls r h ls st → W p l e R s m args below meth c H locs cells slots Q (F0 m tgt ls st)) : W p l e R s m args below meth c H locs cells slots Q (F0 m pc ls st) := by
  obtain ⟨ws, tys, h1, h2, h3, h4, h5, h6, h7, h8⟩ := hF
  obtain ⟨c1, u1, rfl, g1, h7_1⟩ := rS_c h7
  rcases rf_nl hr g1 with ⟨hn, rfl⟩ | ⟨hn, b, rfl⟩
  · exact lv_ifnonnullN hx hb hd (kt hn _ ⟨ws, tys, h1, h2, h3, h4, h5, h6, h7_1, h8⟩)
  · exact lv_ifnonnull hx hb hd ht (kf hn _ ⟨ws, tys, h1, h2, h3, h4, h5, h6, h7_1, h8⟩)
theorem sn_acmpS (hx : p.tables.exec = Jvm.exec) (hb : c.code = cc) {x : Nat} {off : Int} {tgt : Nat} (eq : Bool) (hx9 : x ≠ 999) (hF : Fr D cl A sad ws0 s nL H locs mls (qS x :: qS x :: r) h ls st) (hd : decode cc pc = .ok (.if_acmp (if eq then .eq else .ne) off, 3)) (ht : (pc : Int) + off = (tgt : Int))
    (kt : ∀ st : List Value, Fr D cl A sad ws0 s nL H locs mls r h ls st → W p l e R s m args below meth c H locs cells slots Q (F0 m (if eq then tgt else pc + 3) ls st)) : W p l e R s m args below meth c H locs cells slots Q (F0 m pc ls st) := by
  obtain ⟨ws, tys, h1, h2, h3, h4, h5, h6, h7, h8⟩ := hF
  obtain ⟨c1, u1, rfl, ⟨b1, rfl, g1⟩, h7_1⟩ := rS_c h7
  obtain ⟨c2, u2, rfl, ⟨b2, rfl, g2⟩, h7_2⟩ := rS_c h7_1
  obtain rfl := g1.resolve_left hx9
  obtain rfl := g2.resolve_left hx9
  have hF2 : Fr D cl A sad ws0 s nL H locs mls r h ls u2 := ⟨ws, tys, h1, h2, h3, h4, h5, h6, h7_2, h8⟩
  cases eq
  · exact lv_acmp_ne (rx := some (sad x)) (ry := some (sad x)) hx hb hd ht (fun q => absurd rfl q) (fun _ => kt _ hF2)
  · exact lv_acmp_eq (rx := some (sad x)) (ry := some (sad x)) hx hb hd ht (fun _ => kt _ hF2) (fun q => absurd rfl q)
/-- the class of a row by its name -/
theorem nm_of {tys : List (ClassId × FieldType)} {cA : ClassId} {ty : FieldType} (hK : va_K D cl tys s) (hm : (cA, ty) ∈ tys) : s.vm.findClass ("[" ++ ty.toString) = some cA := by
  obtain ⟨t0, h0⟩ := mem_at hm
  have := (hK.2 t0 _ h0).2
  cases ty with
  | object C => obtain ⟨kA, comp, g1, g2, g3, g4⟩ := this; exact g4
  | _ => exact this
theorem sn_castA (hx : p.tables.exec = Jvm.exec) (hb : c.code = cc) (hown : s.vm.findClass own = some m.cls) {nm : String} {ty : FieldType} (hnm : nm = "[" ++ ty.toString) (hlk : (Jvm.Cond.classLink own index nm).before args s = true) {a : Nat} (hF : Fr D cl A sad ws0 s nL H locs mls (qR a :: r) h ls st) (hc : (∃ n f, h.1 a = cI ty n f) ∨ ∃ n f, h.1 a = cQ ty n f) (hd : decode cc pc = .ok (.checkcast index, 3))
    (kk : ∀ st : List Value, Fr D cl A sad ws0 s nL H locs mls (qR a :: r) h ls st → W p l e R s m args below meth c H locs cells slots Q (F0 m (pc + 3) ls st)) : W p l e R s m args below meth c H locs cells slots Q (F0 m pc ls st) := by
  obtain ⟨ws, tys, h1, h2, h3, h4, h5, h6, h7, h8⟩ := hF
  obtain ⟨c1, u1, rfl, ⟨b, e9, rfl, hw⟩, h7_1⟩ := rS_c h7
  have hr := h1.2 a _ hw
  have hF2 : Fr D cl A sad ws0 s nL H locs mls (qR a :: r) h ls (.ref b :: u1) := ⟨ws, tys, h1, h2, h3, h4, h5, h6, ⟨⟨b, e9, rfl, hw⟩, h7_1⟩, h8⟩
  rcases hc with ⟨n, f, hc⟩ | ⟨n, f, hc⟩
  · rw [hc] at hr
    obtain ⟨cA, g, rfl, g1, g2⟩ := hr
    exact va_castA hx hb hown hlk h2 a hw (by rw [hnm]; exact nm_of h3 g2) hd (kk _ hF2)
  · rw [hc] at hr
    obtain ⟨cA, g, rfl, g1, g2⟩ := hr
    exact va_castA hx hb hown hlk h2 a hw (by rw [hnm]; exact nm_of h3 g2) hd (kk _ hF2)
/-- new T[n] of rows -/
theorem sn_newQA (hx : p.tables.exec = Jvm.exec) (hb : c.code = cc) (hown : s.vm.findClass own = some m.cls) {t : FieldType} (hclk : (Jvm.Cond.classLink own index (FieldType.array t).toString).before args s = true) (hov : va_AOA t s) (hA : ∀ q, s.heap.size ≤ q → A q) {n : Int} (hF : Fr D cl A sad ws0 s nL H locs mls (qI n :: r) h ls st) (h0 : 0 ≤ n) (hn : n ≤ 4000) (hc : cells + 1 ≤ R.cells) (hs : slots + n.toNat ≤ R.slots) (hd : decode cc pc = .ok (.anewarray index, 3))
    (kk : ∀ (H : Heap) (st : List Value), Fr D cl A sad ws0 s nL H locs mls (qR h.2.1 :: r) (mnew h (cQ (.array t) n.toNat (fun _ => qN)) n.toNat) ls st → W p l e R s m args below meth c H locs (cells + 1) (slots + n.toNat) Q (F0 m (pc + 3) ls st)) : W p l e R s m args below meth c H locs cells slots Q (F0 m pc ls st) := by
  obtain ⟨ws, tys, h1, h2, h3, h4, h5, h6, h7, h8⟩ := hF
  obtain ⟨c1, u1, rfl, ⟨n', rfl, hn'⟩, h7_1⟩ := rS_c h7
  have eN : n'.toNatClampNeg = n.toNat := cl_of hn' h0
  refine W.anewA hx hb hown hclk (va_AOA.use hov) rfl hd rfl (fun q => by have := Int32.lt_iff_toInt_lt.mp q; rw [hn'] at this; exact absurd this (Int.not_lt.mpr h0)) (by rw [eN]; exact nb_le (k := 4) rfl (by omega) hn (by decide)) hc (by rw [eN]; exact hs) (fun cA kA comp f1 f2 f3 f4 => ?_)
  rw [eN]
  generalize hH1 : H.push ({ cls := cA, slots := Array.replicate n.toNat .null, vm := .none } : Cell) = H1
  have z1 : H1.size = H.size + 1 := by rw [← hH1, Array.size_push]
  have e1 : H1[H.size]? = some (arrV cA n.toNat (fun _ => .null)) := by rw [← hH1, Array.getElem?_push_size, ← arrV_new]
  have o1 : ∀ q : Nat, q < H.size → H1[q]? = H[q]? := fun q hq => by rw [← hH1, Array.getElem?_push, if_neg (Nat.ne_of_lt hq)]
  have hAr : ArrOfT s cA (.array t) := fun N z => ⟨(fun k h => by cases h), kA, f2, comp, f3⟩
  have hk : ∀ (k : Nat) (x : Nat × va_E), ws[k]? = some x → H1[x.1]? = H[x.1]? := fun k x hx => o1 x.1 ((h2 k x hx).lt)
  have i0 : va_K D cl (tys ++ [(cA, FieldType.array t)]) s := K_plus h3 hAr f1
  have i1 : va_P D cl (ws ++ [(H.size, .inl (cA, n.toNat, .inr (.inr (.inr (.inr (fun _ => none))))))]) H1 := (h2.kept hk).app (fun k x hx => by
    have hz : k < 1 := (List.getElem?_eq_some_iff.mp hx).1
    rw [show k = 0 by omega] at hx
    cases hx
    show H1[H.size]? = some (vp_cell _ _)
    rw [vp_cell_q]
    exact e1)
  have i2 : va_D A (ws ++ [(H.size, .inl (cA, n.toNat, .inr (.inr (.inr (.inr (fun _ => none))))))]) := h4.push h2 rfl (hA _ h5.1)
  have i3 : va_S A s.heap H1 locs := ⟨Nat.le_trans h5.1 (by omega), fun x q1 q2 => (o1 x (Nat.lt_of_lt_of_le q1 h5.1)).trans (h5.2.1 x q1 q2), h5.2.2⟩
  have hp : rP ws (ws ++ [(H.size, .inl (cA, n.toNat, .inr (.inr (.inr (.inr (fun _ => none))))))]) := rP.app
  have hl : (ws ++ [(H.size, (.inl (cA, n.toNat, .inr (.inr (.inr (.inr (fun _ => none))))) : va_E))])[h.2.1]? = some (H.size, .inl (cA, n.toNat, .inr (.inr (.inr (.inr (fun _ => none)))))) := by rw [h1.1, List.getElem?_append_right (Nat.le_refl _), Nat.sub_self]; rfl
  exact kk H1 _ ⟨_, _, h1.push (fun _ z => List.mem_append_left _ z) ⟨cA, (fun _ => none), rfl, fun _ => (rfl : Value.null = Value.null), List.mem_append_right _ List.mem_cons_self⟩, i1, i0, i2, i3, h6.up hp, ⟨⟨H.size, _, rfl, hl⟩, h7_1.up hp⟩, h8.tr hp⟩
/-- a row of whole numbers in a list -/
theorem any_of {ws : va_W} {tys : List (ClassId × FieldType)} {v : Nat} {b : Nat} {e9 : va_E} (hca : va_Nw (.castable "[I" "java/lang/Object") s) (h1 : rH sad ws tys h) (h2 : va_P D cl ws H) (h3 : va_K D cl tys s) (hv : isIA (h.1 v) = true) (hw : ws[v]? = some (b, e9)) : va_Any "java/lang/Object" s H b := by
  have hr := h1.2 v _ hw
  unfold isIA at hv
  split at hv
  · rename_i ty n f hc
    have ht : ty = .int := of_decide_eq_true hv
    subst ht
    rw [hc] at hr
    obtain ⟨cA, g, rfl, g1, g2⟩ := hr
    have hnm := nm_of h3 g2
    obtain ⟨t0, g3⟩ := mem_at g2
    obtain ⟨-, kA, k1, -⟩ := (h3.2 t0 _ g3).1 0 (fun _ => .null)
    obtain ⟨c0, t1, f1, f2, f3⟩ := Cond.castable_spec (va_Nw.use (A := #[]) rfl hca)
    have e : (some c0 : Option ClassId) = some cA := f1.symm.trans hnm
    cases e
    exact ⟨_, h2 v _ hw, rfl, ⟨kA, k1⟩, fun comp hcomp => by cases f2.symm.trans hcomp; exact f3⟩
  · cases hv
theorem sn_aastO (hx : p.tables.exec = Jvm.exec) (hb : c.code = cc) (hca : va_Nw (.castable "[I" "java/lang/Object") s) {a n v : Nat} {f : Nat → MV} {x : Int} (hv : isIA (h.1 v) = true) (hF : Fr D cl A sad ws0 s nL H locs mls (qR v :: qI x :: qR a :: r) h ls st) (ha : h.1 a = cQ tOb n f) (h0 : 0 ≤ x) (hn : x < (n : Int)) (hd : decode cc pc = .ok (.aastore, 1))
    (kk : ∀ (H : Heap) (locs : List Loc) (st : List Value), Fr D cl A sad ws0 s nL H locs mls r (mset h a (cQ tOb n (mUp f x.toNat (qR v)))) ls st → W p l e R s m args below meth c H locs cells slots Q (F0 m (pc + 1) ls st)) : W p l e R s m args below meth c H locs cells slots Q (F0 m pc ls st) := by
  obtain ⟨ws, tys, h1, h2, h3, h4, h5, h6, h7, h8⟩ := hF
  obtain ⟨c0, u0, rfl, ⟨bv, ev, rfl, hwv⟩, h7_0⟩ := rS_c h7
  obtain ⟨c1, u1, rfl, ⟨x', rfl, hx'⟩, h7_1⟩ := rS_c h7_0
  obtain ⟨c2, u2, rfl, ⟨b, e9, rfl, hw⟩, h7_2⟩ := rS_c h7_1
  have hr := h1.2 a _ hw
  rw [ha] at hr
  obtain ⟨cA, g, rfl, g1, g2⟩ := hr
  obtain ⟨t0, g3⟩ := mem_at g2
  refine va_astqM hx hb h3 h2 h4 h5 a t0 hw g3 (any_of hca h1 h2 h3 hv hwv) (vp_of hx' h0 hn) hd (fun H1 locs1 i1 i2 i3 => ?_)
  have hp := rP.set (e' := .inl (cA, n, .inr (.inr (.inr (.inr (va_up g x'.toNatClampNeg (some bv))))))) hw
  refine kk H1 locs1 u2 ⟨_, tys, h1.set hw ⟨cA, _, rfl, fun j => ?_, g2⟩, i1, h3, i2, i3, h6.up hp, h7_2.up hp, h8.tr hp⟩
  rw [cl_of hx' h0]
  unfold va_up mUp
  split
  · exact ⟨bv, ev, rfl, hwv⟩
  · exact g1 j
theorem sn_aastN (hx : p.tables.exec = Jvm.exec) (hb : c.code = cc) {a n : Nat} {f : Nat → MV} {x : Int} (hF : Fr D cl A sad ws0 s nL H locs mls (qN :: qI x :: qR a :: r) h ls st) (ha : h.1 a = cQ tOb n f) (h0 : 0 ≤ x) (hn : x < (n : Int)) (hd : decode cc pc = .ok (.aastore, 1))
    (kk : ∀ (H : Heap) (locs : List Loc) (st : List Value), Fr D cl A sad ws0 s nL H locs mls r (mset h a (cQ tOb n (mUp f x.toNat qN))) ls st → W p l e R s m args below meth c H locs cells slots Q (F0 m (pc + 1) ls st)) : W p l e R s m args below meth c H locs cells slots Q (F0 m pc ls st) := by
  obtain ⟨ws, tys, h1, h2, h3, h4, h5, h6, h7, h8⟩ := hF
  obtain ⟨c0, u0, rfl, hv0, h7_0⟩ := rS_c h7
  obtain rfl : c0 = .null := hv0
  obtain ⟨c1, u1, rfl, ⟨x', rfl, hx'⟩, h7_1⟩ := rS_c h7_0
  obtain ⟨c2, u2, rfl, ⟨b, e9, rfl, hw⟩, h7_2⟩ := rS_c h7_1
  have hr := h1.2 a _ hw
  rw [ha] at hr
  obtain ⟨cA, g, rfl, g1, g2⟩ := hr
  obtain ⟨t0, g3⟩ := mem_at g2
  refine va_astqN hx hb h3 h2 h4 h5 a t0 hw g3 (vp_of hx' h0 hn) hd (fun H1 locs1 i1 i2 i3 => ?_)
  have hp := rP.set (e' := .inl (cA, n, .inr (.inr (.inr (.inr (va_up g x'.toNatClampNeg none)))))) hw
  refine kk H1 locs1 u2 ⟨_, tys, h1.set hw ⟨cA, _, rfl, fun j => ?_, g2⟩, i1, h3, i2, i3, h6.up hp, h7_2.up hp, h8.tr hp⟩
  rw [cl_of hx' h0]
  unfold va_up mUp
  split
  · exact (rfl : Value.null = Value.null)
  · exact g1 j
theorem sn_aastA (hx : p.tables.exec = Jvm.exec) (hb : c.code = cc) {t : FieldType} (hp9 : t = .int ∨ t = .boolean) (hov : va_AOA t s) {a n v k : Nat} {f : Nat → MV} {g : Nat → Int} {x : Int} (hv : h.1 v = cI t k g) (hF : Fr D cl A sad ws0 s nL H locs mls (qR v :: qI x :: qR a :: r) h ls st) (ha : h.1 a = cQ (.array t) n f) (h0 : 0 ≤ x) (hn : x < (n : Int)) (hd : decode cc pc = .ok (.aastore, 1))
    (kk : ∀ (H : Heap) (locs : List Loc) (st : List Value), Fr D cl A sad ws0 s nL H locs mls r (mset h a (cQ (.array t) n (mUp f x.toNat (qR v)))) ls st → W p l e R s m args below meth c H locs cells slots Q (F0 m (pc + 1) ls st)) : W p l e R s m args below meth c H locs cells slots Q (F0 m pc ls st) := by
  obtain ⟨ws, tys, h1, h2, h3, h4, h5, h6, h7, h8⟩ := hF
  obtain ⟨c0, u0, rfl, ⟨bv, ev, rfl, hwv⟩, h7_0⟩ := rS_c h7
  obtain ⟨c1, u1, rfl, ⟨x', rfl, hx'⟩, h7_1⟩ := rS_c h7_0
  obtain ⟨c2, u2, rfl, ⟨b, e9, rfl, hw⟩, h7_2⟩ := rS_c h7_1
  have hr := h1.2 a _ hw
  rw [ha] at hr
  obtain ⟨cA, q, rfl, g1, g2⟩ := hr
  obtain ⟨t0, g3⟩ := mem_at g2
  have hrv := h1.2 v _ hwv
  rw [hv] at hrv
  obtain ⟨cB, qv, rfl, gv1, gv2⟩ := hrv
  obtain ⟨t1, gv3⟩ := mem_at gv2
  obtain ⟨-, kB, kb1, -⟩ := (h3.2 t1 _ gv3).1 0 (fun _ => .null)
  obtain ⟨comp, cA', kA, e1, -, e3, e4, e5⟩ := arrayOverA_spec (va_AOA.use (A := args) hov)
  have n1 : s.vm.findClass ("[" ++ (FieldType.array t).toString) = some cA := nm_of h3 g2
  have n2 : s.vm.findClass ("[" ++ t.toString) = some cB := nm_of h3 gv2
  cases e5.symm.trans n1
  have n3 : s.vm.findClass (FieldType.array t).toString = some cB := by rcases hp9 with rfl | rfl <;> exact n2
  cases e1.symm.trans n3
  have hi := vp_of hx' h0 hn
  have hlt : x'.toNatClampNeg < n := Nat.not_le.mp fun q => hi (Or.inr q)
  have hz0 : ¬ x' < 0 := fun q => hi (Or.inl q)
  have hgo : ∀ (H1 : Heap) (locs1 : List Loc), va_P D cl (ws.set a (b, .inl (cA, n, .inr (.inr (.inr (.inr (va_up q x'.toNatClampNeg (some bv)))))))) H1 → va_D A (ws.set a (b, .inl (cA, n, .inr (.inr (.inr (.inr (va_up q x'.toNatClampNeg (some bv)))))))) → va_S A s.heap H1 locs1 → W p l e R s m args below meth c H1 locs1 cells slots Q (F0 m (pc + 1) ls u2) := fun H1 locs1 i1 i2 i3 => by
    have hp := rP.set (e' := .inl (cA, n, .inr (.inr (.inr (.inr (va_up q x'.toNatClampNeg (some bv))))))) hw
    refine kk H1 locs1 u2 ⟨_, tys, h1.set hw ⟨cA, _, rfl, fun j => ?_, g2⟩, i1, h3, i2, i3, h6.up hp, h7_2.up hp, h8.tr hp⟩
    rw [cl_of hx' h0]
    unfold va_up mUp
    split
    · exact ⟨bv, _, rfl, hwv⟩
    · exact g1 j
  refine W.aast hx hb (h2 a _ hw) (fun q h => by cases h) (fun h => by cases h) e3 e4 rfl kb1 ⟨hz0, by show _ < (arrV _ _ _).slots.size; rw [arrV_size]; exact hlt⟩ (h2 v _ hwv) (fun q h => by cases h) kb1 ?_ rfl rfl hd fun H1 e z oq => ?_
  · show s.vm.assignable cB cB = true
    have ha : ∀ n, s.vm.assignableAux (n + 1) cB cB = true := fun n => by
      unfold Vm.assignableAux
      rw [beq_self_eq_true, Bool.true_or]
    exact ha 255
  · refine hgo H1 _ (h2.set h4 hw ?_ oq) (h4.set hw) (h5.put z oq (h4.2 a _ hw))
    show H1[b]? = some (vp_cell _ _)
    rw [e]
    rw [vp_cell_q, vp_cell_q, arrV_store]
    congr 2
    funext j
    by_cases hj : j = x'.toNatClampNeg
    · subst hj
      simp [updV, va_up, va_rf]
    · simp [updV, va_up, hj]
theorem sn_copyY (hx : p.tables.exec = Jvm.exec) (hb : c.code = cc) (hml : c.maxLocals = nL) (hown : s.vm.findClass own = some m.cls) (hlink : (Jvm.Cond.methodLink own index arraycopyName).before args s = true) (hnat : (Jvm.Cond.native arraycopyName).before args s = true) (hstat : (Jvm.Cond.static arraycopyName).before args s = true) (hini : (Jvm.Cond.initialized "java/lang/System").before args s = true)
    {a b n0 n1 : Nat} {f g : Nat → Int} {sp dp n : Int} (hF : Fr D cl A sad ws0 s nL H locs mls (qI n :: qI dp :: qR b :: qI sp :: qR a :: r) h ls st) (ha : h.1 a = cI .byte n0 f) (hb9 : h.1 b = cI .byte n1 g) (h01 : ∀ i, i < n.toNat → -128 ≤ f (sp.toNat + i) ∧ f (sp.toNat + i) ≤ 127) (p1 : 0 ≤ sp) (p2 : 0 ≤ dp) (p3 : 0 ≤ n) (p4 : sp + n ≤ (n0 : Int)) (p5 : dp + n ≤ (n1 : Int)) (hgt8 : hgt r ≤ 8) (hR1 : 1 ≤ R.frames) (hR2 : 100 ≤ R.locals) (hd : decode cc pc = .ok (.invokestatic index, 3))
    (kk : ∀ (H : Heap) (locs : List Loc) (st : List Value), Fr D cl A sad ws0 s nL H locs mls r (mset h b (cI .byte n1 (fun j => if dp.toNat ≤ j ∧ j < dp.toNat + n.toNat then f (sp.toNat + (j - dp.toNat)) else g j))) ls st → W p l e R s m args below meth c H locs cells slots Q (F0 m (pc + 3) ls st)) : W p l e R s m args below meth c H locs cells slots Q (F0 m pc ls st) := by
  obtain ⟨ws, tys, h1, h2, h3, h4, h5, h6, h7, h8⟩ := hF
  obtain ⟨c1, u1, rfl, ⟨n', rfl, hn'⟩, h7_1⟩ := rS_c h7
  obtain ⟨c2, u2, rfl, ⟨dp', rfl, hdp'⟩, h7_2⟩ := rS_c h7_1
  obtain ⟨c3, u3, rfl, ⟨bb, eb, rfl, hwb⟩, h7_3⟩ := rS_c h7_2
  obtain ⟨c4, u4, rfl, ⟨sp', rfl, hsp'⟩, h7_4⟩ := rS_c h7_3
  obtain ⟨c5, u5, rfl, ⟨ba, ea, rfl, hwa⟩, h7_5⟩ := rS_c h7_4
  have hra := h1.2 a _ hwa
  rw [ha] at hra
  obtain ⟨cA, ga, rfl, ga1, ga2⟩ := hra
  obtain ⟨t0, ga3⟩ := mem_at ga2
  have hrb := h1.2 b _ hwb
  rw [hb9] at hrb
  obtain ⟨cB, gb, rfl, gb1, gb2⟩ := hrb
  obtain ⟨t1, gb3⟩ := mem_at gb2
  have neg : ∀ {x : Int32} {i : Int}, x.toInt = i → 0 ≤ i → ¬ x < 0 := fun hx0 h0 q => by have := Int32.lt_iff_toInt_lt.mp q; rw [hx0] at this; exact absurd this (Int.not_lt.mpr h0)
  refine va_copyi hx hb (hml.trans h6.1.symm) hown hlink hnat hstat hini h3 h2 h4 h5 a b t0 t1 hwa hwb ga3 gb3 rfl (neg hsp' p1) (neg hdp' p2) (neg hn' p3) (by rw [cl_of hsp' p1, cl_of hn' p3]; omega) (by rw [cl_of hdp' p2, cl_of hn' p3]; omega) (fun i hi => by
    rw [cl_of hn' p3] at hi
    rw [cl_of hsp' p1]
    exact fits_by (ga1 _) (h01 i hi).1 (h01 i hi).2) hR1 (by rw [rS_hgt h7_5]; exact Nat.le_trans (Nat.add_le_add_right hgt8 _) (Nat.le_trans (by decide) hR2)) hd (fun H1 locs1 i1 i2 i3 => ?_)
  have hp := rP.set (e' := .inl (cB, n1, .inl (va_cpy ga gb sp'.toNatClampNeg dp'.toNatClampNeg n'.toNatClampNeg))) hwb
  refine kk H1 locs1 _ ⟨_, tys, h1.set hwb ⟨cB, _, rfl, fun j => ?_, gb2⟩, i1, h3, i2, i3, h6.up hp, h7_5.up hp, h8.tr hp⟩
  rw [cl_of hsp' p1, cl_of hdp' p2, cl_of hn' p3]
  unfold va_cpy
  by_cases hj : dp.toNat ≤ j ∧ j < dp.toNat + n.toNat
  · simp only [if_pos hj]
    exact ga1 _
  · simp only [if_neg hj]
    exact gb1 j
theorem sn_copyS (hx : p.tables.exec = Jvm.exec) (hb : c.code = cc) (hml : c.maxLocals = nL) (hown : s.vm.findClass own = some m.cls) (hlink : (Jvm.Cond.methodLink own index arraycopyName).before args s = true) (hnat : (Jvm.Cond.native arraycopyName).before args s = true) (hstat : (Jvm.Cond.static arraycopyName).before args s = true) (hini : (Jvm.Cond.initialized "java/lang/System").before args s = true)
    {a b n0 n1 : Nat} {f : Nat → MV} {fv : Nat → Value} {g : Nat → Int} {sp dp n : Int} (h9 : a ≠ 999) (hT : va_T .byte (sad a) n0 fv A s s.heap) (hfv : ∀ j, j < n0 → rV sad [] (f j) (fv j)) (hby : ∀ i, i < n0 → isBy (f i) = true) (hF : Fr D cl A sad ws0 s nL H locs mls (qI n :: qI dp :: qR b :: qI sp :: qS a :: r) h ls st) (hb9 : h.1 b = cI .byte n1 g) (p1 : 0 ≤ sp) (p2 : 0 ≤ dp) (p3 : 0 ≤ n) (p4 : sp + n ≤ (n0 : Int)) (p5 : dp + n ≤ (n1 : Int)) (hgt8 : hgt r ≤ 8) (hR1 : 1 ≤ R.frames) (hR2 : 100 ≤ R.locals) (hd : decode cc pc = .ok (.invokestatic index, 3))
    (kk : ∀ (H : Heap) (locs : List Loc) (st : List Value), Fr D cl A sad ws0 s nL H locs mls r (mset h b (cI .byte n1 (fun j => if dp.toNat ≤ j ∧ j < dp.toNat + n.toNat then unI (f (sp.toNat + (j - dp.toNat))) else g j))) ls st → W p l e R s m args below meth c H locs cells slots Q (F0 m (pc + 3) ls st)) : W p l e R s m args below meth c H locs cells slots Q (F0 m pc ls st) := by
  obtain ⟨ws, tys, h1, h2, h3, h4, h5, h6, h7, h8⟩ := hF
  obtain ⟨c1, u1, rfl, ⟨n', rfl, hn'⟩, h7_1⟩ := rS_c h7
  obtain ⟨c2, u2, rfl, ⟨dp', rfl, hdp'⟩, h7_2⟩ := rS_c h7_1
  obtain ⟨c3, u3, rfl, ⟨bb, eb, rfl, hwb⟩, h7_3⟩ := rS_c h7_2
  obtain ⟨c4, u4, rfl, ⟨sp', rfl, hsp'⟩, h7_4⟩ := rS_c h7_3
  obtain ⟨c5, u5, rfl, ⟨ba, rfl, hwa⟩, h7_5⟩ := rS_c h7_4
  obtain rfl := hwa.resolve_left h9
  have hrb := h1.2 b _ hwb
  rw [hb9] at hrb
  obtain ⟨cB, gb, rfl, gb1, gb2⟩ := hrb
  obtain ⟨t1, gb3⟩ := mem_at gb2
  have key : ∀ j, j < n0 → ∃ z : Int32, fv j = .int z ∧ z.toInt = unI (f j) ∧ -128 ≤ unI (f j) ∧ unI (f j) ≤ 127 := fun j hj => by
    have q1 := hfv j hj
    have q2 := hby j hj
    unfold isBy at q2
    split at q2
    · rename_i x e
      rw [e] at q1
      obtain ⟨z, q3, q4⟩ := q1
      simp only [Bool.and_eq_true, decide_eq_true_eq] at q2
      exact ⟨z, q3, by rw [e]; exact q4, by rw [e]; exact q2.1, by rw [e]; exact q2.2⟩
    · cases q2
  have hgx : ∃ gx : Nat → Int32, ∀ j, j < n0 → fv j = .int (gx j) ∧ (gx j).toInt = unI (f j) ∧ -128 ≤ unI (f j) ∧ unI (f j) ≤ 127 := by
    have hk : ∀ j : Nat, ∃ z : Int32, j < n0 → fv j = .int z ∧ z.toInt = unI (f j) ∧ -128 ≤ unI (f j) ∧ unI (f j) ≤ 127 := fun j => by
      by_cases hj : j < n0
      · obtain ⟨z, hz⟩ := key j hj
        exact ⟨z, fun _ => hz⟩
      · exact ⟨0, fun h => absurd h hj⟩
    exact Classical.axiomOfChoice hk
  obtain ⟨gx, hgx⟩ := hgx
  have hT2 := va_T_int hT (fun j hj => (hgx j hj).1)
  have neg : ∀ {x : Int32} {i : Int}, x.toInt = i → 0 ≤ i → ¬ x < 0 := fun hx0 h0 q => by have := Int32.lt_iff_toInt_lt.mp q; rw [hx0] at this; exact absurd this (Int.not_lt.mpr h0)
  refine vk_copyt hx hb (hml.trans h6.1.symm) hown hlink hnat hstat hini h3 h2 h4 h5 hT2 b t1 hwb gb3 (neg hsp' p1) (neg hdp' p2) (neg hn' p3) (by rw [cl_of hsp' p1, cl_of hn' p3]; omega) (by rw [cl_of hdp' p2, cl_of hn' p3]; omega) (fun i hi => by
    rw [cl_of hn' p3] at hi
    rw [cl_of hsp' p1]
    have := hgx (sp.toNat + i) (by omega)
    exact fits_by this.2.1 this.2.2.1 this.2.2.2) hR1 (by rw [rS_hgt h7_5]; exact Nat.le_trans (Nat.add_le_add_right hgt8 _) (Nat.le_trans (by decide) hR2)) hd (fun H1 locs1 i1 i2 i3 => ?_)
  have hp := rP.set (e' := .inl (cB, n1, .inl (va_cpy gx gb sp'.toNatClampNeg dp'.toNatClampNeg n'.toNatClampNeg))) hwb
  refine kk H1 locs1 _ ⟨_, tys, h1.set hwb ⟨cB, _, rfl, fun j => ?_, gb2⟩, i1, h3, i2, i3, h6.up hp, h7_5.up hp, h8.tr hp⟩
  rw [cl_of hsp' p1, cl_of hdp' p2, cl_of hn' p3]
  unfold va_cpy
  by_cases hj : dp.toNat ≤ j ∧ j < dp.toNat + n.toNat
  · simp only [if_pos hj]
    exact (hgx _ (by omega)).2.1
  · simp only [if_neg hj]
    exact gb1 j
theorem sn_copyQ (hx : p.tables.exec = Jvm.exec) (hb : c.code = cc) (hml : c.maxLocals = nL) (hown : s.vm.findClass own = some m.cls) (hlink : (Jvm.Cond.methodLink own index arraycopyName).before args s = true) (hnat : (Jvm.Cond.native arraycopyName).before args s = true) (hstat : (Jvm.Cond.static arraycopyName).before args s = true) (hini : (Jvm.Cond.initialized "java/lang/System").before args s = true)
    (hca : va_Nw (.castable "[I" "java/lang/Object") s) {a b n0 n1 : Nat} {f g : Nat → MV} {sp dp n : Int} (hF : Fr D cl A sad ws0 s nL H locs mls (qI n :: qI dp :: qR b :: qI sp :: qR a :: r) h ls st) (ha : h.1 a = cQ tOb n0 f) (hb9 : h.1 b = cQ tOb n1 g) (h01 : ∀ i, i < n.toNat → okE h (f (sp.toNat + i)) = true) (p1 : 0 ≤ sp) (p2 : 0 ≤ dp) (p3 : 0 ≤ n) (p4 : sp + n ≤ (n0 : Int)) (p5 : dp + n ≤ (n1 : Int)) (hgt8 : hgt r ≤ 8) (hR1 : 1 ≤ R.frames) (hR2 : 100 ≤ R.locals) (hd : decode cc pc = .ok (.invokestatic index, 3))
    (kk : ∀ (H : Heap) (locs : List Loc) (st : List Value), Fr D cl A sad ws0 s nL H locs mls r (mset h b (cQ tOb n1 (fun j => if dp.toNat ≤ j ∧ j < dp.toNat + n.toNat then f (sp.toNat + (j - dp.toNat)) else g j))) ls st → W p l e R s m args below meth c H locs cells slots Q (F0 m (pc + 3) ls st)) : W p l e R s m args below meth c H locs cells slots Q (F0 m pc ls st) := by
  obtain ⟨ws, tys, h1, h2, h3, h4, h5, h6, h7, h8⟩ := hF
  obtain ⟨c1, u1, rfl, ⟨n', rfl, hn'⟩, h7_1⟩ := rS_c h7
  obtain ⟨c2, u2, rfl, ⟨dp', rfl, hdp'⟩, h7_2⟩ := rS_c h7_1
  obtain ⟨c3, u3, rfl, ⟨bb, eb, rfl, hwb⟩, h7_3⟩ := rS_c h7_2
  obtain ⟨c4, u4, rfl, ⟨sp', rfl, hsp'⟩, h7_4⟩ := rS_c h7_3
  obtain ⟨c5, u5, rfl, ⟨ba, ea, rfl, hwa⟩, h7_5⟩ := rS_c h7_4
  have hra := h1.2 a _ hwa
  rw [ha] at hra
  obtain ⟨cA, ga, rfl, ga1, ga2⟩ := hra
  obtain ⟨t0, ga3⟩ := mem_at ga2
  have hrb := h1.2 b _ hwb
  rw [hb9] at hrb
  obtain ⟨cB, gb, rfl, gb1, gb2⟩ := hrb
  obtain ⟨t1, gb3⟩ := mem_at gb2
  have neg : ∀ {x : Int32} {i : Int}, x.toInt = i → 0 ≤ i → ¬ x < 0 := fun hx0 h0 q => by have := Int32.lt_iff_toInt_lt.mp q; rw [hx0] at this; exact absurd this (Int.not_lt.mpr h0)
  refine va_copyM hx hb (hml.trans h6.1.symm) hown hlink hnat hstat hini h3 h2 h4 h5 a b t0 t1 hwa hwb ga3 gb3 (neg hsp' p1) (neg hdp' p2) (neg hn' p3) (by rw [cl_of hsp' p1, cl_of hn' p3]; omega) (by rw [cl_of hdp' p2, cl_of hn' p3]; omega) (fun i hi y hy => by
    rw [cl_of hn' p3] at hi
    rw [cl_of hsp' p1] at hy
    have q1 := ga1 (sp.toNat + i)
    have q2 := h01 i hi
    rw [hy] at q1
    unfold okE at q2
    split at q2
    · rename_i a9 e9
      rw [e9] at q1
      obtain ⟨b9, e8, q3, q4⟩ := q1
      cases q3
      exact any_of hca h1 h2 h3 q2 q4
    · rename_i e9
      rw [e9] at q1
      cases (show va_rf (some y) = Value.null from q1)
    · cases q2) hR1 (by rw [rS_hgt h7_5]; exact Nat.le_trans (Nat.add_le_add_right hgt8 _) (Nat.le_trans (by decide) hR2)) hd (fun H1 locs1 i1 i2 i3 => ?_)
  have hp := rP.set (e' := .inl (cB, n1, .inr (.inr (.inr (.inr (va_cpy ga gb sp'.toNatClampNeg dp'.toNatClampNeg n'.toNatClampNeg)))))) hwb
  refine kk H1 locs1 _ ⟨_, tys, h1.set hwb ⟨cB, _, rfl, fun j => ?_, gb2⟩, i1, h3, i2, i3, h6.up hp, h7_5.up hp, h8.tr hp⟩
  rw [cl_of hsp' p1, cl_of hdp' p2, cl_of hn' p3]
  unfold va_cpy
  by_cases hj : dp.toNat ≤ j ∧ j < dp.toNat + n.toNat
  · simp only [if_pos hj]
    exact ga1 _
  · simp only [if_neg hj]
    exact gb1 j
abbrev clN : String := "clone"
theorem sn_clone (hx : p.tables.exec = Jvm.exec) (hb : c.code = cc) (hml : c.maxLocals = nL) (hown : s.vm.findClass own = some m.cls) (hlink : (Jvm.Cond.methodLink own index ⟨"[B", "clone", "()Ljava/lang/Object;"⟩).before args s = true) (hsame : (Jvm.Cond.sameMethod "[B" "java/lang/Object" "clone" "()Ljava/lang/Object;").before args s = true)
    (hnat : (Jvm.Cond.native ⟨"java/lang/Object", "clone", "()Ljava/lang/Object;"⟩).before args s = true) (hinst : (Jvm.Cond.instanceMethod ⟨"java/lang/Object", "clone", "()Ljava/lang/Object;"⟩).before args s = true)
    (hsel : (Jvm.Cond.selects "[B" ⟨"[B", "clone", "()Ljava/lang/Object;"⟩ ⟨"java/lang/Object", "clone", "()Ljava/lang/Object;"⟩).before args s = true) (hcl : va_Nw (.castable "[B" "java/lang/Cloneable") s) (hA : ∀ q, s.heap.size ≤ q → A q)
    {a n : Nat} {f : Nat → Int} (hF : Fr D cl A sad ws0 s nL H locs mls (qR a :: r) h ls st) (ha : h.1 a = cI .byte n f) (h01 : ∀ i, i < n → -128 ≤ f i ∧ f i ≤ 127) (hgt8 : hgt r ≤ 8) (hR1 : 1 ≤ R.frames) (hR2 : 100 ≤ R.locals) (hc : cells + 1 ≤ R.cells) (hs : slots + n ≤ R.slots) (hd : decode cc pc = .ok (.invokevirtual index, 3))
    (kk : ∀ (H : Heap) (st : List Value), Fr D cl A sad ws0 s nL H locs mls (qR h.2.1 :: r) (mnew h (cI .byte n f) n) ls st → W p l e R s m args below meth c H locs (cells + 1) (slots + n) Q (F0 m (pc + 3) ls st)) : W p l e R s m args below meth c H locs cells slots Q (F0 m pc ls st) := by
  obtain ⟨ws, tys, h1, h2, h3, h4, h5, h6, h7, h8⟩ := hF
  obtain ⟨c1, u1, rfl, ⟨b, e9, rfl, hw⟩, h7_1⟩ := rS_c h7
  have hr := h1.2 a _ hw
  rw [ha] at hr
  obtain ⟨cA, g, rfl, g1, g2⟩ := hr
  obtain ⟨t0, g3⟩ := mem_at g2
  refine va_clone hx hb (hml.trans h6.1.symm) hown hlink hsame hnat hinst hsel hcl h3 h2 h4 h5 hA a t0 hw g3 (nm_of h3 g2) (fun i v hv => ?_) hR1 (by rw [rS_hgt h7_1]; omega) hc hs hd (fun q H1 i0 i1 i2 i3 => ?_)
  · have hi : i < n := by
      have := (Array.getElem?_eq_some_iff.mp hv).1
      have e : (vp_cell cA (n, .inl g)).slots.size = n := arrV_size _ _ _
      rw [e] at this
      exact this
    have e : (vp_cell cA (n, .inl g)).slots[i]? = some (.int (g i)) := arrV_read _ _ hi
    cases e.symm.trans hv
    exact fits_by (g1 i) (h01 i hi).1 (h01 i hi).2
  · have hp : rP ws (ws ++ [(q, .inl (cA, (n, .inl g)))]) := rP.app
    have hl : (ws ++ [(q, (.inl (cA, (n, .inl g)) : va_E))])[h.2.1]? = some (q, .inl (cA, (n, .inl g))) := by rw [h1.1, List.getElem?_append_right (Nat.le_refl _), Nat.sub_self]; rfl
    exact kk H1 _ ⟨_, _, h1.push (fun _ z => List.mem_append_left _ z) ⟨cA, _, rfl, g1, List.mem_append_right _ List.mem_cons_self⟩, i1, i0, i2, i3, h6.up hp, ⟨⟨q, _, rfl, hl⟩, h7_1.up hp⟩, h8.tr hp⟩
abbrev gcX : MethodName := ⟨"java/lang/Object", "getClass", "()Ljava/lang/Class;"⟩
theorem sn_getC (hx : p.tables.exec = Jvm.exec) (hb : c.code = cc) (hml : c.maxLocals = nL) (hown : s.vm.findClass own = some m.cls) (hlink : (Jvm.Cond.methodLink own index gcX).before args s = true) (hdc : va_Dc s) (hsel : (Jvm.Cond.selects "[Ljava/lang/Object;" gcX gcX).before args s = true) (hinst : (Jvm.Cond.instanceMethod gcX).before args s = true) (hnat : (Jvm.Cond.native gcX).before args s = true) {mi : Nat} (hM : va_Mi "[Ljava/lang/Object;" (sad mi) s)
    {a n : Nat} {f : Nat → MV} (hF : Fr D cl A sad ws0 s nL H locs mls (qR a :: r) h ls st) (ha : h.1 a = cQ tOb n f) (hgt8 : hgt r ≤ 8) (hR1 : 1 ≤ R.frames) (hR2 : 100 ≤ R.locals) (hd : decode cc pc = .ok (.invokevirtual index, 3))
    (kk : ∀ (st : List Value), Fr D cl A sad ws0 s nL H locs mls (qS mi :: r) h ls st → W p l e R s m args below meth c H locs cells slots Q (F0 m (pc + 3) ls st)) : W p l e R s m args below meth c H locs cells slots Q (F0 m pc ls st) := by
  obtain ⟨ws, tys, h1, h2, h3, h4, h5, h6, h7, h8⟩ := hF
  obtain ⟨c1, u1, rfl, ⟨b, e9, rfl, hw⟩, h7_1⟩ := rS_c h7
  have hr := h1.2 a _ hw
  rw [ha] at hr
  obtain ⟨cA, g, rfl, g1, g2⟩ := hr
  exact va_getC hx hb (hml.trans h6.1.symm) hown hlink (va_Dc.use hdc) hsel hinst hnat hM ⟨_, h2 a _ hw, rfl, nm_of h3 g2⟩ hR1 (by rw [rS_hgt h7_1]; omega) hd (kk _ ⟨ws, tys, h1, h2, h3, h4, h5, h6, ⟨⟨_, rfl, Or.inr rfl⟩, h7_1⟩, h8⟩)
theorem sn_ldcM (hx : p.tables.exec = Jvm.exec) (hb : c.code = cc) (hown : s.vm.findClass own = some m.cls) {C : String} (hlink : (Jvm.Cond.classLink own index C).before args s = true) {mi : Nat} (hM : va_Mi C (sad mi) s) (hF : Fr D cl A sad ws0 s nL H locs mls mst h ls st) (hd : decode cc pc = .ok (.ldc index, 2))
    (kk : ∀ (st : List Value), Fr D cl A sad ws0 s nL H locs mls (qS mi :: mst) h ls st → W p l e R s m args below meth c H locs cells slots Q (F0 m (pc + 2) ls st)) : W p l e R s m args below meth c H locs cells slots Q (F0 m pc ls st) := by
  obtain ⟨ws, tys, h1, h2, h3, h4, h5, h6, h7, h8⟩ := hF
  exact va_ldcM hx hb hown hlink hM hd (kk _ ⟨ws, tys, h1, h2, h3, h4, h5, h6, ⟨⟨_, rfl, Or.inr rfl⟩, h7⟩, h8⟩)
end SN7
