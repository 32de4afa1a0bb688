/-! ===== A RULE: new T[n][k] ===== -/
theorem pl_at {N' : Nat} {r : Nat → Nat} {f : Nat → va_E} {z : va_E} {j : Nat} (hj : j < N') : (va_pl ([] ++ (List.range N').map r) (vr_up f ((List.range N').map r) z))[j]? = some (r j, z) := by
  unfold va_pl
  rw [List.nil_append, List.map_map, List.getElem?_map, List.getElem?_range hj]
  show some (r j, vr_up f ((List.range N').map r) z (r j)) = _
  rw [vr_up_in (List.mem_map.mpr ⟨j, List.mem_range.mpr hj, rfl⟩)]
theorem pl_len {N' : Nat} {r : Nat → Nat} {f : Nat → va_E} {z : va_E} : (va_pl ([] ++ (List.range N').map r) (vr_up f ((List.range N').map r) z)).length = N' := by
  unfold va_pl
  simp
section SN6
variable {p : Program} {l : Launch} {e : Env} {R : Room} {s : State} {m : MethodId} {args : Array Value} {below : List Frame} {meth : Method} {c : Code} {H : Heap} {locs : List Loc} {cells slots : Nat} {Q : State → Prop}
variable {cc : ByteArray} {pc nL : Nat} {D : va_G} {cl : List vw_C} {A : Nat → Prop} {sad : Nat → Nat} {ws0 : va_W} {mls mst r : List MV} {h : MH} {ls : Array Slot} {st : List Value}
variable {own : String} {index : Nat}
theorem K_plus {tys : List (ClassId × FieldType)} {cy : ClassId} {ty : FieldType} (hK : va_K D cl tys s) (h1 : ArrOfT s cy ty) (h2 : va_RA s cy ty) : va_K D cl (tys ++ [(cy, ty)]) s := hK.app ⟨hK.1, fun k q hk => by
  cases k with
  | zero => cases hk; exact ⟨h1, h2⟩
  | succ k => simp at hk⟩
theorem sn_mna {t : Nat} {ty : FieldType} (hty : (t = 0 ∧ ty = .int) ∨ (t = 1 ∧ ty = .long) ∨ (t = 3 ∧ ty = .boolean)) (hx : p.tables.exec = Jvm.exec) (hb : c.code = cc) (hown : s.vm.findClass own = some m.cls) (hclk : (Jvm.Cond.classLink own index ("[" ++ (FieldType.array ty).toString)).before args s = true) (hov : va_AOA ty s) (harr : (Jvm.Cond.arrayClass ty).before args s = true) (hA : ∀ q, s.heap.size ≤ q → A q)
    {n k : Int} (hF : Fr D cl A sad ws0 s nL H locs mls (qI k :: qI n :: r) h ls st) (h0 : 0 ≤ n) (hn : n ≤ 20) (k0 : 0 ≤ k) (hk : k ≤ 4000) (hc : cells + (1 + n.toNat) ≤ R.cells) (hs : slots + (n.toNat + n.toNat * k.toNat) ≤ R.slots) (hd : decode cc pc = .ok (.multianewarray index 2, 4))
    (kk : ∀ (H : Heap) (st : List Value), Fr D cl A sad ws0 s nL H locs mls (qR h.2.1 :: r) (mgrid t n k h) ls st → W p l e R s m args below meth c H locs (cells + 1 + n.toNat) (slots + n.toNat + n.toNat * k.toNat) Q (F0 m (pc + 4) ls st)) : W p l e R s m args below meth c H locs cells slots Q (F0 m pc ls st) := by
  obtain ⟨ws, tys, h1, h2, h3, h4, h5, h6, h7, h8⟩ := hF
  obtain ⟨c1, u1, rfl, ⟨k', rfl, hk'⟩, h7_1⟩ := rS_c h7
  obtain ⟨c2, u2, rfl, ⟨n', rfl, hn'⟩, h7_2⟩ := rS_c h7_1
  obtain ⟨cy, ky, comp, hcy, hky, hkk⟩ := Cond.arrayClass_spec harr
  have hArr : ArrOfT s cy ty := fun _ _ => ⟨fun _ q => (by cases q), ky, hky, comp, hkk⟩
  have hRA : va_RA s cy ty := by rcases hty with ⟨-, rfl⟩ | ⟨-, rfl⟩ | ⟨-, rfl⟩ <;> exact hcy
  have neg : ∀ {x : Int32} {i : Int}, x.toInt = i → 0 ≤ i → ¬ x < 0 := fun hx0 h0 q => by have := Int32.lt_iff_toInt_lt.mp q; rw [hx0] at this; exact absurd this (Int.not_lt.mpr h0)
  have hws : ws ++ va_pl [] (fun _ => .inr (0, [])) = ws := by simp [va_pl]
  obtain ⟨z, hz, hzc⟩ : ∃ z : vp_A, (∀ cc : ClassId, Jvm.Free.Multi.innerC cc k.toNat (defaultValue ty) = vp_cell cc z) ∧ ∀ (W9 : va_W) (T9 : List (ClassId × FieldType)), (cy, ty) ∈ T9 → rC sad W9 T9 (if t = 0 then cI .int k.toNat (fun _ => 0) else if t = 3 then cI .boolean k.toNat (fun _ => 0) else cL k.toNat (fun _ => 0)) (.inl (cy, z)) := by
    rcases hty with ⟨rfl, rfl⟩ | ⟨rfl, rfl⟩ | ⟨rfl, rfl⟩
    · exact ⟨(k.toNat, .inl (fun _ => 0)), fun cc => arrV_new cc k.toNat (.int 0), fun W9 T9 h9 => ⟨cy, _, rfl, fun _ => rfl, h9⟩⟩
    · exact ⟨(k.toNat, .inr (.inl (fun _ => 0))), fun cc => arrV_new cc k.toNat (.long 0), fun W9 T9 h9 => ⟨cy, _, rfl, fun _ => rfl, h9⟩⟩
    · exact ⟨(k.toNat, .inl (fun _ => 0)), fun cc => arrV_new cc k.toNat (.int 0), fun W9 T9 h9 => ⟨cy, _, rfl, fun _ => rfl, h9⟩⟩
  have hty2 : ty = if t = 0 then .int else if t = 3 then .boolean else .long := by rcases hty with ⟨rfl, rfl⟩ | ⟨rfl, rfl⟩ | ⟨rfl, rfl⟩ <;> rfl
  have hb3 : k.toNat ≤ 4000 := by omega
  have hbb : k.toNat * componentBytes ty ≤ 536870912 := by rcases hty with ⟨-, rfl⟩ | ⟨-, rfl⟩ | ⟨-, rfl⟩ <;> exact nb_le rfl k0 hk (by decide)
  refine va_mna (X := ws) (L := []) (f := fun _ => .inr (0, [])) (N' := n.toNat) (K' := k.toNat) (z := z) hx hb hown hclk hov harr hcy h3 (by rw [hws]; exact h2) (by rw [hws]; exact h4) h5 hA (neg hn' h0) (neg hk' k0) (cl_of hn' h0) (cl_of hk' k0) (nb_le (k := 4) rfl h0 (by omega) (by decide)) hbb (Nat.le_trans hb3 (Nat.le_of_ble_eq_true rfl)) (by rcases hty with ⟨-, rfl⟩ | ⟨-, rfl⟩ | ⟨-, rfl⟩ <;> rfl) (by rcases hty with ⟨-, rfl⟩ | ⟨-, rfl⟩ | ⟨-, rfl⟩ <;> rfl) hc hs hz hd (fun q rr cA H1 i0 i00 i1 i2 i3 i4 => ?_)
  generalize hrows : va_pl ([] ++ (List.range n.toNat).map rr) (vr_up (fun _ => .inr (0, [])) ((List.range n.toNat).map rr) (.inl (cy, z))) = rows at i2 i3
  have hrl : rows.length = n.toNat := by rw [← hrows]; exact pl_len
  have hra : ∀ j, j < n.toNat → rows[j]? = some (rr j, .inl (cy, z)) := fun j hj => by rw [← hrows]; exact pl_at hj
  have hlen : h.2.1 = ws.length := h1.1
  have hp : rP ws ((ws ++ [(q, .inl (cA, n.toNat, .inr (.inr (.inr (.inr (fun i => if i < n.toNat then some (rr i) else none))))))]) ++ rows) := by rw [List.append_assoc]; exact rP.app
  generalize hW : (ws ++ [(q, (.inl (cA, n.toNat, .inr (.inr (.inr (.inr (fun i => if i < n.toNat then some (rr i) else none))))) : va_E))]) ++ rows = ws' at i2 i3 hp
  have a0 : ∀ a, a < ws.length → ws'[a]? = ws[a]? := fun a ha => by
    rw [← hW, List.append_assoc, List.getElem?_append_left ha]
  have a1 : ws'[ws.length]? = some (q, .inl (cA, n.toNat, .inr (.inr (.inr (.inr (fun i => if i < n.toNat then some (rr i) else none)))))) := by
    rw [← hW, List.append_assoc, List.getElem?_append_right (Nat.le_refl _), Nat.sub_self]; rfl
  have a2 : ∀ j, j < n.toNat → ws'[ws.length + 1 + j]? = some (rr j, .inl (cy, z)) := fun j hj => by
    rw [← hW, List.getElem?_append_right (by simp)]
    have : ws.length + 1 + j - (ws ++ [(q, (.inl (cA, n.toNat, .inr (.inr (.inr (.inr (fun i => if i < n.toNat then some (rr i) else none))))) : va_E))]).length = j := by simp
    rw [this]
    exact hra j hj
  have a3 : ws'.length = ws.length + 1 + n.toNat := by rw [← hW]; simp [hrl]; omega
  refine kk H1 _ ⟨ws', tys ++ [(cA, .array ty)] ++ [(cy, ty)], ⟨?_, fun a w hw => ?_⟩, i2, K_plus i1 hArr hRA, i3, i4, h6.up hp, ⟨⟨q, _, rfl, by rw [hlen]; exact a1⟩, h7_2.up hp⟩, h8.tr hp⟩
  · show h.2.1 + 1 + n.toNat = _
    rw [a3, hlen]
  · have hla : a < ws.length + 1 + n.toNat := by rw [← a3]; exact (List.getElem?_eq_some_iff.mp hw).1
    show rC sad ws' _ (if h.2.1 + 1 ≤ a ∧ a < h.2.1 + 1 + n.toNat then _ else mUp h.1 h.2.1 _ a) w.2
    rw [hlen]
    by_cases c1 : a < ws.length
    · rw [if_neg (by omega), mUp_ne (by omega)]
      rw [a0 a c1] at hw
      exact (h1.2 a w hw).up hp (fun _ z => List.mem_append_left _ (List.mem_append_left _ z))
    · by_cases c2 : a = ws.length
      · subst c2
        rw [if_neg (by omega), mUp_self]
        rw [a1] at hw
        cases hw
        refine ⟨cA, _, rfl, fun j => ?_, List.mem_append_left _ (List.mem_append_right _ (by rw [hty2]; exact List.mem_cons_self))⟩
        by_cases hj : j < n.toNat
        · simp only [if_pos hj]
          exact ⟨rr j, _, rfl, a2 j hj⟩
        · simp only [if_neg hj]
          exact (rfl : Value.null = Value.null)
      · rw [if_pos (by omega)]
        have e9 : a = ws.length + 1 + (a - ws.length - 1) := by omega
        rw [e9, a2 _ (by omega)] at hw
        cases hw
        exact hzc _ _ (List.mem_append_right _ List.mem_cons_self)
end SN6
