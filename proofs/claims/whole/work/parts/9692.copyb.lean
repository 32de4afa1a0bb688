/-! ===== a copy of a row of yes and no: to be moved beside sn_copy, when the small machine copies such rows too ===== -/
section COPYB
variable {p : Program} {l : Launch} {e : Env} {R : Room} {s : State} {m : MethodId} {args : Array Value} {below : List Frame} {meth : Method} {c : Code} {H : Heap} {locs : List Loc} {cells slots : Nat} {Q : State → Prop}
variable {cc : ByteArray} {pc nL : Nat} {D : va_G} {cl : List vw_C} {A : Nat → Prop} {sad : Nat → Nat} {ws0 : va_W} {mls mst r : List MV} {h : MH} {ls : Array Slot} {st : List Value}
variable {Ts : List Jvm.Cond} {own : String} {index : Nat}
theorem sn_copyB (hx : p.tables.exec = Jvm.exec) (hb : c.code = cc) (hml : c.maxLocals = nL) (hown : s.vm.findClass own = some m.cls) (hlink : (Jvm.Cond.methodLink own index arraycopyName).before args s = true) (hnat : (Jvm.Cond.native arraycopyName).before args s = true) (hstat : (Jvm.Cond.static arraycopyName).before args s = true) (hini : (Jvm.Cond.initialized "java/lang/System").before args s = true)
    {a b n0 n1 : Nat} {f g : Nat → Int} {sp dp n : Int} (hF : Fr D cl A sad ws0 s nL H locs mls (qI n :: qI dp :: qR b :: qI sp :: qR a :: r) h ls st) (ha : h.1 a = cI .boolean n0 f) (hb9 : h.1 b = cI .boolean n1 g) (h01 : ∀ i, i < n.toNat → f (sp.toNat + i) = 0 ∨ f (sp.toNat + i) = 1) (hab : a ≠ b) (p1 : 0 ≤ sp) (p2 : 0 ≤ dp) (p3 : 0 ≤ n) (p4 : sp + n ≤ (n0 : Int)) (p5 : dp + n ≤ (n1 : Int)) (hgt8 : hgt r ≤ 8) (hR1 : 1 ≤ R.frames) (hR2 : 100 ≤ R.locals) (hd : decode cc pc = .ok (.invokestatic index, 3))
    (kk : ∀ (H : Heap) (locs : List Loc) (st : List Value), Fr D cl A sad ws0 s nL H locs mls r (mset h b (cI .boolean n1 (fun j => if dp.toNat ≤ j ∧ j < dp.toNat + n.toNat then f (sp.toNat + (j - dp.toNat)) else g j))) ls st → W p l e R s m args below meth c H locs cells slots Q (F0 m (pc + 3) ls st)) : W p l e R s m args below meth c H locs cells slots Q (F0 m pc ls st) := by
  obtain ⟨ws, tys, h1, h2, h3, h4, h5, h6, h7, h8⟩ := hF
  obtain ⟨c1, u1, rfl, ⟨n', rfl, hn'⟩, h7_1⟩ := rS_c h7
  obtain ⟨c2, u2, rfl, ⟨dp', rfl, hdp'⟩, h7_2⟩ := rS_c h7_1
  obtain ⟨c3, u3, rfl, ⟨bb, eb, rfl, hwb⟩, h7_3⟩ := rS_c h7_2
  obtain ⟨c4, u4, rfl, ⟨sp', rfl, hsp'⟩, h7_4⟩ := rS_c h7_3
  obtain ⟨c5, u5, rfl, ⟨ba, ea, rfl, hwa⟩, h7_5⟩ := rS_c h7_4
  have hra := h1.2 a _ hwa
  rw [ha] at hra
  obtain ⟨cA, ga, rfl, ga1, ga2⟩ := hra
  obtain ⟨t0, ga3⟩ := mem_at ga2
  have hrb := h1.2 b _ hwb
  rw [hb9] at hrb
  obtain ⟨cB, gb, rfl, gb1, gb2⟩ := hrb
  obtain ⟨t1, gb3⟩ := mem_at gb2
  have neg : ∀ {x : Int32} {i : Int}, x.toInt = i → 0 ≤ i → ¬ x < 0 := fun hx0 h0 q => by have := Int32.lt_iff_toInt_lt.mp q; rw [hx0] at this; exact absurd this (Int.not_lt.mpr h0)
  refine va_copyi hx hb (hml.trans h6.1.symm) hown hlink hnat hstat hini h3 h2 h4 h5 a b t0 t1 hwa hwb ga3 gb3 rfl (neg hsp' p1) (neg hdp' p2) (neg hn' p3) (by rw [cl_of hsp' p1, cl_of hn' p3]; omega) (by rw [cl_of hdp' p2, cl_of hn' p3]; omega) (fun i hi => by
    rw [cl_of hn' p3] at hi
    rw [cl_of hsp' p1]
    have h3 := ga1 (sp.toNat + i)
    show (ga (sp.toNat + i) == 0 || ga (sp.toNat + i) == 1) = true
    rcases h01 i hi with h4 | h4
    · have h5 : ga (sp.toNat + i) = 0 := Int32.toInt_inj.mp (by rw [h3, h4]; rfl)
      rw [h5]
      rfl
    · have h5 : ga (sp.toNat + i) = 1 := Int32.toInt_inj.mp (by rw [h3, h4]; rfl)
      rw [h5]
      rfl) hR1 (by rw [rS_hgt h7_5]; exact Nat.le_trans (Nat.add_le_add_right hgt8 _) (Nat.le_trans (by decide) hR2)) hd (fun H1 locs1 i1 i2 i3 => ?_)
  have hp := rP.set (e' := .inl (cB, n1, .inl (va_cpy ga gb sp'.toNatClampNeg dp'.toNatClampNeg n'.toNatClampNeg))) hwb
  refine kk H1 locs1 _ ⟨_, tys, h1.set hwb ⟨cB, _, rfl, fun j => ?_, gb2⟩, i1, h3, i2, i3, h6.up hp, h7_5.up hp, h8.tr hp⟩
  rw [cl_of hsp' p1, cl_of hdp' p2, cl_of hn' p3]
  unfold va_cpy
  by_cases hj : dp.toNat ≤ j ∧ j < dp.toNat + n.toNat
  · simp only [if_pos hj]
    exact ga1 _
  · simp only [if_neg hj]
    exact gb1 j
end COPYB
