/-! ===== THE LIST ON M: the text beside the land that is made ===== -/
def Nb (c : MC) : Prop := (∀ n f, c ≠ cI .byte n f) ∧ ∀ fs, c ≠ cO 11 fs
theorem nb_o {ci : Nat} {fs : List MV} (h : ci ≠ 11) : Nb (cO ci fs) := ⟨fun n f e => (by cases e), fun fs' e => h (by cases e; rfl)⟩
theorem nb_i {ty : FieldType} {n : Nat} {f : Nat → Int} (h : ty ≠ .byte) : Nb (cI ty n f) := ⟨fun n f e => h (by cases e; rfl), fun fs' e => (by cases e)⟩
theorem nb_q {ty : FieldType} {n : Nat} {f : Nat → MV} : Nb (cQ ty n f) := ⟨fun n f e => (by cases e), fun fs' e => (by cases e)⟩
/-- cells that are no text are as they were -/
def Kn (h h2 : MH) : Prop := h.2.1 ≤ h2.2.1 ∧ ∀ x, x < h.2.1 → Nb (h.1 x) → h2.1 x = h.1 x
theorem Kn.rf {h : MH} : Kn h h := ⟨Nat.le_refl _, fun _ _ _ => rfl⟩
theorem Kn.tr {h h1 h2 : MH} (a : Kn h h1) (b : Kn h1 h2) : Kn h h2 := ⟨Nat.le_trans a.1 b.1, fun x hx hn => by
  have e := a.2 x hx hn
  rw [← e]
  exact b.2 x (Nat.lt_of_lt_of_le hx a.1) (by rw [e]; exact hn)⟩
theorem Kn.at {h h2 : MH} {x : Nat} {c : MC} (a : Kn h h2) (hx : x < h.2.1) (hc : h.1 x = c) (hn : Nb c) : h2.1 x = c := (a.2 x hx (by rw [hc]; exact hn)).trans hc
theorem Kp.kn {a b : Nat} {h h2 : MH} (k : Kp a b h h2) : Kn h h2 := ⟨k.1, fun x hx _ => k.2.2.2 x hx⟩
/-- the text at tb, whose row was r0, in a heap that has grown out of h0 -/
def TxI (h0 : MH) (tb r0 : Nat) (W : List Nat) (kc ks : Nat) (h : MH) : Prop := h0.2.1 ≤ h.2.1 ∧ h.2.2.1 ≤ h0.2.2.1 + kc ∧ h.2.2.2 ≤ h0.2.2.2 + ks ∧ (∀ x, x < h0.2.1 → x ≠ tb → x ≠ r0 → h.1 x = h0.1 x) ∧ tb < h0.2.1 ∧ ∃ r, (r = r0 ∨ h0.2.1 ≤ r) ∧ r < h.2.1 ∧ r ≠ tb ∧ SbC h.1 tb r 0 W
section TXI
variable {L : Nat} {xs : Nat → Int} {fm : Bool} {h h0 h1 h2 : MH} {tb r0 kc ks kc' ks' : Nat} {W V : List Nat} {s : MV}
theorem TxI.ob (hT : TxI h0 tb r0 W kc ks h) : ∃ fs, h.1 tb = cO 11 fs := by
  obtain ⟨-, -, -, -, -, r, -, -, -, -, cap, f, y, e1, -⟩ := hT
  exact ⟨_, e1⟩
theorem TxI.up (hT : TxI h0 tb r0 W kc ks h) (h1 : kc ≤ kc') (h2 : ks ≤ ks') : TxI h0 tb r0 W kc' ks' h := by
  obtain ⟨a1, a2, a3, a4⟩ := hT
  exact ⟨a1, Nat.le_trans a2 (Nat.add_le_add_left h1 _), Nat.le_trans a3 (Nat.add_le_add_left h2 _), a4⟩
theorem TxI.kp (hT : TxI h0 tb r0 W kc ks h) (hk : Kp kc' ks' h h2) : TxI h0 tb r0 W (kc + kc') (ks + ks') h2 := by
  obtain ⟨a1, a2, a3, a4, a5, r, b1, b2, b3, hB, cap, f, y, e1, e2, e3, e4, e5, e6, e7⟩ := hT
  obtain ⟨k1, k2, k3, k4⟩ := hk
  exact ⟨by omega, by omega, by omega, fun x hx h5 h6 => (k4 x (by omega)).trans (a4 x hx h5 h6), a5, r, b1, by omega, b3, hB, cap, f, y, (k4 tb (by omega)).trans e1, e2, e3, e4, e5, (k4 r b2).trans e6, e7⟩
/-- a new cell -/
theorem TxI.nw (hT : TxI h0 tb r0 W kc ks h) {c : MC} {n : Nat} : TxI h0 tb r0 W (kc + 1) (ks + n) (mUp h.1 h.2.1 c, h.2.1 + 1, h.2.2.1 + 1, h.2.2.2 + n) := hT.kp (kc' := 1) (ks' := n) ⟨Nat.le_succ _, Nat.le_refl _, Nat.le_refl _, fun a ha => mUp_ne (by omega)⟩
theorem Kn.nw {c : MC} {n : Nat} : Kn h (mUp h.1 h.2.1 c, h.2.1 + 1, h.2.2.1 + 1, h.2.2.2 + n) := ⟨Nat.le_succ _, fun x hx _ => mUp_ne (by omega)⟩
/-- a cell that is no text is changed -/
theorem TxI.st (hT : TxI h0 tb r0 W kc ks h) {x : Nat} {c : MC} (hx : h0.2.1 ≤ x) (hn : Nb (h.1 x)) : TxI h0 tb r0 W kc ks (mUp h.1 x c, h.2) := by
  obtain ⟨a1, a2, a3, a4, a5, r, b1, b2, b3, hB, cap, f, y, e1, e2, e3, e4, e5, e6, e7⟩ := hT
  have n1 : tb ≠ x := by omega
  have n2 : r ≠ x := fun e => by
    rw [← e, e6] at hn
    exact hn.1 _ _ rfl
  exact ⟨a1, a2, a3, fun z hz h5 h6 => (mUp_ne (by omega)).trans (a4 z hz h5 h6), a5, r, b1, b2, b3, hB, cap, f, y, (mUp_ne n1).trans e1, e2, e3, e4, e5, (mUp_ne n2).trans e6, e7⟩
/-- more text -/
theorem x_app {d : Nat} {B : Nat → List MI} {ex : List Nat} {is : List MI} {ls st : List MV} {Q : (Option MV ⊕ Nat) → MH → Prop} (hT : TxI h0 tb r0 W kc ks h1) (hs : StN h1 h kc' ks' s V) (hl : W.length + V.length ≤ 1500) (hd : 4 < d) (k : ∀ h2, TxI h0 tb r0 (W ++ V) (kc + kc' + 1) (ks + ks' + 3100) h2 → Kn h h2 → Wp (GG L xs fm) d B is ls (qR tb :: st) h2 Q) : WCl (GG L xs fm) d B ex is ls mJ4_append_15ec4 [qR tb, s] st h Q := by
  have hle := hs.1.1
  have hT2 := hT.kp hs.1
  obtain ⟨-, -, -, -, -, r', -, rlt, -, -, cap', f', y', -, -, -, -, -, e6', -⟩ := id hT
  obtain ⟨a1, a2, a3, a4, a5, r, b1, b2, b3, hS⟩ := hT
  obtain ⟨t1, t2, t3, t4, -⟩ := hT2
  have hS2 : SbC h.1 tb r 0 W := by
    obtain ⟨hB, cap, f, y, e1, e2, e3, e4, e5, e6, e7⟩ := hS
    exact ⟨hB, cap, f, y, (hs.1.2.2.2 tb (by omega)).trans e1, e2, e3, e4, e5, (hs.1.2.2.2 r b2).trans e6, e7⟩
  refine WCl_of (sb_app hS2 (by omega) (by omega) b3 (hs.2.1 r b2) hl) hd (fun v h2 hv => ?_)
  obtain ⟨rfl, r2, g1, g2, g3, g4, F1, F2, F3, F4⟩ := hv
  rw [WCo_in]
  refine k h2 ⟨by omega, by omega, ?_, fun x hx h5 h6 => (F4 x (by omega) h5 (by omega)).trans (t4 x hx h5 h6), a5, r2, by omega, g2, g3, g4⟩ ⟨F1, fun x hx hn => F4 x hx (fun e => ?_) (fun e => ?_)⟩
  · rw [← Nat.add_assoc]
    exact Nat.le_trans F3 (Nat.add_le_add_right t3 3100)
  · obtain ⟨-, cap, f, y, e1, -⟩ := hS2
    rw [e, e1] at hn
    exact hn.2 _ rfl
  · obtain ⟨-, cap, f, y, -, -, -, -, -, e6, -⟩ := hS2
    rw [e, e6] at hn
    exact hn.1 _ _ rfl
theorem x_num {d : Nat} {B : Nat → List MI} {ex : List Nat} {is : List MI} {ls st : List MV} {Q : (Option MV ⊕ Nat) → MH → Prop} {n : Nat} (hT : TxI h0 tb r0 W kc ks h) (hn : n < 100) (hl : W.length + 2 ≤ 1500) (hd : 4 < d) (k : ∀ h2, TxI h0 tb r0 (W ++ dgL n) (kc + 1) (ks + 3100) h2 → Kn h h2 → Wp (GG L xs fm) d B is ls (qR tb :: st) h2 Q) : WCl (GG L xs fm) d B ex is ls mJ4_append_bf812 [qR tb, qI (n : Nat)] st h Q := by
  obtain ⟨a1, a2, a3, a4, a5, r, b1, b2, b3, hS⟩ := hT
  have hd2 := dgL_len (n := n)
  refine WCl_of (sb_num hS (by omega) b2 b3 hn (by omega)) hd (fun v h2 hv => ?_)
  obtain ⟨rfl, r2, g1, g2, g3, g4, F1, F2, F3, F4⟩ := hv
  rw [WCo_in]
  refine k h2 ⟨by omega, by omega, ?_, fun x hx h5 h6 => (F4 x (by omega) h5 (by omega)).trans (a4 x hx h5 h6), a5, r2, by omega, g2, g3, g4⟩ ⟨F1, fun x hx hn => F4 x hx (fun e => ?_) (fun e => ?_)⟩
  · rw [← Nat.add_assoc]
    exact Nat.le_trans F3 (Nat.add_le_add_right a3 3100)
  · obtain ⟨-, cap, f, y, e1, -⟩ := hS
    rw [e, e1] at hn
    exact hn.2 _ rfl
  · obtain ⟨-, cap, f, y, -, -, -, -, -, e6, -⟩ := hS
    rw [e, e6] at hn
    exact hn.1 _ _ rfl
end TXI
/-- rows that are made one after another behind their row of rows -/
def RwB (h : MH) (lo : Nat) (ty : FieldType) (a c j m : Nat) (R : Nat → Nat) (G : Nat → Nat → Int) : Prop := lo ≤ a ∧ a < h.2.1 ∧ (∃ f, h.1 a = cQ (.array ty) c f ∧ ∀ i, i < j → f i = qR (R i)) ∧ (∀ i, i < j → a < R i ∧ R i < h.2.1 ∧ ∃ g, h.1 (R i) = cI ty m g ∧ ∀ x, x < m → g x = G i x) ∧ ∀ i i', i < i' → i' < j → R i < R i'
theorem RwB.kn {h h2 : MH} {lo : Nat} {ty : FieldType} {a c j m : Nat} {R : Nat → Nat} {G : Nat → Nat → Int} (hR : RwB h lo ty a c j m R G) (hk : Kn h h2) (ht : ty ≠ .byte) : RwB h2 lo ty a c j m R G := by
  obtain ⟨a0, a1, ⟨f, e1, e2⟩, a3, a4⟩ := hR
  have := hk.1
  refine ⟨a0, by omega, ⟨f, hk.at a1 e1 nb_q, e2⟩, fun i hi => ?_, a4⟩
  obtain ⟨b0, b1, g, b2, b3⟩ := a3 i hi
  exact ⟨b0, by omega, g, hk.at b1 b2 (nb_i ht), b3⟩
/-- one row more, in the newest cell -/
theorem RwB.add {h : MH} {lo : Nat} {ty : FieldType} {a c j m n : Nat} {R : Nat → Nat} {G : Nat → Nat → Int} {g : Nat → Int} {f : Nat → MV} (hR : RwB h lo ty a c j m R G) (hf : h.1 a = cQ (.array ty) c f) (hg : ∀ x, x < m → g x = G j x) : RwB (mUp (mUp h.1 h.2.1 (cI ty m g)) a (cQ (.array ty) c (mUp f j (qR h.2.1))), h.2.1 + 1, h.2.2.1 + 1, h.2.2.2 + n) lo ty a c (j + 1) m (mUp R j h.2.1) G := by
  obtain ⟨a0, a1, ⟨f', e1, e2⟩, a3, a4⟩ := hR
  rw [hf] at e1
  cases e1
  refine ⟨a0, Nat.lt_succ_of_lt a1, ⟨_, mUp_self _ _ _, fun i hi => ?_⟩, fun i hi => ?_, fun i i' hi hi' => ?_⟩
  · by_cases hij : i = j
    · rw [hij, mUp_self, mUp_self]
    · rw [mUp_ne hij, mUp_ne hij]
      exact e2 i (by omega)
  · by_cases hij : i = j
    · subst hij
      rw [mUp_self]
      refine ⟨a1, Nat.lt_succ_self _, g, ?_, hg⟩
      show mUp (mUp h.1 _ _) a _ h.2.1 = _
      rw [mUp_ne (by omega), mUp_self]
    · rw [mUp_ne hij]
      obtain ⟨b0, b1, g', b2, b3⟩ := a3 i (by omega)
      refine ⟨b0, Nat.lt_succ_of_lt b1, g', ?_, b3⟩
      show mUp (mUp h.1 _ _) a _ (R i) = _
      rw [mUp_ne (by omega), mUp_ne (by omega)]
      exact b2
  · by_cases hij : i' = j
    · subst hij
      rw [mUp_self, mUp_ne (by omega)]
      exact (a3 i (by omega)).2.1
    · rw [mUp_ne hij, mUp_ne (by omega)]
      exact a4 i i' hi (by omega)
