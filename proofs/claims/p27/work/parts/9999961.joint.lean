/-! ===== THE CLASS AND THE HAND-MADE LAND SIDE BY SIDE ===== -/
/-- cells behind the class' are kept, so many more -/
def Kq (kc ks : Nat) (h h2 : MH) : Prop := h.2.1 ≤ h2.2.1 ∧ h2.2.2.1 ≤ h.2.2.1 + kc ∧ h2.2.2.2 ≤ h.2.2.2 + ks ∧ ∀ a, 107 ≤ a → a < h.2.1 → h2.1 a = h.1 a
theorem Kq.rf {h : MH} : Kq 0 0 h h := ⟨Nat.le_refl _, Nat.le_refl _, Nat.le_refl _, fun _ _ _ => rfl⟩
theorem Kq.tr {a b c d : Nat} {h h1 h2 : MH} (f : Kq a b h h1) (g : Kq c d h1 h2) : Kq (a + c) (b + d) h h2 := by
  obtain ⟨f1, f2, f3, f4⟩ := f
  obtain ⟨g1, g2, g3, g4⟩ := g
  exact ⟨by omega, by omega, by omega, fun x h7 hx => (g4 x h7 (by omega)).trans (f4 x h7 hx)⟩
theorem Kq.up {a b c d : Nat} {h h1 : MH} (f : Kq a b h h1) (i1 : a ≤ c) (i2 : b ≤ d) : Kq c d h h1 := ⟨f.1, by have := f.2.1; omega, by have := f.2.2.1; omega, f.2.2.2⟩
theorem Kp.kq {a b : Nat} {h h1 : MH} (f : Kp a b h h1) : Kq a b h h1 := ⟨f.1, f.2.1, f.2.2.1, fun x _ hx => f.2.2.2 x hx⟩
theorem Fm.kq {h h2 : MH} (f : Fm 0 107 h h2) : Kq 0 0 h h2 := ⟨by rw [f.1]; exact Nat.le_refl _, by rw [f.1]; exact Nat.le_refl _, by rw [f.1]; exact Nat.le_refl _, fun a h7 _ => f.2 a (Or.inr (by omega))⟩
/-- class and land in the same state -/
def JA (h : MH) (pa pd : Nat) (tp : Nat → Int) (ea : Int) (tg ad wa : Nat → Nat) (ev : MV) (mc : Int) (Q : Pn) (oz : Nat → Nat → Int) (S : St8) : Prop := ClA h.1 pa pd Q S tp 0 ea ∧ SimA h tg ad wa ev mc Q oz S (fun _ => 0) ∧ 107 ≤ h.2.1 ∧ (∀ x, x < 107 → 300 ≤ tg x) ∧ PnOk Q ∧ SmOk Q S ∧ OzOk Q oz
/-- asked meanwhile, cells of its own laid behind -/
def JB (pa pd : Nat) (tp : Nat → Int) (ea : Int) (Q : Pn) (S : St8) (kc ks : Nat) (h0 h : MH) : Prop := Kq kc ks h0 h ∧ ClA h.1 pa pd Q S tp 0 ea
section JNT
variable {L : Nat} {xs : Nat → Int} {fm : Bool} {h h0 h2 : MH} {pa pd : Nat} {tp : Nat → Int} {ea : Int} {tg ad wa : Nat → Nat} {ev : MV} {mc : Int} {Q : Pn} {oz : Nat → Nat → Int} {S : St8} {kc ks : Nat}
theorem JA.hQ (hJ : JA h pa pd tp ea tg ad wa ev mc Q oz S) : PnOk Q := hJ.2.2.2.2.1
theorem JA.hM (hJ : JA h pa pd tp ea tg ad wa ev mc Q oz S) : SmOk Q S := hJ.2.2.2.2.2.1
theorem JA.hS (hJ : JA h pa pd tp ea tg ad wa ev mc Q oz S) : SOk Q S := hJ.hM.1
theorem JA.hH (hJ : JA h pa pd tp ea tg ad wa ev mc Q oz S) : HeOk Q S := hJ.hM.2.1
theorem JA.b7 (hJ : JA h pa pd tp ea tg ad wa ev mc Q oz S) : 107 ≤ h.2.1 := hJ.2.2.1
theorem JA.rf (hJ : JA h pa pd tp ea tg ad wa ev mc Q oz S) : JB pa pd tp ea Q S 0 0 h h := ⟨Kq.rf, hJ.1⟩
theorem JB.cls (hB : JB pa pd tp ea Q S kc ks h0 h) (hX : XOk h pa pd Q S tp 0 ea h2) : JB pa pd tp ea Q S kc ks h0 h2 := ⟨hB.1.tr hX.1.kq, hX.2⟩
theorem JB.b7 (hB : JB pa pd tp ea Q S kc ks h0 h) (h7 : 107 ≤ h0.2.1) : 107 ≤ h.2.1 := Nat.le_trans h7 hB.1.1
theorem JB.kp {a b : Nat} (hB : JB pa pd tp ea Q S kc ks h0 h) (h7 : 107 ≤ h0.2.1) (f : Kp a b h h2) : JB pa pd tp ea Q S (kc + a) (ks + b) h0 h2 := ⟨hB.1.tr f.kq, hB.2.cg (fun x hx => f.2.2.2 x (by have := hB.b7 h7; omega))⟩
theorem JB.up {a b : Nat} (hB : JB pa pd tp ea Q S kc ks h0 h) (i1 : kc ≤ a) (i2 : ks ≤ b) : JB pa pd tp ea Q S a b h0 h := ⟨hB.1.up i1 i2, hB.2⟩
theorem JB.wr {a : Nat} {c : MC} (hB : JB pa pd tp ea Q S kc ks h0 h) (h7 : 107 ≤ h0.2.1) (ha : h0.2.1 ≤ a) : JB pa pd tp ea Q S kc ks h0 (mUp h.1 a c, h.2) := ⟨⟨hB.1.1, hB.1.2.1, hB.1.2.2.1, fun x h9 hx => (mUp_ne (by omega)).trans (hB.1.2.2.2 x h9 hx)⟩, hB.2.cg (fun x hx => mUp_ne (by omega))⟩
theorem JB.nw {n : Nat} {c : MC} (hB : JB pa pd tp ea Q S kc ks h0 h) (h7 : 107 ≤ h0.2.1) : JB pa pd tp ea Q S (kc + 1) (ks + n) h0 (mUp h.1 h.2.1 c, h.2.1 + 1, h.2.2.1 + 1, h.2.2.2 + n) := by
  have h8 := hB.b7 h7
  obtain ⟨⟨k1, k2, k3, k4⟩, k5⟩ := hB
  exact ⟨⟨by show h0.2.1 ≤ h.2.1 + 1; omega, by show h.2.2.1 + 1 ≤ _; omega, by show h.2.2.2 + n ≤ _; omega, fun x h9 hx => (mUp_ne (by omega)).trans (k4 x h9 hx)⟩, k5.cg (fun x hx => mUp_ne (by omega))⟩
theorem JB.sim (hJ : JA h0 pa pd tp ea tg ad wa ev mc Q oz S) (hB : JB pa pd tp ea Q S kc ks h0 h) : SimA h tg ad wa ev mc Q oz S (fun _ => 0) := hJ.2.1.cg hB.1.1 hB.1.2.2.2
theorem JB.ja (hJ : JA h0 pa pd tp ea tg ad wa ev mc Q oz S) (hB : JB pa pd tp ea Q S kc ks h0 h) : JA h pa pd tp ea tg ad wa ev mc Q oz S := ⟨hB.2, hB.sim hJ, hB.b7 hJ.b7, hJ.2.2.2⟩
theorem j_count {d : Nat} {B : Nat → List MI} {ex : List Nat} {is : List MI} {ls st : List MV} {Q' : (Option MV ⊕ Nat) → MH → Prop} (hJ : JA h0 pa pd tp ea tg ad wa ev mc Q oz S) (hB : JB pa pd tp ea Q S kc ks h0 h) {k : Int} {j : Nat} (hk : k = (j : Int)) (hj : j < 15) (hd : 7 < d) (nx : ∀ h2, Fm 0 107 h h2 → JB pa pd tp ea Q S kc ks h0 h2 → Wp (GG L xs fm) d B is ls (qI (countS Q S 0 j) :: st) h2 Q') : WCl (GG L xs fm) d B ex is ls 110 [qR 0, qI k] st h Q' := by
  refine WCl_of (x_count (k := k) hB.2 hJ.hQ hJ.hS) hd (fun v h2 hv => ?_)
  rw [if_pos (by omega)] at hv
  obtain ⟨rfl, hX⟩ := hv
  rw [show k.toNat = j by omega]
  exact nx h2 hX.1 (hB.cls hX)
theorem j_tav {d : Nat} {B : Nat → List MI} {ex : List Nat} {is : List MI} {ls st : List MV} {Q' : (Option MV ⊕ Nat) → MH → Prop} (hJ : JA h0 pa pd tp ea tg ad wa ev mc Q oz S) (hB : JB pa pd tp ea Q S kc ks h0 h) {a : Int} {i : Nat} (ha : a = (i : Int)) {k : Int} {j : Nat} (hk : k = (j : Int)) (hi : i < Q.1) (hj : j < 4) (hd : 4 < d) (nx : ∀ h2, Fm 0 107 h h2 → JB pa pd tp ea Q S kc ks h0 h2 → Wp (GG L xs fm) d B is ls (qI (tavS Q S i j) :: st) h2 Q') : WCl (GG L xs fm) d B ex is ls 112 [qR 0, qI a, qI k] st h Q' := by
  refine WCl_of (x_tavern (t := a) (k := k) hB.2 hJ.hQ) hd (fun v h2 hv => ?_)
  rw [if_pos (by omega)] at hv
  obtain ⟨rfl, hX⟩ := hv
  rw [show k.toNat = j by omega, show a.toNat = i by omega]
  exact nx h2 hX.1 (hB.cls hX)
theorem j_road {d : Nat} {B : Nat → List MI} {ex : List Nat} {is : List MI} {ls st : List MV} {Q' : (Option MV ⊕ Nat) → MH → Prop} (hJ : JA h0 pa pd tp ea tg ad wa ev mc Q oz S) (hB : JB pa pd tp ea Q S kc ks h0 h) {a : Int} {i : Nat} (ha : a = (i : Int)) {k : Int} {j : Nat} (hk : k = (j : Int)) (hi : i < Q.2.1) (hj : j < 9) (hd : 6 < d) (nx : ∀ h2, Fm 0 107 h h2 → JB pa pd tp ea Q S kc ks h0 h2 → Wp (GG L xs fm) d B is ls (qI (roadS Q S i j) :: st) h2 Q') : WCl (GG L xs fm) d B ex is ls 114 [qR 0, qI a, qI k] st h Q' := by
  refine WCl_of (x_road (t := a) (k := k) hB.2 hJ.hQ hJ.hS) hd (fun v h2 hv => ?_)
  rw [if_pos (by omega)] at hv
  obtain ⟨rfl, hX⟩ := hv
  rw [show k.toNat = j by omega, show a.toNat = i by omega]
  exact nx h2 hX.1 (hB.cls hX)
theorem j_rum {d : Nat} {B : Nat → List MI} {ex : List Nat} {is : List MI} {ls st : List MV} {Q' : (Option MV ⊕ Nat) → MH → Prop} (hJ : JA h0 pa pd tp ea tg ad wa ev mc Q oz S) (hB : JB pa pd tp ea Q S kc ks h0 h) {a : Int} {i : Nat} (ha : a = (i : Int)) {k : Int} {j : Nat} (hk : k = (j : Int)) (hi : i < Q.2.2.1) (hj : j < 4) (hd : 5 < d) (nx : ∀ h2, Fm 0 107 h h2 → JB pa pd tp ea Q S kc ks h0 h2 → Wp (GG L xs fm) d B is ls (qI (rumS Q S i j) :: st) h2 Q') : WCl (GG L xs fm) d B ex is ls 116 [qR 0, qI a, qI k] st h Q' := by
  refine WCl_of (x_rumour (t := a) (k := k) hB.2 hJ.hQ hJ.hS) hd (fun v h2 hv => ?_)
  rw [if_pos (by omega)] at hv
  obtain ⟨rfl, hX⟩ := hv
  rw [show k.toNat = j by omega, show a.toNat = i by omega]
  exact nx h2 hX.1 (hB.cls hX)
theorem j_since {d : Nat} {B : Nat → List MI} {ex : List Nat} {is : List MI} {ls st : List MV} {Q' : (Option MV ⊕ Nat) → MH → Prop} (hJ : JA h0 pa pd tp ea tg ad wa ev mc Q oz S) (hB : JB pa pd tp ea Q S kc ks h0 h) {a : Int} {i : Nat} (ha : a = (i : Int)) {k : Int} {j : Nat} (hk : k = (j : Int)) (hi : i < Q.1) (hj : j < Q.2.2.1) (hd : 2 < d) (nx : ∀ h2, Fm 0 107 h h2 → JB pa pd tp ea Q S kc ks h0 h2 → Wp (GG L xs fm) d B is ls (qI (heS6 S (i * 6 + j)) :: st) h2 Q') : WCl (GG L xs fm) d B ex is ls 118 [qR 0, qI a, qI k] st h Q' := by
  refine WCl_of (x_since (t := a) (k := k) hB.2 hJ.hQ) hd (fun v h2 hv => ?_)
  rw [if_pos (by omega)] at hv
  obtain ⟨rfl, hX⟩ := hv
  rw [show k.toNat = j by omega, show a.toNat = i by omega]
  exact nx h2 hX.1 (hB.cls hX)
theorem j_far {d : Nat} {B : Nat → List MI} {ex : List Nat} {is : List MI} {ls st : List MV} {Q' : (Option MV ⊕ Nat) → MH → Prop} (hJ : JA h0 pa pd tp ea tg ad wa ev mc Q oz S) (hB : JB pa pd tp ea Q S kc ks h0 h) {a : Int} {i : Nat} (ha : a = (i : Int)) {k : Int} {j : Nat} (hk : k = (j : Int)) (hi : i < Q.1) (hj : j < Q.1) (hd : 2 < d) (nx : ∀ h2, Fm 0 107 h h2 → JB pa pd tp ea Q S kc ks h0 h2 → Wp (GG L xs fm) d B is ls (qI (dst (gra Q S (-1)) i j) :: st) h2 Q') : WCl (GG L xs fm) d B ex is ls 122 [qR 0, qI a, qI k] st h Q' := by
  refine WCl_of (x_far (a := a) (c := k) hB.2) hd (fun v h2 hv => ?_)
  rw [if_pos (by omega)] at hv
  obtain ⟨rfl, hX⟩ := hv
  rw [show k.toNat = j by omega, show a.toNat = i by omega]
  exact nx h2 hX.1 (hB.cls hX)
theorem j_step {d : Nat} {B : Nat → List MI} {ex : List Nat} {is : List MI} {ls st : List MV} {Q' : (Option MV ⊕ Nat) → MH → Prop} (hJ : JA h0 pa pd tp ea tg ad wa ev mc Q oz S) (hB : JB pa pd tp ea Q S kc ks h0 h) {a : Int} {i : Nat} (ha : a = (i : Int)) {k : Int} {j : Nat} (hk : k = (j : Int)) (hi : i < Q.1) (hj : j < Q.1) (hd : 3 < d) (nx : ∀ h2, Fm 0 107 h h2 → JB pa pd tp ea Q S kc ks h0 h2 → Wp (GG L xs fm) d B is ls (qI (nextT (gra Q S (-1)) i j) :: st) h2 Q') : WCl (GG L xs fm) d B ex is ls 123 [qR 0, qI a, qI k] st h Q' := by
  refine WCl_of (x_step (a := a) (c := k) hB.2) hd (fun v h2 hv => ?_)
  rw [if_pos (by omega)] at hv
  obtain ⟨rfl, hX⟩ := hv
  rw [show k.toNat = j by omega, show a.toNat = i by omega]
  exact nx h2 hX.1 (hB.cls hX)
theorem j_det {d : Nat} {B : Nat → List MI} {ex : List Nat} {is : List MI} {ls st : List MV} {Q' : (Option MV ⊕ Nat) → MH → Prop} (hJ : JA h0 pa pd tp ea tg ad wa ev mc Q oz S) (hB : JB pa pd tp ea Q S kc ks h0 h) {k : Int} {j : Nat} (hk : k = (j : Int)) (hj : j < Q.2.1) (hd : 2 < d) (nx : ∀ h2, Fm 0 107 h h2 → JB pa pd tp ea Q S kc ks h0 h2 → Wp (GG L xs fm) d B is ls (qI (detS Q S j) :: st) h2 Q') : WCl (GG L xs fm) d B ex is ls 124 [qR 0, qI k] st h Q' := by
  refine WCl_of (x_detour (a := k) hB.2) hd (fun v h2 hv => ?_)
  rw [if_pos (by omega)] at hv
  obtain ⟨rfl, hX⟩ := hv
  rw [show k.toNat = j by omega]
  exact nx h2 hX.1 (hB.cls hX)
theorem j_rep {d : Nat} {B : Nat → List MI} {ex : List Nat} {is : List MI} {ls st : List MV} {Q' : (Option MV ⊕ Nat) → MH → Prop} (hJ : JA h0 pa pd tp ea tg ad wa ev mc Q oz S) (hB : JB pa pd tp ea Q S kc ks h0 h) {k : Int} {j : Nat} (hk : k = (j : Int)) (hj : j < Q.2.1) (hd : 6 < d) (nx : ∀ h2, Fm 0 107 h h2 → JB pa pd tp ea Q S kc ks h0 h2 → Wp (GG L xs fm) d B is ls (qI (repS Q S j) :: st) h2 Q') : WCl (GG L xs fm) d B ex is ls 125 [qR 0, qI k] st h Q' := by
  refine WCl_of (x_replace (a := k) hB.2) hd (fun v h2 hv => ?_)
  rw [if_pos (by omega)] at hv
  obtain ⟨rfl, hX⟩ := hv
  rw [show k.toNat = j by omega]
  exact nx h2 hX.1 (hB.cls hX)
theorem j_best {d : Nat} {B : Nat → List MI} {ex : List Nat} {is : List MI} {ls st : List MV} {Q' : (Option MV ⊕ Nat) → MH → Prop} (hJ : JA h0 pa pd tp ea tg ad wa ev mc Q oz S) (hB : JB pa pd tp ea Q S kc ks h0 h)  (hd : 5 < d) (nx : ∀ h2, Fm 0 107 h h2 → JB pa pd tp ea Q S kc ks h0 h2 → Wp (GG L xs fm) d B is ls (qI ((bsK Q S Q.2.1).1) :: st) h2 Q') : WCl (GG L xs fm) d B ex is ls 135 [qR 0] st h Q' := by
  refine WCl_of (x_best hB.2 hJ.hQ hJ.hS) hd (fun v h2 hv => ?_)
  obtain ⟨rfl, hX⟩ := hv
  exact nx h2 hX.1 (hB.cls hX)
theorem j_dig {d : Nat} {B : Nat → List MI} {ex : List Nat} {is : List MI} {ls st : List MV} {Q' : (Option MV ⊕ Nat) → MH → Prop} (hJ : JA h0 pa pd tp ea tg ad wa ev mc Q oz S) (hB : JB pa pd tp ea Q S kc ks h0 h)  (hd : 7 < d) (nx : ∀ h2, Fm 0 107 h h2 → JB pa pd tp ea Q S kc ks h0 h2 → Wp (GG L xs fm) d B is ls (qL (digS Q S 0) :: st) h2 Q') : WCl (GG L xs fm) d B ex is ls 137 [qR 0] st h Q' := by
  refine WCl_of (x_digest hB.2 hJ.hQ hJ.hS) hd (fun v h2 hv => ?_)
  obtain ⟨rfl, hX⟩ := hv
  exact nx h2 hX.1 (hB.cls hX)
end JNT
