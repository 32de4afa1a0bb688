/-! ===== TOKENS OF THE LIST: kinds, names, numbers; the templates of sums and tests by program (gen_tmpl.py) ===== -/
abbrev Tk3 : Type := Nat × Nat × Nat
def ltr (k : Nat) : Nat := if k = 0 then 116 else if k = 1 then 114 else 107
def wdT (x : Tk3) : List Nat := if x.1 = 42 then ltr x.2.1 :: dgL x.2.2 else if x.1 = 43 then dgL x.2.2 else txt x.1
abbrev Pk : Type := List Nat × Tk3 × List Nat
def pwT (l : List Pk) : List Pw := l.map (fun p => (p.1, wdT p.2.1, p.2.2))
def kdT (l : List Pk) (i : Nat) : Nat := (l.getD i ([], (45, 0, 0), [])).2.1.1
def vlT (l : List Pk) (i : Nat) : Int := ((l.getD i ([], (45, 0, 0), [])).2.1.2.2 : Nat)
theorem pwT_app {a b : List Pk} : pwT (a ++ b) = pwT a ++ pwT b := List.map_append
theorem kw_nm : ∀ k, k < 3 → ∀ v, v < 14 → kndW (ltr k :: dgL v) = 42 ∧ isWord (ltr k :: dgL v) = true := by decide +kernel
theorem kw_nb : ∀ v, v < 100 → kndW (dgL v) = 43 ∧ isWord (dgL v) = true ∧ valW (dgL v) = (v : Int) := by decide +kernel
theorem kw_tx : ∀ a, a < 41 → kndW (txt a) = a ∧ isWord (txt a) = true := by decide +kernel
theorem sp_in : ∀ k, k < 3 → ∀ v, v < 14 → ∀ w, w < 14 → spW (ltr k :: dgL v) = spW (ltr k :: dgL w) → v = w := by decide +kernel
theorem dg_hd : ∀ v, v < 100 → 48 ≤ (dgL v).headD 0 ∧ (dgL v).headD 0 ≤ 57 ∧ dgL v ≠ [] := by decide +kernel
theorem st_nb {v c : Nat} (hv : v < 100) (hc : isDg (c : Int) = false) : stopO (dgL v) (some c) = true := by
  obtain ⟨h1, h2, h3⟩ := dg_hd v hv
  show stopB (dgL v) c = true
  cases h : dgL v with
  | nil => exact absurd h h3
  | cons a t =>
    rw [h] at h1 h2
    have h1 : 48 ≤ a := h1
    have h2 : a ≤ 57 := h2
    unfold stopB
    dsimp only
    have e1 : isL (a : Int) = false := by
      unfold isL
      rw [decide_eq_false (by omega)]
      rfl
    have e2 : isDg (a : Int) = true := by
      unfold isDg
      rw [decide_eq_true (by omega), decide_eq_true (by omega)]
      rfl
    rw [e1, e2, if_neg (by decide), if_pos rfl, hc]
    rfl
theorem st_lt {w : Nat} {v : Nat} {V : List Nat} {o : Option Nat} (hw : w = 60 ∨ w = 62) (hv : v < 100) : stopO [w] (orE (dgL v ++ V).head? o) = true := by
  obtain ⟨h1, h2, h3⟩ := dg_hd v hv
  cases h : dgL v with
  | nil => exact absurd h h3
  | cons a t =>
    rw [h] at h1 h2
    have h1 : 48 ≤ a := h1
    have h2 : a ≤ 57 := h2
    show stopB [w] a = true
    have e : (a == 61) = false := by
      rw [beq_eq_false_iff_ne]
      omega
    rcases hw with rfl | rfl
    · show (!(a == 61)) = true
      rw [e]
      rfl
    · show (!(a == 61)) = true
      rw [e]
      rfl
theorem st_sy {w : List Nat} {o : Option Nat} (hw : ∀ c, stopB w c = true) : stopO w o = true := by
  cases o with
  | none => rfl
  | some c => exact hw c
/-! values -/
theorem rpn1_0 {f : Tk → Int} {st : List Int} {k : Nat} {x : Int × Int × Int} (h : kOp.getD k 0 = 0) : rpn1 f st (k, x) = ph (f (k, x)) st := by
  unfold rpn1
  dsimp only
  rw [h, if_neg (by decide), if_neg (by decide)]
theorem rpn1_1 {f : Tk → Int} {st : List Int} {k : Nat} {x : Int × Int × Int} (h : kOp.getD k 0 = 1) : rpn1 f st (k, x) = ph (if k = 41 then w32 (-(st.headD 0)) else w32 (1 - st.headD 0)) st.tail := by
  unfold rpn1
  dsimp only
  rw [h, if_neg (by decide), if_pos rfl]
theorem rpn1_2 {f : Tk → Int} {st : List Int} {k : Nat} {x : Int × Int × Int} (h : kOp.getD k 0 = 2) : rpn1 f st (k, x) = ph (joK k (st.tail.headD 0) (st.headD 0)) st.tail.tail := by
  unfold rpn1
  dsimp only
  rw [h, if_pos rfl]
theorem ph_0 {v : Int} : ph v [] = [v] := rfl
theorem ph_1 {v a : Int} : ph v [a] = [v, a] := rfl
theorem ph_2 {v a b : Int} : ph v [a, b] = [v, a, b] := rfl
theorem ph_3 {v a b c : Int} : ph v [a, b, c] = [v, a, b, c] := rfl

theorem rp_13 {f : Tk → Int} {st : List Int} {x : Int × Int × Int} : rpn1 f st (13, x) = ph (f (13, x)) st := rpn1_0 rfl
theorem rp_14 {f : Tk → Int} {st : List Int} {x : Int × Int × Int} : rpn1 f st (14, x) = ph (f (14, x)) st := rpn1_0 rfl
theorem rp_15 {f : Tk → Int} {st : List Int} {x : Int × Int × Int} : rpn1 f st (15, x) = ph (f (15, x)) st := rpn1_0 rfl
theorem rp_16 {f : Tk → Int} {st : List Int} {x : Int × Int × Int} : rpn1 f st (16, x) = ph (f (16, x)) st := rpn1_0 rfl
theorem rp_17 {f : Tk → Int} {st : List Int} {x : Int × Int × Int} : rpn1 f st (17, x) = ph (f (17, x)) st := rpn1_0 rfl
theorem rp_18 {f : Tk → Int} {st : List Int} {x : Int × Int × Int} : rpn1 f st (18, x) = ph (f (18, x)) st := rpn1_0 rfl
theorem rp_19 {f : Tk → Int} {st : List Int} {x : Int × Int × Int} : rpn1 f st (19, x) = ph (f (19, x)) st := rpn1_0 rfl
theorem rp_20 {f : Tk → Int} {st : List Int} {x : Int × Int × Int} : rpn1 f st (20, x) = ph (f (20, x)) st := rpn1_0 rfl
theorem rp_43 {f : Tk → Int} {st : List Int} {x : Int × Int × Int} : rpn1 f st (43, x) = ph (f (43, x)) st := rpn1_0 rfl
theorem rp_21 {f : Tk → Int} {st : List Int} {x : Int × Int × Int} : rpn1 f st (21, x) = ph (w32 (1 - st.headD 0)) st.tail := rpn1_1 (k := 21) rfl
theorem rp_41 {f : Tk → Int} {st : List Int} {x : Int × Int × Int} : rpn1 f st (41, x) = ph (w32 (-(st.headD 0))) st.tail := rpn1_1 (k := 41) rfl
theorem jo_22 {l r : Int} : joK 22 l r = if l = 0 then 0 else if r = 0 then 0 else 1 := Eq.trans rfl (Eq.refl _)
theorem rp_22 {f : Tk → Int} {st : List Int} {x : Int × Int × Int} : rpn1 f st (22, x) = ph (joK 22 (st.tail.headD 0) (st.headD 0)) st.tail.tail := rpn1_2 rfl
theorem jo_23 {l r : Int} : joK 23 l r = if l = 0 then (if r = 0 then 0 else 1) else 1 := Eq.trans rfl (Eq.refl _)
theorem rp_23 {f : Tk → Int} {st : List Int} {x : Int × Int × Int} : rpn1 f st (23, x) = ph (joK 23 (st.tail.headD 0) (st.headD 0)) st.tail.tail := rpn1_2 rfl
theorem jo_24 {l r : Int} : joK 24 l r = min l r := Eq.trans rfl (Eq.refl _)
theorem rp_24 {f : Tk → Int} {st : List Int} {x : Int × Int × Int} : rpn1 f st (24, x) = ph (joK 24 (st.tail.headD 0) (st.headD 0)) st.tail.tail := rpn1_2 rfl
theorem jo_25 {l r : Int} : joK 25 l r = max l r := Eq.trans rfl (Eq.refl _)
theorem rp_25 {f : Tk → Int} {st : List Int} {x : Int × Int × Int} : rpn1 f st (25, x) = ph (joK 25 (st.tail.headD 0) (st.headD 0)) st.tail.tail := rpn1_2 rfl
theorem jo_33 {l r : Int} : joK 33 l r = w32 (l - r) := Eq.trans rfl (Eq.refl _)
theorem rp_33 {f : Tk → Int} {st : List Int} {x : Int × Int × Int} : rpn1 f st (33, x) = ph (joK 33 (st.tail.headD 0) (st.headD 0)) st.tail.tail := rpn1_2 rfl
theorem jo_34 {l r : Int} : joK 34 l r = w32 (l * r) := Eq.trans rfl (Eq.refl _)
theorem rp_34 {f : Tk → Int} {st : List Int} {x : Int × Int × Int} : rpn1 f st (34, x) = ph (joK 34 (st.tail.headD 0) (st.headD 0)) st.tail.tail := rpn1_2 rfl
theorem jo_35 {l r : Int} : joK 35 l r = if r = 0 then 0 else w32 (l.tdiv r) := Eq.trans rfl (Eq.refl _)
theorem rp_35 {f : Tk → Int} {st : List Int} {x : Int × Int × Int} : rpn1 f st (35, x) = ph (joK 35 (st.tail.headD 0) (st.headD 0)) st.tail.tail := rpn1_2 rfl
theorem jo_36 {l r : Int} : joK 36 l r = if l < r then 1 else 0 := Eq.trans rfl (Eq.refl _)
theorem rp_36 {f : Tk → Int} {st : List Int} {x : Int × Int × Int} : rpn1 f st (36, x) = ph (joK 36 (st.tail.headD 0) (st.headD 0)) st.tail.tail := rpn1_2 rfl
theorem jo_37 {l r : Int} : joK 37 l r = if r < l then 1 else 0 := Eq.trans rfl (Eq.refl _)
theorem rp_37 {f : Tk → Int} {st : List Int} {x : Int × Int × Int} : rpn1 f st (37, x) = ph (joK 37 (st.tail.headD 0) (st.headD 0)) st.tail.tail := rpn1_2 rfl
theorem jo_38 {l r : Int} : joK 38 l r = if l = r then 1 else 0 := Eq.trans rfl (Eq.refl _)
theorem rp_38 {f : Tk → Int} {st : List Int} {x : Int × Int × Int} : rpn1 f st (38, x) = ph (joK 38 (st.tail.headD 0) (st.headD 0)) st.tail.tail := rpn1_2 rfl
theorem jo_39 {l r : Int} : joK 39 l r = if l ≤ r then 1 else 0 := Eq.trans rfl (Eq.refl _)
theorem rp_39 {f : Tk → Int} {st : List Int} {x : Int × Int × Int} : rpn1 f st (39, x) = ph (joK 39 (st.tail.headD 0) (st.headD 0)) st.tail.tail := rpn1_2 rfl
theorem jo_40 {l r : Int} : joK 40 l r = if r ≤ l then 1 else 0 := Eq.trans rfl (Eq.refl _)
theorem rp_40 {f : Tk → Int} {st : List Int} {x : Int × Int × Int} : rpn1 f st (40, x) = ph (joK 40 (st.tail.headD 0) (st.headD 0)) st.tail.tail := rpn1_2 rfl
theorem fc_43 {n c : Nat} {fr to : Nat → Nat} {mi wo : Nat → Int} {hr : Int} {he : Nat → Int} {x : Int × Int × Int} : fct n c fr to mi wo hr he (43, x) = x.1 := rfl
theorem fc_13 {n c : Nat} {fr to : Nat → Nat} {mi wo : Nat → Int} {hr : Int} {he : Nat → Int} {x : Int × Int × Int} : fct n c fr to mi wo hr he (13, x) = hr := rfl
theorem fc_14 {n c : Nat} {fr to : Nat → Nat} {mi wo : Nat → Int} {hr : Int} {he : Nat → Int} {x : Int × Int × Int} : fct n c fr to mi wo hr he (14, x) = mi x.2.1.toNat + 2 * wo x.2.1.toNat := rfl
theorem fc_15 {n c : Nat} {fr to : Nat → Nat} {mi wo : Nat → Int} {hr : Int} {he : Nat → Int} {x : Int × Int × Int} : fct n c fr to mi wo hr he (15, x) = wo x.2.1.toNat := rfl
theorem fc_16 {n c : Nat} {fr to : Nat → Nat} {mi wo : Nat → Int} {hr : Int} {he : Nat → Int} {x : Int × Int × Int} : fct n c fr to mi wo hr he (16, x) = dst (roG c fr to mi wo (-1)) x.2.1.toNat x.2.2.toNat := rfl
theorem fc_17 {n c : Nat} {fr to : Nat → Nat} {mi wo : Nat → Int} {hr : Int} {he : Nat → Int} {x : Int × Int × Int} : fct n c fr to mi wo hr he (17, x) = knw he n x.2.1.toNat := rfl
theorem fc_18 {n c : Nat} {fr to : Nat → Nat} {mi wo : Nat → Int} {hr : Int} {he : Nat → Int} {x : Int × Int × Int} : fct n c fr to mi wo hr he (18, x) = if wo x.2.1.toNat < 3 then 1 else 0 := rfl
theorem fc_19 {n c : Nat} {fr to : Nat → Nat} {mi wo : Nat → Int} {hr : Int} {he : Nat → Int} {x : Int × Int × Int} : fct n c fr to mi wo hr he (19, x) = if he (x.2.1.toNat * 6 + x.2.2.toNat) = -1 then 0 else 1 := rfl
theorem fc_20 {n c : Nat} {fr to : Nat → Nat} {mi wo : Nat → Int} {hr : Int} {he : Nat → Int} {x : Int × Int × Int} : fct n c fr to mi wo hr he (20, x) = if dst (roG c fr to mi wo (-1)) x.2.1.toNat x.2.2.toNat = -1 then 1 else 0 := rfl
abbrev zI (z : Nat → Nat) : Nat → Int := fun i => ((z i : Nat) : Int)
/-! names stand behind their words -/
abbrev dPk : Pk := ([], (45, 0, 0), [])
def lead : List Pk → Nat
  | [] => 0
  | p :: l => if p.2.1.1 = 42 then lead l + 1 else 0
def nmA (l : List Pk) (i k m : Nat) : Prop := ∃ v, v < m ∧ (l.getD i dPk).2.1 = (42, k, v)
def nmC (n c u a : Nat) (l : List Pk) : Prop := if a = 42 then True else if a = 8 ∨ a = 10 ∨ a = 14 ∨ a = 15 ∨ a = 18 then lead l = 1 ∧ nmA l 0 1 c else if a = 11 then lead l = 1 ∧ nmA l 0 0 n else if a = 17 then lead l = 1 ∧ nmA l 0 2 u else if a = 16 ∨ a = 20 then lead l = 2 ∧ nmA l 0 0 n ∧ nmA l 1 0 n else if a = 19 then lead l = 2 ∧ nmA l 0 0 n ∧ nmA l 1 2 u else lead l = 0 ∧ a ≠ 0 ∧ a ≠ 1 ∧ a ≠ 5
def nmOk (n c u : Nat) : List Pk → Prop
  | [] => True
  | p :: l => nmC n c u p.2.1.1 l ∧ nmOk n c u l
def ZbB (n c u : Nat) (z : Nat → Nat) : Prop := z 2 ≤ 7 ∧ z 3 ≤ 8 ∧ z 4 ≤ 8 ∧ z 5 < c ∧ z 6 < n ∧ z 7 < n ∧ z 8 < u
section TMPL
variable {z : Nat → Nat} {K kd : Nat → Nat} {va : Nat → Int} {n tc : Nat} {Q : Pn} {S : St8}
theorem tkA_at {i k : Nat} (hk : kd (n + i) = k) (hi : n + i < tc) : tkA tc kd va ((n + i : Nat) : Int) = (k, vlO tc va ((n + i : Nat) : Int), vlO tc va ((n + (i + 1) : Nat) : Int), vlO tc va ((n + (i + 2) : Nat) : Int)) := by
  unfold tkA
  have e0 : kdO tc kd ((n + i : Nat) : Int) = k := by
    unfold kdO
    rw [if_pos ⟨by omega, by omega⟩, Int.toNat_natCast, hk]
  rw [e0, show ((n + i : Nat) : Int) + 1 = ((n + (i + 1) : Nat) : Int) by omega, show ((n + i : Nat) : Int) + 2 = ((n + (i + 2) : Nat) : Int) by omega]
/-- names and numbers have their values -/
def VlR (l : List Pk) (n tc : Nat) (va : Nat → Int) : Prop := n + l.length < tc ∧ ∀ i, i < l.length → (kdT l i = 42 ∨ kdT l i = 43) → vlO tc va ((n + i : Nat) : Int) = vlT l i
def KdR (l : List (Nat × Nat)) (n : Nat) (kd : Nat → Nat) : Prop := ∀ x, x ∈ l → kd (n + x.1) = x.2
noncomputable abbrev rpQ (Q : Pn) (S : St8) (l : List Tk) : Int := rpn (fct Q.1 Q.2.1 (frP Q) (toP Q) (miS S) (woS S) S.1 (heS6 S)) l
abbrev mpQ (tc : Nat) (kd : Nat → Nat) (va : Nat → Int) (n : Nat) (L : List (Nat × Nat)) : List Tk := (shf n L).map (fun x => tkA tc kd va (x.1 : Int))
def sA0 (z : Nat → Nat) : List Pk := [([32], (43, 0, z 4 % 4), [])]
abbrev sA0L : List (Nat × Nat) := [(0, 43)]
set_option maxRecDepth 8000 in
theorem sA0_flat : flat (pwT (sA0 z)) = (([] ++ sB.getD 42 []) ++ dgL (z 4 % 4)) := by
  have e : (([] ++ sB.getD 42 []) ++ dgL (z 4 % 4)) ++ [] = flat (pwT (sA0 z)) := by
    simp only [List.append_assoc, List.nil_append]
    rfl
  rw [List.append_nil] at e
  exact e.symm
theorem sA0_good (hz : ZnOk z) : good (pwT (sA0 z)) (some 32) := by
  obtain ⟨z0, z1, z2, z3, z4, z5, z6, z7, z8⟩ := hz
  exact ⟨rfl, rfl, (kw_nb (z 4 % 4) (by omega)).2.1, st_nb (v := z 4 % 4) (c := 32) (by omega) rfl, trivial⟩
theorem sA0_par (hk : ∀ i, i < (sA0 z).length → K (n + i) = kdT (sA0 z) i) (he : K (n + (sA0 z).length) = 12) : pG K 6500 3 0 n = some (true, n + (sA0 z).length, shf n sA0L) := by
  have h0 : pG (fun i => [43, 12].getD i 45) 80 3 0 0 = some (true, 1, sA0L) := by decide +kernel
  have h1 := pG_loc (K := K) (s := n) 80 6500 3 0 0 1 sA0L (by omega) h0 (fun i _ hi => ?_)
  · exact h1
  · rcases (by omega : i = 0 ∨ i = 1) with rfl | rfl
    · exact hk 0 (show 0 < 1 by decide)
    · exact he
theorem sA0_nm {n c u : Nat} (hz : ZbB n c u z) : nmOk n c u (sA0 z) := by
  obtain ⟨z2, z3, z4, z5, z6, z7, z8⟩ := hz
  exact ⟨⟨rfl, (by decide : (43 : Nat) ≠ 0), (by decide : (43 : Nat) ≠ 1), (by decide : (43 : Nat) ≠ 5)⟩, trivial⟩
theorem sA0_map (hk : KdR sA0L n kd) (hv : VlR (sA0 z) n tc va) : mpQ tc kd va n sA0L = [(43, vlO tc va ((n + 0 : Nat) : Int), vlO tc va ((n + (0 + 1) : Nat) : Int), vlO tc va ((n + (0 + 2) : Nat) : Int))] := by
  have hl := hv.1
  have hl : n + 1 < tc := hl
  show [tkA tc kd va ((n + 0 : Nat) : Int)] = _
  rw [tkA_at (i := 0) (hk (0, 43) (by decide)) (by omega)]
def sA1 (z : Nat → Nat) : List Pk := [([32], (15, 0, 0), []), ([32], (42, 1, z 5), [])]
abbrev sA1L : List (Nat × Nat) := [(0, 15)]
set_option maxRecDepth 8000 in
theorem sA1_flat : flat (pwT (sA1 z)) = (([] ++ sB.getD 43 []) ++ dgL (z 5)) := by
  have e : (([] ++ sB.getD 43 []) ++ dgL (z 5)) ++ [] = flat (pwT (sA1 z)) := by
    simp only [List.append_assoc, List.nil_append]
    rfl
  rw [List.append_nil] at e
  exact e.symm
theorem sA1_good (hz : ZnOk z) : good (pwT (sA1 z)) (some 32) := by
  obtain ⟨z0, z1, z2, z3, z4, z5, z6, z7, z8⟩ := hz
  exact ⟨rfl, rfl, rfl, rfl, rfl, rfl, (kw_nm 1 (by decide) (z 5) (by omega)).2, rfl, trivial⟩
theorem sA1_par (hk : ∀ i, i < (sA1 z).length → K (n + i) = kdT (sA1 z) i) (he : K (n + (sA1 z).length) = 12) : pG K 6500 3 0 n = some (true, n + (sA1 z).length, shf n sA1L) := by
  have h0 : pG (fun i => [15, 42, 12].getD i 45) 80 3 0 0 = some (true, 2, sA1L) := by decide +kernel
  have h1 := pG_loc (K := K) (s := n) 80 6500 3 0 0 2 sA1L (by omega) h0 (fun i _ hi => ?_)
  · exact h1
  · rcases (by omega : i = 0 ∨ i = 1 ∨ i = 2) with rfl | rfl | rfl
    · exact hk 0 (show 0 < 2 by decide)
    · exact hk 1 (show 1 < 2 by decide)
    · exact he
theorem sA1_nm {n c u : Nat} (hz : ZbB n c u z) : nmOk n c u (sA1 z) := by
  obtain ⟨z2, z3, z4, z5, z6, z7, z8⟩ := hz
  exact ⟨⟨rfl, _, z5, rfl⟩, trivial, trivial⟩
theorem sA1_map (hk : KdR sA1L n kd) (hv : VlR (sA1 z) n tc va) : mpQ tc kd va n sA1L = [(15, vlO tc va ((n + 0 : Nat) : Int), vlO tc va ((n + (0 + 1) : Nat) : Int), vlO tc va ((n + (0 + 2) : Nat) : Int))] := by
  have hl := hv.1
  have hl : n + 2 < tc := hl
  show [tkA tc kd va ((n + 0 : Nat) : Int)] = _
  rw [tkA_at (i := 0) (hk (0, 15) (by decide)) (by omega)]
def sA2 (z : Nat → Nat) : List Pk := [([32], (17, 0, 0), []), ([32], (42, 2, z 8), []), ([], (33, 0, 0), []), ([], (43, 0, z 4 % 3), [])]
abbrev sA2L : List (Nat × Nat) := [(0, 17), (3, 43), (2, 33)]
set_option maxRecDepth 8000 in
theorem sA2_flat : flat (pwT (sA2 z)) = (((([] ++ sB.getD 44 []) ++ dgL (z 8)) ++ sB.getD 45 []) ++ dgL (z 4 % 3)) := by
  have e : (((([] ++ sB.getD 44 []) ++ dgL (z 8)) ++ sB.getD 45 []) ++ dgL (z 4 % 3)) ++ [] = flat (pwT (sA2 z)) := by
    simp only [List.append_assoc, List.nil_append]
    rfl
  rw [List.append_nil] at e
  exact e.symm
theorem sA2_good (hz : ZnOk z) : good (pwT (sA2 z)) (some 32) := by
  obtain ⟨z0, z1, z2, z3, z4, z5, z6, z7, z8⟩ := hz
  exact ⟨rfl, rfl, rfl, rfl, rfl, rfl, (kw_nm 2 (by decide) (z 8) (by omega)).2, rfl, rfl, rfl, rfl, st_sy (fun _ => rfl), rfl, rfl, (kw_nb (z 4 % 3) (by omega)).2.1, st_nb (v := z 4 % 3) (c := 32) (by omega) rfl, trivial⟩
theorem sA2_par (hk : ∀ i, i < (sA2 z).length → K (n + i) = kdT (sA2 z) i) (he : K (n + (sA2 z).length) = 12) : pG K 6500 3 0 n = some (true, n + (sA2 z).length, shf n sA2L) := by
  have h0 : pG (fun i => [17, 42, 33, 43, 12].getD i 45) 80 3 0 0 = some (true, 4, sA2L) := by decide +kernel
  have h1 := pG_loc (K := K) (s := n) 80 6500 3 0 0 4 sA2L (by omega) h0 (fun i _ hi => ?_)
  · exact h1
  · rcases (by omega : i = 0 ∨ i = 1 ∨ i = 2 ∨ i = 3 ∨ i = 4) with rfl | rfl | rfl | rfl | rfl
    · exact hk 0 (show 0 < 4 by decide)
    · exact hk 1 (show 1 < 4 by decide)
    · exact hk 2 (show 2 < 4 by decide)
    · exact hk 3 (show 3 < 4 by decide)
    · exact he
theorem sA2_nm {n c u : Nat} (hz : ZbB n c u z) : nmOk n c u (sA2 z) := by
  obtain ⟨z2, z3, z4, z5, z6, z7, z8⟩ := hz
  exact ⟨⟨rfl, _, z8, rfl⟩, trivial, ⟨rfl, (by decide : (33 : Nat) ≠ 0), (by decide : (33 : Nat) ≠ 1), (by decide : (33 : Nat) ≠ 5)⟩, ⟨rfl, (by decide : (43 : Nat) ≠ 0), (by decide : (43 : Nat) ≠ 1), (by decide : (43 : Nat) ≠ 5)⟩, trivial⟩
theorem sA2_map (hk : KdR sA2L n kd) (hv : VlR (sA2 z) n tc va) : mpQ tc kd va n sA2L = [(17, vlO tc va ((n + 0 : Nat) : Int), vlO tc va ((n + (0 + 1) : Nat) : Int), vlO tc va ((n + (0 + 2) : Nat) : Int)), (43, vlO tc va ((n + 3 : Nat) : Int), vlO tc va ((n + (3 + 1) : Nat) : Int), vlO tc va ((n + (3 + 2) : Nat) : Int)), (33, vlO tc va ((n + 2 : Nat) : Int), vlO tc va ((n + (2 + 1) : Nat) : Int), vlO tc va ((n + (2 + 2) : Nat) : Int))] := by
  have hl := hv.1
  have hl : n + 4 < tc := hl
  show [tkA tc kd va ((n + 0 : Nat) : Int), tkA tc kd va ((n + 3 : Nat) : Int), tkA tc kd va ((n + 2 : Nat) : Int)] = _
  rw [tkA_at (i := 0) (hk (0, 17) (by decide)) (by omega), tkA_at (i := 3) (hk (3, 43) (by decide)) (by omega), tkA_at (i := 2) (hk (2, 33) (by decide)) (by omega)]
def sA3 (z : Nat → Nat) : List Pk := [([32], (13, 0, 0), []), ([], (35, 0, 0), []), ([], (43, 0, 5), [])]
abbrev sA3L : List (Nat × Nat) := [(0, 13), (2, 43), (1, 35)]
set_option maxRecDepth 8000 in
theorem sA3_flat : flat (pwT (sA3 z)) = ([] ++ sB.getD 46 []) := by
  have e : ([] ++ sB.getD 46 []) ++ [] = flat (pwT (sA3 z)) := by
    simp only [List.append_assoc, List.nil_append]
    rfl
  rw [List.append_nil] at e
  exact e.symm
theorem sA3_good (hz : ZnOk z) : good (pwT (sA3 z)) (some 32) := by
  obtain ⟨z0, z1, z2, z3, z4, z5, z6, z7, z8⟩ := hz
  exact ⟨rfl, rfl, rfl, rfl, rfl, rfl, rfl, rfl, rfl, rfl, rfl, rfl, trivial⟩
theorem sA3_par (hk : ∀ i, i < (sA3 z).length → K (n + i) = kdT (sA3 z) i) (he : K (n + (sA3 z).length) = 12) : pG K 6500 3 0 n = some (true, n + (sA3 z).length, shf n sA3L) := by
  have h0 : pG (fun i => [13, 35, 43, 12].getD i 45) 80 3 0 0 = some (true, 3, sA3L) := by decide +kernel
  have h1 := pG_loc (K := K) (s := n) 80 6500 3 0 0 3 sA3L (by omega) h0 (fun i _ hi => ?_)
  · exact h1
  · rcases (by omega : i = 0 ∨ i = 1 ∨ i = 2 ∨ i = 3) with rfl | rfl | rfl | rfl
    · exact hk 0 (show 0 < 3 by decide)
    · exact hk 1 (show 1 < 3 by decide)
    · exact hk 2 (show 2 < 3 by decide)
    · exact he
theorem sA3_nm {n c u : Nat} (hz : ZbB n c u z) : nmOk n c u (sA3 z) := by
  obtain ⟨z2, z3, z4, z5, z6, z7, z8⟩ := hz
  exact ⟨⟨rfl, (by decide : (13 : Nat) ≠ 0), (by decide : (13 : Nat) ≠ 1), (by decide : (13 : Nat) ≠ 5)⟩, ⟨rfl, (by decide : (35 : Nat) ≠ 0), (by decide : (35 : Nat) ≠ 1), (by decide : (35 : Nat) ≠ 5)⟩, ⟨rfl, (by decide : (43 : Nat) ≠ 0), (by decide : (43 : Nat) ≠ 1), (by decide : (43 : Nat) ≠ 5)⟩, trivial⟩
theorem sA3_map (hk : KdR sA3L n kd) (hv : VlR (sA3 z) n tc va) : mpQ tc kd va n sA3L = [(13, vlO tc va ((n + 0 : Nat) : Int), vlO tc va ((n + (0 + 1) : Nat) : Int), vlO tc va ((n + (0 + 2) : Nat) : Int)), (43, vlO tc va ((n + 2 : Nat) : Int), vlO tc va ((n + (2 + 1) : Nat) : Int), vlO tc va ((n + (2 + 2) : Nat) : Int)), (35, vlO tc va ((n + 1 : Nat) : Int), vlO tc va ((n + (1 + 1) : Nat) : Int), vlO tc va ((n + (1 + 2) : Nat) : Int))] := by
  have hl := hv.1
  have hl : n + 3 < tc := hl
  show [tkA tc kd va ((n + 0 : Nat) : Int), tkA tc kd va ((n + 2 : Nat) : Int), tkA tc kd va ((n + 1 : Nat) : Int)] = _
  rw [tkA_at (i := 0) (hk (0, 13) (by decide)) (by omega), tkA_at (i := 2) (hk (2, 43) (by decide)) (by omega), tkA_at (i := 1) (hk (1, 35) (by decide)) (by omega)]
def sA4 (z : Nat → Nat) : List Pk := [([32], (16, 0, 0), []), ([32], (42, 0, z 6), []), ([32], (42, 0, z 7), []), ([32], (33, 0, 0), []), ([32], (43, 0, z 4), [])]
abbrev sA4L : List (Nat × Nat) := [(0, 16), (4, 43), (3, 33)]
set_option maxRecDepth 8000 in
theorem sA4_flat : flat (pwT (sA4 z)) = (((((([] ++ sB.getD 47 []) ++ dgL (z 6)) ++ sB.getD 48 []) ++ dgL (z 7)) ++ sB.getD 49 []) ++ dgL (z 4)) := by
  have e : (((((([] ++ sB.getD 47 []) ++ dgL (z 6)) ++ sB.getD 48 []) ++ dgL (z 7)) ++ sB.getD 49 []) ++ dgL (z 4)) ++ [] = flat (pwT (sA4 z)) := by
    simp only [List.append_assoc, List.nil_append]
    rfl
  rw [List.append_nil] at e
  exact e.symm
theorem sA4_good (hz : ZnOk z) : good (pwT (sA4 z)) (some 32) := by
  obtain ⟨z0, z1, z2, z3, z4, z5, z6, z7, z8⟩ := hz
  exact ⟨rfl, rfl, rfl, rfl, rfl, rfl, (kw_nm 0 (by decide) (z 6) (by omega)).2, rfl, rfl, rfl, (kw_nm 0 (by decide) (z 7) (by omega)).2, rfl, rfl, rfl, rfl, rfl, rfl, rfl, (kw_nb (z 4) (by omega)).2.1, st_nb (v := z 4) (c := 32) (by omega) rfl, trivial⟩
theorem sA4_par (hk : ∀ i, i < (sA4 z).length → K (n + i) = kdT (sA4 z) i) (he : K (n + (sA4 z).length) = 12) : pG K 6500 3 0 n = some (true, n + (sA4 z).length, shf n sA4L) := by
  have h0 : pG (fun i => [16, 42, 42, 33, 43, 12].getD i 45) 80 3 0 0 = some (true, 5, sA4L) := by decide +kernel
  have h1 := pG_loc (K := K) (s := n) 80 6500 3 0 0 5 sA4L (by omega) h0 (fun i _ hi => ?_)
  · exact h1
  · rcases (by omega : i = 0 ∨ i = 1 ∨ i = 2 ∨ i = 3 ∨ i = 4 ∨ i = 5) with rfl | rfl | rfl | rfl | rfl | rfl
    · exact hk 0 (show 0 < 5 by decide)
    · exact hk 1 (show 1 < 5 by decide)
    · exact hk 2 (show 2 < 5 by decide)
    · exact hk 3 (show 3 < 5 by decide)
    · exact hk 4 (show 4 < 5 by decide)
    · exact he
theorem sA4_nm {n c u : Nat} (hz : ZbB n c u z) : nmOk n c u (sA4 z) := by
  obtain ⟨z2, z3, z4, z5, z6, z7, z8⟩ := hz
  exact ⟨⟨rfl, ⟨_, z6, rfl⟩, _, z7, rfl⟩, trivial, trivial, ⟨rfl, (by decide : (33 : Nat) ≠ 0), (by decide : (33 : Nat) ≠ 1), (by decide : (33 : Nat) ≠ 5)⟩, ⟨rfl, (by decide : (43 : Nat) ≠ 0), (by decide : (43 : Nat) ≠ 1), (by decide : (43 : Nat) ≠ 5)⟩, trivial⟩
theorem sA4_map (hk : KdR sA4L n kd) (hv : VlR (sA4 z) n tc va) : mpQ tc kd va n sA4L = [(16, vlO tc va ((n + 0 : Nat) : Int), vlO tc va ((n + (0 + 1) : Nat) : Int), vlO tc va ((n + (0 + 2) : Nat) : Int)), (43, vlO tc va ((n + 4 : Nat) : Int), vlO tc va ((n + (4 + 1) : Nat) : Int), vlO tc va ((n + (4 + 2) : Nat) : Int)), (33, vlO tc va ((n + 3 : Nat) : Int), vlO tc va ((n + (3 + 1) : Nat) : Int), vlO tc va ((n + (3 + 2) : Nat) : Int))] := by
  have hl := hv.1
  have hl : n + 5 < tc := hl
  show [tkA tc kd va ((n + 0 : Nat) : Int), tkA tc kd va ((n + 4 : Nat) : Int), tkA tc kd va ((n + 3 : Nat) : Int)] = _
  rw [tkA_at (i := 0) (hk (0, 16) (by decide)) (by omega), tkA_at (i := 4) (hk (4, 43) (by decide)) (by omega), tkA_at (i := 3) (hk (3, 33) (by decide)) (by omega)]
def sA5 (z : Nat → Nat) : List Pk := [([32], (24, 0, 0), []), ([], (26, 0, 0), []), ([], (14, 0, 0), []), ([32], (42, 1, z 5), []), ([], (31, 0, 0), []), ([], (43, 0, z 4), []), ([], (27, 0, 0), []), ([], (35, 0, 0), []), ([], (43, 0, 3), [])]
abbrev sA5L : List (Nat × Nat) := [(2, 14), (5, 43), (0, 24), (8, 43), (7, 35)]
set_option maxRecDepth 8000 in
theorem sA5_flat : flat (pwT (sA5 z)) = ((((([] ++ sB.getD 50 []) ++ dgL (z 5)) ++ sB.getD 51 []) ++ dgL (z 4)) ++ sB.getD 52 []) := by
  have e : ((((([] ++ sB.getD 50 []) ++ dgL (z 5)) ++ sB.getD 51 []) ++ dgL (z 4)) ++ sB.getD 52 []) ++ [] = flat (pwT (sA5 z)) := by
    simp only [List.append_assoc, List.nil_append]
    rfl
  rw [List.append_nil] at e
  exact e.symm
theorem sA5_good (hz : ZnOk z) : good (pwT (sA5 z)) (some 32) := by
  obtain ⟨z0, z1, z2, z3, z4, z5, z6, z7, z8⟩ := hz
  exact ⟨rfl, rfl, rfl, rfl, rfl, rfl, rfl, rfl, rfl, rfl, rfl, rfl, rfl, rfl, (kw_nm 1 (by decide) (z 5) (by omega)).2, rfl, rfl, rfl, rfl, st_sy (fun _ => rfl), rfl, rfl, (kw_nb (z 4) (by omega)).2.1, st_nb (v := z 4) (c := 41) (by omega) rfl, rfl, rfl, rfl, rfl, rfl, rfl, rfl, rfl, rfl, rfl, rfl, rfl, trivial⟩
theorem sA5_par (hk : ∀ i, i < (sA5 z).length → K (n + i) = kdT (sA5 z) i) (he : K (n + (sA5 z).length) = 12) : pG K 6500 3 0 n = some (true, n + (sA5 z).length, shf n sA5L) := by
  have h0 : pG (fun i => [24, 26, 14, 42, 31, 43, 27, 35, 43, 12].getD i 45) 80 3 0 0 = some (true, 9, sA5L) := by decide +kernel
  have h1 := pG_loc (K := K) (s := n) 80 6500 3 0 0 9 sA5L (by omega) h0 (fun i _ hi => ?_)
  · exact h1
  · rcases (by omega : i = 0 ∨ i = 1 ∨ i = 2 ∨ i = 3 ∨ i = 4 ∨ i = 5 ∨ i = 6 ∨ i = 7 ∨ i = 8 ∨ i = 9) with rfl | rfl | rfl | rfl | rfl | rfl | rfl | rfl | rfl | rfl
    · exact hk 0 (show 0 < 9 by decide)
    · exact hk 1 (show 1 < 9 by decide)
    · exact hk 2 (show 2 < 9 by decide)
    · exact hk 3 (show 3 < 9 by decide)
    · exact hk 4 (show 4 < 9 by decide)
    · exact hk 5 (show 5 < 9 by decide)
    · exact hk 6 (show 6 < 9 by decide)
    · exact hk 7 (show 7 < 9 by decide)
    · exact hk 8 (show 8 < 9 by decide)
    · exact he
theorem sA5_nm {n c u : Nat} (hz : ZbB n c u z) : nmOk n c u (sA5 z) := by
  obtain ⟨z2, z3, z4, z5, z6, z7, z8⟩ := hz
  exact ⟨⟨rfl, (by decide : (24 : Nat) ≠ 0), (by decide : (24 : Nat) ≠ 1), (by decide : (24 : Nat) ≠ 5)⟩, ⟨rfl, (by decide : (26 : Nat) ≠ 0), (by decide : (26 : Nat) ≠ 1), (by decide : (26 : Nat) ≠ 5)⟩, ⟨rfl, _, z5, rfl⟩, trivial, ⟨rfl, (by decide : (31 : Nat) ≠ 0), (by decide : (31 : Nat) ≠ 1), (by decide : (31 : Nat) ≠ 5)⟩, ⟨rfl, (by decide : (43 : Nat) ≠ 0), (by decide : (43 : Nat) ≠ 1), (by decide : (43 : Nat) ≠ 5)⟩, ⟨rfl, (by decide : (27 : Nat) ≠ 0), (by decide : (27 : Nat) ≠ 1), (by decide : (27 : Nat) ≠ 5)⟩, ⟨rfl, (by decide : (35 : Nat) ≠ 0), (by decide : (35 : Nat) ≠ 1), (by decide : (35 : Nat) ≠ 5)⟩, ⟨rfl, (by decide : (43 : Nat) ≠ 0), (by decide : (43 : Nat) ≠ 1), (by decide : (43 : Nat) ≠ 5)⟩, trivial⟩
theorem sA5_map (hk : KdR sA5L n kd) (hv : VlR (sA5 z) n tc va) : mpQ tc kd va n sA5L = [(14, vlO tc va ((n + 2 : Nat) : Int), vlO tc va ((n + (2 + 1) : Nat) : Int), vlO tc va ((n + (2 + 2) : Nat) : Int)), (43, vlO tc va ((n + 5 : Nat) : Int), vlO tc va ((n + (5 + 1) : Nat) : Int), vlO tc va ((n + (5 + 2) : Nat) : Int)), (24, vlO tc va ((n + 0 : Nat) : Int), vlO tc va ((n + (0 + 1) : Nat) : Int), vlO tc va ((n + (0 + 2) : Nat) : Int)), (43, vlO tc va ((n + 8 : Nat) : Int), vlO tc va ((n + (8 + 1) : Nat) : Int), vlO tc va ((n + (8 + 2) : Nat) : Int)), (35, vlO tc va ((n + 7 : Nat) : Int), vlO tc va ((n + (7 + 1) : Nat) : Int), vlO tc va ((n + (7 + 2) : Nat) : Int))] := by
  have hl := hv.1
  have hl : n + 9 < tc := hl
  show [tkA tc kd va ((n + 2 : Nat) : Int), tkA tc kd va ((n + 5 : Nat) : Int), tkA tc kd va ((n + 0 : Nat) : Int), tkA tc kd va ((n + 8 : Nat) : Int), tkA tc kd va ((n + 7 : Nat) : Int)] = _
  rw [tkA_at (i := 2) (hk (2, 14) (by decide)) (by omega), tkA_at (i := 5) (hk (5, 43) (by decide)) (by omega), tkA_at (i := 0) (hk (0, 24) (by decide)) (by omega), tkA_at (i := 8) (hk (8, 43) (by decide)) (by omega), tkA_at (i := 7) (hk (7, 35) (by decide)) (by omega)]
def sA6 (z : Nat → Nat) : List Pk := [([32], (33, 0, 0), []), ([], (43, 0, z 4), [])]
abbrev sA6L : List (Nat × Nat) := [(1, 43), (0, 41)]
set_option maxRecDepth 8000 in
theorem sA6_flat : flat (pwT (sA6 z)) = (([] ++ sB.getD 53 []) ++ dgL (z 4)) := by
  have e : (([] ++ sB.getD 53 []) ++ dgL (z 4)) ++ [] = flat (pwT (sA6 z)) := by
    simp only [List.append_assoc, List.nil_append]
    rfl
  rw [List.append_nil] at e
  exact e.symm
theorem sA6_good (hz : ZnOk z) : good (pwT (sA6 z)) (some 32) := by
  obtain ⟨z0, z1, z2, z3, z4, z5, z6, z7, z8⟩ := hz
  exact ⟨rfl, rfl, rfl, st_sy (fun _ => rfl), rfl, rfl, (kw_nb (z 4) (by omega)).2.1, st_nb (v := z 4) (c := 32) (by omega) rfl, trivial⟩
theorem sA6_par (hk : ∀ i, i < (sA6 z).length → K (n + i) = kdT (sA6 z) i) (he : K (n + (sA6 z).length) = 12) : pG K 6500 3 0 n = some (true, n + (sA6 z).length, shf n sA6L) := by
  have h0 : pG (fun i => [33, 43, 12].getD i 45) 80 3 0 0 = some (true, 2, sA6L) := by decide +kernel
  have h1 := pG_loc (K := K) (s := n) 80 6500 3 0 0 2 sA6L (by omega) h0 (fun i _ hi => ?_)
  · exact h1
  · rcases (by omega : i = 0 ∨ i = 1 ∨ i = 2) with rfl | rfl | rfl
    · exact hk 0 (show 0 < 2 by decide)
    · exact hk 1 (show 1 < 2 by decide)
    · exact he
theorem sA6_nm {n c u : Nat} (hz : ZbB n c u z) : nmOk n c u (sA6 z) := by
  obtain ⟨z2, z3, z4, z5, z6, z7, z8⟩ := hz
  exact ⟨⟨rfl, (by decide : (33 : Nat) ≠ 0), (by decide : (33 : Nat) ≠ 1), (by decide : (33 : Nat) ≠ 5)⟩, ⟨rfl, (by decide : (43 : Nat) ≠ 0), (by decide : (43 : Nat) ≠ 1), (by decide : (43 : Nat) ≠ 5)⟩, trivial⟩
theorem sA6_map (hk : KdR sA6L n kd) (hv : VlR (sA6 z) n tc va) : mpQ tc kd va n sA6L = [(43, vlO tc va ((n + 1 : Nat) : Int), vlO tc va ((n + (1 + 1) : Nat) : Int), vlO tc va ((n + (1 + 2) : Nat) : Int)), (41, vlO tc va ((n + 0 : Nat) : Int), vlO tc va ((n + (0 + 1) : Nat) : Int), vlO tc va ((n + (0 + 2) : Nat) : Int))] := by
  have hl := hv.1
  have hl : n + 2 < tc := hl
  show [tkA tc kd va ((n + 1 : Nat) : Int), tkA tc kd va ((n + 0 : Nat) : Int)] = _
  rw [tkA_at (i := 1) (hk (1, 43) (by decide)) (by omega), tkA_at (i := 0) (hk (0, 41) (by decide)) (by omega)]
def sA7 (z : Nat → Nat) : List Pk := [([32], (25, 0, 0), []), ([], (26, 0, 0), []), ([], (43, 0, 1), []), ([], (31, 0, 0), []), ([32], (43, 0, z 4), []), ([], (33, 0, 0), []), ([], (43, 0, 5), []), ([], (27, 0, 0), [])]
abbrev sA7L : List (Nat × Nat) := [(2, 43), (4, 43), (6, 43), (5, 33), (0, 25)]
set_option maxRecDepth 8000 in
theorem sA7_flat : flat (pwT (sA7 z)) = ((([] ++ sB.getD 54 []) ++ dgL (z 4)) ++ sB.getD 55 []) := by
  have e : ((([] ++ sB.getD 54 []) ++ dgL (z 4)) ++ sB.getD 55 []) ++ [] = flat (pwT (sA7 z)) := by
    simp only [List.append_assoc, List.nil_append]
    rfl
  rw [List.append_nil] at e
  exact e.symm
theorem sA7_good (hz : ZnOk z) : good (pwT (sA7 z)) (some 32) := by
  obtain ⟨z0, z1, z2, z3, z4, z5, z6, z7, z8⟩ := hz
  exact ⟨rfl, rfl, rfl, rfl, rfl, rfl, rfl, rfl, rfl, rfl, rfl, rfl, rfl, rfl, rfl, rfl, rfl, rfl, (kw_nb (z 4) (by omega)).2.1, st_nb (v := z 4) (c := 45) (by omega) rfl, rfl, rfl, rfl, rfl, rfl, rfl, rfl, rfl, rfl, rfl, rfl, rfl, trivial⟩
theorem sA7_par (hk : ∀ i, i < (sA7 z).length → K (n + i) = kdT (sA7 z) i) (he : K (n + (sA7 z).length) = 12) : pG K 6500 3 0 n = some (true, n + (sA7 z).length, shf n sA7L) := by
  have h0 : pG (fun i => [25, 26, 43, 31, 43, 33, 43, 27, 12].getD i 45) 80 3 0 0 = some (true, 8, sA7L) := by decide +kernel
  have h1 := pG_loc (K := K) (s := n) 80 6500 3 0 0 8 sA7L (by omega) h0 (fun i _ hi => ?_)
  · exact h1
  · rcases (by omega : i = 0 ∨ i = 1 ∨ i = 2 ∨ i = 3 ∨ i = 4 ∨ i = 5 ∨ i = 6 ∨ i = 7 ∨ i = 8) with rfl | rfl | rfl | rfl | rfl | rfl | rfl | rfl | rfl
    · exact hk 0 (show 0 < 8 by decide)
    · exact hk 1 (show 1 < 8 by decide)
    · exact hk 2 (show 2 < 8 by decide)
    · exact hk 3 (show 3 < 8 by decide)
    · exact hk 4 (show 4 < 8 by decide)
    · exact hk 5 (show 5 < 8 by decide)
    · exact hk 6 (show 6 < 8 by decide)
    · exact hk 7 (show 7 < 8 by decide)
    · exact he
theorem sA7_nm {n c u : Nat} (hz : ZbB n c u z) : nmOk n c u (sA7 z) := by
  obtain ⟨z2, z3, z4, z5, z6, z7, z8⟩ := hz
  exact ⟨⟨rfl, (by decide : (25 : Nat) ≠ 0), (by decide : (25 : Nat) ≠ 1), (by decide : (25 : Nat) ≠ 5)⟩, ⟨rfl, (by decide : (26 : Nat) ≠ 0), (by decide : (26 : Nat) ≠ 1), (by decide : (26 : Nat) ≠ 5)⟩, ⟨rfl, (by decide : (43 : Nat) ≠ 0), (by decide : (43 : Nat) ≠ 1), (by decide : (43 : Nat) ≠ 5)⟩, ⟨rfl, (by decide : (31 : Nat) ≠ 0), (by decide : (31 : Nat) ≠ 1), (by decide : (31 : Nat) ≠ 5)⟩, ⟨rfl, (by decide : (43 : Nat) ≠ 0), (by decide : (43 : Nat) ≠ 1), (by decide : (43 : Nat) ≠ 5)⟩, ⟨rfl, (by decide : (33 : Nat) ≠ 0), (by decide : (33 : Nat) ≠ 1), (by decide : (33 : Nat) ≠ 5)⟩, ⟨rfl, (by decide : (43 : Nat) ≠ 0), (by decide : (43 : Nat) ≠ 1), (by decide : (43 : Nat) ≠ 5)⟩, ⟨rfl, (by decide : (27 : Nat) ≠ 0), (by decide : (27 : Nat) ≠ 1), (by decide : (27 : Nat) ≠ 5)⟩, trivial⟩
theorem sA7_map (hk : KdR sA7L n kd) (hv : VlR (sA7 z) n tc va) : mpQ tc kd va n sA7L = [(43, vlO tc va ((n + 2 : Nat) : Int), vlO tc va ((n + (2 + 1) : Nat) : Int), vlO tc va ((n + (2 + 2) : Nat) : Int)), (43, vlO tc va ((n + 4 : Nat) : Int), vlO tc va ((n + (4 + 1) : Nat) : Int), vlO tc va ((n + (4 + 2) : Nat) : Int)), (43, vlO tc va ((n + 6 : Nat) : Int), vlO tc va ((n + (6 + 1) : Nat) : Int), vlO tc va ((n + (6 + 2) : Nat) : Int)), (33, vlO tc va ((n + 5 : Nat) : Int), vlO tc va ((n + (5 + 1) : Nat) : Int), vlO tc va ((n + (5 + 2) : Nat) : Int)), (25, vlO tc va ((n + 0 : Nat) : Int), vlO tc va ((n + (0 + 1) : Nat) : Int), vlO tc va ((n + (0 + 2) : Nat) : Int))] := by
  have hl := hv.1
  have hl : n + 8 < tc := hl
  show [tkA tc kd va ((n + 2 : Nat) : Int), tkA tc kd va ((n + 4 : Nat) : Int), tkA tc kd va ((n + 6 : Nat) : Int), tkA tc kd va ((n + 5 : Nat) : Int), tkA tc kd va ((n + 0 : Nat) : Int)] = _
  rw [tkA_at (i := 2) (hk (2, 43) (by decide)) (by omega), tkA_at (i := 4) (hk (4, 43) (by decide)) (by omega), tkA_at (i := 6) (hk (6, 43) (by decide)) (by omega), tkA_at (i := 5) (hk (5, 33) (by decide)) (by omega), tkA_at (i := 0) (hk (0, 25) (by decide)) (by omega)]
def tA0 (z : Nat → Nat) : List Pk := [([32], (13, 0, 0), []), ([], (37, 0, 0), []), ([], (43, 0, z 4), [])]
abbrev tA0L : List (Nat × Nat) := [(0, 13), (2, 43), (1, 37)]
set_option maxRecDepth 8000 in
theorem tA0_flat : flat (pwT (([32], (12, 0, 0), []) :: tA0 z)) = (([] ++ sB.getD 57 []) ++ dgL (z 4)) := by
  have e : (([] ++ sB.getD 57 []) ++ dgL (z 4)) ++ [] = flat (pwT (([32], (12, 0, 0), []) :: tA0 z)) := by
    simp only [List.append_assoc, List.nil_append]
    rfl
  rw [List.append_nil] at e
  exact e.symm
theorem tA0_good (hz : ZnOk z) : good (pwT (tA0 z)) (some 59) := by
  obtain ⟨z0, z1, z2, z3, z4, z5, z6, z7, z8⟩ := hz
  exact ⟨rfl, rfl, rfl, rfl, rfl, rfl, rfl, st_lt (v := z 4) (Or.inr rfl) (by omega), rfl, rfl, (kw_nb (z 4) (by omega)).2.1, st_nb (v := z 4) (c := 59) (by omega) rfl, trivial⟩
theorem tA0_par (hk : ∀ i, i < (tA0 z).length → K (n + i) = kdT (tA0 z) i) (he : K (n + (tA0 z).length) = 30) : pG K 6500 0 0 n = some (true, n + (tA0 z).length, shf n tA0L) := by
  have h0 : pG (fun i => [13, 37, 43, 30].getD i 45) 80 0 0 0 = some (true, 3, tA0L) := by decide +kernel
  have h1 := pG_loc (K := K) (s := n) 80 6500 0 0 0 3 tA0L (by omega) h0 (fun i _ hi => ?_)
  · exact h1
  · rcases (by omega : i = 0 ∨ i = 1 ∨ i = 2 ∨ i = 3) with rfl | rfl | rfl | rfl
    · exact hk 0 (show 0 < 3 by decide)
    · exact hk 1 (show 1 < 3 by decide)
    · exact hk 2 (show 2 < 3 by decide)
    · exact he
theorem tA0_nm {n c u : Nat} (hz : ZbB n c u z) : nmOk n c u (tA0 z) := by
  obtain ⟨z2, z3, z4, z5, z6, z7, z8⟩ := hz
  exact ⟨⟨rfl, (by decide : (13 : Nat) ≠ 0), (by decide : (13 : Nat) ≠ 1), (by decide : (13 : Nat) ≠ 5)⟩, ⟨rfl, (by decide : (37 : Nat) ≠ 0), (by decide : (37 : Nat) ≠ 1), (by decide : (37 : Nat) ≠ 5)⟩, ⟨rfl, (by decide : (43 : Nat) ≠ 0), (by decide : (43 : Nat) ≠ 1), (by decide : (43 : Nat) ≠ 5)⟩, trivial⟩
theorem tA0_map (hk : KdR tA0L n kd) (hv : VlR (tA0 z) n tc va) : mpQ tc kd va n tA0L = [(13, vlO tc va ((n + 0 : Nat) : Int), vlO tc va ((n + (0 + 1) : Nat) : Int), vlO tc va ((n + (0 + 2) : Nat) : Int)), (43, vlO tc va ((n + 2 : Nat) : Int), vlO tc va ((n + (2 + 1) : Nat) : Int), vlO tc va ((n + (2 + 2) : Nat) : Int)), (37, vlO tc va ((n + 1 : Nat) : Int), vlO tc va ((n + (1 + 1) : Nat) : Int), vlO tc va ((n + (1 + 2) : Nat) : Int))] := by
  have hl := hv.1
  have hl : n + 3 < tc := hl
  show [tkA tc kd va ((n + 0 : Nat) : Int), tkA tc kd va ((n + 2 : Nat) : Int), tkA tc kd va ((n + 1 : Nat) : Int)] = _
  rw [tkA_at (i := 0) (hk (0, 13) (by decide)) (by omega), tkA_at (i := 2) (hk (2, 43) (by decide)) (by omega), tkA_at (i := 1) (hk (1, 37) (by decide)) (by omega)]
def tA1 (z : Nat → Nat) : List Pk := [([32], (18, 0, 0), []), ([32], (42, 1, z 5), [])]
abbrev tA1L : List (Nat × Nat) := [(0, 18)]
set_option maxRecDepth 8000 in
theorem tA1_flat : flat (pwT (([32], (12, 0, 0), []) :: tA1 z)) = (([] ++ sB.getD 58 []) ++ rdT z) := by
  have e : (([] ++ sB.getD 58 []) ++ rdT z) ++ [] = flat (pwT (([32], (12, 0, 0), []) :: tA1 z)) := by
    simp only [List.append_assoc, List.nil_append, rdT]
    rfl
  rw [List.append_nil] at e
  exact e.symm
theorem tA1_good (hz : ZnOk z) : good (pwT (tA1 z)) (some 59) := by
  obtain ⟨z0, z1, z2, z3, z4, z5, z6, z7, z8⟩ := hz
  exact ⟨rfl, rfl, rfl, rfl, rfl, rfl, (kw_nm 1 (by decide) (z 5) (by omega)).2, rfl, trivial⟩
theorem tA1_par (hk : ∀ i, i < (tA1 z).length → K (n + i) = kdT (tA1 z) i) (he : K (n + (tA1 z).length) = 30) : pG K 6500 0 0 n = some (true, n + (tA1 z).length, shf n tA1L) := by
  have h0 : pG (fun i => [18, 42, 30].getD i 45) 80 0 0 0 = some (true, 2, tA1L) := by decide +kernel
  have h1 := pG_loc (K := K) (s := n) 80 6500 0 0 0 2 tA1L (by omega) h0 (fun i _ hi => ?_)
  · exact h1
  · rcases (by omega : i = 0 ∨ i = 1 ∨ i = 2) with rfl | rfl | rfl
    · exact hk 0 (show 0 < 2 by decide)
    · exact hk 1 (show 1 < 2 by decide)
    · exact he
theorem tA1_nm {n c u : Nat} (hz : ZbB n c u z) : nmOk n c u (tA1 z) := by
  obtain ⟨z2, z3, z4, z5, z6, z7, z8⟩ := hz
  exact ⟨⟨rfl, _, z5, rfl⟩, trivial, trivial⟩
theorem tA1_map (hk : KdR tA1L n kd) (hv : VlR (tA1 z) n tc va) : mpQ tc kd va n tA1L = [(18, vlO tc va ((n + 0 : Nat) : Int), vlO tc va ((n + (0 + 1) : Nat) : Int), vlO tc va ((n + (0 + 2) : Nat) : Int))] := by
  have hl := hv.1
  have hl : n + 2 < tc := hl
  show [tkA tc kd va ((n + 0 : Nat) : Int)] = _
  rw [tkA_at (i := 0) (hk (0, 18) (by decide)) (by omega)]
def tA2 (z : Nat → Nat) : List Pk := [([32], (21, 0, 0), []), ([32], (18, 0, 0), []), ([32], (42, 1, z 5), []), ([32], (23, 0, 0), []), ([32], (15, 0, 0), []), ([32], (42, 1, z 5), []), ([], (37, 0, 0), []), ([], (43, 0, 1), [])]
abbrev tA2L : List (Nat × Nat) := [(1, 18), (0, 21), (4, 15), (7, 43), (6, 37), (3, 23)]
set_option maxRecDepth 8000 in
theorem tA2_flat : flat (pwT (([32], (12, 0, 0), []) :: tA2 z)) = ((((([] ++ sB.getD 59 []) ++ rdT z) ++ sB.getD 60 []) ++ rdT z) ++ sB.getD 61 []) := by
  have e : ((((([] ++ sB.getD 59 []) ++ rdT z) ++ sB.getD 60 []) ++ rdT z) ++ sB.getD 61 []) ++ [] = flat (pwT (([32], (12, 0, 0), []) :: tA2 z)) := by
    simp only [List.append_assoc, List.nil_append, rdT]
    rfl
  rw [List.append_nil] at e
  exact e.symm
theorem tA2_good (hz : ZnOk z) : good (pwT (tA2 z)) (some 59) := by
  obtain ⟨z0, z1, z2, z3, z4, z5, z6, z7, z8⟩ := hz
  exact ⟨rfl, rfl, rfl, rfl, rfl, rfl, rfl, rfl, rfl, rfl, (kw_nm 1 (by decide) (z 5) (by omega)).2, rfl, rfl, rfl, rfl, rfl, rfl, rfl, rfl, rfl, rfl, rfl, (kw_nm 1 (by decide) (z 5) (by omega)).2, rfl, rfl, rfl, rfl, rfl, rfl, rfl, rfl, rfl, trivial⟩
theorem tA2_par (hk : ∀ i, i < (tA2 z).length → K (n + i) = kdT (tA2 z) i) (he : K (n + (tA2 z).length) = 30) : pG K 6500 0 0 n = some (true, n + (tA2 z).length, shf n tA2L) := by
  have h0 : pG (fun i => [21, 18, 42, 23, 15, 42, 37, 43, 30].getD i 45) 80 0 0 0 = some (true, 8, tA2L) := by decide +kernel
  have h1 := pG_loc (K := K) (s := n) 80 6500 0 0 0 8 tA2L (by omega) h0 (fun i _ hi => ?_)
  · exact h1
  · rcases (by omega : i = 0 ∨ i = 1 ∨ i = 2 ∨ i = 3 ∨ i = 4 ∨ i = 5 ∨ i = 6 ∨ i = 7 ∨ i = 8) with rfl | rfl | rfl | rfl | rfl | rfl | rfl | rfl | rfl
    · exact hk 0 (show 0 < 8 by decide)
    · exact hk 1 (show 1 < 8 by decide)
    · exact hk 2 (show 2 < 8 by decide)
    · exact hk 3 (show 3 < 8 by decide)
    · exact hk 4 (show 4 < 8 by decide)
    · exact hk 5 (show 5 < 8 by decide)
    · exact hk 6 (show 6 < 8 by decide)
    · exact hk 7 (show 7 < 8 by decide)
    · exact he
theorem tA2_nm {n c u : Nat} (hz : ZbB n c u z) : nmOk n c u (tA2 z) := by
  obtain ⟨z2, z3, z4, z5, z6, z7, z8⟩ := hz
  exact ⟨⟨rfl, (by decide : (21 : Nat) ≠ 0), (by decide : (21 : Nat) ≠ 1), (by decide : (21 : Nat) ≠ 5)⟩, ⟨rfl, _, z5, rfl⟩, trivial, ⟨rfl, (by decide : (23 : Nat) ≠ 0), (by decide : (23 : Nat) ≠ 1), (by decide : (23 : Nat) ≠ 5)⟩, ⟨rfl, _, z5, rfl⟩, trivial, ⟨rfl, (by decide : (37 : Nat) ≠ 0), (by decide : (37 : Nat) ≠ 1), (by decide : (37 : Nat) ≠ 5)⟩, ⟨rfl, (by decide : (43 : Nat) ≠ 0), (by decide : (43 : Nat) ≠ 1), (by decide : (43 : Nat) ≠ 5)⟩, trivial⟩
theorem tA2_map (hk : KdR tA2L n kd) (hv : VlR (tA2 z) n tc va) : mpQ tc kd va n tA2L = [(18, vlO tc va ((n + 1 : Nat) : Int), vlO tc va ((n + (1 + 1) : Nat) : Int), vlO tc va ((n + (1 + 2) : Nat) : Int)), (21, vlO tc va ((n + 0 : Nat) : Int), vlO tc va ((n + (0 + 1) : Nat) : Int), vlO tc va ((n + (0 + 2) : Nat) : Int)), (15, vlO tc va ((n + 4 : Nat) : Int), vlO tc va ((n + (4 + 1) : Nat) : Int), vlO tc va ((n + (4 + 2) : Nat) : Int)), (43, vlO tc va ((n + 7 : Nat) : Int), vlO tc va ((n + (7 + 1) : Nat) : Int), vlO tc va ((n + (7 + 2) : Nat) : Int)), (37, vlO tc va ((n + 6 : Nat) : Int), vlO tc va ((n + (6 + 1) : Nat) : Int), vlO tc va ((n + (6 + 2) : Nat) : Int)), (23, vlO tc va ((n + 3 : Nat) : Int), vlO tc va ((n + (3 + 1) : Nat) : Int), vlO tc va ((n + (3 + 2) : Nat) : Int))] := by
  have hl := hv.1
  have hl : n + 8 < tc := hl
  show [tkA tc kd va ((n + 1 : Nat) : Int), tkA tc kd va ((n + 0 : Nat) : Int), tkA tc kd va ((n + 4 : Nat) : Int), tkA tc kd va ((n + 7 : Nat) : Int), tkA tc kd va ((n + 6 : Nat) : Int), tkA tc kd va ((n + 3 : Nat) : Int)] = _
  rw [tkA_at (i := 1) (hk (1, 18) (by decide)) (by omega), tkA_at (i := 0) (hk (0, 21) (by decide)) (by omega), tkA_at (i := 4) (hk (4, 15) (by decide)) (by omega), tkA_at (i := 7) (hk (7, 43) (by decide)) (by omega), tkA_at (i := 6) (hk (6, 37) (by decide)) (by omega), tkA_at (i := 3) (hk (3, 23) (by decide)) (by omega)]
def tA3 (z : Nat → Nat) : List Pk := [([32], (19, 0, 0), []), ([32], (42, 0, z 6), []), ([32], (42, 2, z 8), [])]
abbrev tA3L : List (Nat × Nat) := [(0, 19)]
set_option maxRecDepth 8000 in
theorem tA3_flat : flat (pwT (([32], (12, 0, 0), []) :: tA3 z)) = (((([] ++ sB.getD 62 []) ++ dgL (z 6)) ++ sB.getD 63 []) ++ dgL (z 8)) := by
  have e : (((([] ++ sB.getD 62 []) ++ dgL (z 6)) ++ sB.getD 63 []) ++ dgL (z 8)) ++ [] = flat (pwT (([32], (12, 0, 0), []) :: tA3 z)) := by
    simp only [List.append_assoc, List.nil_append]
    rfl
  rw [List.append_nil] at e
  exact e.symm
theorem tA3_good (hz : ZnOk z) : good (pwT (tA3 z)) (some 59) := by
  obtain ⟨z0, z1, z2, z3, z4, z5, z6, z7, z8⟩ := hz
  exact ⟨rfl, rfl, rfl, rfl, rfl, rfl, (kw_nm 0 (by decide) (z 6) (by omega)).2, rfl, rfl, rfl, (kw_nm 2 (by decide) (z 8) (by omega)).2, rfl, trivial⟩
theorem tA3_par (hk : ∀ i, i < (tA3 z).length → K (n + i) = kdT (tA3 z) i) (he : K (n + (tA3 z).length) = 30) : pG K 6500 0 0 n = some (true, n + (tA3 z).length, shf n tA3L) := by
  have h0 : pG (fun i => [19, 42, 42, 30].getD i 45) 80 0 0 0 = some (true, 3, tA3L) := by decide +kernel
  have h1 := pG_loc (K := K) (s := n) 80 6500 0 0 0 3 tA3L (by omega) h0 (fun i _ hi => ?_)
  · exact h1
  · rcases (by omega : i = 0 ∨ i = 1 ∨ i = 2 ∨ i = 3) with rfl | rfl | rfl | rfl
    · exact hk 0 (show 0 < 3 by decide)
    · exact hk 1 (show 1 < 3 by decide)
    · exact hk 2 (show 2 < 3 by decide)
    · exact he
theorem tA3_nm {n c u : Nat} (hz : ZbB n c u z) : nmOk n c u (tA3 z) := by
  obtain ⟨z2, z3, z4, z5, z6, z7, z8⟩ := hz
  exact ⟨⟨rfl, ⟨_, z6, rfl⟩, _, z8, rfl⟩, trivial, trivial, trivial⟩
theorem tA3_map (hk : KdR tA3L n kd) (hv : VlR (tA3 z) n tc va) : mpQ tc kd va n tA3L = [(19, vlO tc va ((n + 0 : Nat) : Int), vlO tc va ((n + (0 + 1) : Nat) : Int), vlO tc va ((n + (0 + 2) : Nat) : Int))] := by
  have hl := hv.1
  have hl : n + 3 < tc := hl
  show [tkA tc kd va ((n + 0 : Nat) : Int)] = _
  rw [tkA_at (i := 0) (hk (0, 19) (by decide)) (by omega)]
def tA4 (z : Nat → Nat) : List Pk := [([32], (20, 0, 0), []), ([32], (42, 0, z 6), []), ([32], (42, 0, z 7), [])]
abbrev tA4L : List (Nat × Nat) := [(0, 20)]
set_option maxRecDepth 8000 in
theorem tA4_flat : flat (pwT (([32], (12, 0, 0), []) :: tA4 z)) = (((([] ++ sB.getD 64 []) ++ dgL (z 6)) ++ sB.getD 48 []) ++ dgL (z 7)) := by
  have e : (((([] ++ sB.getD 64 []) ++ dgL (z 6)) ++ sB.getD 48 []) ++ dgL (z 7)) ++ [] = flat (pwT (([32], (12, 0, 0), []) :: tA4 z)) := by
    simp only [List.append_assoc, List.nil_append]
    rfl
  rw [List.append_nil] at e
  exact e.symm
theorem tA4_good (hz : ZnOk z) : good (pwT (tA4 z)) (some 59) := by
  obtain ⟨z0, z1, z2, z3, z4, z5, z6, z7, z8⟩ := hz
  exact ⟨rfl, rfl, rfl, rfl, rfl, rfl, (kw_nm 0 (by decide) (z 6) (by omega)).2, rfl, rfl, rfl, (kw_nm 0 (by decide) (z 7) (by omega)).2, rfl, trivial⟩
theorem tA4_par (hk : ∀ i, i < (tA4 z).length → K (n + i) = kdT (tA4 z) i) (he : K (n + (tA4 z).length) = 30) : pG K 6500 0 0 n = some (true, n + (tA4 z).length, shf n tA4L) := by
  have h0 : pG (fun i => [20, 42, 42, 30].getD i 45) 80 0 0 0 = some (true, 3, tA4L) := by decide +kernel
  have h1 := pG_loc (K := K) (s := n) 80 6500 0 0 0 3 tA4L (by omega) h0 (fun i _ hi => ?_)
  · exact h1
  · rcases (by omega : i = 0 ∨ i = 1 ∨ i = 2 ∨ i = 3) with rfl | rfl | rfl | rfl
    · exact hk 0 (show 0 < 3 by decide)
    · exact hk 1 (show 1 < 3 by decide)
    · exact hk 2 (show 2 < 3 by decide)
    · exact he
theorem tA4_nm {n c u : Nat} (hz : ZbB n c u z) : nmOk n c u (tA4 z) := by
  obtain ⟨z2, z3, z4, z5, z6, z7, z8⟩ := hz
  exact ⟨⟨rfl, ⟨_, z6, rfl⟩, _, z7, rfl⟩, trivial, trivial, trivial⟩
theorem tA4_map (hk : KdR tA4L n kd) (hv : VlR (tA4 z) n tc va) : mpQ tc kd va n tA4L = [(20, vlO tc va ((n + 0 : Nat) : Int), vlO tc va ((n + (0 + 1) : Nat) : Int), vlO tc va ((n + (0 + 2) : Nat) : Int))] := by
  have hl := hv.1
  have hl : n + 3 < tc := hl
  show [tkA tc kd va ((n + 0 : Nat) : Int)] = _
  rw [tkA_at (i := 0) (hk (0, 20) (by decide)) (by omega)]
def tA5 (z : Nat → Nat) : List Pk := [([32], (17, 0, 0), []), ([32], (42, 2, z 8), []), ([], (40, 0, 0), []), ([], (43, 0, z 4 % 4), [])]
abbrev tA5L : List (Nat × Nat) := [(0, 17), (3, 43), (2, 40)]
set_option maxRecDepth 8000 in
theorem tA5_flat : flat (pwT (([32], (12, 0, 0), []) :: tA5 z)) = (((([] ++ sB.getD 65 []) ++ dgL (z 8)) ++ sB.getD 66 []) ++ dgL (z 4 % 4)) := by
  have e : (((([] ++ sB.getD 65 []) ++ dgL (z 8)) ++ sB.getD 66 []) ++ dgL (z 4 % 4)) ++ [] = flat (pwT (([32], (12, 0, 0), []) :: tA5 z)) := by
    simp only [List.append_assoc, List.nil_append]
    rfl
  rw [List.append_nil] at e
  exact e.symm
theorem tA5_good (hz : ZnOk z) : good (pwT (tA5 z)) (some 59) := by
  obtain ⟨z0, z1, z2, z3, z4, z5, z6, z7, z8⟩ := hz
  exact ⟨rfl, rfl, rfl, rfl, rfl, rfl, (kw_nm 2 (by decide) (z 8) (by omega)).2, rfl, rfl, rfl, rfl, st_sy (fun _ => rfl), rfl, rfl, (kw_nb (z 4 % 4) (by omega)).2.1, st_nb (v := z 4 % 4) (c := 59) (by omega) rfl, trivial⟩
theorem tA5_par (hk : ∀ i, i < (tA5 z).length → K (n + i) = kdT (tA5 z) i) (he : K (n + (tA5 z).length) = 30) : pG K 6500 0 0 n = some (true, n + (tA5 z).length, shf n tA5L) := by
  have h0 : pG (fun i => [17, 42, 40, 43, 30].getD i 45) 80 0 0 0 = some (true, 4, tA5L) := by decide +kernel
  have h1 := pG_loc (K := K) (s := n) 80 6500 0 0 0 4 tA5L (by omega) h0 (fun i _ hi => ?_)
  · exact h1
  · rcases (by omega : i = 0 ∨ i = 1 ∨ i = 2 ∨ i = 3 ∨ i = 4) with rfl | rfl | rfl | rfl | rfl
    · exact hk 0 (show 0 < 4 by decide)
    · exact hk 1 (show 1 < 4 by decide)
    · exact hk 2 (show 2 < 4 by decide)
    · exact hk 3 (show 3 < 4 by decide)
    · exact he
theorem tA5_nm {n c u : Nat} (hz : ZbB n c u z) : nmOk n c u (tA5 z) := by
  obtain ⟨z2, z3, z4, z5, z6, z7, z8⟩ := hz
  exact ⟨⟨rfl, _, z8, rfl⟩, trivial, ⟨rfl, (by decide : (40 : Nat) ≠ 0), (by decide : (40 : Nat) ≠ 1), (by decide : (40 : Nat) ≠ 5)⟩, ⟨rfl, (by decide : (43 : Nat) ≠ 0), (by decide : (43 : Nat) ≠ 1), (by decide : (43 : Nat) ≠ 5)⟩, trivial⟩
theorem tA5_map (hk : KdR tA5L n kd) (hv : VlR (tA5 z) n tc va) : mpQ tc kd va n tA5L = [(17, vlO tc va ((n + 0 : Nat) : Int), vlO tc va ((n + (0 + 1) : Nat) : Int), vlO tc va ((n + (0 + 2) : Nat) : Int)), (43, vlO tc va ((n + 3 : Nat) : Int), vlO tc va ((n + (3 + 1) : Nat) : Int), vlO tc va ((n + (3 + 2) : Nat) : Int)), (40, vlO tc va ((n + 2 : Nat) : Int), vlO tc va ((n + (2 + 1) : Nat) : Int), vlO tc va ((n + (2 + 2) : Nat) : Int))] := by
  have hl := hv.1
  have hl : n + 4 < tc := hl
  show [tkA tc kd va ((n + 0 : Nat) : Int), tkA tc kd va ((n + 3 : Nat) : Int), tkA tc kd va ((n + 2 : Nat) : Int)] = _
  rw [tkA_at (i := 0) (hk (0, 17) (by decide)) (by omega), tkA_at (i := 3) (hk (3, 43) (by decide)) (by omega), tkA_at (i := 2) (hk (2, 40) (by decide)) (by omega)]
def tA6 (z : Nat → Nat) : List Pk := [([32], (16, 0, 0), []), ([32], (42, 0, z 6), []), ([32], (42, 0, z 7), []), ([], (36, 0, 0), []), ([], (43, 0, 4), []), ([], (34, 0, 0), []), ([], (43, 0, z 4), [])]
abbrev tA6L : List (Nat × Nat) := [(0, 16), (4, 43), (6, 43), (5, 34), (3, 36)]
set_option maxRecDepth 8000 in
theorem tA6_flat : flat (pwT (([32], (12, 0, 0), []) :: tA6 z)) = (((((([] ++ sB.getD 67 []) ++ dgL (z 6)) ++ sB.getD 48 []) ++ dgL (z 7)) ++ sB.getD 68 []) ++ dgL (z 4)) := by
  have e : (((((([] ++ sB.getD 67 []) ++ dgL (z 6)) ++ sB.getD 48 []) ++ dgL (z 7)) ++ sB.getD 68 []) ++ dgL (z 4)) ++ [] = flat (pwT (([32], (12, 0, 0), []) :: tA6 z)) := by
    simp only [List.append_assoc, List.nil_append]
    rfl
  rw [List.append_nil] at e
  exact e.symm
theorem tA6_good (hz : ZnOk z) : good (pwT (tA6 z)) (some 59) := by
  obtain ⟨z0, z1, z2, z3, z4, z5, z6, z7, z8⟩ := hz
  exact ⟨rfl, rfl, rfl, rfl, rfl, rfl, (kw_nm 0 (by decide) (z 6) (by omega)).2, rfl, rfl, rfl, (kw_nm 0 (by decide) (z 7) (by omega)).2, rfl, rfl, rfl, rfl, rfl, rfl, rfl, rfl, rfl, rfl, rfl, rfl, st_sy (fun _ => rfl), rfl, rfl, (kw_nb (z 4) (by omega)).2.1, st_nb (v := z 4) (c := 59) (by omega) rfl, trivial⟩
theorem tA6_par (hk : ∀ i, i < (tA6 z).length → K (n + i) = kdT (tA6 z) i) (he : K (n + (tA6 z).length) = 30) : pG K 6500 0 0 n = some (true, n + (tA6 z).length, shf n tA6L) := by
  have h0 : pG (fun i => [16, 42, 42, 36, 43, 34, 43, 30].getD i 45) 80 0 0 0 = some (true, 7, tA6L) := by decide +kernel
  have h1 := pG_loc (K := K) (s := n) 80 6500 0 0 0 7 tA6L (by omega) h0 (fun i _ hi => ?_)
  · exact h1
  · rcases (by omega : i = 0 ∨ i = 1 ∨ i = 2 ∨ i = 3 ∨ i = 4 ∨ i = 5 ∨ i = 6 ∨ i = 7) with rfl | rfl | rfl | rfl | rfl | rfl | rfl | rfl
    · exact hk 0 (show 0 < 7 by decide)
    · exact hk 1 (show 1 < 7 by decide)
    · exact hk 2 (show 2 < 7 by decide)
    · exact hk 3 (show 3 < 7 by decide)
    · exact hk 4 (show 4 < 7 by decide)
    · exact hk 5 (show 5 < 7 by decide)
    · exact hk 6 (show 6 < 7 by decide)
    · exact he
theorem tA6_nm {n c u : Nat} (hz : ZbB n c u z) : nmOk n c u (tA6 z) := by
  obtain ⟨z2, z3, z4, z5, z6, z7, z8⟩ := hz
  exact ⟨⟨rfl, ⟨_, z6, rfl⟩, _, z7, rfl⟩, trivial, trivial, ⟨rfl, (by decide : (36 : Nat) ≠ 0), (by decide : (36 : Nat) ≠ 1), (by decide : (36 : Nat) ≠ 5)⟩, ⟨rfl, (by decide : (43 : Nat) ≠ 0), (by decide : (43 : Nat) ≠ 1), (by decide : (43 : Nat) ≠ 5)⟩, ⟨rfl, (by decide : (34 : Nat) ≠ 0), (by decide : (34 : Nat) ≠ 1), (by decide : (34 : Nat) ≠ 5)⟩, ⟨rfl, (by decide : (43 : Nat) ≠ 0), (by decide : (43 : Nat) ≠ 1), (by decide : (43 : Nat) ≠ 5)⟩, trivial⟩
theorem tA6_map (hk : KdR tA6L n kd) (hv : VlR (tA6 z) n tc va) : mpQ tc kd va n tA6L = [(16, vlO tc va ((n + 0 : Nat) : Int), vlO tc va ((n + (0 + 1) : Nat) : Int), vlO tc va ((n + (0 + 2) : Nat) : Int)), (43, vlO tc va ((n + 4 : Nat) : Int), vlO tc va ((n + (4 + 1) : Nat) : Int), vlO tc va ((n + (4 + 2) : Nat) : Int)), (43, vlO tc va ((n + 6 : Nat) : Int), vlO tc va ((n + (6 + 1) : Nat) : Int), vlO tc va ((n + (6 + 2) : Nat) : Int)), (34, vlO tc va ((n + 5 : Nat) : Int), vlO tc va ((n + (5 + 1) : Nat) : Int), vlO tc va ((n + (5 + 2) : Nat) : Int)), (36, vlO tc va ((n + 3 : Nat) : Int), vlO tc va ((n + (3 + 1) : Nat) : Int), vlO tc va ((n + (3 + 2) : Nat) : Int))] := by
  have hl := hv.1
  have hl : n + 7 < tc := hl
  show [tkA tc kd va ((n + 0 : Nat) : Int), tkA tc kd va ((n + 4 : Nat) : Int), tkA tc kd va ((n + 6 : Nat) : Int), tkA tc kd va ((n + 5 : Nat) : Int), tkA tc kd va ((n + 3 : Nat) : Int)] = _
  rw [tkA_at (i := 0) (hk (0, 16) (by decide)) (by omega), tkA_at (i := 4) (hk (4, 43) (by decide)) (by omega), tkA_at (i := 6) (hk (6, 43) (by decide)) (by omega), tkA_at (i := 5) (hk (5, 34) (by decide)) (by omega), tkA_at (i := 3) (hk (3, 36) (by decide)) (by omega)]
def tA7 (z : Nat → Nat) : List Pk := [([32], (28, 0, 0), []), ([], (19, 0, 0), []), ([32], (42, 0, z 7), []), ([32], (42, 2, z 8), []), ([32], (22, 0, 0), []), ([32], (14, 0, 0), []), ([32], (42, 1, z 5), []), ([], (36, 0, 0), []), ([], (43, 0, 9), []), ([], (34, 0, 0), []), ([], (43, 0, z 4), []), ([], (29, 0, 0), []), ([], (23, 0, 0), []), ([32], (13, 0, 0), []), ([], (35, 0, 0), []), ([], (43, 0, 4), []), ([], (34, 0, 0), []), ([], (43, 0, 4), []), ([], (38, 0, 0), []), ([], (13, 0, 0), [])]
abbrev tA7L : List (Nat × Nat) := [(1, 19), (5, 14), (8, 43), (10, 43), (9, 34), (7, 36), (4, 22), (13, 13), (15, 43), (14, 35), (17, 43), (16, 34), (19, 13), (18, 38), (12, 23)]
set_option maxRecDepth 8000 in
theorem tA7_flat : flat (pwT (([32], (12, 0, 0), []) :: tA7 z)) = ((((((((([] ++ sB.getD 69 []) ++ dgL (z 7)) ++ sB.getD 63 []) ++ dgL (z 8)) ++ sB.getD 70 []) ++ rdT z) ++ sB.getD 71 []) ++ dgL (z 4)) ++ sB.getD 72 []) := by
  have e : ((((((((([] ++ sB.getD 69 []) ++ dgL (z 7)) ++ sB.getD 63 []) ++ dgL (z 8)) ++ sB.getD 70 []) ++ rdT z) ++ sB.getD 71 []) ++ dgL (z 4)) ++ sB.getD 72 []) ++ [] = flat (pwT (([32], (12, 0, 0), []) :: tA7 z)) := by
    simp only [List.append_assoc, List.nil_append, rdT]
    rfl
  rw [List.append_nil] at e
  exact e.symm
theorem tA7_good (hz : ZnOk z) : good (pwT (tA7 z)) (some 59) := by
  obtain ⟨z0, z1, z2, z3, z4, z5, z6, z7, z8⟩ := hz
  exact ⟨rfl, rfl, rfl, rfl, rfl, rfl, rfl, rfl, rfl, rfl, (kw_nm 0 (by decide) (z 7) (by omega)).2, rfl, rfl, rfl, (kw_nm 2 (by decide) (z 8) (by omega)).2, rfl, rfl, rfl, rfl, rfl, rfl, rfl, rfl, rfl, rfl, rfl, (kw_nm 1 (by decide) (z 5) (by omega)).2, rfl, rfl, rfl, rfl, rfl, rfl, rfl, rfl, rfl, rfl, rfl, rfl, st_sy (fun _ => rfl), rfl, rfl, (kw_nb (z 4) (by omega)).2.1, st_nb (v := z 4) (c := 93) (by omega) rfl, rfl, rfl, rfl, rfl, rfl, rfl, rfl, rfl, rfl, rfl, rfl, rfl, rfl, rfl, rfl, rfl, rfl, rfl, rfl, rfl, rfl, rfl, rfl, rfl, rfl, rfl, rfl, rfl, rfl, rfl, rfl, rfl, rfl, rfl, rfl, rfl, trivial⟩
theorem tA7_par (hk : ∀ i, i < (tA7 z).length → K (n + i) = kdT (tA7 z) i) (he : K (n + (tA7 z).length) = 30) : pG K 6500 0 0 n = some (true, n + (tA7 z).length, shf n tA7L) := by
  have h0 : pG (fun i => [28, 19, 42, 42, 22, 14, 42, 36, 43, 34, 43, 29, 23, 13, 35, 43, 34, 43, 38, 13, 30].getD i 45) 80 0 0 0 = some (true, 20, tA7L) := by decide +kernel
  have h1 := pG_loc (K := K) (s := n) 80 6500 0 0 0 20 tA7L (by omega) h0 (fun i _ hi => ?_)
  · exact h1
  · rcases (by omega : i = 0 ∨ i = 1 ∨ i = 2 ∨ i = 3 ∨ i = 4 ∨ i = 5 ∨ i = 6 ∨ i = 7 ∨ i = 8 ∨ i = 9 ∨ i = 10 ∨ i = 11 ∨ i = 12 ∨ i = 13 ∨ i = 14 ∨ i = 15 ∨ i = 16 ∨ i = 17 ∨ i = 18 ∨ i = 19 ∨ i = 20) with rfl | rfl | rfl | rfl | rfl | rfl | rfl | rfl | rfl | rfl | rfl | rfl | rfl | rfl | rfl | rfl | rfl | rfl | rfl | rfl | rfl
    · exact hk 0 (show 0 < 20 by decide)
    · exact hk 1 (show 1 < 20 by decide)
    · exact hk 2 (show 2 < 20 by decide)
    · exact hk 3 (show 3 < 20 by decide)
    · exact hk 4 (show 4 < 20 by decide)
    · exact hk 5 (show 5 < 20 by decide)
    · exact hk 6 (show 6 < 20 by decide)
    · exact hk 7 (show 7 < 20 by decide)
    · exact hk 8 (show 8 < 20 by decide)
    · exact hk 9 (show 9 < 20 by decide)
    · exact hk 10 (show 10 < 20 by decide)
    · exact hk 11 (show 11 < 20 by decide)
    · exact hk 12 (show 12 < 20 by decide)
    · exact hk 13 (show 13 < 20 by decide)
    · exact hk 14 (show 14 < 20 by decide)
    · exact hk 15 (show 15 < 20 by decide)
    · exact hk 16 (show 16 < 20 by decide)
    · exact hk 17 (show 17 < 20 by decide)
    · exact hk 18 (show 18 < 20 by decide)
    · exact hk 19 (show 19 < 20 by decide)
    · exact he
theorem tA7_nm {n c u : Nat} (hz : ZbB n c u z) : nmOk n c u (tA7 z) := by
  obtain ⟨z2, z3, z4, z5, z6, z7, z8⟩ := hz
  exact ⟨⟨rfl, (by decide : (28 : Nat) ≠ 0), (by decide : (28 : Nat) ≠ 1), (by decide : (28 : Nat) ≠ 5)⟩, ⟨rfl, ⟨_, z7, rfl⟩, _, z8, rfl⟩, trivial, trivial, ⟨rfl, (by decide : (22 : Nat) ≠ 0), (by decide : (22 : Nat) ≠ 1), (by decide : (22 : Nat) ≠ 5)⟩, ⟨rfl, _, z5, rfl⟩, trivial, ⟨rfl, (by decide : (36 : Nat) ≠ 0), (by decide : (36 : Nat) ≠ 1), (by decide : (36 : Nat) ≠ 5)⟩, ⟨rfl, (by decide : (43 : Nat) ≠ 0), (by decide : (43 : Nat) ≠ 1), (by decide : (43 : Nat) ≠ 5)⟩, ⟨rfl, (by decide : (34 : Nat) ≠ 0), (by decide : (34 : Nat) ≠ 1), (by decide : (34 : Nat) ≠ 5)⟩, ⟨rfl, (by decide : (43 : Nat) ≠ 0), (by decide : (43 : Nat) ≠ 1), (by decide : (43 : Nat) ≠ 5)⟩, ⟨rfl, (by decide : (29 : Nat) ≠ 0), (by decide : (29 : Nat) ≠ 1), (by decide : (29 : Nat) ≠ 5)⟩, ⟨rfl, (by decide : (23 : Nat) ≠ 0), (by decide : (23 : Nat) ≠ 1), (by decide : (23 : Nat) ≠ 5)⟩, ⟨rfl, (by decide : (13 : Nat) ≠ 0), (by decide : (13 : Nat) ≠ 1), (by decide : (13 : Nat) ≠ 5)⟩, ⟨rfl, (by decide : (35 : Nat) ≠ 0), (by decide : (35 : Nat) ≠ 1), (by decide : (35 : Nat) ≠ 5)⟩, ⟨rfl, (by decide : (43 : Nat) ≠ 0), (by decide : (43 : Nat) ≠ 1), (by decide : (43 : Nat) ≠ 5)⟩, ⟨rfl, (by decide : (34 : Nat) ≠ 0), (by decide : (34 : Nat) ≠ 1), (by decide : (34 : Nat) ≠ 5)⟩, ⟨rfl, (by decide : (43 : Nat) ≠ 0), (by decide : (43 : Nat) ≠ 1), (by decide : (43 : Nat) ≠ 5)⟩, ⟨rfl, (by decide : (38 : Nat) ≠ 0), (by decide : (38 : Nat) ≠ 1), (by decide : (38 : Nat) ≠ 5)⟩, ⟨rfl, (by decide : (13 : Nat) ≠ 0), (by decide : (13 : Nat) ≠ 1), (by decide : (13 : Nat) ≠ 5)⟩, trivial⟩
theorem tA7_map (hk : KdR tA7L n kd) (hv : VlR (tA7 z) n tc va) : mpQ tc kd va n tA7L = [(19, vlO tc va ((n + 1 : Nat) : Int), vlO tc va ((n + (1 + 1) : Nat) : Int), vlO tc va ((n + (1 + 2) : Nat) : Int)), (14, vlO tc va ((n + 5 : Nat) : Int), vlO tc va ((n + (5 + 1) : Nat) : Int), vlO tc va ((n + (5 + 2) : Nat) : Int)), (43, vlO tc va ((n + 8 : Nat) : Int), vlO tc va ((n + (8 + 1) : Nat) : Int), vlO tc va ((n + (8 + 2) : Nat) : Int)), (43, vlO tc va ((n + 10 : Nat) : Int), vlO tc va ((n + (10 + 1) : Nat) : Int), vlO tc va ((n + (10 + 2) : Nat) : Int)), (34, vlO tc va ((n + 9 : Nat) : Int), vlO tc va ((n + (9 + 1) : Nat) : Int), vlO tc va ((n + (9 + 2) : Nat) : Int)), (36, vlO tc va ((n + 7 : Nat) : Int), vlO tc va ((n + (7 + 1) : Nat) : Int), vlO tc va ((n + (7 + 2) : Nat) : Int)), (22, vlO tc va ((n + 4 : Nat) : Int), vlO tc va ((n + (4 + 1) : Nat) : Int), vlO tc va ((n + (4 + 2) : Nat) : Int)), (13, vlO tc va ((n + 13 : Nat) : Int), vlO tc va ((n + (13 + 1) : Nat) : Int), vlO tc va ((n + (13 + 2) : Nat) : Int)), (43, vlO tc va ((n + 15 : Nat) : Int), vlO tc va ((n + (15 + 1) : Nat) : Int), vlO tc va ((n + (15 + 2) : Nat) : Int)), (35, vlO tc va ((n + 14 : Nat) : Int), vlO tc va ((n + (14 + 1) : Nat) : Int), vlO tc va ((n + (14 + 2) : Nat) : Int)), (43, vlO tc va ((n + 17 : Nat) : Int), vlO tc va ((n + (17 + 1) : Nat) : Int), vlO tc va ((n + (17 + 2) : Nat) : Int)), (34, vlO tc va ((n + 16 : Nat) : Int), vlO tc va ((n + (16 + 1) : Nat) : Int), vlO tc va ((n + (16 + 2) : Nat) : Int)), (13, vlO tc va ((n + 19 : Nat) : Int), vlO tc va ((n + (19 + 1) : Nat) : Int), vlO tc va ((n + (19 + 2) : Nat) : Int)), (38, vlO tc va ((n + 18 : Nat) : Int), vlO tc va ((n + (18 + 1) : Nat) : Int), vlO tc va ((n + (18 + 2) : Nat) : Int)), (23, vlO tc va ((n + 12 : Nat) : Int), vlO tc va ((n + (12 + 1) : Nat) : Int), vlO tc va ((n + (12 + 2) : Nat) : Int))] := by
  have hl := hv.1
  have hl : n + 20 < tc := hl
  show [tkA tc kd va ((n + 1 : Nat) : Int), tkA tc kd va ((n + 5 : Nat) : Int), tkA tc kd va ((n + 8 : Nat) : Int), tkA tc kd va ((n + 10 : Nat) : Int), tkA tc kd va ((n + 9 : Nat) : Int), tkA tc kd va ((n + 7 : Nat) : Int), tkA tc kd va ((n + 4 : Nat) : Int), tkA tc kd va ((n + 13 : Nat) : Int), tkA tc kd va ((n + 15 : Nat) : Int), tkA tc kd va ((n + 14 : Nat) : Int), tkA tc kd va ((n + 17 : Nat) : Int), tkA tc kd va ((n + 16 : Nat) : Int), tkA tc kd va ((n + 19 : Nat) : Int), tkA tc kd va ((n + 18 : Nat) : Int), tkA tc kd va ((n + 12 : Nat) : Int)] = _
  rw [tkA_at (i := 1) (hk (1, 19) (by decide)) (by omega), tkA_at (i := 5) (hk (5, 14) (by decide)) (by omega), tkA_at (i := 8) (hk (8, 43) (by decide)) (by omega), tkA_at (i := 10) (hk (10, 43) (by decide)) (by omega), tkA_at (i := 9) (hk (9, 34) (by decide)) (by omega), tkA_at (i := 7) (hk (7, 36) (by decide)) (by omega), tkA_at (i := 4) (hk (4, 22) (by decide)) (by omega), tkA_at (i := 13) (hk (13, 13) (by decide)) (by omega), tkA_at (i := 15) (hk (15, 43) (by decide)) (by omega), tkA_at (i := 14) (hk (14, 35) (by decide)) (by omega), tkA_at (i := 17) (hk (17, 43) (by decide)) (by omega), tkA_at (i := 16) (hk (16, 34) (by decide)) (by omega), tkA_at (i := 19) (hk (19, 13) (by decide)) (by omega), tkA_at (i := 18) (hk (18, 38) (by decide)) (by omega), tkA_at (i := 12) (hk (12, 23) (by decide)) (by omega)]
def tA8 (z : Nat → Nat) : List Pk := [([32], (43, 0, z 4), []), ([], (39, 0, 0), []), ([], (43, 0, z 4), [])]
abbrev tA8L : List (Nat × Nat) := [(0, 43), (2, 43), (1, 39)]
set_option maxRecDepth 8000 in
theorem tA8_flat : flat (pwT (([32], (12, 0, 0), []) :: tA8 z)) = (((([] ++ sB.getD 73 []) ++ dgL (z 4)) ++ sB.getD 74 []) ++ dgL (z 4)) := by
  have e : (((([] ++ sB.getD 73 []) ++ dgL (z 4)) ++ sB.getD 74 []) ++ dgL (z 4)) ++ [] = flat (pwT (([32], (12, 0, 0), []) :: tA8 z)) := by
    simp only [List.append_assoc, List.nil_append]
    rfl
  rw [List.append_nil] at e
  exact e.symm
theorem tA8_good (hz : ZnOk z) : good (pwT (tA8 z)) (some 59) := by
  obtain ⟨z0, z1, z2, z3, z4, z5, z6, z7, z8⟩ := hz
  exact ⟨rfl, rfl, (kw_nb (z 4) (by omega)).2.1, st_nb (v := z 4) (c := 60) (by omega) rfl, rfl, rfl, rfl, st_sy (fun _ => rfl), rfl, rfl, (kw_nb (z 4) (by omega)).2.1, st_nb (v := z 4) (c := 59) (by omega) rfl, trivial⟩
theorem tA8_par (hk : ∀ i, i < (tA8 z).length → K (n + i) = kdT (tA8 z) i) (he : K (n + (tA8 z).length) = 30) : pG K 6500 0 0 n = some (true, n + (tA8 z).length, shf n tA8L) := by
  have h0 : pG (fun i => [43, 39, 43, 30].getD i 45) 80 0 0 0 = some (true, 3, tA8L) := by decide +kernel
  have h1 := pG_loc (K := K) (s := n) 80 6500 0 0 0 3 tA8L (by omega) h0 (fun i _ hi => ?_)
  · exact h1
  · rcases (by omega : i = 0 ∨ i = 1 ∨ i = 2 ∨ i = 3) with rfl | rfl | rfl | rfl
    · exact hk 0 (show 0 < 3 by decide)
    · exact hk 1 (show 1 < 3 by decide)
    · exact hk 2 (show 2 < 3 by decide)
    · exact he
theorem tA8_nm {n c u : Nat} (hz : ZbB n c u z) : nmOk n c u (tA8 z) := by
  obtain ⟨z2, z3, z4, z5, z6, z7, z8⟩ := hz
  exact ⟨⟨rfl, (by decide : (43 : Nat) ≠ 0), (by decide : (43 : Nat) ≠ 1), (by decide : (43 : Nat) ≠ 5)⟩, ⟨rfl, (by decide : (39 : Nat) ≠ 0), (by decide : (39 : Nat) ≠ 1), (by decide : (39 : Nat) ≠ 5)⟩, ⟨rfl, (by decide : (43 : Nat) ≠ 0), (by decide : (43 : Nat) ≠ 1), (by decide : (43 : Nat) ≠ 5)⟩, trivial⟩
theorem tA8_map (hk : KdR tA8L n kd) (hv : VlR (tA8 z) n tc va) : mpQ tc kd va n tA8L = [(43, vlO tc va ((n + 0 : Nat) : Int), vlO tc va ((n + (0 + 1) : Nat) : Int), vlO tc va ((n + (0 + 2) : Nat) : Int)), (43, vlO tc va ((n + 2 : Nat) : Int), vlO tc va ((n + (2 + 1) : Nat) : Int), vlO tc va ((n + (2 + 2) : Nat) : Int)), (39, vlO tc va ((n + 1 : Nat) : Int), vlO tc va ((n + (1 + 1) : Nat) : Int), vlO tc va ((n + (1 + 2) : Nat) : Int))] := by
  have hl := hv.1
  have hl : n + 3 < tc := hl
  show [tkA tc kd va ((n + 0 : Nat) : Int), tkA tc kd va ((n + 2 : Nat) : Int), tkA tc kd va ((n + 1 : Nat) : Int)] = _
  rw [tkA_at (i := 0) (hk (0, 43) (by decide)) (by omega), tkA_at (i := 2) (hk (2, 43) (by decide)) (by omega), tkA_at (i := 1) (hk (1, 39) (by decide)) (by omega)]
def ZbOk (Q : Pn) (z : Nat → Nat) : Prop := ZbB Q.1 Q.2.1 Q.2.2.1 z
theorem zb_bd (hQ : PnOk Q) (hS : SOk Q S) (hR : HrOk S) (hz : ZbOk Q z) : z 4 ≤ 8 ∧ (1 ≤ miS S (z 5) ∧ miS S (z 5) ≤ 30 ∧ 0 ≤ woS S (z 5) ∧ woS S (z 5) ≤ 3) ∧ (0 ≤ knw (heS6 S) Q.1 (z 8) ∧ knw (heS6 S) Q.1 (z 8) ≤ 10) ∧ (-1 ≤ dst (gra Q S (-1)) (z 6) (z 7) ∧ dst (gra Q S (-1)) (z 6) (z 7) ≤ 324) ∧ 0 ≤ S.1 ∧ S.1 ≤ 1000000 := by
  obtain ⟨z2, z3, z4, z5, z6, z7, z8⟩ := hz
  obtain ⟨b1, b2, b3, b4, b5, b6, b7⟩ := hS.rb z5
  have hb := knw_bd (he := heS6 S) (n := Q.1) (k := z 8)
  have hd := dst_rng (g := gra Q S (-1)) hS.1.gr hQ.1 z6 z7
  have := hQ.1
  exact ⟨z4, ⟨b4, b5, b6, b7⟩, ⟨hb.1, by omega⟩, hd, hR.1, hR.2⟩
theorem sA0_rpn (hQ : PnOk Q) (hS : SOk Q S) (hR : HrOk S) (hz : ZbOk Q z) (hk : KdR sA0L n kd) (hv : VlR (sA0 z) n tc va) : rpQ Q S (mpQ tc kd va n sA0L) = ((z 4 : Nat) : Int) - ((z 4 : Nat) : Int) / 4 * 4 := by
  obtain ⟨c1, ⟨c2, c3, c4, c5⟩, ⟨c6, c7⟩, ⟨c8, c9⟩, c10, c11⟩ := zb_bd hQ hS hR hz
  have v0 : vlO tc va ((n + 0 : Nat) : Int) = ((z 4 % 4 : Nat) : Int) := hv.2 0 (show 0 < 1 by decide) (Or.inr rfl)
  rw [sA0_map hk hv]
  simp only [rpQ, rpn, List.foldl_cons, List.foldl_nil, rp_13, rp_14, rp_15, rp_16, rp_17, rp_18, rp_19, rp_20, rp_43, rp_21, rp_41, rp_22, rp_23, rp_24, rp_25, rp_33, rp_34, rp_35, rp_36, rp_37, rp_38, rp_39, rp_40, jo_22, jo_23, jo_24, jo_25, jo_33, jo_34, jo_35, jo_36, jo_37, jo_38, jo_39, jo_40, fc_43, fc_13, fc_14, fc_15, fc_16, fc_17, fc_18, fc_19, fc_20, ph_0, ph_1, ph_2, ph_3, List.tail_cons, List.headD_cons, List.tail_nil, List.headD_nil, Int.toNat_natCast, Nat.reduceAdd, v0]
  omega
theorem sA1_rpn (hQ : PnOk Q) (hS : SOk Q S) (hR : HrOk S) (hz : ZbOk Q z) (hk : KdR sA1L n kd) (hv : VlR (sA1 z) n tc va) : rpQ Q S (mpQ tc kd va n sA1L) = woS S (z 5) := by
  obtain ⟨c1, ⟨c2, c3, c4, c5⟩, ⟨c6, c7⟩, ⟨c8, c9⟩, c10, c11⟩ := zb_bd hQ hS hR hz
  have v1 : vlO tc va ((n + 1 : Nat) : Int) = ((z 5 : Nat) : Int) := hv.2 1 (show 1 < 2 by decide) (Or.inl rfl)
  rw [sA1_map hk hv]
  simp only [rpQ, rpn, List.foldl_cons, List.foldl_nil, rp_13, rp_14, rp_15, rp_16, rp_17, rp_18, rp_19, rp_20, rp_43, rp_21, rp_41, rp_22, rp_23, rp_24, rp_25, rp_33, rp_34, rp_35, rp_36, rp_37, rp_38, rp_39, rp_40, jo_22, jo_23, jo_24, jo_25, jo_33, jo_34, jo_35, jo_36, jo_37, jo_38, jo_39, jo_40, fc_43, fc_13, fc_14, fc_15, fc_16, fc_17, fc_18, fc_19, fc_20, ph_0, ph_1, ph_2, ph_3, List.tail_cons, List.headD_cons, List.tail_nil, List.headD_nil, Int.toNat_natCast, Nat.reduceAdd, v1]
theorem sA2_rpn (hQ : PnOk Q) (hS : SOk Q S) (hR : HrOk S) (hz : ZbOk Q z) (hk : KdR sA2L n kd) (hv : VlR (sA2 z) n tc va) : rpQ Q S (mpQ tc kd va n sA2L) = knw (heS6 S) Q.1 (z 8) - (((z 4 : Nat) : Int) - ((z 4 : Nat) : Int) / 3 * 3) := by
  obtain ⟨c1, ⟨c2, c3, c4, c5⟩, ⟨c6, c7⟩, ⟨c8, c9⟩, c10, c11⟩ := zb_bd hQ hS hR hz
  have v1 : vlO tc va ((n + 1 : Nat) : Int) = ((z 8 : Nat) : Int) := hv.2 1 (show 1 < 4 by decide) (Or.inl rfl)
  have v3 : vlO tc va ((n + 3 : Nat) : Int) = ((z 4 % 3 : Nat) : Int) := hv.2 3 (show 3 < 4 by decide) (Or.inr rfl)
  rw [sA2_map hk hv]
  simp only [rpQ, rpn, List.foldl_cons, List.foldl_nil, rp_13, rp_14, rp_15, rp_16, rp_17, rp_18, rp_19, rp_20, rp_43, rp_21, rp_41, rp_22, rp_23, rp_24, rp_25, rp_33, rp_34, rp_35, rp_36, rp_37, rp_38, rp_39, rp_40, jo_22, jo_23, jo_24, jo_25, jo_33, jo_34, jo_35, jo_36, jo_37, jo_38, jo_39, jo_40, fc_43, fc_13, fc_14, fc_15, fc_16, fc_17, fc_18, fc_19, fc_20, ph_0, ph_1, ph_2, ph_3, List.tail_cons, List.headD_cons, List.tail_nil, List.headD_nil, Int.toNat_natCast, Nat.reduceAdd, v1, v3]
  rw [w32_id (by omega) (by omega)]
  omega
theorem sA3_rpn (hQ : PnOk Q) (hS : SOk Q S) (hR : HrOk S) (hz : ZbOk Q z) (hk : KdR sA3L n kd) (hv : VlR (sA3 z) n tc va) : rpQ Q S (mpQ tc kd va n sA3L) = S.1 / 5 := by
  obtain ⟨c1, ⟨c2, c3, c4, c5⟩, ⟨c6, c7⟩, ⟨c8, c9⟩, c10, c11⟩ := zb_bd hQ hS hR hz
  have v2 : vlO tc va ((n + 2 : Nat) : Int) = 5 := hv.2 2 (show 2 < 3 by decide) (Or.inr rfl)
  rw [sA3_map hk hv]
  simp only [rpQ, rpn, List.foldl_cons, List.foldl_nil, rp_13, rp_14, rp_15, rp_16, rp_17, rp_18, rp_19, rp_20, rp_43, rp_21, rp_41, rp_22, rp_23, rp_24, rp_25, rp_33, rp_34, rp_35, rp_36, rp_37, rp_38, rp_39, rp_40, jo_22, jo_23, jo_24, jo_25, jo_33, jo_34, jo_35, jo_36, jo_37, jo_38, jo_39, jo_40, fc_43, fc_13, fc_14, fc_15, fc_16, fc_17, fc_18, fc_19, fc_20, ph_0, ph_1, ph_2, ph_3, List.tail_cons, List.headD_cons, List.tail_nil, List.headD_nil, Int.toNat_natCast, Nat.reduceAdd, v2]
  rw [if_neg (by omega), tdE (by omega), w32_id (by omega) (by omega)]
theorem sA4_rpn (hQ : PnOk Q) (hS : SOk Q S) (hR : HrOk S) (hz : ZbOk Q z) (hk : KdR sA4L n kd) (hv : VlR (sA4 z) n tc va) : rpQ Q S (mpQ tc kd va n sA4L) = dst (gra Q S (-1)) (z 6) (z 7) - ((z 4 : Nat) : Int) := by
  obtain ⟨c1, ⟨c2, c3, c4, c5⟩, ⟨c6, c7⟩, ⟨c8, c9⟩, c10, c11⟩ := zb_bd hQ hS hR hz
  have v1 : vlO tc va ((n + 1 : Nat) : Int) = ((z 6 : Nat) : Int) := hv.2 1 (show 1 < 5 by decide) (Or.inl rfl)
  have v2 : vlO tc va ((n + 2 : Nat) : Int) = ((z 7 : Nat) : Int) := hv.2 2 (show 2 < 5 by decide) (Or.inl rfl)
  have v4 : vlO tc va ((n + 4 : Nat) : Int) = ((z 4 : Nat) : Int) := hv.2 4 (show 4 < 5 by decide) (Or.inr rfl)
  rw [sA4_map hk hv]
  simp only [rpQ, rpn, List.foldl_cons, List.foldl_nil, rp_13, rp_14, rp_15, rp_16, rp_17, rp_18, rp_19, rp_20, rp_43, rp_21, rp_41, rp_22, rp_23, rp_24, rp_25, rp_33, rp_34, rp_35, rp_36, rp_37, rp_38, rp_39, rp_40, jo_22, jo_23, jo_24, jo_25, jo_33, jo_34, jo_35, jo_36, jo_37, jo_38, jo_39, jo_40, fc_43, fc_13, fc_14, fc_15, fc_16, fc_17, fc_18, fc_19, fc_20, ph_0, ph_1, ph_2, ph_3, List.tail_cons, List.headD_cons, List.tail_nil, List.headD_nil, Int.toNat_natCast, Nat.reduceAdd, v1, v2, v4]
  exact w32_id (by show -2147483648 ≤ dst (gra Q S (-1)) (z 6) (z 7) - _; omega) (by show dst (gra Q S (-1)) (z 6) (z 7) - _ < _; omega)
theorem sA5_rpn (hQ : PnOk Q) (hS : SOk Q S) (hR : HrOk S) (hz : ZbOk Q z) (hk : KdR sA5L n kd) (hv : VlR (sA5 z) n tc va) : rpQ Q S (mpQ tc kd va n sA5L) = min (miS S (z 5) + 2 * woS S (z 5)) ((z 4 : Nat) : Int) / 3 := by
  obtain ⟨c1, ⟨c2, c3, c4, c5⟩, ⟨c6, c7⟩, ⟨c8, c9⟩, c10, c11⟩ := zb_bd hQ hS hR hz
  have v3 : vlO tc va ((n + 3 : Nat) : Int) = ((z 5 : Nat) : Int) := hv.2 3 (show 3 < 9 by decide) (Or.inl rfl)
  have v5 : vlO tc va ((n + 5 : Nat) : Int) = ((z 4 : Nat) : Int) := hv.2 5 (show 5 < 9 by decide) (Or.inr rfl)
  have v8 : vlO tc va ((n + 8 : Nat) : Int) = 3 := hv.2 8 (show 8 < 9 by decide) (Or.inr rfl)
  rw [sA5_map hk hv]
  simp only [rpQ, rpn, List.foldl_cons, List.foldl_nil, rp_13, rp_14, rp_15, rp_16, rp_17, rp_18, rp_19, rp_20, rp_43, rp_21, rp_41, rp_22, rp_23, rp_24, rp_25, rp_33, rp_34, rp_35, rp_36, rp_37, rp_38, rp_39, rp_40, jo_22, jo_23, jo_24, jo_25, jo_33, jo_34, jo_35, jo_36, jo_37, jo_38, jo_39, jo_40, fc_43, fc_13, fc_14, fc_15, fc_16, fc_17, fc_18, fc_19, fc_20, ph_0, ph_1, ph_2, ph_3, List.tail_cons, List.headD_cons, List.tail_nil, List.headD_nil, Int.toNat_natCast, Nat.reduceAdd, v3, v5, v8]
  rw [if_neg (by omega), tdE (by omega), w32_id (by omega) (by omega)]
theorem sA6_rpn (hQ : PnOk Q) (hS : SOk Q S) (hR : HrOk S) (hz : ZbOk Q z) (hk : KdR sA6L n kd) (hv : VlR (sA6 z) n tc va) : rpQ Q S (mpQ tc kd va n sA6L) = -((z 4 : Nat) : Int) := by
  obtain ⟨c1, ⟨c2, c3, c4, c5⟩, ⟨c6, c7⟩, ⟨c8, c9⟩, c10, c11⟩ := zb_bd hQ hS hR hz
  have v1 : vlO tc va ((n + 1 : Nat) : Int) = ((z 4 : Nat) : Int) := hv.2 1 (show 1 < 2 by decide) (Or.inr rfl)
  rw [sA6_map hk hv]
  simp only [rpQ, rpn, List.foldl_cons, List.foldl_nil, rp_13, rp_14, rp_15, rp_16, rp_17, rp_18, rp_19, rp_20, rp_43, rp_21, rp_41, rp_22, rp_23, rp_24, rp_25, rp_33, rp_34, rp_35, rp_36, rp_37, rp_38, rp_39, rp_40, jo_22, jo_23, jo_24, jo_25, jo_33, jo_34, jo_35, jo_36, jo_37, jo_38, jo_39, jo_40, fc_43, fc_13, fc_14, fc_15, fc_16, fc_17, fc_18, fc_19, fc_20, ph_0, ph_1, ph_2, ph_3, List.tail_cons, List.headD_cons, List.tail_nil, List.headD_nil, Int.toNat_natCast, Nat.reduceAdd, v1]
  rw [w32_id (by omega) (by omega)]
theorem sA7_rpn (hQ : PnOk Q) (hS : SOk Q S) (hR : HrOk S) (hz : ZbOk Q z) (hk : KdR sA7L n kd) (hv : VlR (sA7 z) n tc va) : rpQ Q S (mpQ tc kd va n sA7L) = max 1 (((z 4 : Nat) : Int) - 5) := by
  obtain ⟨c1, ⟨c2, c3, c4, c5⟩, ⟨c6, c7⟩, ⟨c8, c9⟩, c10, c11⟩ := zb_bd hQ hS hR hz
  have v2 : vlO tc va ((n + 2 : Nat) : Int) = 1 := hv.2 2 (show 2 < 8 by decide) (Or.inr rfl)
  have v4 : vlO tc va ((n + 4 : Nat) : Int) = ((z 4 : Nat) : Int) := hv.2 4 (show 4 < 8 by decide) (Or.inr rfl)
  have v6 : vlO tc va ((n + 6 : Nat) : Int) = 5 := hv.2 6 (show 6 < 8 by decide) (Or.inr rfl)
  rw [sA7_map hk hv]
  simp only [rpQ, rpn, List.foldl_cons, List.foldl_nil, rp_13, rp_14, rp_15, rp_16, rp_17, rp_18, rp_19, rp_20, rp_43, rp_21, rp_41, rp_22, rp_23, rp_24, rp_25, rp_33, rp_34, rp_35, rp_36, rp_37, rp_38, rp_39, rp_40, jo_22, jo_23, jo_24, jo_25, jo_33, jo_34, jo_35, jo_36, jo_37, jo_38, jo_39, jo_40, fc_43, fc_13, fc_14, fc_15, fc_16, fc_17, fc_18, fc_19, fc_20, ph_0, ph_1, ph_2, ph_3, List.tail_cons, List.headD_cons, List.tail_nil, List.headD_nil, Int.toNat_natCast, Nat.reduceAdd, v2, v4, v6]
  rw [w32_id (by omega) (by omega)]
theorem tA0_rpn (hQ : PnOk Q) (hS : SOk Q S) (hR : HrOk S) (hz : ZbOk Q z) (hk : KdR tA0L n kd) (hv : VlR (tA0 z) n tc va) : rpQ Q S (mpQ tc kd va n tA0L) = 0 ↔ ¬ (((z 4 : Nat) : Int) < S.1) := by
  obtain ⟨c1, ⟨c2, c3, c4, c5⟩, ⟨c6, c7⟩, ⟨c8, c9⟩, c10, c11⟩ := zb_bd hQ hS hR hz
  have v2 : vlO tc va ((n + 2 : Nat) : Int) = ((z 4 : Nat) : Int) := hv.2 2 (show 2 < 3 by decide) (Or.inr rfl)
  rw [tA0_map hk hv]
  simp only [rpQ, rpn, List.foldl_cons, List.foldl_nil, rp_13, rp_14, rp_15, rp_16, rp_17, rp_18, rp_19, rp_20, rp_43, rp_21, rp_41, rp_22, rp_23, rp_24, rp_25, rp_33, rp_34, rp_35, rp_36, rp_37, rp_38, rp_39, rp_40, jo_22, jo_23, jo_24, jo_25, jo_33, jo_34, jo_35, jo_36, jo_37, jo_38, jo_39, jo_40, fc_43, fc_13, fc_14, fc_15, fc_16, fc_17, fc_18, fc_19, fc_20, ph_0, ph_1, ph_2, ph_3, List.tail_cons, List.headD_cons, List.tail_nil, List.headD_nil, Int.toNat_natCast, Nat.reduceAdd, v2]
  by_cases h : ((z 4 : Nat) : Int) < S.1
  · rw [if_pos h]; omega
  · rw [if_neg h]; omega
theorem tA1_rpn (hQ : PnOk Q) (hS : SOk Q S) (hR : HrOk S) (hz : ZbOk Q z) (hk : KdR tA1L n kd) (hv : VlR (tA1 z) n tc va) : rpQ Q S (mpQ tc kd va n tA1L) = 0 ↔ ¬ (woS S (z 5) < 3) := by
  obtain ⟨c1, ⟨c2, c3, c4, c5⟩, ⟨c6, c7⟩, ⟨c8, c9⟩, c10, c11⟩ := zb_bd hQ hS hR hz
  have v1 : vlO tc va ((n + 1 : Nat) : Int) = ((z 5 : Nat) : Int) := hv.2 1 (show 1 < 2 by decide) (Or.inl rfl)
  rw [tA1_map hk hv]
  simp only [rpQ, rpn, List.foldl_cons, List.foldl_nil, rp_13, rp_14, rp_15, rp_16, rp_17, rp_18, rp_19, rp_20, rp_43, rp_21, rp_41, rp_22, rp_23, rp_24, rp_25, rp_33, rp_34, rp_35, rp_36, rp_37, rp_38, rp_39, rp_40, jo_22, jo_23, jo_24, jo_25, jo_33, jo_34, jo_35, jo_36, jo_37, jo_38, jo_39, jo_40, fc_43, fc_13, fc_14, fc_15, fc_16, fc_17, fc_18, fc_19, fc_20, ph_0, ph_1, ph_2, ph_3, List.tail_cons, List.headD_cons, List.tail_nil, List.headD_nil, Int.toNat_natCast, Nat.reduceAdd, v1]
  by_cases h : woS S (z 5) < 3
  · rw [if_pos h]; omega
  · rw [if_neg h]; omega
theorem tA2_rpn (hQ : PnOk Q) (hS : SOk Q S) (hR : HrOk S) (hz : ZbOk Q z) (hk : KdR tA2L n kd) (hv : VlR (tA2 z) n tc va) : rpQ Q S (mpQ tc kd va n tA2L) = 0 ↔ ¬ (¬ woS S (z 5) < 3 ∨ 1 < woS S (z 5)) := by
  obtain ⟨c1, ⟨c2, c3, c4, c5⟩, ⟨c6, c7⟩, ⟨c8, c9⟩, c10, c11⟩ := zb_bd hQ hS hR hz
  have v2 : vlO tc va ((n + 2 : Nat) : Int) = ((z 5 : Nat) : Int) := hv.2 2 (show 2 < 8 by decide) (Or.inl rfl)
  have v5 : vlO tc va ((n + 5 : Nat) : Int) = ((z 5 : Nat) : Int) := hv.2 5 (show 5 < 8 by decide) (Or.inl rfl)
  have v7 : vlO tc va ((n + 7 : Nat) : Int) = 1 := hv.2 7 (show 7 < 8 by decide) (Or.inr rfl)
  rw [tA2_map hk hv]
  simp only [rpQ, rpn, List.foldl_cons, List.foldl_nil, rp_13, rp_14, rp_15, rp_16, rp_17, rp_18, rp_19, rp_20, rp_43, rp_21, rp_41, rp_22, rp_23, rp_24, rp_25, rp_33, rp_34, rp_35, rp_36, rp_37, rp_38, rp_39, rp_40, jo_22, jo_23, jo_24, jo_25, jo_33, jo_34, jo_35, jo_36, jo_37, jo_38, jo_39, jo_40, fc_43, fc_13, fc_14, fc_15, fc_16, fc_17, fc_18, fc_19, fc_20, ph_0, ph_1, ph_2, ph_3, List.tail_cons, List.headD_cons, List.tail_nil, List.headD_nil, Int.toNat_natCast, Nat.reduceAdd, v2, v5, v7]
  by_cases h : woS S (z 5) < 3
  · rw [if_pos h, w32_id (by omega) (by omega)]
    by_cases h2 : 1 < woS S (z 5)
    · rw [if_pos h2]; simp [h2]
    · rw [if_neg h2]; simp [h, h2]
  · rw [if_neg h, w32_id (by omega) (by omega)]
    simp [h]
theorem tA3_rpn (hQ : PnOk Q) (hS : SOk Q S) (hR : HrOk S) (hz : ZbOk Q z) (hk : KdR tA3L n kd) (hv : VlR (tA3 z) n tc va) : rpQ Q S (mpQ tc kd va n tA3L) = 0 ↔ ¬ (heS6 S (z 6 * 6 + z 8) ≠ -1) := by
  obtain ⟨c1, ⟨c2, c3, c4, c5⟩, ⟨c6, c7⟩, ⟨c8, c9⟩, c10, c11⟩ := zb_bd hQ hS hR hz
  have v1 : vlO tc va ((n + 1 : Nat) : Int) = ((z 6 : Nat) : Int) := hv.2 1 (show 1 < 3 by decide) (Or.inl rfl)
  have v2 : vlO tc va ((n + 2 : Nat) : Int) = ((z 8 : Nat) : Int) := hv.2 2 (show 2 < 3 by decide) (Or.inl rfl)
  rw [tA3_map hk hv]
  simp only [rpQ, rpn, List.foldl_cons, List.foldl_nil, rp_13, rp_14, rp_15, rp_16, rp_17, rp_18, rp_19, rp_20, rp_43, rp_21, rp_41, rp_22, rp_23, rp_24, rp_25, rp_33, rp_34, rp_35, rp_36, rp_37, rp_38, rp_39, rp_40, jo_22, jo_23, jo_24, jo_25, jo_33, jo_34, jo_35, jo_36, jo_37, jo_38, jo_39, jo_40, fc_43, fc_13, fc_14, fc_15, fc_16, fc_17, fc_18, fc_19, fc_20, ph_0, ph_1, ph_2, ph_3, List.tail_cons, List.headD_cons, List.tail_nil, List.headD_nil, Int.toNat_natCast, Nat.reduceAdd, v1, v2]
  by_cases h : heS6 S (z 6 * 6 + z 8) = -1
  · rw [if_pos h]; simp [h]
  · rw [if_neg h]; simp [h]
theorem tA4_rpn (hQ : PnOk Q) (hS : SOk Q S) (hR : HrOk S) (hz : ZbOk Q z) (hk : KdR tA4L n kd) (hv : VlR (tA4 z) n tc va) : rpQ Q S (mpQ tc kd va n tA4L) = 0 ↔ ¬ (dst (gra Q S (-1)) (z 6) (z 7) = -1) := by
  obtain ⟨c1, ⟨c2, c3, c4, c5⟩, ⟨c6, c7⟩, ⟨c8, c9⟩, c10, c11⟩ := zb_bd hQ hS hR hz
  have v1 : vlO tc va ((n + 1 : Nat) : Int) = ((z 6 : Nat) : Int) := hv.2 1 (show 1 < 3 by decide) (Or.inl rfl)
  have v2 : vlO tc va ((n + 2 : Nat) : Int) = ((z 7 : Nat) : Int) := hv.2 2 (show 2 < 3 by decide) (Or.inl rfl)
  rw [tA4_map hk hv]
  simp only [rpQ, rpn, List.foldl_cons, List.foldl_nil, rp_13, rp_14, rp_15, rp_16, rp_17, rp_18, rp_19, rp_20, rp_43, rp_21, rp_41, rp_22, rp_23, rp_24, rp_25, rp_33, rp_34, rp_35, rp_36, rp_37, rp_38, rp_39, rp_40, jo_22, jo_23, jo_24, jo_25, jo_33, jo_34, jo_35, jo_36, jo_37, jo_38, jo_39, jo_40, fc_43, fc_13, fc_14, fc_15, fc_16, fc_17, fc_18, fc_19, fc_20, ph_0, ph_1, ph_2, ph_3, List.tail_cons, List.headD_cons, List.tail_nil, List.headD_nil, Int.toNat_natCast, Nat.reduceAdd, v1, v2]
  by_cases h : dst (gra Q S (-1)) (z 6) (z 7) = -1
  · have e : (if dst (roG Q.2.1 (frP Q) (toP Q) (miS S) (woS S) (-1)) (z 6) (z 7) = -1 then (1 : Int) else 0) = 1 := if_pos h
    rw [e]; simp [h]
  · have e : (if dst (roG Q.2.1 (frP Q) (toP Q) (miS S) (woS S) (-1)) (z 6) (z 7) = -1 then (1 : Int) else 0) = 0 := if_neg h
    rw [e]; simp [h]
theorem tA5_rpn (hQ : PnOk Q) (hS : SOk Q S) (hR : HrOk S) (hz : ZbOk Q z) (hk : KdR tA5L n kd) (hv : VlR (tA5 z) n tc va) : rpQ Q S (mpQ tc kd va n tA5L) = 0 ↔ ¬ (((z 4 : Nat) : Int) - ((z 4 : Nat) : Int) / 4 * 4 ≤ knw (heS6 S) Q.1 (z 8)) := by
  obtain ⟨c1, ⟨c2, c3, c4, c5⟩, ⟨c6, c7⟩, ⟨c8, c9⟩, c10, c11⟩ := zb_bd hQ hS hR hz
  have v1 : vlO tc va ((n + 1 : Nat) : Int) = ((z 8 : Nat) : Int) := hv.2 1 (show 1 < 4 by decide) (Or.inl rfl)
  have v3 : vlO tc va ((n + 3 : Nat) : Int) = ((z 4 % 4 : Nat) : Int) := hv.2 3 (show 3 < 4 by decide) (Or.inr rfl)
  rw [tA5_map hk hv]
  simp only [rpQ, rpn, List.foldl_cons, List.foldl_nil, rp_13, rp_14, rp_15, rp_16, rp_17, rp_18, rp_19, rp_20, rp_43, rp_21, rp_41, rp_22, rp_23, rp_24, rp_25, rp_33, rp_34, rp_35, rp_36, rp_37, rp_38, rp_39, rp_40, jo_22, jo_23, jo_24, jo_25, jo_33, jo_34, jo_35, jo_36, jo_37, jo_38, jo_39, jo_40, fc_43, fc_13, fc_14, fc_15, fc_16, fc_17, fc_18, fc_19, fc_20, ph_0, ph_1, ph_2, ph_3, List.tail_cons, List.headD_cons, List.tail_nil, List.headD_nil, Int.toNat_natCast, Nat.reduceAdd, v1, v3]
  by_cases h : ((z 4 % 4 : Nat) : Int) ≤ knw (heS6 S) Q.1 (z 8)
  · rw [if_pos h]; omega
  · rw [if_neg h]; omega
theorem tA6_rpn (hQ : PnOk Q) (hS : SOk Q S) (hR : HrOk S) (hz : ZbOk Q z) (hk : KdR tA6L n kd) (hv : VlR (tA6 z) n tc va) : rpQ Q S (mpQ tc kd va n tA6L) = 0 ↔ ¬ (dst (gra Q S (-1)) (z 6) (z 7) < 4 * ((z 4 : Nat) : Int)) := by
  obtain ⟨c1, ⟨c2, c3, c4, c5⟩, ⟨c6, c7⟩, ⟨c8, c9⟩, c10, c11⟩ := zb_bd hQ hS hR hz
  have v1 : vlO tc va ((n + 1 : Nat) : Int) = ((z 6 : Nat) : Int) := hv.2 1 (show 1 < 7 by decide) (Or.inl rfl)
  have v2 : vlO tc va ((n + 2 : Nat) : Int) = ((z 7 : Nat) : Int) := hv.2 2 (show 2 < 7 by decide) (Or.inl rfl)
  have v4 : vlO tc va ((n + 4 : Nat) : Int) = 4 := hv.2 4 (show 4 < 7 by decide) (Or.inr rfl)
  have v6 : vlO tc va ((n + 6 : Nat) : Int) = ((z 4 : Nat) : Int) := hv.2 6 (show 6 < 7 by decide) (Or.inr rfl)
  obtain ⟨m, hm⟩ : ∃ m : Int, m = ((z 4 : Nat) : Int) := ⟨_, rfl⟩
  rw [← hm] at v6 ⊢
  rw [tA6_map hk hv]
  simp only [rpQ, rpn, List.foldl_cons, List.foldl_nil, rp_13, rp_14, rp_15, rp_16, rp_17, rp_18, rp_19, rp_20, rp_43, rp_21, rp_41, rp_22, rp_23, rp_24, rp_25, rp_33, rp_34, rp_35, rp_36, rp_37, rp_38, rp_39, rp_40, jo_22, jo_23, jo_24, jo_25, jo_33, jo_34, jo_35, jo_36, jo_37, jo_38, jo_39, jo_40, fc_43, fc_13, fc_14, fc_15, fc_16, fc_17, fc_18, fc_19, fc_20, ph_0, ph_1, ph_2, ph_3, List.tail_cons, List.headD_cons, List.tail_nil, List.headD_nil, Int.toNat_natCast, Nat.reduceAdd, v1, v2, v4, v6]
  rw [w32_id (by omega) (by omega)]
  by_cases h : dst (gra Q S (-1)) (z 6) (z 7) < 4 * m
  · have e : (if dst (roG Q.2.1 (frP Q) (toP Q) (miS S) (woS S) (-1)) (z 6) (z 7) < 4 * m then (1 : Int) else 0) = 1 := if_pos h
    rw [e]; omega
  · have e : (if dst (roG Q.2.1 (frP Q) (toP Q) (miS S) (woS S) (-1)) (z 6) (z 7) < 4 * m then (1 : Int) else 0) = 0 := if_neg h
    rw [e]; omega
theorem tA7_rpn (hQ : PnOk Q) (hS : SOk Q S) (hR : HrOk S) (hz : ZbOk Q z) (hk : KdR tA7L n kd) (hv : VlR (tA7 z) n tc va) : rpQ Q S (mpQ tc kd va n tA7L) = 0 ↔ ¬ ((heS6 S (z 7 * 6 + z 8) ≠ -1 ∧ miS S (z 5) + 2 * woS S (z 5) < 9 * ((z 4 : Nat) : Int)) ∨ S.1 - S.1 / 4 * 4 = 0) := by
  obtain ⟨c1, ⟨c2, c3, c4, c5⟩, ⟨c6, c7⟩, ⟨c8, c9⟩, c10, c11⟩ := zb_bd hQ hS hR hz
  have v2 : vlO tc va ((n + 2 : Nat) : Int) = ((z 7 : Nat) : Int) := hv.2 2 (show 2 < 20 by decide) (Or.inl rfl)
  have v3 : vlO tc va ((n + 3 : Nat) : Int) = ((z 8 : Nat) : Int) := hv.2 3 (show 3 < 20 by decide) (Or.inl rfl)
  have v6 : vlO tc va ((n + 6 : Nat) : Int) = ((z 5 : Nat) : Int) := hv.2 6 (show 6 < 20 by decide) (Or.inl rfl)
  have v8 : vlO tc va ((n + 8 : Nat) : Int) = 9 := hv.2 8 (show 8 < 20 by decide) (Or.inr rfl)
  have v10 : vlO tc va ((n + 10 : Nat) : Int) = ((z 4 : Nat) : Int) := hv.2 10 (show 10 < 20 by decide) (Or.inr rfl)
  have v15 : vlO tc va ((n + 15 : Nat) : Int) = 4 := hv.2 15 (show 15 < 20 by decide) (Or.inr rfl)
  have v17 : vlO tc va ((n + 17 : Nat) : Int) = 4 := hv.2 17 (show 17 < 20 by decide) (Or.inr rfl)
  obtain ⟨m, hm⟩ : ∃ m : Int, m = ((z 4 : Nat) : Int) := ⟨_, rfl⟩
  rw [← hm] at v10 ⊢
  rw [tA7_map hk hv]
  simp only [rpQ, rpn, List.foldl_cons, List.foldl_nil, rp_13, rp_14, rp_15, rp_16, rp_17, rp_18, rp_19, rp_20, rp_43, rp_21, rp_41, rp_22, rp_23, rp_24, rp_25, rp_33, rp_34, rp_35, rp_36, rp_37, rp_38, rp_39, rp_40, jo_22, jo_23, jo_24, jo_25, jo_33, jo_34, jo_35, jo_36, jo_37, jo_38, jo_39, jo_40, fc_43, fc_13, fc_14, fc_15, fc_16, fc_17, fc_18, fc_19, fc_20, ph_0, ph_1, ph_2, ph_3, List.tail_cons, List.headD_cons, List.tail_nil, List.headD_nil, Int.toNat_natCast, Nat.reduceAdd, v2, v3, v6, v8, v10, v15, v17]
  rw [w32_id (x := 9 * m) (by omega) (by omega), if_neg (show ¬ (4 : Int) = 0 by omega), tdE (by omega), w32_id (x := S.1 / 4) (by omega) (by omega), w32_id (x := S.1 / 4 * 4) (by omega) (by omega)]
  by_cases h1 : heS6 S (z 7 * 6 + z 8) = -1
  · by_cases h3 : S.1 / 4 * 4 = S.1
    · rw [if_pos h1, if_pos rfl, if_pos h3]; have : S.1 - S.1 / 4 * 4 = 0 := by omega
      simp [this]
    · rw [if_pos h1, if_pos rfl, if_neg h3]; have : ¬ S.1 - S.1 / 4 * 4 = 0 := by omega
      simp [this, h1]
  · by_cases h2 : miS S (z 5) + 2 * woS S (z 5) < 9 * m
    · rw [if_neg h1, if_pos h2]; simp [h1, h2]
    · by_cases h3 : S.1 / 4 * 4 = S.1
      · rw [if_neg h1, if_neg h2, if_pos h3]; have : S.1 - S.1 / 4 * 4 = 0 := by omega
        simp [this]
      · rw [if_neg h1, if_neg h2, if_neg h3]; have : ¬ S.1 - S.1 / 4 * 4 = 0 := by omega
        simp [this, h2]
theorem tA8_rpn (hQ : PnOk Q) (hS : SOk Q S) (hR : HrOk S) (hz : ZbOk Q z) (hk : KdR tA8L n kd) (hv : VlR (tA8 z) n tc va) : rpQ Q S (mpQ tc kd va n tA8L) = 0 ↔ ¬ (True) := by
  obtain ⟨c1, ⟨c2, c3, c4, c5⟩, ⟨c6, c7⟩, ⟨c8, c9⟩, c10, c11⟩ := zb_bd hQ hS hR hz
  have v0 : vlO tc va ((n + 0 : Nat) : Int) = ((z 4 : Nat) : Int) := hv.2 0 (show 0 < 3 by decide) (Or.inr rfl)
  have v2 : vlO tc va ((n + 2 : Nat) : Int) = ((z 4 : Nat) : Int) := hv.2 2 (show 2 < 3 by decide) (Or.inr rfl)
  rw [tA8_map hk hv]
  simp only [rpQ, rpn, List.foldl_cons, List.foldl_nil, rp_13, rp_14, rp_15, rp_16, rp_17, rp_18, rp_19, rp_20, rp_43, rp_21, rp_41, rp_22, rp_23, rp_24, rp_25, rp_33, rp_34, rp_35, rp_36, rp_37, rp_38, rp_39, rp_40, jo_22, jo_23, jo_24, jo_25, jo_33, jo_34, jo_35, jo_36, jo_37, jo_38, jo_39, jo_40, fc_43, fc_13, fc_14, fc_15, fc_16, fc_17, fc_18, fc_19, fc_20, ph_0, ph_1, ph_2, ph_3, List.tail_cons, List.headD_cons, List.tail_nil, List.headD_nil, Int.toNat_natCast, Nat.reduceAdd, v0, v2]
  rw [if_pos (Int.le_refl _)]; simp
end TMPL
def sumP (z : Nat → Nat) : List Pk := if z 2 = 0 then sA0 z else if z 2 = 1 then sA1 z else if z 2 = 2 then sA2 z else if z 2 = 3 then sA3 z else if z 2 = 4 then sA4 z else if z 2 = 5 then sA5 z else if z 2 = 6 then sA6 z else sA7 z
def sumL (z : Nat → Nat) : List (Nat × Nat) := if z 2 = 0 then sA0L else if z 2 = 1 then sA1L else if z 2 = 2 then sA2L else if z 2 = 3 then sA3L else if z 2 = 4 then sA4L else if z 2 = 5 then sA5L else if z 2 = 6 then sA6L else sA7L
def tstP (z : Nat → Nat) : List Pk := if z 3 = 0 then tA0 z else if z 3 = 1 then tA1 z else if z 3 = 2 then tA2 z else if z 3 = 3 then tA3 z else if z 3 = 4 then tA4 z else if z 3 = 5 then tA5 z else if z 3 = 6 then tA6 z else if z 3 = 7 then tA7 z else tA8 z
def tstL (z : Nat → Nat) : List (Nat × Nat) := if z 3 = 0 then tA0L else if z 3 = 1 then tA1L else if z 3 = 2 then tA2L else if z 3 = 3 then tA3L else if z 3 = 4 then tA4L else if z 3 = 5 then tA5L else if z 3 = 6 then tA6L else if z 3 = 7 then tA7L else tA8L
theorem sumP_0 {z : Nat → Nat} (h : z 2 = 0) : sumP z = sA0 z ∧ sumL z = sA0L := by
  unfold sumP sumL
  simp only [h]
  exact ⟨rfl, rfl⟩
theorem sumP_1 {z : Nat → Nat} (h : z 2 = 1) : sumP z = sA1 z ∧ sumL z = sA1L := by
  unfold sumP sumL
  simp only [h]
  exact ⟨rfl, rfl⟩
theorem sumP_2 {z : Nat → Nat} (h : z 2 = 2) : sumP z = sA2 z ∧ sumL z = sA2L := by
  unfold sumP sumL
  simp only [h]
  exact ⟨rfl, rfl⟩
theorem sumP_3 {z : Nat → Nat} (h : z 2 = 3) : sumP z = sA3 z ∧ sumL z = sA3L := by
  unfold sumP sumL
  simp only [h]
  exact ⟨rfl, rfl⟩
theorem sumP_4 {z : Nat → Nat} (h : z 2 = 4) : sumP z = sA4 z ∧ sumL z = sA4L := by
  unfold sumP sumL
  simp only [h]
  exact ⟨rfl, rfl⟩
theorem sumP_5 {z : Nat → Nat} (h : z 2 = 5) : sumP z = sA5 z ∧ sumL z = sA5L := by
  unfold sumP sumL
  simp only [h]
  exact ⟨rfl, rfl⟩
theorem sumP_6 {z : Nat → Nat} (h : z 2 = 6) : sumP z = sA6 z ∧ sumL z = sA6L := by
  unfold sumP sumL
  simp only [h]
  exact ⟨rfl, rfl⟩
theorem sumP_7 {z : Nat → Nat} (h : z 2 = 7) : sumP z = sA7 z ∧ sumL z = sA7L := by
  unfold sumP sumL
  simp only [h]
  exact ⟨rfl, rfl⟩
theorem tstP_0 {z : Nat → Nat} (h : z 3 = 0) : tstP z = tA0 z ∧ tstL z = tA0L := by
  unfold tstP tstL
  simp only [h]
  exact ⟨rfl, rfl⟩
theorem tstP_1 {z : Nat → Nat} (h : z 3 = 1) : tstP z = tA1 z ∧ tstL z = tA1L := by
  unfold tstP tstL
  simp only [h]
  exact ⟨rfl, rfl⟩
theorem tstP_2 {z : Nat → Nat} (h : z 3 = 2) : tstP z = tA2 z ∧ tstL z = tA2L := by
  unfold tstP tstL
  simp only [h]
  exact ⟨rfl, rfl⟩
theorem tstP_3 {z : Nat → Nat} (h : z 3 = 3) : tstP z = tA3 z ∧ tstL z = tA3L := by
  unfold tstP tstL
  simp only [h]
  exact ⟨rfl, rfl⟩
theorem tstP_4 {z : Nat → Nat} (h : z 3 = 4) : tstP z = tA4 z ∧ tstL z = tA4L := by
  unfold tstP tstL
  simp only [h]
  exact ⟨rfl, rfl⟩
theorem tstP_5 {z : Nat → Nat} (h : z 3 = 5) : tstP z = tA5 z ∧ tstL z = tA5L := by
  unfold tstP tstL
  simp only [h]
  exact ⟨rfl, rfl⟩
theorem tstP_6 {z : Nat → Nat} (h : z 3 = 6) : tstP z = tA6 z ∧ tstL z = tA6L := by
  unfold tstP tstL
  simp only [h]
  exact ⟨rfl, rfl⟩
theorem tstP_7 {z : Nat → Nat} (h : z 3 = 7) : tstP z = tA7 z ∧ tstL z = tA7L := by
  unfold tstP tstL
  simp only [h]
  exact ⟨rfl, rfl⟩
theorem tstP_8 {z : Nat → Nat} (h : z 3 = 8) : tstP z = tA8 z ∧ tstL z = tA8L := by
  unfold tstP tstL
  simp only [h]
  exact ⟨rfl, rfl⟩
section TMPL2
variable {z : Nat → Nat} {K kd : Nat → Nat} {va : Nat → Int} {n tc : Nat} {Q : Pn} {S : St8}
abbrev whnP (z : Nat → Nat) : List Pk := ([32], (12, 0, 0), []) :: tstP z
theorem sum_flat (h2 : z 2 ≤ 7) : flat (pwT (sumP z)) = sumT z := by
  rcases (by omega : z 2 = 0 ∨ z 2 = 1 ∨ z 2 = 2 ∨ z 2 = 3 ∨ z 2 = 4 ∨ z 2 = 5 ∨ z 2 = 6 ∨ z 2 = 7) with h9 | h9 | h9 | h9 | h9 | h9 | h9 | h9
  · rw [(sumP_0 h9).1, sA0_flat]; unfold sumT; simp only [h9]; rfl
  · rw [(sumP_1 h9).1, sA1_flat]; unfold sumT; simp only [h9]; rfl
  · rw [(sumP_2 h9).1, sA2_flat]; unfold sumT; simp only [h9]; rfl
  · rw [(sumP_3 h9).1, sA3_flat]; unfold sumT; simp only [h9]; rfl
  · rw [(sumP_4 h9).1, sA4_flat]; unfold sumT; simp only [h9]; rfl
  · rw [(sumP_5 h9).1, sA5_flat]; unfold sumT; simp only [h9]; rfl
  · rw [(sumP_6 h9).1, sA6_flat]; unfold sumT; simp only [h9]; rfl
  · rw [(sumP_7 h9).1, sA7_flat]; unfold sumT; simp only [h9]; rfl
theorem whn_flat (h2 : z 3 ≤ 8) : flat (pwT (whnP z)) = whenT z := by
  rcases (by omega : z 3 = 0 ∨ z 3 = 1 ∨ z 3 = 2 ∨ z 3 = 3 ∨ z 3 = 4 ∨ z 3 = 5 ∨ z 3 = 6 ∨ z 3 = 7 ∨ z 3 = 8) with h9 | h9 | h9 | h9 | h9 | h9 | h9 | h9 | h9
  · unfold whnP; rw [(tstP_0 h9).1, tA0_flat]; unfold whenT; simp only [h9]; rfl
  · unfold whnP; rw [(tstP_1 h9).1, tA1_flat]; unfold whenT; simp only [h9]; rfl
  · unfold whnP; rw [(tstP_2 h9).1, tA2_flat]; unfold whenT; simp only [h9]; rfl
  · unfold whnP; rw [(tstP_3 h9).1, tA3_flat]; unfold whenT; simp only [h9]; rfl
  · unfold whnP; rw [(tstP_4 h9).1, tA4_flat]; unfold whenT; simp only [h9]; rfl
  · unfold whnP; rw [(tstP_5 h9).1, tA5_flat]; unfold whenT; simp only [h9]; rfl
  · unfold whnP; rw [(tstP_6 h9).1, tA6_flat]; unfold whenT; simp only [h9]; rfl
  · unfold whnP; rw [(tstP_7 h9).1, tA7_flat]; unfold whenT; simp only [h9]; rfl
  · unfold whnP; rw [(tstP_8 h9).1, tA8_flat]; unfold whenT; simp only [h9]; rfl
theorem sum_good (hz : ZnOk z) : good (pwT (sumP z)) (some 32) := by
  have := hz.2.2.1
  rcases (by omega : z 2 = 0 ∨ z 2 = 1 ∨ z 2 = 2 ∨ z 2 = 3 ∨ z 2 = 4 ∨ z 2 = 5 ∨ z 2 = 6 ∨ z 2 = 7) with h9 | h9 | h9 | h9 | h9 | h9 | h9 | h9
  · rw [(sumP_0 h9).1]; exact sA0_good hz
  · rw [(sumP_1 h9).1]; exact sA1_good hz
  · rw [(sumP_2 h9).1]; exact sA2_good hz
  · rw [(sumP_3 h9).1]; exact sA3_good hz
  · rw [(sumP_4 h9).1]; exact sA4_good hz
  · rw [(sumP_5 h9).1]; exact sA5_good hz
  · rw [(sumP_6 h9).1]; exact sA6_good hz
  · rw [(sumP_7 h9).1]; exact sA7_good hz
theorem tst_good (hz : ZnOk z) : good (pwT (tstP z)) (some 59) := by
  have := hz.2.2.2.1
  rcases (by omega : z 3 = 0 ∨ z 3 = 1 ∨ z 3 = 2 ∨ z 3 = 3 ∨ z 3 = 4 ∨ z 3 = 5 ∨ z 3 = 6 ∨ z 3 = 7 ∨ z 3 = 8) with h9 | h9 | h9 | h9 | h9 | h9 | h9 | h9 | h9
  · rw [(tstP_0 h9).1]; exact tA0_good hz
  · rw [(tstP_1 h9).1]; exact tA1_good hz
  · rw [(tstP_2 h9).1]; exact tA2_good hz
  · rw [(tstP_3 h9).1]; exact tA3_good hz
  · rw [(tstP_4 h9).1]; exact tA4_good hz
  · rw [(tstP_5 h9).1]; exact tA5_good hz
  · rw [(tstP_6 h9).1]; exact tA6_good hz
  · rw [(tstP_7 h9).1]; exact tA7_good hz
  · rw [(tstP_8 h9).1]; exact tA8_good hz
theorem sum_par (h2 : z 2 ≤ 7) (hk : ∀ i, i < (sumP z).length → K (n + i) = kdT (sumP z) i) (he : K (n + (sumP z).length) = 12) : pG K 6500 3 0 n = some (true, n + (sumP z).length, shf n (sumL z)) := by
  rcases (by omega : z 2 = 0 ∨ z 2 = 1 ∨ z 2 = 2 ∨ z 2 = 3 ∨ z 2 = 4 ∨ z 2 = 5 ∨ z 2 = 6 ∨ z 2 = 7) with h9 | h9 | h9 | h9 | h9 | h9 | h9 | h9
  · rw [(sumP_0 h9).1] at hk he ⊢; rw [(sumP_0 h9).2]; exact sA0_par hk he
  · rw [(sumP_1 h9).1] at hk he ⊢; rw [(sumP_1 h9).2]; exact sA1_par hk he
  · rw [(sumP_2 h9).1] at hk he ⊢; rw [(sumP_2 h9).2]; exact sA2_par hk he
  · rw [(sumP_3 h9).1] at hk he ⊢; rw [(sumP_3 h9).2]; exact sA3_par hk he
  · rw [(sumP_4 h9).1] at hk he ⊢; rw [(sumP_4 h9).2]; exact sA4_par hk he
  · rw [(sumP_5 h9).1] at hk he ⊢; rw [(sumP_5 h9).2]; exact sA5_par hk he
  · rw [(sumP_6 h9).1] at hk he ⊢; rw [(sumP_6 h9).2]; exact sA6_par hk he
  · rw [(sumP_7 h9).1] at hk he ⊢; rw [(sumP_7 h9).2]; exact sA7_par hk he
theorem tst_par (h2 : z 3 ≤ 8) (hk : ∀ i, i < (tstP z).length → K (n + i) = kdT (tstP z) i) (he : K (n + (tstP z).length) = 30) : pG K 6500 0 0 n = some (true, n + (tstP z).length, shf n (tstL z)) := by
  rcases (by omega : z 3 = 0 ∨ z 3 = 1 ∨ z 3 = 2 ∨ z 3 = 3 ∨ z 3 = 4 ∨ z 3 = 5 ∨ z 3 = 6 ∨ z 3 = 7 ∨ z 3 = 8) with h9 | h9 | h9 | h9 | h9 | h9 | h9 | h9 | h9
  · rw [(tstP_0 h9).1] at hk he ⊢; rw [(tstP_0 h9).2]; exact tA0_par hk he
  · rw [(tstP_1 h9).1] at hk he ⊢; rw [(tstP_1 h9).2]; exact tA1_par hk he
  · rw [(tstP_2 h9).1] at hk he ⊢; rw [(tstP_2 h9).2]; exact tA2_par hk he
  · rw [(tstP_3 h9).1] at hk he ⊢; rw [(tstP_3 h9).2]; exact tA3_par hk he
  · rw [(tstP_4 h9).1] at hk he ⊢; rw [(tstP_4 h9).2]; exact tA4_par hk he
  · rw [(tstP_5 h9).1] at hk he ⊢; rw [(tstP_5 h9).2]; exact tA5_par hk he
  · rw [(tstP_6 h9).1] at hk he ⊢; rw [(tstP_6 h9).2]; exact tA6_par hk he
  · rw [(tstP_7 h9).1] at hk he ⊢; rw [(tstP_7 h9).2]; exact tA7_par hk he
  · rw [(tstP_8 h9).1] at hk he ⊢; rw [(tstP_8 h9).2]; exact tA8_par hk he
theorem sum_rpn (hQ : PnOk Q) (hS : SOk Q S) (hR : HrOk S) (hz : ZbOk Q z) (hk : KdR (sumL z) n kd) (hv : VlR (sumP z) n tc va) : rpQ Q S (mpQ tc kd va n (sumL z)) = smZ Q S (zI z) := by
  have := hz.1
  rcases (by omega : z 2 = 0 ∨ z 2 = 1 ∨ z 2 = 2 ∨ z 2 = 3 ∨ z 2 = 4 ∨ z 2 = 5 ∨ z 2 = 6 ∨ z 2 = 7) with h9 | h9 | h9 | h9 | h9 | h9 | h9 | h9
  · have e : (z 2 : Int) = 0 := by omega
    rw [(sumP_0 h9).1] at hv; rw [(sumP_0 h9).2] at hk ⊢; rw [sA0_rpn hQ hS hR hz hk hv]; unfold smZ; simp only [zI, e]; rfl
  · have e : (z 2 : Int) = 1 := by omega
    rw [(sumP_1 h9).1] at hv; rw [(sumP_1 h9).2] at hk ⊢; rw [sA1_rpn hQ hS hR hz hk hv]; unfold smZ; simp only [zI, e]; rfl
  · have e : (z 2 : Int) = 2 := by omega
    rw [(sumP_2 h9).1] at hv; rw [(sumP_2 h9).2] at hk ⊢; rw [sA2_rpn hQ hS hR hz hk hv]; unfold smZ; simp only [zI, e]; rfl
  · have e : (z 2 : Int) = 3 := by omega
    rw [(sumP_3 h9).1] at hv; rw [(sumP_3 h9).2] at hk ⊢; rw [sA3_rpn hQ hS hR hz hk hv]; unfold smZ; simp only [zI, e]; rfl
  · have e : (z 2 : Int) = 4 := by omega
    rw [(sumP_4 h9).1] at hv; rw [(sumP_4 h9).2] at hk ⊢; rw [sA4_rpn hQ hS hR hz hk hv]; unfold smZ; simp only [zI, e]; rfl
  · have e : (z 2 : Int) = 5 := by omega
    rw [(sumP_5 h9).1] at hv; rw [(sumP_5 h9).2] at hk ⊢; rw [sA5_rpn hQ hS hR hz hk hv]; unfold smZ; simp only [zI, e]; rfl
  · have e : (z 2 : Int) = 6 := by omega
    rw [(sumP_6 h9).1] at hv; rw [(sumP_6 h9).2] at hk ⊢; rw [sA6_rpn hQ hS hR hz hk hv]; unfold smZ; simp only [zI, e]; rfl
  · have e : (z 2 : Int) = 7 := by omega
    rw [(sumP_7 h9).1] at hv; rw [(sumP_7 h9).2] at hk ⊢; rw [sA7_rpn hQ hS hR hz hk hv]; unfold smZ; simp only [zI, e]; rfl
theorem tst_rpn (hQ : PnOk Q) (hS : SOk Q S) (hR : HrOk S) (hz : ZbOk Q z) (hk : KdR (tstL z) n kd) (hv : VlR (tstP z) n tc va) : rpQ Q S (mpQ tc kd va n (tstL z)) = 0 ↔ ¬ hlZ Q S (zI z) := by
  have := hz.2.1
  rcases (by omega : z 3 = 0 ∨ z 3 = 1 ∨ z 3 = 2 ∨ z 3 = 3 ∨ z 3 = 4 ∨ z 3 = 5 ∨ z 3 = 6 ∨ z 3 = 7 ∨ z 3 = 8) with h9 | h9 | h9 | h9 | h9 | h9 | h9 | h9 | h9
  · have e : (z 3 : Int) = 0 := by omega
    rw [(tstP_0 h9).1] at hv; rw [(tstP_0 h9).2] at hk ⊢; rw [tA0_rpn hQ hS hR hz hk hv]; unfold hlZ; simp only [zI, e]; exact Iff.rfl
  · have e : (z 3 : Int) = 1 := by omega
    rw [(tstP_1 h9).1] at hv; rw [(tstP_1 h9).2] at hk ⊢; rw [tA1_rpn hQ hS hR hz hk hv]; unfold hlZ; simp only [zI, e]; exact Iff.rfl
  · have e : (z 3 : Int) = 2 := by omega
    rw [(tstP_2 h9).1] at hv; rw [(tstP_2 h9).2] at hk ⊢; rw [tA2_rpn hQ hS hR hz hk hv]; unfold hlZ; simp only [zI, e]; exact Iff.rfl
  · have e : (z 3 : Int) = 3 := by omega
    rw [(tstP_3 h9).1] at hv; rw [(tstP_3 h9).2] at hk ⊢; rw [tA3_rpn hQ hS hR hz hk hv]; unfold hlZ; simp only [zI, e]; exact Iff.rfl
  · have e : (z 3 : Int) = 4 := by omega
    rw [(tstP_4 h9).1] at hv; rw [(tstP_4 h9).2] at hk ⊢; rw [tA4_rpn hQ hS hR hz hk hv]; unfold hlZ; simp only [zI, e]; exact Iff.rfl
  · have e : (z 3 : Int) = 5 := by omega
    rw [(tstP_5 h9).1] at hv; rw [(tstP_5 h9).2] at hk ⊢; rw [tA5_rpn hQ hS hR hz hk hv]; unfold hlZ; simp only [zI, e]; exact Iff.rfl
  · have e : (z 3 : Int) = 6 := by omega
    rw [(tstP_6 h9).1] at hv; rw [(tstP_6 h9).2] at hk ⊢; rw [tA6_rpn hQ hS hR hz hk hv]; unfold hlZ; simp only [zI, e]; exact Iff.rfl
  · have e : (z 3 : Int) = 7 := by omega
    rw [(tstP_7 h9).1] at hv; rw [(tstP_7 h9).2] at hk ⊢; rw [tA7_rpn hQ hS hR hz hk hv]; unfold hlZ; simp only [zI, e]; exact Iff.rfl
  · have e : (z 3 : Int) = 8 := by omega
    rw [(tstP_8 h9).1] at hv; rw [(tstP_8 h9).2] at hk ⊢; rw [tA8_rpn hQ hS hR hz hk hv]; unfold hlZ; simp only [zI, e]; exact Iff.rfl
theorem sum_nm {n c u : Nat} (hz : ZbB n c u z) : nmOk n c u (sumP z) := by
  have := hz.1
  rcases (by omega : z 2 = 0 ∨ z 2 = 1 ∨ z 2 = 2 ∨ z 2 = 3 ∨ z 2 = 4 ∨ z 2 = 5 ∨ z 2 = 6 ∨ z 2 = 7) with h9 | h9 | h9 | h9 | h9 | h9 | h9 | h9
  · rw [(sumP_0 h9).1]; exact sA0_nm hz
  · rw [(sumP_1 h9).1]; exact sA1_nm hz
  · rw [(sumP_2 h9).1]; exact sA2_nm hz
  · rw [(sumP_3 h9).1]; exact sA3_nm hz
  · rw [(sumP_4 h9).1]; exact sA4_nm hz
  · rw [(sumP_5 h9).1]; exact sA5_nm hz
  · rw [(sumP_6 h9).1]; exact sA6_nm hz
  · rw [(sumP_7 h9).1]; exact sA7_nm hz
theorem tst_nm {n c u : Nat} (hz : ZbB n c u z) : nmOk n c u (tstP z) := by
  have := hz.2.1
  rcases (by omega : z 3 = 0 ∨ z 3 = 1 ∨ z 3 = 2 ∨ z 3 = 3 ∨ z 3 = 4 ∨ z 3 = 5 ∨ z 3 = 6 ∨ z 3 = 7 ∨ z 3 = 8) with h9 | h9 | h9 | h9 | h9 | h9 | h9 | h9 | h9
  · rw [(tstP_0 h9).1]; exact tA0_nm hz
  · rw [(tstP_1 h9).1]; exact tA1_nm hz
  · rw [(tstP_2 h9).1]; exact tA2_nm hz
  · rw [(tstP_3 h9).1]; exact tA3_nm hz
  · rw [(tstP_4 h9).1]; exact tA4_nm hz
  · rw [(tstP_5 h9).1]; exact tA5_nm hz
  · rw [(tstP_6 h9).1]; exact tA6_nm hz
  · rw [(tstP_7 h9).1]; exact tA7_nm hz
  · rw [(tstP_8 h9).1]; exact tA8_nm hz
theorem sum_hd {nx : Option Nat} (h2 : z 2 ≤ 7) : hdO (pwT (sumP z)) nx = some 32 := by
  rcases (by omega : z 2 = 0 ∨ z 2 = 1 ∨ z 2 = 2 ∨ z 2 = 3 ∨ z 2 = 4 ∨ z 2 = 5 ∨ z 2 = 6 ∨ z 2 = 7) with h9 | h9 | h9 | h9 | h9 | h9 | h9 | h9
  · rw [(sumP_0 h9).1]; rfl
  · rw [(sumP_1 h9).1]; rfl
  · rw [(sumP_2 h9).1]; rfl
  · rw [(sumP_3 h9).1]; rfl
  · rw [(sumP_4 h9).1]; rfl
  · rw [(sumP_5 h9).1]; rfl
  · rw [(sumP_6 h9).1]; rfl
  · rw [(sumP_7 h9).1]; rfl
theorem tst_hd {nx : Option Nat} (h2 : z 3 ≤ 8) : hdO (pwT (tstP z)) nx = some 32 := by
  rcases (by omega : z 3 = 0 ∨ z 3 = 1 ∨ z 3 = 2 ∨ z 3 = 3 ∨ z 3 = 4 ∨ z 3 = 5 ∨ z 3 = 6 ∨ z 3 = 7 ∨ z 3 = 8) with h9 | h9 | h9 | h9 | h9 | h9 | h9 | h9 | h9
  · rw [(tstP_0 h9).1]; rfl
  · rw [(tstP_1 h9).1]; rfl
  · rw [(tstP_2 h9).1]; rfl
  · rw [(tstP_3 h9).1]; rfl
  · rw [(tstP_4 h9).1]; rfl
  · rw [(tstP_5 h9).1]; rfl
  · rw [(tstP_6 h9).1]; rfl
  · rw [(tstP_7 h9).1]; rfl
  · rw [(tstP_8 h9).1]; rfl
theorem sum_len : (sumP z).length ≤ 9 := by
  unfold sumP
  repeat' split
  all_goals exact Nat.le_of_ble_eq_true rfl
theorem tst_len : (tstP z).length ≤ 20 := by
  unfold tstP
  repeat' split
  all_goals exact Nat.le_of_ble_eq_true rfl
theorem sum_ld (h2 : z 2 ≤ 7) : lead (sumP z) = 0 := by
  rcases (by omega : z 2 = 0 ∨ z 2 = 1 ∨ z 2 = 2 ∨ z 2 = 3 ∨ z 2 = 4 ∨ z 2 = 5 ∨ z 2 = 6 ∨ z 2 = 7) with h9 | h9 | h9 | h9 | h9 | h9 | h9 | h9
  · rw [(sumP_0 h9).1]; rfl
  · rw [(sumP_1 h9).1]; rfl
  · rw [(sumP_2 h9).1]; rfl
  · rw [(sumP_3 h9).1]; rfl
  · rw [(sumP_4 h9).1]; rfl
  · rw [(sumP_5 h9).1]; rfl
  · rw [(sumP_6 h9).1]; rfl
  · rw [(sumP_7 h9).1]; rfl
theorem tst_ld (h2 : z 3 ≤ 8) : lead (tstP z) = 0 := by
  rcases (by omega : z 3 = 0 ∨ z 3 = 1 ∨ z 3 = 2 ∨ z 3 = 3 ∨ z 3 = 4 ∨ z 3 = 5 ∨ z 3 = 6 ∨ z 3 = 7 ∨ z 3 = 8) with h9 | h9 | h9 | h9 | h9 | h9 | h9 | h9 | h9
  · rw [(tstP_0 h9).1]; rfl
  · rw [(tstP_1 h9).1]; rfl
  · rw [(tstP_2 h9).1]; rfl
  · rw [(tstP_3 h9).1]; rfl
  · rw [(tstP_4 h9).1]; rfl
  · rw [(tstP_5 h9).1]; rfl
  · rw [(tstP_6 h9).1]; rfl
  · rw [(tstP_7 h9).1]; rfl
  · rw [(tstP_8 h9).1]; rfl
def oc : List Pk → Nat
  | [] => 0
  | p :: l => (if p.2.1.1 = 8 ∨ p.2.1.1 = 10 ∨ p.2.1.1 = 11 then 1 else 0) + oc l
theorem sum_oc (h2 : z 2 ≤ 7) : oc (sumP z) = 0 := by
  rcases (by omega : z 2 = 0 ∨ z 2 = 1 ∨ z 2 = 2 ∨ z 2 = 3 ∨ z 2 = 4 ∨ z 2 = 5 ∨ z 2 = 6 ∨ z 2 = 7) with h9 | h9 | h9 | h9 | h9 | h9 | h9 | h9
  · rw [(sumP_0 h9).1]; rfl
  · rw [(sumP_1 h9).1]; rfl
  · rw [(sumP_2 h9).1]; rfl
  · rw [(sumP_3 h9).1]; rfl
  · rw [(sumP_4 h9).1]; rfl
  · rw [(sumP_5 h9).1]; rfl
  · rw [(sumP_6 h9).1]; rfl
  · rw [(sumP_7 h9).1]; rfl
theorem tst_oc (h2 : z 3 ≤ 8) : oc (tstP z) = 0 := by
  rcases (by omega : z 3 = 0 ∨ z 3 = 1 ∨ z 3 = 2 ∨ z 3 = 3 ∨ z 3 = 4 ∨ z 3 = 5 ∨ z 3 = 6 ∨ z 3 = 7 ∨ z 3 = 8) with h9 | h9 | h9 | h9 | h9 | h9 | h9 | h9 | h9
  · rw [(tstP_0 h9).1]; rfl
  · rw [(tstP_1 h9).1]; rfl
  · rw [(tstP_2 h9).1]; rfl
  · rw [(tstP_3 h9).1]; rfl
  · rw [(tstP_4 h9).1]; rfl
  · rw [(tstP_5 h9).1]; rfl
  · rw [(tstP_6 h9).1]; rfl
  · rw [(tstP_7 h9).1]; rfl
  · rw [(tstP_8 h9).1]; rfl
def tkOk (x : Tk3) : Prop := (x.1 = 42 ∧ x.2.1 < 3 ∧ x.2.2 < 14) ∨ (x.1 = 43 ∧ x.2.2 < 100) ∨ (x.1 < 41)
def tkOks : List Pk → Prop
  | [] => True
  | p :: l => tkOk p.2.1 ∧ tkOks l
theorem tkOks.mem : ∀ {l : List Pk}, tkOks l → ∀ p, p ∈ l → tkOk p.2.1
  | [], _, p, hp => by cases hp
  | q :: l, h, p, hp => by
    rcases List.mem_cons.mp hp with rfl | hp
    · exact h.1
    · exact tkOks.mem h.2 p hp
theorem tkOks.app : ∀ {a b : List Pk}, tkOks a → tkOks b → tkOks (a ++ b)
  | [], _, _, h => h
  | _ :: _, _, h1, h2 => ⟨h1.1, tkOks.app h1.2 h2⟩
theorem sum_tk (hz : ZnOk z) : tkOks (sumP z) := by
  obtain ⟨z0, z1, z2, z3, z4, z5, z6, z7, z8⟩ := hz
  rcases (by omega : z 2 = 0 ∨ z 2 = 1 ∨ z 2 = 2 ∨ z 2 = 3 ∨ z 2 = 4 ∨ z 2 = 5 ∨ z 2 = 6 ∨ z 2 = 7) with h9 | h9 | h9 | h9 | h9 | h9 | h9 | h9
  · rw [(sumP_0 h9).1]; exact ⟨Or.inr (Or.inl ⟨rfl, by show z 4 % 4 < 100; omega⟩), trivial⟩
  · rw [(sumP_1 h9).1]; exact ⟨Or.inr (Or.inr (by decide : (15 : Nat) < 41)), Or.inl ⟨rfl, (by decide : (1 : Nat) < 3), by show z 5 < 14; omega⟩, trivial⟩
  · rw [(sumP_2 h9).1]; exact ⟨Or.inr (Or.inr (by decide : (17 : Nat) < 41)), Or.inl ⟨rfl, (by decide : (2 : Nat) < 3), by show z 8 < 14; omega⟩, Or.inr (Or.inr (by decide : (33 : Nat) < 41)), Or.inr (Or.inl ⟨rfl, by show z 4 % 3 < 100; omega⟩), trivial⟩
  · rw [(sumP_3 h9).1]; exact ⟨Or.inr (Or.inr (by decide : (13 : Nat) < 41)), Or.inr (Or.inr (by decide : (35 : Nat) < 41)), Or.inr (Or.inl ⟨rfl, by show 5 < 100; omega⟩), trivial⟩
  · rw [(sumP_4 h9).1]; exact ⟨Or.inr (Or.inr (by decide : (16 : Nat) < 41)), Or.inl ⟨rfl, (by decide : (0 : Nat) < 3), by show z 6 < 14; omega⟩, Or.inl ⟨rfl, (by decide : (0 : Nat) < 3), by show z 7 < 14; omega⟩, Or.inr (Or.inr (by decide : (33 : Nat) < 41)), Or.inr (Or.inl ⟨rfl, by show z 4 < 100; omega⟩), trivial⟩
  · rw [(sumP_5 h9).1]; exact ⟨Or.inr (Or.inr (by decide : (24 : Nat) < 41)), Or.inr (Or.inr (by decide : (26 : Nat) < 41)), Or.inr (Or.inr (by decide : (14 : Nat) < 41)), Or.inl ⟨rfl, (by decide : (1 : Nat) < 3), by show z 5 < 14; omega⟩, Or.inr (Or.inr (by decide : (31 : Nat) < 41)), Or.inr (Or.inl ⟨rfl, by show z 4 < 100; omega⟩), Or.inr (Or.inr (by decide : (27 : Nat) < 41)), Or.inr (Or.inr (by decide : (35 : Nat) < 41)), Or.inr (Or.inl ⟨rfl, by show 3 < 100; omega⟩), trivial⟩
  · rw [(sumP_6 h9).1]; exact ⟨Or.inr (Or.inr (by decide : (33 : Nat) < 41)), Or.inr (Or.inl ⟨rfl, by show z 4 < 100; omega⟩), trivial⟩
  · rw [(sumP_7 h9).1]; exact ⟨Or.inr (Or.inr (by decide : (25 : Nat) < 41)), Or.inr (Or.inr (by decide : (26 : Nat) < 41)), Or.inr (Or.inl ⟨rfl, by show 1 < 100; omega⟩), Or.inr (Or.inr (by decide : (31 : Nat) < 41)), Or.inr (Or.inl ⟨rfl, by show z 4 < 100; omega⟩), Or.inr (Or.inr (by decide : (33 : Nat) < 41)), Or.inr (Or.inl ⟨rfl, by show 5 < 100; omega⟩), Or.inr (Or.inr (by decide : (27 : Nat) < 41)), trivial⟩
theorem tst_tk (hz : ZnOk z) : tkOks (tstP z) := by
  obtain ⟨z0, z1, z2, z3, z4, z5, z6, z7, z8⟩ := hz
  rcases (by omega : z 3 = 0 ∨ z 3 = 1 ∨ z 3 = 2 ∨ z 3 = 3 ∨ z 3 = 4 ∨ z 3 = 5 ∨ z 3 = 6 ∨ z 3 = 7 ∨ z 3 = 8) with h9 | h9 | h9 | h9 | h9 | h9 | h9 | h9 | h9
  · rw [(tstP_0 h9).1]; exact ⟨Or.inr (Or.inr (by decide : (13 : Nat) < 41)), Or.inr (Or.inr (by decide : (37 : Nat) < 41)), Or.inr (Or.inl ⟨rfl, by show z 4 < 100; omega⟩), trivial⟩
  · rw [(tstP_1 h9).1]; exact ⟨Or.inr (Or.inr (by decide : (18 : Nat) < 41)), Or.inl ⟨rfl, (by decide : (1 : Nat) < 3), by show z 5 < 14; omega⟩, trivial⟩
  · rw [(tstP_2 h9).1]; exact ⟨Or.inr (Or.inr (by decide : (21 : Nat) < 41)), Or.inr (Or.inr (by decide : (18 : Nat) < 41)), Or.inl ⟨rfl, (by decide : (1 : Nat) < 3), by show z 5 < 14; omega⟩, Or.inr (Or.inr (by decide : (23 : Nat) < 41)), Or.inr (Or.inr (by decide : (15 : Nat) < 41)), Or.inl ⟨rfl, (by decide : (1 : Nat) < 3), by show z 5 < 14; omega⟩, Or.inr (Or.inr (by decide : (37 : Nat) < 41)), Or.inr (Or.inl ⟨rfl, by show 1 < 100; omega⟩), trivial⟩
  · rw [(tstP_3 h9).1]; exact ⟨Or.inr (Or.inr (by decide : (19 : Nat) < 41)), Or.inl ⟨rfl, (by decide : (0 : Nat) < 3), by show z 6 < 14; omega⟩, Or.inl ⟨rfl, (by decide : (2 : Nat) < 3), by show z 8 < 14; omega⟩, trivial⟩
  · rw [(tstP_4 h9).1]; exact ⟨Or.inr (Or.inr (by decide : (20 : Nat) < 41)), Or.inl ⟨rfl, (by decide : (0 : Nat) < 3), by show z 6 < 14; omega⟩, Or.inl ⟨rfl, (by decide : (0 : Nat) < 3), by show z 7 < 14; omega⟩, trivial⟩
  · rw [(tstP_5 h9).1]; exact ⟨Or.inr (Or.inr (by decide : (17 : Nat) < 41)), Or.inl ⟨rfl, (by decide : (2 : Nat) < 3), by show z 8 < 14; omega⟩, Or.inr (Or.inr (by decide : (40 : Nat) < 41)), Or.inr (Or.inl ⟨rfl, by show z 4 % 4 < 100; omega⟩), trivial⟩
  · rw [(tstP_6 h9).1]; exact ⟨Or.inr (Or.inr (by decide : (16 : Nat) < 41)), Or.inl ⟨rfl, (by decide : (0 : Nat) < 3), by show z 6 < 14; omega⟩, Or.inl ⟨rfl, (by decide : (0 : Nat) < 3), by show z 7 < 14; omega⟩, Or.inr (Or.inr (by decide : (36 : Nat) < 41)), Or.inr (Or.inl ⟨rfl, by show 4 < 100; omega⟩), Or.inr (Or.inr (by decide : (34 : Nat) < 41)), Or.inr (Or.inl ⟨rfl, by show z 4 < 100; omega⟩), trivial⟩
  · rw [(tstP_7 h9).1]; exact ⟨Or.inr (Or.inr (by decide : (28 : Nat) < 41)), Or.inr (Or.inr (by decide : (19 : Nat) < 41)), Or.inl ⟨rfl, (by decide : (0 : Nat) < 3), by show z 7 < 14; omega⟩, Or.inl ⟨rfl, (by decide : (2 : Nat) < 3), by show z 8 < 14; omega⟩, Or.inr (Or.inr (by decide : (22 : Nat) < 41)), Or.inr (Or.inr (by decide : (14 : Nat) < 41)), Or.inl ⟨rfl, (by decide : (1 : Nat) < 3), by show z 5 < 14; omega⟩, Or.inr (Or.inr (by decide : (36 : Nat) < 41)), Or.inr (Or.inl ⟨rfl, by show 9 < 100; omega⟩), Or.inr (Or.inr (by decide : (34 : Nat) < 41)), Or.inr (Or.inl ⟨rfl, by show z 4 < 100; omega⟩), Or.inr (Or.inr (by decide : (29 : Nat) < 41)), Or.inr (Or.inr (by decide : (23 : Nat) < 41)), Or.inr (Or.inr (by decide : (13 : Nat) < 41)), Or.inr (Or.inr (by decide : (35 : Nat) < 41)), Or.inr (Or.inl ⟨rfl, by show 4 < 100; omega⟩), Or.inr (Or.inr (by decide : (34 : Nat) < 41)), Or.inr (Or.inl ⟨rfl, by show 4 < 100; omega⟩), Or.inr (Or.inr (by decide : (38 : Nat) < 41)), Or.inr (Or.inr (by decide : (13 : Nat) < 41)), trivial⟩
  · rw [(tstP_8 h9).1]; exact ⟨Or.inr (Or.inl ⟨rfl, by show z 4 < 100; omega⟩), Or.inr (Or.inr (by decide : (39 : Nat) < 41)), Or.inr (Or.inl ⟨rfl, by show z 4 < 100; omega⟩), trivial⟩
end TMPL2
