/-! ===== AN HOUR ===== -/
abbrev Od : Type := Nat × Nat × List Tk × List Tk
abbrev OS : Type := (Nat → Int) × (Nat → Int) × Int
def ordC (k t : Nat) (x : Int) (wo hu : Nat → Int) : OS :=
  if k = 8 then (mUp wo t (min 3 (wo t + max 0 (min 3 x))), hu, if min 3 (wo t + max 0 (min 3 x)) = wo t then 0 else 1)
  else if k = 10 then (if 0 < wo t then mUp wo t (wo t - 1) else wo, hu, if 0 < wo t then 1 else 0)
  else (wo, mUp hu t 1, if hu t = 0 then 1 else 0)
noncomputable def ordS (n c : Nat) (fr to : Nat → Nat) (mi : Nat → Int) (hr : Int) (he : Nat → Int) (q : Od) (S : OS) : OS :=
  if rpn (fct n c fr to mi S.1 hr he) q.2.2.1 = 0 then S else
  ((ordC q.1 q.2.1 (rpn (fct n c fr to mi S.1 hr he) q.2.2.2) S.1 S.2.1).1, (ordC q.1 q.2.1 (rpn (fct n c fr to mi S.1 hr he) q.2.2.2) S.1 S.2.1).2.1,
   if (ordC q.1 q.2.1 (rpn (fct n c fr to mi S.1 hr he) q.2.2.2) S.1 S.2.1).2.2 = 0 then S.2.2 else w32 (S.2.2 + 1))
noncomputable def ordK (n c : Nat) (fr to : Nat → Nat) (mi : Nat → Int) (hr : Int) (he : Nat → Int) (od : Nat → Od) (S : OS) : Nat → OS
  | 0 => S
  | k + 1 => ordS n c fr to mi hr he (od k) (ordK n c fr to mi hr he od S k)
theorem ordC_hu {k t : Nat} {x : Int} {wo hu : Nat → Int} (h : ∀ j, hu j = 0 ∨ hu j = 1) : ∀ j, (ordC k t x wo hu).2.1 j = 0 ∨ (ordC k t x wo hu).2.1 j = 1 := by
  intro j
  unfold ordC
  split
  · exact h j
  · split
    · exact h j
    · show mUp hu t 1 j = 0 ∨ mUp hu t 1 j = 1
      unfold mUp
      split
      · exact Or.inr rfl
      · exact h j
theorem ordS_hu {n c : Nat} {fr to : Nat → Nat} {mi : Nat → Int} {hr : Int} {he : Nat → Int} {q : Od} {S : OS} (h : ∀ j, S.2.1 j = 0 ∨ S.2.1 j = 1) : ∀ j, (ordS n c fr to mi hr he q S).2.1 j = 0 ∨ (ordS n c fr to mi hr he q S).2.1 j = 1 := by
  intro j
  unfold ordS
  split
  · exact h j
  · exact ordC_hu h j
theorem ordK_hu {n c : Nat} {fr to : Nat → Nat} {mi : Nat → Int} {hr : Int} {he : Nat → Int} {od : Nat → Od} {S : OS} (h : ∀ j, S.2.1 j = 0 ∨ S.2.1 j = 1) : ∀ i j, (ordK n c fr to mi hr he od S i).2.1 j = 0 ∨ (ordK n c fr to mi hr he od S i).2.1 j = 1
  | 0 => h
  | i + 1 => ordS_hu (ordK_hu h i)
def lsW (wo : Nat → Int) (ws : List Wr) : List Wr := ws.filter (fun x => decide (wo x.1 < 3))
def bgK (ba : Nat → Nat) (bo : Nat → Int) (hr : Int) (he : Nat → Int) : Nat → (Nat → Int) × Int
  | 0 => (he, 0)
  | k + 1 => if bo k = hr then (hrs (bgK ba bo hr he k).1 (ba k * 6 + k) hr, (bgK ba bo hr he k).2 + isNw (bgK ba bo hr he k).1 (ba k * 6 + k)) else bgK ba bo hr he k
def mvW (mi wo : Nat → Int) (hr : Int) : List Wr → (Nat → Int) → List Wr × (Nat → Int) × Int
  | [], he => ([], he, 0)
  | x :: t, he => if x.2.2.2 + 1 < mi x.1 + 2 * wo x.1 then ((x.1, x.2.1, x.2.2.1, x.2.2.2 + 1) :: (mvW mi wo hr t he).1, (mvW mi wo hr t he).2)
    else ((mvW mi wo hr t (hrs he (x.2.1 * 6 + x.2.2.1) hr)).1, (mvW mi wo hr t (hrs he (x.2.1 * 6 + x.2.2.1) hr)).2.1, isNw he (x.2.1 * 6 + x.2.2.1) + (mvW mi wo hr t (hrs he (x.2.1 * 6 + x.2.2.1) hr)).2.2)
def sfK (fr to : Nat → Nat) (wo : Nat → Int) (t k : Nat) (ws : List Wr) : Nat → List Wr
  | 0 => ws
  | r + 1 => if wo r < 3 ∧ (fr r = t ∨ to r = t) then sfK fr to wo t k ws r ++ [(r, if fr r = t then to r else fr r, k, 0)] else sfK fr to wo t k ws r
abbrev SS : Type := (Nat → Int) × List Wr
def sdS (c : Nat) (fr to : Nat → Nat) (wo he : Nat → Int) (t k : Nat) (S : SS) : SS := if he (t * 6 + k) = -1 then S else if S.1 (t * 6 + k) = 0 then (mUp S.1 (t * 6 + k) 1, sfK fr to wo t k S.2 c) else S
def sdK (c : Nat) (fr to : Nat → Nat) (wo he : Nat → Int) (t : Nat) (S : SS) : Nat → SS
  | 0 => S
  | k + 1 => sdS c fr to wo he t k (sdK c fr to wo he t S k)
def sdT (c u : Nat) (fr to : Nat → Nat) (wo he hu : Nat → Int) (S : SS) : Nat → SS
  | 0 => S
  | t + 1 => if hu t = 0 then sdK c fr to wo he t (sdT c u fr to wo he hu S t) u else sdT c u fr to wo he hu S t
/-- roads at a tavern, open or not -/
def dgK (fr to : Nat → Nat) (t : Nat) : Nat → Nat
  | 0 => 0
  | r + 1 => dgK fr to t r + (if fr r = t ∨ to r = t then 1 else 0)
def potS (c : Nat) (fr to : Nat → Nat) (se : Nat → Int) (i : Nat) : Int := if se i = 0 then ((dgK fr to (i / 6) c : Nat) : Int) else 0
/-- travellers, and those who may yet set out -/
def Pot (n c : Nat) (fr to : Nat → Nat) (se : Nat → Int) (ws : List Wr) : Prop := (ws.length : Int) + sumI (potS c fr to se) (6 * n) ≤ 168
/-! a land's state: hour, carried out, lost, miles, wounds, heard, sent, travellers; a plan: taverns, roads, rumours, orders, from, to, where and when rumours begin, the orders -/
abbrev St8 : Type := Int × Int × Int × (Nat → Int) × (Nat → Int) × (Nat → Int) × (Nat → Int) × List Wr
abbrev Pn : Type := Nat × Nat × Nat × Nat × (Nat → Nat) × (Nat → Nat) × (Nat → Nat) × (Nat → Int) × (Nat → Od)
noncomputable def hrO (P : Pn) (S : St8) : OS := ordK P.1 P.2.1 P.2.2.2.2.1 P.2.2.2.2.2.1 S.2.2.2.1 S.1 S.2.2.2.2.2.1 P.2.2.2.2.2.2.2.2 (S.2.2.2.2.1, fun _ => 0, S.2.1) P.2.2.2.1
noncomputable def hrL (P : Pn) (S : St8) : List Wr := lsW (hrO P S).1 S.2.2.2.2.2.2.2
def hrB (P : Pn) (S : St8) : (Nat → Int) × Int := bgK P.2.2.2.2.2.2.1 P.2.2.2.2.2.2.2.1 S.1 S.2.2.2.2.2.1 P.2.2.1
noncomputable def hrM (P : Pn) (S : St8) : List Wr × (Nat → Int) × Int := mvW S.2.2.2.1 (hrO P S).1 S.1 (hrL P S) (hrB P S).1
noncomputable def hrT (P : Pn) (S : St8) : SS := sdT P.2.1 P.2.2.1 P.2.2.2.2.1 P.2.2.2.2.2.1 (hrO P S).1 (hrM P S).2.1 (hrO P S).2.1 (S.2.2.2.2.2.2.1, (hrM P S).1) P.1
noncomputable def hourS (P : Pn) (S : St8) : St8 := (w32 (S.1 + 1), (hrO P S).2.2, w32 (S.2.2.1 + ((S.2.2.2.2.2.2.2.length : Int) - ((hrL P S).length : Int))), S.2.2.2.1, (hrO P S).1, (hrM P S).2.1, (hrT P S).1, (hrT P S).2)
noncomputable def hourN (P : Pn) (S : St8) : Int := (hrB P S).2 + (hrM P S).2.2
noncomputable def hoursS (P : Pn) (S : St8) : Nat → St8
  | 0 => S
  | k + 1 => hourS P (hoursS P S k)
noncomputable def hoursN (P : Pn) (S : St8) : Nat → Int
  | 0 => 0
  | k + 1 => hoursN P S k + hourN P (hoursS P S k)
def OdOk (n c u : Nat) (q : Od) : Prop := ((q.1 = 8 ∧ q.2.1 < c) ∨ (q.1 = 10 ∧ q.2.1 < c) ∨ (q.1 = 11 ∧ q.2.1 < n)) ∧ (∀ x, x ∈ q.2.2.1 → TkOk n c u x) ∧ ∀ x, x ∈ q.2.2.2 → TkOk n c u x
def PnOk (P : Pn) : Prop := P.1 ≤ 10 ∧ P.2.1 ≤ 14 ∧ P.2.2.1 ≤ 6 ∧ P.2.2.2.1 ≤ 20 ∧ (∀ r, r < P.2.1 → P.2.2.2.2.1 r < P.1 ∧ P.2.2.2.2.2.1 r < P.1 ∧ P.2.2.2.2.1 r ≠ P.2.2.2.2.2.1 r) ∧ (∀ k, k < P.2.2.1 → P.2.2.2.2.2.2.1 k < P.1) ∧ ∀ i, i < P.2.2.2.1 → OdOk P.1 P.2.1 P.2.2.1 (P.2.2.2.2.2.2.2.2 i)
/-- a state that fits its plan -/
def SOk (P : Pn) (S : St8) : Prop := RdOk P.1 P.2.1 P.2.2.2.2.1 P.2.2.2.2.2.1 S.2.2.2.1 S.2.2.2.2.1 ∧ WsOk P.1 P.2.1 P.2.2.1 S.2.2.2.2.2.2.2 ∧ Pot P.1 P.2.1 P.2.2.2.2.1 P.2.2.2.2.2.1 S.2.2.2.2.2.2.1 S.2.2.2.2.2.2.2 ∧ ∀ i, i < 60 → S.2.2.2.2.2.2.1 i = 0 ∨ S.2.2.2.2.2.2.1 i = 1
section HOURP
variable {n c u : Nat} {fr to : Nat → Nat} {mi wo hu he se : Nat → Int} {hr : Int} {ws : List Wr}
theorem ordC_wo {k t : Nat} {x : Int} {r : Nat} (h : 0 ≤ wo r ∧ wo r ≤ 3) : 0 ≤ (ordC k t x wo hu).1 r ∧ (ordC k t x wo hu).1 r ≤ 3 := by
  unfold ordC
  split
  · show 0 ≤ mUp wo t _ r ∧ mUp wo t _ r ≤ 3
    by_cases hr : r = t
    · subst hr
      rw [mUp_self]
      omega
    · rw [mUp_ne hr]
      exact h
  · split
    · show 0 ≤ (if 0 < wo t then mUp wo t (wo t - 1) else wo) r ∧ (if 0 < wo t then mUp wo t (wo t - 1) else wo) r ≤ 3
      split
      · by_cases hr : r = t
        · subst hr
          rw [mUp_self]
          omega
        · rw [mUp_ne hr]
          exact h
      · exact h
    · exact h
theorem ordS_wo {q : Od} {S : OS} {r : Nat} (h : 0 ≤ S.1 r ∧ S.1 r ≤ 3) : 0 ≤ (ordS n c fr to mi hr he q S).1 r ∧ (ordS n c fr to mi hr he q S).1 r ≤ 3 := by
  unfold ordS
  split
  · exact h
  · exact ordC_wo h
theorem ordK_wo {od : Nat → Od} {S : OS} {r : Nat} (h : 0 ≤ S.1 r ∧ S.1 r ≤ 3) : ∀ k, 0 ≤ (ordK n c fr to mi hr he od S k).1 r ∧ (ordK n c fr to mi hr he od S k).1 r ≤ 3
  | 0 => h
  | k + 1 => ordS_wo (ordK_wo h k)
theorem RdOk.wup {wo' : Nat → Int} (h : RdOk n c fr to mi wo) (h2 : ∀ r, 0 ≤ wo r ∧ wo r ≤ 3 → 0 ≤ wo' r ∧ wo' r ≤ 3) : RdOk n c fr to mi wo' := ⟨h.1, h.2.1, fun r hr => by
  obtain ⟨h1, h3, h4, h5, h6, h7, h8⟩ := h.2.2 r hr
  have := h2 r ⟨h7, h8⟩
  exact ⟨h1, h3, h4, h5, h6, this.1, this.2⟩⟩
theorem WsOk.ls (h : WsOk n c u ws) : WsOk n c u (lsW wo ws) := fun x hx => h x (List.mem_filter.mp hx).1
theorem lsW_len : (lsW wo ws).length ≤ ws.length := List.length_filter_le _ _
theorem mvW_ok : ∀ {ws : List Wr} {he : Nat → Int}, RdOk n c fr to mi wo → WsOk n c u ws → WsOk n c u (mvW mi wo hr ws he).1 ∧ (mvW mi wo hr ws he).1.length ≤ ws.length
  | [], he, _, h => ⟨h, Nat.le_refl _⟩
  | x :: t, he, hO, h => by
    have hx := h x List.mem_cons_self
    have ht : WsOk n c u t := fun y hy => h y (List.mem_cons_of_mem _ hy)
    unfold mvW
    split
    · rename_i hlt
      obtain ⟨i1, i2⟩ := mvW_ok (he := he) hO ht
      have hb := hO.2.2 x.1 hx.1
      refine ⟨fun y hy => ?_, ?_⟩
      · rcases List.mem_cons.mp hy with rfl | hy
        · refine ⟨hx.1, hx.2.1, hx.2.2.1, ?_, ?_⟩
          · show 0 ≤ x.2.2.2 + 1
            omega
          · show x.2.2.2 + 1 < 36
            omega
        · exact i1 y hy
      · show (mvW mi wo hr t he).1.length + 1 ≤ t.length + 1
        omega
    · obtain ⟨i1, i2⟩ := mvW_ok (he := hrs he (x.2.1 * 6 + x.2.2.1) hr) hO ht
      exact ⟨i1, Nat.le_succ_of_le i2⟩
theorem dgK_le {t : Nat} : ∀ {r r' : Nat}, r ≤ r' → dgK fr to t r ≤ dgK fr to t r'
  | r, 0, h => by
    obtain rfl : r = 0 := by omega
    exact Nat.le_refl _
  | r, r' + 1, h => by
    by_cases hr : r = r' + 1
    · rw [hr]
      exact Nat.le_refl _
    · have := dgK_le (t := t) (r := r) (r' := r') (by omega)
      show dgK fr to t r ≤ dgK fr to t r' + _
      omega
theorem sfK_len {t k : Nat} : ∀ r, (sfK fr to wo t k ws r).length ≤ ws.length + dgK fr to t r
  | 0 => Nat.le_refl _
  | r + 1 => by
    have := sfK_len (t := t) (k := k) r
    unfold sfK dgK
    split
    · rename_i h
      rw [if_pos h.2, List.length_append]
      show _ + 1 ≤ _
      omega
    · omega
theorem sfK_ok {t k : Nat} (hO : RdOk n c fr to mi wo) (hk : k < u) (h : WsOk n c u ws) : ∀ r, r ≤ c → WsOk n c u (sfK fr to wo t k ws r)
  | 0, _ => h
  | r + 1, hr => by
    have ih := sfK_ok hO hk h (t := t) r (by omega)
    have hb := hO.2.2 r (by omega)
    unfold sfK
    split
    · intro y hy
      rcases List.mem_append.mp hy with hy | hy
      · exact ih y hy
      · rw [List.mem_singleton] at hy
        subst hy
        refine ⟨hr, ?_, hk, Int.le_refl _, show (0 : Int) < 36 by decide⟩
        show (if fr r = t then to r else fr r) < n
        split
        · exact hb.2.1
        · exact hb.1
    · exact ih
theorem sumI_upd {f g : Nat → Int} {i : Nat} : ∀ {m : Nat}, i < m → (∀ j, j ≠ i → g j = f j) → sumI g m = sumI f m - f i + g i
  | 0, hi, _ => absurd hi (Nat.not_lt_zero _)
  | m + 1, hi, h => by
    rw [sumI_s, sumI_s]
    by_cases him : i = m
    · subst him
      have : sumI g i = sumI f i := sumI_congr (fun j hj => h j (by omega))
      omega
    · have := sumI_upd (f := f) (g := g) (i := i) (m := m) (by omega) h
      have h2 := h m (by omega)
      omega
theorem potS_nn {i : Nat} : 0 ≤ potS c fr to se i := by
  unfold potS
  split <;> omega
theorem sumI_nn {f : Nat → Int} : ∀ {m : Nat}, (∀ i, 0 ≤ f i) → 0 ≤ sumI f m
  | 0, _ => Int.le_refl _
  | m + 1, h => by
    have := sumI_nn (m := m) h
    have := h m
    rw [sumI_s]
    omega
/-- what holds of travellers before and behind each sending -/
def SdOk (n c u : Nat) (fr to : Nat → Nat) (S : SS) : Prop := WsOk n c u S.2 ∧ Pot n c fr to S.1 S.2 ∧ ∀ i, i < 60 → S.1 i = 0 ∨ S.1 i = 1
theorem Pot.le {ws' : List Wr} (h : Pot n c fr to se ws) (hl : ws'.length ≤ ws.length) : Pot n c fr to se ws' := by
  unfold Pot at h ⊢
  omega
theorem Pot.at {i : Nat} (h : Pot n c fr to se ws) (hi : i < 6 * n) (h0 : se i = 0) : (ws.length : Int) + (dgK fr to (i / 6) c : Nat) + sumI (potS c fr to (mUp se i 1)) (6 * n) ≤ 168 ∧ ws.length + dgK fr to (i / 6) c ≤ 168 := by
  have h1 := sumI_upd (f := potS c fr to se) (g := potS c fr to (mUp se i 1)) hi (fun j hj => by unfold potS; rw [mUp_ne hj])
  have h2 : potS c fr to se i = (dgK fr to (i / 6) c : Nat) := if_pos h0
  have h3 : potS c fr to (mUp se i 1) i = 0 := by unfold potS; rw [mUp_self]; rfl
  have h4 := sumI_nn (f := potS c fr to (mUp se i 1)) (m := 6 * n) (fun _ => potS_nn)
  unfold Pot at h
  omega
theorem sdS_ok {t k : Nat} {S : SS} (hO : RdOk n c fr to mi wo) (ht : t < n) (hk : k < u) (hu : u ≤ 6) (h : SdOk n c u fr to S) : SdOk n c u fr to (sdS c fr to wo he t k S) := by
  unfold sdS
  split
  · exact h
  · split
    · rename_i h0
      obtain ⟨h1, h2, h3⟩ := h
      have hi : t * 6 + k < 6 * n := by omega
      have hd : (t * 6 + k) / 6 = t := by omega
      have hp := (h2.at hi h0).1
      rw [hd] at hp
      have hl := sfK_len (fr := fr) (to := to) (wo := wo) (ws := S.2) (t := t) (k := k) c
      refine ⟨sfK_ok hO hk h1 c (Nat.le_refl _), ?_, fun i hi => ?_⟩
      · show ((sfK fr to wo t k S.2 c).length : Int) + sumI (potS c fr to (mUp S.1 (t * 6 + k) 1)) (6 * n) ≤ 168
        omega
      · show mUp S.1 (t * 6 + k) 1 i = 0 ∨ mUp S.1 (t * 6 + k) 1 i = 1
        by_cases hit : i = t * 6 + k
        · rw [hit, mUp_self]
          exact Or.inr rfl
        · rw [mUp_ne hit]
          exact h3 i hi
    · exact h
theorem sdK_ok {t : Nat} {S : SS} (hO : RdOk n c fr to mi wo) (ht : t < n) (hu : u ≤ 6) (h : SdOk n c u fr to S) : ∀ k, k ≤ u → SdOk n c u fr to (sdK c fr to wo he t S k)
  | 0, _ => h
  | k + 1, hk => sdS_ok hO ht (by omega) hu (sdK_ok hO ht hu h k (by omega))
theorem sdT_ok {S : SS} (hO : RdOk n c fr to mi wo) (hu6 : u ≤ 6) (h : SdOk n c u fr to S) : ∀ t, t ≤ n → SdOk n c u fr to (sdT c u fr to wo he hu S t)
  | 0, _ => h
  | t + 1, ht => by
    unfold sdT
    split
    · exact sdK_ok hO (by omega) hu6 (sdT_ok hO hu6 h t (by omega)) u (Nat.le_refl _)
    · exact sdT_ok hO hu6 h t (by omega)
end HOURP
theorem hrO_ok {P : Pn} {S : St8} (hS : SOk P S) : RdOk P.1 P.2.1 P.2.2.2.2.1 P.2.2.2.2.2.1 S.2.2.2.1 (hrO P S).1 := hS.1.wup (fun r h => ordK_wo h _)
theorem hrM_ok {P : Pn} {S : St8} (hS : SOk P S) : SdOk P.1 P.2.1 P.2.2.1 P.2.2.2.2.1 P.2.2.2.2.2.1 (S.2.2.2.2.2.2.1, (hrM P S).1) := by
  obtain ⟨i1, i2⟩ := mvW_ok (hr := S.1) (he := (hrB P S).1) (hrO_ok hS) (hS.2.1.ls (wo := (hrO P S).1))
  have hl := lsW_len (wo := (hrO P S).1) (ws := S.2.2.2.2.2.2.2)
  exact ⟨i1, hS.2.2.1.le (Nat.le_trans i2 hl), hS.2.2.2⟩
theorem hourS_ok {P : Pn} {S : St8} (hP : PnOk P) (hS : SOk P S) : SOk P (hourS P S) := by
  obtain ⟨i1, i2, i3⟩ := sdT_ok (u := P.2.2.1) (he := (hrM P S).2.1) (hu := (hrO P S).2.1) (hrO_ok hS) hP.2.2.1 (hrM_ok hS) P.1 (Nat.le_refl _)
  exact ⟨hrO_ok hS, i1, i2, i3⟩
theorem hoursS_ok {P : Pn} {S : St8} (hP : PnOk P) (hS : SOk P S) : ∀ k, SOk P (hoursS P S k)
  | 0 => hS
  | k + 1 => hourS_ok hP (hoursS_ok hP hS k)
