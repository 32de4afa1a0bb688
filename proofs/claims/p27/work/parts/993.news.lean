/-! ===== PURE: so many new as the sums differ ===== -/
theorem sumI_up {f g : Nat → Int} {i : Nat} : ∀ {m : Nat}, i < m → (∀ j, j < m → j ≠ i → g j = f j) → sumI g m = sumI f m - f i + g i
  | 0, h, _ => absurd h (Nat.not_lt_zero _)
  | m + 1, h, e => by
    rw [sumI_s, sumI_s]
    by_cases hi : i = m
    · subst hi
      rw [sumI_congr (fun j hj => e j (by omega) (by omega))]
      omega
    · rw [sumI_up (m := m) (by omega) (fun j hj hji => e j (by omega) hji), e m (by omega) (fun h => hi h.symm)]
      omega
theorem allK_hrs {he : Nat → Int} {n u t k : Nat} {hr : Int} (hu : u ≤ 6) (ht : t < n) (hk : k < u) (h0 : 0 ≤ hr) : allK (hrs he (t * 6 + k) hr) n u = allK he n u + isNw he (t * 6 + k) := by
  unfold hrs isNw
  by_cases h9 : he (t * 6 + k) = -1
  · rw [if_pos h9, if_pos h9]
    have e1 : knw (mUp he (t * 6 + k) hr) n k = knw he n k + 1 := by
      unfold knw
      rw [sumI_up (f := fun t => if he (t * 6 + k) = -1 then (0 : Int) else 1) (i := t) ht (fun j _ hj => by rw [mUp_ne (by omega)])]
      rw [mUp_self, if_pos h9, if_neg (by omega)]
      omega
    unfold allK
    rw [sumI_up (f := fun k => knw he n k) (i := k) hk (fun j hj hjk => by
      unfold knw
      exact sumI_congr (fun t' _ => by rw [mUp_ne (by omega)])), e1]
    omega
  · rw [if_neg h9, if_neg h9]
    omega
theorem allK_bg {he : Nat → Int} {n u : Nat} {ba : Nat → Nat} {bo : Nat → Int} {hr : Int} (hu : u ≤ 6) (hb : ∀ k, k < u → ba k < n) (h0 : 0 ≤ hr) : ∀ i, i ≤ u → allK (bgK ba bo hr he i).1 n u = allK he n u + (bgK ba bo hr he i).2
  | 0, _ => (Int.add_zero _).symm
  | i + 1, hi => by
    have ih := allK_bg hu hb h0 i (by omega) (he := he) (bo := bo)
    unfold bgK
    split
    · show allK (hrs (bgK ba bo hr he i).1 (ba i * 6 + i) hr) n u = allK he n u + ((bgK ba bo hr he i).2 + isNw (bgK ba bo hr he i).1 (ba i * 6 + i))
      rw [allK_hrs hu (hb i (by omega)) (by omega) h0, ih]
      omega
    · exact ih
theorem allK_mv {mi wo : Nat → Int} {n c u : Nat} {hr : Int} (hu : u ≤ 6) (h0 : 0 ≤ hr) : ∀ {l : List Wr} {he : Nat → Int}, WsOk n c u l → allK (mvW mi wo hr l he).2.1 n u = allK he n u + (mvW mi wo hr l he).2.2
  | [], _, _ => (Int.add_zero _).symm
  | x :: l, he, h => by
    obtain ⟨x1, x2, x3, -⟩ := h x List.mem_cons_self
    have ht : WsOk n c u l := fun y hy => h y (List.mem_cons_of_mem _ hy)
    unfold mvW
    split
    · exact allK_mv hu h0 ht
    · show allK (mvW mi wo hr l (hrs he (x.2.1 * 6 + x.2.2.1) hr)).2.1 n u = allK he n u + (isNw he (x.2.1 * 6 + x.2.2.1) + (mvW mi wo hr l (hrs he (x.2.1 * 6 + x.2.2.1) hr)).2.2)
      rw [allK_mv hu h0 ht, allK_hrs hu x2 x3 h0]
      omega
theorem hour_news {Q : Pn} {S : St8} (hQ : PnOk Q) (hM : SmOk Q S) (h0 : 0 ≤ S.1) : allK (heS6 (hourS Q S)) Q.1 Q.2.2.1 = allK (heS6 S) Q.1 Q.2.2.1 + hourN Q S := by
  obtain ⟨q1, q2, q3, q4, qr, qb, -⟩ := id hQ
  have e1 := allK_mv (mi := S.2.2.2.1) (wo := (hrO Q S).1) (he := (hrB Q S).1) q3 h0 hM.1.2.1.ls (l := hrL Q S)
  have e2 := allK_bg (he := heS6 S) (bo := boP Q) q3 qb h0 Q.2.2.1 (Nat.le_refl _)
  show allK (hrM Q S).2.1 Q.1 Q.2.2.1 = allK (heS6 S) Q.1 Q.2.2.1 + ((hrB Q S).2 + (hrM Q S).2.2)
  have e3 : allK (hrM Q S).2.1 Q.1 Q.2.2.1 = allK (hrB Q S).1 Q.1 Q.2.2.1 + (hrM Q S).2.2 := e1
  have e4 : allK (hrB Q S).1 Q.1 Q.2.2.1 = allK (heS6 S) Q.1 Q.2.2.1 + (hrB Q S).2 := e2
  omega
theorem hours_news {Q : Pn} {S : St8} (hQ : PnOk Q) (hM : SmOk Q S) (h0 : 0 ≤ S.1) : ∀ i : Nat, S.1 + i ≤ 1000000 → allK (heS6 (hoursS Q S i)) Q.1 Q.2.2.1 - allK (heS6 S) Q.1 Q.2.2.1 = hoursN Q S i
  | 0, _ => Int.sub_self _
  | i + 1, hi => by
    obtain ⟨h1, h2⟩ := hours_ok hQ hM h0 i (by omega)
    have ih := hours_news hQ hM h0 i (by omega)
    have := hour_news hQ h1 (by omega)
    show allK (heS6 (hourS Q (hoursS Q S i))) Q.1 Q.2.2.1 - allK (heS6 S) Q.1 Q.2.2.1 = hoursN Q S i + hourN Q (hoursS Q S i)
    omega
