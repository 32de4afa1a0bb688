/-! ===== the blocks of one method together ===== -/
theorem ok161 : okM 161 = true := by
  have h : ∀ k, k < 31 → okF (mInf 161).2.2.1 (decide ((mInf 161).1.name = "<init>")) (mInf 161).2.2.2.2.1 (mInf 161).2.1 (bp 161).2.1 ((bp 161).2.1 k) ((bp 161).1 k) = true := by
    intro k hk
    have hc : k = 0 ∨ k = 1 ∨ k = 2 ∨ k = 3 ∨ k = 4 ∨ k = 5 ∨ k = 6 ∨ k = 7 ∨ k = 8 ∨ k = 9 ∨ k = 10 ∨ k = 11 ∨ k = 12 ∨ k = 13 ∨ k = 14 ∨ k = 15 ∨ k = 16 ∨ k = 17 ∨ k = 18 ∨ k = 19 ∨ k = 20 ∨ k = 21 ∨ k = 22 ∨ k = 23 ∨ k = 24 ∨ k = 25 ∨ k = 26 ∨ k = 27 ∨ k = 28 ∨ k = 29 ∨ k = 30 := by omega
    rcases hc with rfl | rfl | rfl | rfl | rfl | rfl | rfl | rfl | rfl | rfl | rfl | rfl | rfl | rfl | rfl | rfl | rfl | rfl | rfl | rfl | rfl | rfl | rfl | rfl | rfl | rfl | rfl | rfl | rfl | rfl | rfl
    · exact ok161_0
    · exact ok161_1
    · exact ok161_2
    · exact ok161_3
    · exact ok161_4
    · exact ok161_5
    · exact ok161_6
    · exact ok161_7
    · exact ok161_8
    · exact ok161_9
    · exact ok161_10
    · exact ok161_11
    · exact ok161_12
    · exact ok161_13
    · exact ok161_14
    · exact ok161_15
    · exact ok161_16
    · exact ok161_17
    · exact ok161_18
    · exact ok161_19
    · exact ok161_20
    · exact ok161_21
    · exact ok161_22
    · exact ok161_23
    · exact ok161_24
    · exact ok161_25
    · exact ok161_26
    · exact ok161_27
    · exact ok161_28
    · exact ok161_29
    · exact ok161_30
  exact List.all_eq_true.mpr (fun k hk => h k (List.mem_range.mp hk))
