/-! ===== the blocks of one method together ===== -/
theorem ok160 : okM 160 = true := by
  have h : ∀ k, k < 22 → okF (mInf 160).2.2.1 (decide ((mInf 160).1.name = "<init>")) (mInf 160).2.2.2.2.1 (mInf 160).2.1 (bp 160).2.1 ((bp 160).2.1 k) ((bp 160).1 k) = true := by
    intro k hk
    have hc : k = 0 ∨ k = 1 ∨ k = 2 ∨ k = 3 ∨ k = 4 ∨ k = 5 ∨ k = 6 ∨ k = 7 ∨ k = 8 ∨ k = 9 ∨ k = 10 ∨ k = 11 ∨ k = 12 ∨ k = 13 ∨ k = 14 ∨ k = 15 ∨ k = 16 ∨ k = 17 ∨ k = 18 ∨ k = 19 ∨ k = 20 ∨ k = 21 := by omega
    rcases hc with rfl | rfl | rfl | rfl | rfl | rfl | rfl | rfl | rfl | rfl | rfl | rfl | rfl | rfl | rfl | rfl | rfl | rfl | rfl | rfl | rfl | rfl
    · exact ok160_0
    · exact ok160_1
    · exact ok160_2
    · exact ok160_3
    · exact ok160_4
    · exact ok160_5
    · exact ok160_6
    · exact ok160_7
    · exact ok160_8
    · exact ok160_9
    · exact ok160_10
    · exact ok160_11
    · exact ok160_12
    · exact ok160_13
    · exact ok160_14
    · exact ok160_15
    · exact ok160_16
    · exact ok160_17
    · exact ok160_18
    · exact ok160_19
    · exact ok160_20
    · exact ok160_21
  exact List.all_eq_true.mpr (fun k hk => h k (List.mem_range.mp hk))
