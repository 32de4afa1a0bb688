/-! ===== bytes of the strings together; the rest ===== -/
theorem cSe : (List.range 90).all (fun i => (List.range (sB.getD i []).length).all (fun k => pA ((pSe.getD i []).getD k 0) (.eq (.elem (sV i) (.int (n32 k))) (.int (n32 ((sB.getD i []).getD k 0)))) && decide ((sB.getD i []).getD k 0 < 128))) = true := by
  have h : ∀ i, i < 90 → PSe i = true := by
    intro i hi
    have hc : (i < 15) ∨ (15 ≤ i ∧ i < 30) ∨ (30 ≤ i ∧ i < 45) ∨ (45 ≤ i ∧ i < 60) ∨ (60 ≤ i ∧ i < 75) ∨ (75 ≤ i ∧ i < 90) := by omega
    rcases hc with h | h | h | h | h | h
    · have := List.all_eq_true.mp cSe_0 (i - 0) (List.mem_range.mpr (by omega))
      rw [show 0 + (i - 0) = i by omega] at this
      exact this
    · have := List.all_eq_true.mp cSe_1 (i - 15) (List.mem_range.mpr (by omega))
      rw [show 15 + (i - 15) = i by omega] at this
      exact this
    · have := List.all_eq_true.mp cSe_2 (i - 30) (List.mem_range.mpr (by omega))
      rw [show 30 + (i - 30) = i by omega] at this
      exact this
    · have := List.all_eq_true.mp cSe_3 (i - 45) (List.mem_range.mpr (by omega))
      rw [show 45 + (i - 45) = i by omega] at this
      exact this
    · have := List.all_eq_true.mp cSe_4 (i - 60) (List.mem_range.mpr (by omega))
      rw [show 60 + (i - 60) = i by omega] at this
      exact this
    · have := List.all_eq_true.mp cSe_5 (i - 75) (List.mem_range.mpr (by omega))
      rw [show 75 + (i - 75) = i by omega] at this
      exact this
  exact List.all_eq_true.mpr (fun i hi => h i (List.mem_range.mp hi))
theorem cD0 : (List.range 100).all (fun i => pA (pD0.getD i 0) (.eq (.elem sD0 (.int (n32 i))) (.int (n32 (48 + i / 10))))) = true := by decide +kernel
theorem cD1 : (List.range 100).all (fun i => pA (pD1.getD i 0) (.eq (.elem sD1 (.int (n32 i))) (.int (n32 (48 + i % 10))))) = true := by decide +kernel
def tTx : List Nat := [1678, 1736, 1737, 1738, 1739, 1740, 1741, 1742, 1743, 1744, 1745, 1746, 1747, 1748, 1754, 1755, 1756, 1757, 1758, 1759, 1760, 1761, 1762, 1763, 1764, 1765, 1766, 1767, 1768, 1769, 1770, 1771, 1772, 1518, 1639, 1640, 1642, 1643, 1644, 1645, 1646, 1647, 1648, 1673, 1674, 1749, 1750, 1773]
theorem cAe : (List.range 46).all (fun i => pA (pAe.getD i 0) (.eq (.elem sAL (.int (n32 i))) (kS i))) = true := by decide +kernel
theorem cSw : (List.range 46).all (fun i => pA (pSw.getD i 0) (.eq (.elem sSW (.int (n32 i))) (.int (n32 (swV.getD i 0)))) && decide (swV.getD i 0 < 100)) = true := by decide +kernel
theorem cLi : (List.range 3).all (fun i => pA (pLi.getD i 0) (.eq (.elem sLI (.int (n32 i))) (.int (n32 (liV.getD i 0)))) && decide (liV.getD i 0 < 100)) = true := by decide +kernel
theorem cNc : (List.range 3).all (fun i => decide (i = 0) || pA (pNc.getD i 0) (.not (.castable (excN i) (excN 0)))) = true := by decide +kernel
theorem cXs : (List.range 14).all (fun i => match (LXc 9)[i]? with | some x => pA (pXs.getD i 0) (.exactly (.string "TavernRumours" x.2.1) "java/lang/String") && inU (tXr.getD i 0) (.stringRef "TavernRumours" x.2.1 x.2.2.2.2.2) | none => false) = true := by decide +kernel
theorem cXn : (LXc 9).length = 14 := rfl
theorem cXo : (List.range 26).all (fun o => o == 9 || (LXc o).isEmpty) = true := by decide +kernel
theorem cTo : (List.range 26).all (fun o => (LTx o).all (fun x => decide (o = 13) && decide (42 ≤ x.2.1) && decide (x.2.1 < 90) && decide (sR.getD x.2.1 ("", 0) = ("TavernRumoursLaw", x.1)) && inU (tTx.getD (x.2.1 - 42) 0) (.stringRef "TavernRumoursLaw" x.1 x.2.2))) = true := by decide +kernel
theorem cAo : (List.range 26).all (fun o => (LMt o).all (fun e => match e with | (idx, m, kd, _, pos) => (kd != 3 && kd != 4) || inU pos (.methodLinkNest (CN o) idx (mInf m).1 (HN o)))) = true := by decide +kernel
theorem c1_0 : pA 80 (.arrayOf sAL (.object "TavernRumours$Kind")) = true := by decide +kernel
theorem c1_1 : pA 81 (.eq (.length sAL) (.int (Int32.ofNat 46))) = true := by decide +kernel
theorem c1_2 : pA 62 (.arrayOf sWD (.object "java/lang/Object")) = true := by decide +kernel
theorem c1_3 : pA 64 (.eq (.length sWD) (.int (Int32.ofNat 0))) = true := by decide +kernel
theorem c1_4 : pA 9 (.arrayOf sSW .int) = true := by decide +kernel
theorem c1_5 : pA 10 (.eq (.length sSW) (.int (Int32.ofNat 46))) = true := by decide +kernel
theorem c1_6 : pA 266 (.arrayOf sLI .int) = true := by decide +kernel
theorem c1_7 : pA 267 (.eq (.length sLI) (.int (Int32.ofNat 3))) = true := by decide +kernel
theorem c1_8 : pA 65 (.eq (.static "java/lang/String" "COMPACT_STRINGS" "Z") (.int 1)) = true := by decide +kernel
theorem c1_9 : pA 66 (.isRef (.static "jdk/internal/util/Preconditions" "SIOOBE_FORMATTER" "Ljava/util/function/BiFunction;")) = true := by decide +kernel
theorem c1_10 : pA 6 (.isRef (.static Bundle.tN "UNASSIGNED_STACK" Bundle.steD)) = true := by decide +kernel
theorem c1_11 : pA 7 (.isRef (.static Bundle.tN "SUPPRESSED_SENTINEL" Bundle.listD)) = true := by decide +kernel
theorem c1_12 : pA 375 (.arrayOf sD0 .byte) = true := by decide +kernel
theorem c1_13 : pA 376 (.eq (.length sD0) (.int (Int32.ofNat 100))) = true := by decide +kernel
theorem c1_14 : pA 272 (.arrayOf sD1 .byte) = true := by decide +kernel
theorem c1_15 : pA 273 (.eq (.length sD1) (.int (Int32.ofNat 100))) = true := by decide +kernel
theorem c1_16 : pA 542 (.isRef (.mirror "[Ljava/lang/Object;")) = true := by decide +kernel
theorem t1_0 : inU 1147 (.laysStatic "jdk/internal/util/Preconditions" "SIOOBE_FORMATTER" "Ljava/util/function/BiFunction;") = true := by decide +kernel
theorem t1_1 : inU 77 (.initialized "jdk/internal/util/Preconditions") = true := by decide +kernel
theorem t1_2 : inU 451 (.laysStatic Bundle.tN "UNASSIGNED_STACK" Bundle.steD) = true := by decide +kernel
theorem t1_3 : inU 453 (.laysStatic Bundle.tN "SUPPRESSED_SENTINEL" Bundle.listD) = true := by decide +kernel
theorem t1_4 : inU 81 (.initialized Bundle.tN) = true := by decide +kernel
theorem t1_5 : inU 1012 (.arrayOver (.object "java/lang/Object")) = true := by decide +kernel
theorem t1_6 : inU 111 (.arrayOver (.object "TavernRumours$Kind")) = true := by decide +kernel
theorem t1_7 : inU 269 (.arrayOver (.array .int)) = true := by decide +kernel
theorem t1_8 : inU 235 (.arrayOver (.array .long)) = true := by decide +kernel
theorem t1_9 : inU 1450 (.arrayOver (.array .boolean)) = true := by decide +kernel
theorem t1_10 : inU 1835 (.declares ⟨"java/lang/Object", "getClass", "()Ljava/lang/Class;"⟩) = true := by decide +kernel
theorem t1_11 : inU 1838 (.castable "[I" "java/lang/Object") = true := by decide +kernel
theorem t1_12 : inU 1549 (.castable "[B" "java/lang/Cloneable") = true := by decide +kernel
theorem t1_13 : inU 1076 (.castable itN itI) = true := by decide +kernel
theorem t1_14 : inU 1075 (.declares hnX) = true := by decide +kernel
theorem t1_15 : inU 1074 (.interfaceMethod hnX.cls hnX.cls hnX.name hnX.desc) = true := by decide +kernel
theorem t1_16 : inU 1080 (.publicMethod hnY) = true := by decide +kernel
theorem t1_17 : inU 1078 (.unhidden itN hnX.name hnX.desc) = true := by decide +kernel
theorem t1_18 : inU 1085 (.declares nxX) = true := by decide +kernel
theorem t1_19 : inU 1084 (.interfaceMethod nxX.cls nxX.cls nxX.name nxX.desc) = true := by decide +kernel
theorem t1_20 : inU 1089 (.publicMethod nxY) = true := by decide +kernel
theorem t1_21 : inU 1087 (.unhidden itN nxX.name nxX.desc) = true := by decide +kernel
theorem cZl : (List.range 53).all (fun i => match ZS[i]? with | some z => inU (tZl.getD i 0) (.laysStatic z.1 z.2.1 z.2.2.1) && inU (tZi.getD i 0) (.initialized z.1) | none => false) = true := by decide +kernel
theorem cZk : (List.range 46).all (fun i => match ZS[i]? with | some z => decide (z.1 = "TavernRumours$Kind") && decide (z.2.1 = kN.getD i "") && decide (z.2.2.1 = "LTavernRumours$Kind;") && decide (z.2.2.2 = qS i) | none => false) = true := by decide +kernel
theorem cCa : (List.range 3).all (fun i => inU (tCa.getD i 0) (.castable (excN i) (excN i))) = true := by decide +kernel
theorem cDe : (List.range 3).all (fun i => inU (tDe.getD i 0) (.declares (dcX (dcN.getD i "")))) = true := by decide +kernel
