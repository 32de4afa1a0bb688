/-! ===== the checks of one method, block by block, by the kernel ===== -/
theorem ok160_6 : okF (mInf 160).2.2.1 (decide ((mInf 160).1.name = "<init>")) (mInf 160).2.2.2.2.1 (mInf 160).2.1 (bp 160).2.1 ((bp 160).2.1 6) ((bp 160).1 6) = true := by decide +kernel
theorem ok160_7 : okF (mInf 160).2.2.1 (decide ((mInf 160).1.name = "<init>")) (mInf 160).2.2.2.2.1 (mInf 160).2.1 (bp 160).2.1 ((bp 160).2.1 7) ((bp 160).1 7) = true := by decide +kernel
theorem ok160_8 : okF (mInf 160).2.2.1 (decide ((mInf 160).1.name = "<init>")) (mInf 160).2.2.2.2.1 (mInf 160).2.1 (bp 160).2.1 ((bp 160).2.1 8) ((bp 160).1 8) = true := by decide +kernel
theorem ok160_9 : okF (mInf 160).2.2.1 (decide ((mInf 160).1.name = "<init>")) (mInf 160).2.2.2.2.1 (mInf 160).2.1 (bp 160).2.1 ((bp 160).2.1 9) ((bp 160).1 9) = true := by decide +kernel
theorem ok160_10 : okF (mInf 160).2.2.1 (decide ((mInf 160).1.name = "<init>")) (mInf 160).2.2.2.2.1 (mInf 160).2.1 (bp 160).2.1 ((bp 160).2.1 10) ((bp 160).1 10) = true := by decide +kernel
theorem ok160_11 : okF (mInf 160).2.2.1 (decide ((mInf 160).1.name = "<init>")) (mInf 160).2.2.2.2.1 (mInf 160).2.1 (bp 160).2.1 ((bp 160).2.1 11) ((bp 160).1 11) = true := by decide +kernel
