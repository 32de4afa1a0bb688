/-! ===== the checks of one method, block by block, by the kernel ===== -/
theorem ok161_6 : okF (mInf 161).2.2.1 (decide ((mInf 161).1.name = "<init>")) (mInf 161).2.2.2.2.1 (mInf 161).2.1 (bp 161).2.1 ((bp 161).2.1 6) ((bp 161).1 6) = true := by decide +kernel
theorem ok161_7 : okF (mInf 161).2.2.1 (decide ((mInf 161).1.name = "<init>")) (mInf 161).2.2.2.2.1 (mInf 161).2.1 (bp 161).2.1 ((bp 161).2.1 7) ((bp 161).1 7) = true := by decide +kernel
theorem ok161_8 : okF (mInf 161).2.2.1 (decide ((mInf 161).1.name = "<init>")) (mInf 161).2.2.2.2.1 (mInf 161).2.1 (bp 161).2.1 ((bp 161).2.1 8) ((bp 161).1 8) = true := by decide +kernel
theorem ok161_9 : okF (mInf 161).2.2.1 (decide ((mInf 161).1.name = "<init>")) (mInf 161).2.2.2.2.1 (mInf 161).2.1 (bp 161).2.1 ((bp 161).2.1 9) ((bp 161).1 9) = true := by decide +kernel
theorem ok161_10 : okF (mInf 161).2.2.1 (decide ((mInf 161).1.name = "<init>")) (mInf 161).2.2.2.2.1 (mInf 161).2.1 (bp 161).2.1 ((bp 161).2.1 10) ((bp 161).1 10) = true := by decide +kernel
theorem ok161_11 : okF (mInf 161).2.2.1 (decide ((mInf 161).1.name = "<init>")) (mInf 161).2.2.2.2.1 (mInf 161).2.1 (bp 161).2.1 ((bp 161).2.1 11) ((bp 161).1 11) = true := by decide +kernel
