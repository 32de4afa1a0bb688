/-! ===== the checks of one method, block by block, by the kernel ===== -/
theorem ok161_12 : okF (mInf 161).2.2.1 (decide ((mInf 161).1.name = "<init>")) (mInf 161).2.2.2.2.1 (mInf 161).2.1 (bp 161).2.1 ((bp 161).2.1 12) ((bp 161).1 12) = true := by decide +kernel
theorem ok161_13 : okF (mInf 161).2.2.1 (decide ((mInf 161).1.name = "<init>")) (mInf 161).2.2.2.2.1 (mInf 161).2.1 (bp 161).2.1 ((bp 161).2.1 13) ((bp 161).1 13) = true := by decide +kernel
theorem ok161_14 : okF (mInf 161).2.2.1 (decide ((mInf 161).1.name = "<init>")) (mInf 161).2.2.2.2.1 (mInf 161).2.1 (bp 161).2.1 ((bp 161).2.1 14) ((bp 161).1 14) = true := by decide +kernel
theorem ok161_15 : okF (mInf 161).2.2.1 (decide ((mInf 161).1.name = "<init>")) (mInf 161).2.2.2.2.1 (mInf 161).2.1 (bp 161).2.1 ((bp 161).2.1 15) ((bp 161).1 15) = true := by decide +kernel
theorem ok161_16 : okF (mInf 161).2.2.1 (decide ((mInf 161).1.name = "<init>")) (mInf 161).2.2.2.2.1 (mInf 161).2.1 (bp 161).2.1 ((bp 161).2.1 16) ((bp 161).1 16) = true := by decide +kernel
theorem ok161_17 : okF (mInf 161).2.2.1 (decide ((mInf 161).1.name = "<init>")) (mInf 161).2.2.2.2.1 (mInf 161).2.1 (bp 161).2.1 ((bp 161).2.1 17) ((bp 161).1 17) = true := by decide +kernel
