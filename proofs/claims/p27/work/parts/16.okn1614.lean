/-! ===== the checks of one method, block by block, by the kernel ===== -/
theorem ok161_24 : okF (mInf 161).2.2.1 (decide ((mInf 161).1.name = "<init>")) (mInf 161).2.2.2.2.1 (mInf 161).2.1 (bp 161).2.1 ((bp 161).2.1 24) ((bp 161).1 24) = true := by decide +kernel
theorem ok161_25 : okF (mInf 161).2.2.1 (decide ((mInf 161).1.name = "<init>")) (mInf 161).2.2.2.2.1 (mInf 161).2.1 (bp 161).2.1 ((bp 161).2.1 25) ((bp 161).1 25) = true := by decide +kernel
theorem ok161_26 : okF (mInf 161).2.2.1 (decide ((mInf 161).1.name = "<init>")) (mInf 161).2.2.2.2.1 (mInf 161).2.1 (bp 161).2.1 ((bp 161).2.1 26) ((bp 161).1 26) = true := by decide +kernel
theorem ok161_27 : okF (mInf 161).2.2.1 (decide ((mInf 161).1.name = "<init>")) (mInf 161).2.2.2.2.1 (mInf 161).2.1 (bp 161).2.1 ((bp 161).2.1 27) ((bp 161).1 27) = true := by decide +kernel
theorem ok161_28 : okF (mInf 161).2.2.1 (decide ((mInf 161).1.name = "<init>")) (mInf 161).2.2.2.2.1 (mInf 161).2.1 (bp 161).2.1 ((bp 161).2.1 28) ((bp 161).1 28) = true := by decide +kernel
theorem ok161_29 : okF (mInf 161).2.2.1 (decide ((mInf 161).1.name = "<init>")) (mInf 161).2.2.2.2.1 (mInf 161).2.1 (bp 161).2.1 ((bp 161).2.1 29) ((bp 161).1 29) = true := by decide +kernel
