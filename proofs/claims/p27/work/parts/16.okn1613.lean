/-! ===== the checks of one method, block by block, by the kernel ===== -/
theorem ok161_18 : okF (mInf 161).2.2.1 (decide ((mInf 161).1.name = "<init>")) (mInf 161).2.2.2.2.1 (mInf 161).2.1 (bp 161).2.1 ((bp 161).2.1 18) ((bp 161).1 18) = true := by decide +kernel
theorem ok161_19 : okF (mInf 161).2.2.1 (decide ((mInf 161).1.name = "<init>")) (mInf 161).2.2.2.2.1 (mInf 161).2.1 (bp 161).2.1 ((bp 161).2.1 19) ((bp 161).1 19) = true := by decide +kernel
theorem ok161_20 : okF (mInf 161).2.2.1 (decide ((mInf 161).1.name = "<init>")) (mInf 161).2.2.2.2.1 (mInf 161).2.1 (bp 161).2.1 ((bp 161).2.1 20) ((bp 161).1 20) = true := by decide +kernel
theorem ok161_21 : okF (mInf 161).2.2.1 (decide ((mInf 161).1.name = "<init>")) (mInf 161).2.2.2.2.1 (mInf 161).2.1 (bp 161).2.1 ((bp 161).2.1 21) ((bp 161).1 21) = true := by decide +kernel
theorem ok161_22 : okF (mInf 161).2.2.1 (decide ((mInf 161).1.name = "<init>")) (mInf 161).2.2.2.2.1 (mInf 161).2.1 (bp 161).2.1 ((bp 161).2.1 22) ((bp 161).1 22) = true := by decide +kernel
theorem ok161_23 : okF (mInf 161).2.2.1 (decide ((mInf 161).1.name = "<init>")) (mInf 161).2.2.2.2.1 (mInf 161).2.1 (bp 161).2.1 ((bp 161).2.1 23) ((bp 161).1 23) = true := by decide +kernel
