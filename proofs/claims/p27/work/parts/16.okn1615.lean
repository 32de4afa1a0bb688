/-! ===== the checks of one method, block by block, by the kernel ===== -/
theorem ok161_30 : okF (mInf 161).2.2.1 (decide ((mInf 161).1.name = "<init>")) (mInf 161).2.2.2.2.1 (mInf 161).2.1 (bp 161).2.1 ((bp 161).2.1 30) ((bp 161).1 30) = true := by decide +kernel
