/-! ===== the checks of one method, block by block, by the kernel ===== -/
theorem ok160_12 : okF (mInf 160).2.2.1 (decide ((mInf 160).1.name = "<init>")) (mInf 160).2.2.2.2.1 (mInf 160).2.1 (bp 160).2.1 ((bp 160).2.1 12) ((bp 160).1 12) = true := by decide +kernel
theorem ok160_13 : okF (mInf 160).2.2.1 (decide ((mInf 160).1.name = "<init>")) (mInf 160).2.2.2.2.1 (mInf 160).2.1 (bp 160).2.1 ((bp 160).2.1 13) ((bp 160).1 13) = true := by decide +kernel
theorem ok160_14 : okF (mInf 160).2.2.1 (decide ((mInf 160).1.name = "<init>")) (mInf 160).2.2.2.2.1 (mInf 160).2.1 (bp 160).2.1 ((bp 160).2.1 14) ((bp 160).1 14) = true := by decide +kernel
theorem ok160_15 : okF (mInf 160).2.2.1 (decide ((mInf 160).1.name = "<init>")) (mInf 160).2.2.2.2.1 (mInf 160).2.1 (bp 160).2.1 ((bp 160).2.1 15) ((bp 160).1 15) = true := by decide +kernel
theorem ok160_16 : okF (mInf 160).2.2.1 (decide ((mInf 160).1.name = "<init>")) (mInf 160).2.2.2.2.1 (mInf 160).2.1 (bp 160).2.1 ((bp 160).2.1 16) ((bp 160).1 16) = true := by decide +kernel
theorem ok160_17 : okF (mInf 160).2.2.1 (decide ((mInf 160).1.name = "<init>")) (mInf 160).2.2.2.2.1 (mInf 160).2.1 (bp 160).2.1 ((bp 160).2.1 17) ((bp 160).1 17) = true := by decide +kernel
