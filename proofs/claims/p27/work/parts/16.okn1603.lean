/-! ===== the checks of one method, block by block, by the kernel ===== -/
theorem ok160_18 : okF (mInf 160).2.2.1 (decide ((mInf 160).1.name = "<init>")) (mInf 160).2.2.2.2.1 (mInf 160).2.1 (bp 160).2.1 ((bp 160).2.1 18) ((bp 160).1 18) = true := by decide +kernel
theorem ok160_19 : okF (mInf 160).2.2.1 (decide ((mInf 160).1.name = "<init>")) (mInf 160).2.2.2.2.1 (mInf 160).2.1 (bp 160).2.1 ((bp 160).2.1 19) ((bp 160).1 19) = true := by decide +kernel
theorem ok160_20 : okF (mInf 160).2.2.1 (decide ((mInf 160).1.name = "<init>")) (mInf 160).2.2.2.2.1 (mInf 160).2.1 (bp 160).2.1 ((bp 160).2.1 20) ((bp 160).1 20) = true := by decide +kernel
theorem ok160_21 : okF (mInf 160).2.2.1 (decide ((mInf 160).1.name = "<init>")) (mInf 160).2.2.2.2.1 (mInf 160).2.1 (bp 160).2.1 ((bp 160).2.1 21) ((bp 160).1 21) = true := by decide +kernel
