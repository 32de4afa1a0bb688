/-! ===== the checks of one method, block by block, by the kernel ===== -/
theorem ok160_0 : okF (mInf 160).2.2.1 (decide ((mInf 160).1.name = "<init>")) (mInf 160).2.2.2.2.1 (mInf 160).2.1 (bp 160).2.1 ((bp 160).2.1 0) ((bp 160).1 0) = true := by decide +kernel
theorem ok160_1 : okF (mInf 160).2.2.1 (decide ((mInf 160).1.name = "<init>")) (mInf 160).2.2.2.2.1 (mInf 160).2.1 (bp 160).2.1 ((bp 160).2.1 1) ((bp 160).1 1) = true := by decide +kernel
theorem ok160_2 : okF (mInf 160).2.2.1 (decide ((mInf 160).1.name = "<init>")) (mInf 160).2.2.2.2.1 (mInf 160).2.1 (bp 160).2.1 ((bp 160).2.1 2) ((bp 160).1 2) = true := by decide +kernel
theorem ok160_3 : okF (mInf 160).2.2.1 (decide ((mInf 160).1.name = "<init>")) (mInf 160).2.2.2.2.1 (mInf 160).2.1 (bp 160).2.1 ((bp 160).2.1 3) ((bp 160).1 3) = true := by decide +kernel
theorem ok160_4 : okF (mInf 160).2.2.1 (decide ((mInf 160).1.name = "<init>")) (mInf 160).2.2.2.2.1 (mInf 160).2.1 (bp 160).2.1 ((bp 160).2.1 4) ((bp 160).1 4) = true := by decide +kernel
theorem ok160_5 : okF (mInf 160).2.2.1 (decide ((mInf 160).1.name = "<init>")) (mInf 160).2.2.2.2.1 (mInf 160).2.1 (bp 160).2.1 ((bp 160).2.1 5) ((bp 160).1 5) = true := by decide +kernel
