/-! ===== bytes of the strings, so many at a time, by the kernel ===== -/
theorem cSe_1 : (List.range 15).all (fun j => PSe (15 + j)) = true := by decide +kernel
