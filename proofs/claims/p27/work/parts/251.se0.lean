/-! ===== bytes of the strings, so many at a time, by the kernel ===== -/
theorem cSe_0 : (List.range 15).all (fun j => PSe (0 + j)) = true := by decide +kernel
