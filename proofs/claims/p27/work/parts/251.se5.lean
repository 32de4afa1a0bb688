/-! ===== bytes of the strings, so many at a time, by the kernel ===== -/
theorem cSe_5 : (List.range 15).all (fun j => PSe (75 + j)) = true := by decide +kernel
