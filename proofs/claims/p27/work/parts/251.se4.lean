/-! ===== bytes of the strings, so many at a time, by the kernel ===== -/
theorem cSe_4 : (List.range 15).all (fun j => PSe (60 + j)) = true := by decide +kernel
