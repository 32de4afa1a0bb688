/-! ===== bytes of the strings, so many at a time, by the kernel ===== -/
theorem cSe_2 : (List.range 15).all (fun j => PSe (30 + j)) = true := by decide +kernel
