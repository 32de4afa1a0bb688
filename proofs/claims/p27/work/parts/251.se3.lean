/-! ===== bytes of the strings, so many at a time, by the kernel ===== -/
theorem cSe_3 : (List.range 15).all (fun j => PSe (45 + j)) = true := by decide +kernel
