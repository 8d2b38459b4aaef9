theorem zo_293_1250 : zokR 293 1250 50 = true := by decide +kernel
theorem zo_293_1300 : zokR 293 1300 50 = true := by decide +kernel
theorem zo_293_1350 : zokR 293 1350 50 = true := by decide +kernel
theorem zo_293_1400 : zokR 293 1400 50 = true := by decide +kernel
theorem zo_293_1450 : zokR 293 1450 50 = true := by decide +kernel
theorem zo_293_1500 : zokR 293 1500 50 = true := by decide +kernel
