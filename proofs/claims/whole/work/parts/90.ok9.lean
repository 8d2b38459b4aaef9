theorem zo_293_1800 : zokR 293 1800 50 = true := by decide +kernel
theorem zo_293_1850 : zokR 293 1850 50 = true := by decide +kernel
theorem zo_293_1900 : zokR 293 1900 50 = true := by decide +kernel
theorem zo_293_1950 : zokR 293 1950 50 = true := by decide +kernel
theorem zo_293_2000 : zokR 293 2000 18 = true := by decide +kernel
