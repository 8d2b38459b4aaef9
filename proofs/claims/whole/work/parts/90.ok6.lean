theorem zo_293_900 : zokR 293 900 50 = true := by decide +kernel
theorem zo_293_950 : zokR 293 950 50 = true := by decide +kernel
theorem zo_293_1000 : zokR 293 1000 50 = true := by decide +kernel
theorem zo_293_1050 : zokR 293 1050 50 = true := by decide +kernel
theorem zo_293_1100 : zokR 293 1100 50 = true := by decide +kernel
theorem zo_293_1150 : zokR 293 1150 50 = true := by decide +kernel
theorem zo_293_1200 : zokR 293 1200 50 = true := by decide +kernel
