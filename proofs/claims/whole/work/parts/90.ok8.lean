theorem zo_293_1550 : zokR 293 1550 50 = true := by decide +kernel
theorem zo_293_1600 : zokR 293 1600 50 = true := by decide +kernel
theorem zo_293_1650 : zokR 293 1650 50 = true := by decide +kernel
theorem zo_293_1700 : zokR 293 1700 50 = true := by decide +kernel
theorem zo_293_1750 : zokR 293 1750 50 = true := by decide +kernel
