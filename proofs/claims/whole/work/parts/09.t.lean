theorem t0 : xMo 20 = true := by decide +kernel
theorem t1 : xMo 70 = true := by decide +kernel
theorem t2 : xMo 120 = true := by decide +kernel
theorem t3 : xMo 180 = true := by decide +kernel
