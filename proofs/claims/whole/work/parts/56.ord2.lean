theorem ck1_5 : alB (ck1 5) 1024 0 = true := by decide +kernel
theorem ck2_5 : alB (ck2 5) 1024 0 = true := by decide +kernel
theorem ck3_5 : alB (ck3 5) 1024 0 = true := by decide +kernel
theorem ck4_5 : alB (ck4 5) 1023 0 = true := by decide +kernel
