theorem ok_law_15 : am_ck2 am_law 1920 rw_W_law_15 = true := by decide +kernel
theorem ok_law_16 : am_ck2 am_law 2048 rw_W_law_16 = true := by decide +kernel
theorem ok_law_17 : am_ck2 am_law 2176 rw_W_law_17 = true := by decide +kernel
theorem ok_law_18 : am_ck2 am_law 2304 rw_W_law_18 = true := by decide +kernel
theorem ok_law_19 : am_ck2 am_law 2432 rw_W_law_19 = true := by decide +kernel
