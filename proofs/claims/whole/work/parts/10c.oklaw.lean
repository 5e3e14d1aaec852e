theorem ok_law_5 : am_ck2 am_law 640 rw_W_law_5 = true := by decide +kernel
theorem ok_law_6 : am_ck2 am_law 768 rw_W_law_6 = true := by decide +kernel
theorem ok_law_7 : am_ck2 am_law 896 rw_W_law_7 = true := by decide +kernel
theorem ok_law_8 : am_ck2 am_law 1024 rw_W_law_8 = true := by decide +kernel
theorem ok_law_9 : am_ck2 am_law 1152 rw_W_law_9 = true := by decide +kernel
