theorem ok_law_10 : am_ck2 am_law 1280 rw_W_law_10 = true := by decide +kernel
theorem ok_law_11 : am_ck2 am_law 1408 rw_W_law_11 = true := by decide +kernel
theorem ok_law_12 : am_ck2 am_law 1536 rw_W_law_12 = true := by decide +kernel
theorem ok_law_13 : am_ck2 am_law 1664 rw_W_law_13 = true := by decide +kernel
theorem ok_law_14 : am_ck2 am_law 1792 rw_W_law_14 = true := by decide +kernel
