theorem ok_law_0 : am_ck2 am_law 0 rw_W_law_0 = true := by decide +kernel
theorem ok_law_1 : am_ck2 am_law 128 rw_W_law_1 = true := by decide +kernel
theorem ok_law_2 : am_ck2 am_law 256 rw_W_law_2 = true := by decide +kernel
theorem ok_law_3 : am_ck2 am_law 384 rw_W_law_3 = true := by decide +kernel
theorem ok_law_4 : am_ck2 am_law 512 rw_W_law_4 = true := by decide +kernel
