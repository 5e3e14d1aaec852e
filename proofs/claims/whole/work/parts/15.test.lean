theorem pl_L_window : (am_pg z_L_window).1 = 5 := rfl
theorem pm_L_window : (am_pg z_L_window).2 = am_at rw_L_window := rfl
theorem pl_L_isAmong : (am_pg z_L_isAmong).1 = 3 := rfl
theorem pm_L_isAmong : (am_pg z_L_isAmong).2 = am_at rw_L_isAmong := rfl
theorem pl_L_isLand : (am_pg z_L_isLand).1 = 1 := rfl
theorem pm_L_isLand : (am_pg z_L_isLand).2 = am_at rw_L_isLand := rfl
theorem pl_M_in : (am_pg z_M_in).1 = 6 := rfl
theorem pm_M_in : (am_pg z_M_in).2 = am_at rw_M_in := rfl
theorem pl_M_isPlace : (am_pg z_M_isPlace).1 = 1 := rfl
theorem pm_M_isPlace : (am_pg z_M_isPlace).2 = am_at rw_M_isPlace := rfl
theorem pl_M_isDay : (am_pg z_M_isDay).1 = 1 := rfl
theorem pm_M_isDay : (am_pg z_M_isDay).2 = am_at rw_M_isDay := rfl
theorem pl_M_areDays : (am_pg z_M_areDays).1 = 2 := rfl
theorem pm_M_areDays : (am_pg z_M_areDays).2 = am_at rw_M_areDays := rfl
theorem pl_M_more : (am_pg z_M_more).1 = 2 := rfl
theorem pm_M_more : (am_pg z_M_more).2 = am_at rw_M_more := rfl
theorem pl_M_stay : (am_pg z_M_stay).1 = 6 := rfl
theorem pm_M_stay : (am_pg z_M_stay).2 = am_at rw_M_stay := rfl
theorem pl_M_at : (am_pg z_M_at).1 = 4 := rfl
theorem pm_M_at : (am_pg z_M_at).2 = am_at rw_M_at := rfl
theorem pl_M_between : (am_pg z_M_between).1 = 6 := rfl
theorem pm_M_between : (am_pg z_M_between).2 = am_at rw_M_between := rfl
theorem rl_L_window_0 : (am_pg z_L_window).2 0 = some (.iload_n 1, 1, 1, 0, 0, 0, 0, []) := (congrFun pm_L_window 0).trans rfl
theorem rl_L_window_1 : (am_pg z_L_window).2 1 = some (.invokestatic 113, 4, 69, 1, 0, 37, 0, []) := (congrFun pm_L_window 1).trans rfl
theorem rl_L_window_4 : (am_pg z_L_window).2 4 = some (.ifCond .eq (23), 7, 27, 0, 0, 0, 0, []) := (congrFun pm_L_window 4).trans rfl
theorem rl_L_window_7 : (am_pg z_L_window).2 7 = some (.iload_n 2, 8, 2, 0, 0, 0, 0, []) := (congrFun pm_L_window 7).trans rfl
theorem rl_L_window_8 : (am_pg z_L_window).2 8 = some (.iconst (0), 9, 0, 0, 0, 0, 0, []) := (congrFun pm_L_window 8).trans rfl
theorem rl_L_window_9 : (am_pg z_L_window).2 9 = some (.sipush (360), 12, 0, 0, 0, 0, 360, []) := (congrFun pm_L_window 9).trans rfl
theorem rl_L_window_12 : (am_pg z_L_window).2 12 = some (.invokestatic 133, 15, 65, 3, 0, 16, 0, []) := (congrFun pm_L_window 12).trans rfl
theorem rl_L_window_15 : (am_pg z_L_window).2 15 = some (.ifCond .eq (12), 18, 27, 0, 0, 0, 0, []) := (congrFun pm_L_window 15).trans rfl
theorem rl_L_window_18 : (am_pg z_L_window).2 18 = some (.iload_n 3, 19, 3, 0, 0, 0, 0, []) := (congrFun pm_L_window 18).trans rfl
theorem rl_L_window_19 : (am_pg z_L_window).2 19 = some (.iconst (0), 20, 0, 0, 0, 0, 0, []) := (congrFun pm_L_window 19).trans rfl
theorem rl_L_window_20 : (am_pg z_L_window).2 20 = some (.iload_n 2, 21, 2, 0, 0, 0, 0, []) := (congrFun pm_L_window 20).trans rfl
theorem rl_L_window_21 : (am_pg z_L_window).2 21 = some (.invokestatic 133, 24, 65, 3, 0, 16, 0, []) := (congrFun pm_L_window 21).trans rfl
theorem rl_L_window_24 : (am_pg z_L_window).2 24 = some (.ifCond .ne (5), 27, 29, 0, 0, 0, 0, []) := (congrFun pm_L_window 24).trans rfl
theorem rl_L_window_27 : (am_pg z_L_window).2 27 = some (.iconst (-1), 28, 0, 0, 0, 0, -1, []) := (congrFun pm_L_window 27).trans rfl
theorem rl_L_window_28 : (am_pg z_L_window).2 28 = some (.ireturn, 29, 0, 0, 0, 0, 0, []) := (congrFun pm_L_window 28).trans rfl
theorem rl_L_window_29 : (am_pg z_L_window).2 29 = some (.aload_n 0, 30, 0, 0, 0, 0, 0, []) := (congrFun pm_L_window 29).trans rfl
theorem rl_L_window_30 : (am_pg z_L_window).2 30 = some (.getfield 10, 33, 8, 0, 0, 67, 0, []) := (congrFun pm_L_window 30).trans rfl
theorem rl_L_window_33 : (am_pg z_L_window).2 33 = some (.getfield 62, 36, 6, 4, 0, 35, 0, []) := (congrFun pm_L_window 33).trans rfl
theorem rl_L_window_36 : (am_pg z_L_window).2 36 = some (.getfield 163, 39, 4, 0, 0, 6, 0, []) := (congrFun pm_L_window 36).trans rfl
theorem rl_L_window_39 : (am_pg z_L_window).2 39 = some (.iload_n 1, 40, 1, 0, 0, 0, 0, []) := (congrFun pm_L_window 39).trans rfl
theorem rl_L_window_40 : (am_pg z_L_window).2 40 = some (.iaload, 41, 0, 0, 0, 0, 0, []) := (congrFun pm_L_window 40).trans rfl
theorem rl_L_window_41 : (am_pg z_L_window).2 41 = some (.istore 4, 43, 4, 0, 0, 0, 0, []) := (congrFun pm_L_window 41).trans rfl
theorem rl_L_window_43 : (am_pg z_L_window).2 43 = some (.aload_n 0, 44, 0, 0, 0, 0, 0, []) := (congrFun pm_L_window 43).trans rfl
theorem rl_L_window_44 : (am_pg z_L_window).2 44 = some (.getfield 10, 47, 8, 0, 0, 67, 0, []) := (congrFun pm_L_window 44).trans rfl
theorem rl_L_window_47 : (am_pg z_L_window).2 47 = some (.getfield 62, 50, 6, 4, 0, 35, 0, []) := (congrFun pm_L_window 47).trans rfl
theorem rl_L_window_50 : (am_pg z_L_window).2 50 = some (.getfield 163, 53, 4, 0, 0, 6, 0, []) := (congrFun pm_L_window 50).trans rfl
theorem rl_L_window_53 : (am_pg z_L_window).2 53 = some (.iload_n 1, 54, 1, 0, 0, 0, 0, []) := (congrFun pm_L_window 53).trans rfl
theorem rl_L_window_54 : (am_pg z_L_window).2 54 = some (.iload_n 2, 55, 2, 0, 0, 0, 0, []) := (congrFun pm_L_window 54).trans rfl
theorem rl_L_window_55 : (am_pg z_L_window).2 55 = some (.iastore, 56, 0, 0, 0, 0, 0, []) := (congrFun pm_L_window 55).trans rfl
theorem rl_L_window_56 : (am_pg z_L_window).2 56 = some (.aload_n 0, 57, 0, 0, 0, 0, 0, []) := (congrFun pm_L_window 56).trans rfl
theorem rl_L_window_57 : (am_pg z_L_window).2 57 = some (.getfield 10, 60, 8, 0, 0, 67, 0, []) := (congrFun pm_L_window 57).trans rfl
theorem rl_L_window_60 : (am_pg z_L_window).2 60 = some (.getfield 62, 63, 6, 4, 0, 35, 0, []) := (congrFun pm_L_window 60).trans rfl
theorem rl_L_window_63 : (am_pg z_L_window).2 63 = some (.getfield 166, 66, 4, 1, 0, 9, 0, []) := (congrFun pm_L_window 63).trans rfl
theorem rl_L_window_66 : (am_pg z_L_window).2 66 = some (.iload_n 1, 67, 1, 0, 0, 0, 0, []) := (congrFun pm_L_window 66).trans rfl
theorem rl_L_window_67 : (am_pg z_L_window).2 67 = some (.iload_n 3, 68, 3, 0, 0, 0, 0, []) := (congrFun pm_L_window 67).trans rfl
theorem rl_L_window_68 : (am_pg z_L_window).2 68 = some (.iastore, 69, 0, 0, 0, 0, 0, []) := (congrFun pm_L_window 68).trans rfl
theorem rl_L_window_69 : (am_pg z_L_window).2 69 = some (.iload 4, 71, 4, 0, 0, 0, 0, []) := (congrFun pm_L_window 69).trans rfl
theorem rl_L_window_71 : (am_pg z_L_window).2 71 = some (.ireturn, 72, 0, 0, 0, 0, 0, []) := (congrFun pm_L_window 71).trans rfl
theorem rl_L_isAmong_0 : (am_pg z_L_isAmong).2 0 = some (.iload_n 0, 1, 0, 0, 0, 0, 0, []) := (congrFun pm_L_isAmong 0).trans rfl
theorem rl_L_isAmong_1 : (am_pg z_L_isAmong).2 1 = some (.iload_n 1, 2, 1, 0, 0, 0, 0, []) := (congrFun pm_L_isAmong 1).trans rfl
theorem rl_L_isAmong_2 : (am_pg z_L_isAmong).2 2 = some (.if_icmp .lt (12), 5, 14, 0, 0, 0, 0, []) := (congrFun pm_L_isAmong 2).trans rfl
theorem rl_L_isAmong_5 : (am_pg z_L_isAmong).2 5 = some (.iload_n 0, 6, 0, 0, 0, 0, 0, []) := (congrFun pm_L_isAmong 5).trans rfl
theorem rl_L_isAmong_6 : (am_pg z_L_isAmong).2 6 = some (.iload_n 2, 7, 2, 0, 0, 0, 0, []) := (congrFun pm_L_isAmong 6).trans rfl
theorem rl_L_isAmong_7 : (am_pg z_L_isAmong).2 7 = some (.if_icmp .gt (7), 10, 14, 0, 0, 0, 0, []) := (congrFun pm_L_isAmong 7).trans rfl
theorem rl_L_isAmong_10 : (am_pg z_L_isAmong).2 10 = some (.iconst (1), 11, 0, 0, 0, 0, 1, []) := (congrFun pm_L_isAmong 10).trans rfl
theorem rl_L_isAmong_11 : (am_pg z_L_isAmong).2 11 = some (.goto (4), 14, 15, 0, 0, 0, 0, []) := (congrFun pm_L_isAmong 11).trans rfl
theorem rl_L_isAmong_14 : (am_pg z_L_isAmong).2 14 = some (.iconst (0), 15, 0, 0, 0, 0, 0, []) := (congrFun pm_L_isAmong 14).trans rfl
theorem rl_L_isAmong_15 : (am_pg z_L_isAmong).2 15 = some (.ireturn, 16, 0, 0, 1, 0, 0, []) := (congrFun pm_L_isAmong 15).trans rfl
theorem rl_L_isLand_0 : (am_pg z_L_isLand).2 0 = some (.iload_n 0, 1, 0, 0, 0, 0, 0, []) := (congrFun pm_L_isLand 0).trans rfl
theorem rl_L_isLand_1 : (am_pg z_L_isLand).2 1 = some (.iconst (0), 2, 0, 0, 0, 0, 0, []) := (congrFun pm_L_isLand 1).trans rfl
theorem rl_L_isLand_2 : (am_pg z_L_isLand).2 2 = some (.iconst (5), 3, 0, 0, 0, 0, 5, []) := (congrFun pm_L_isLand 2).trans rfl
theorem rl_L_isLand_3 : (am_pg z_L_isLand).2 3 = some (.invokestatic 133, 6, 65, 3, 0, 16, 0, []) := (congrFun pm_L_isLand 3).trans rfl
theorem rl_L_isLand_6 : (am_pg z_L_isLand).2 6 = some (.ireturn, 7, 0, 0, 1, 0, 0, []) := (congrFun pm_L_isLand 6).trans rfl
theorem rl_M_in_0 : (am_pg z_M_in).2 0 = some (.lload_n 0, 1, 0, 0, 0, 0, 0, []) := (congrFun pm_M_in 0).trans rfl
theorem rl_M_in_1 : (am_pg z_M_in).2 1 = some (.lload_n 2, 2, 2, 0, 0, 0, 0, []) := (congrFun pm_M_in 1).trans rfl
theorem rl_M_in_2 : (am_pg z_M_in).2 2 = some (.lcmp, 3, 0, 0, 0, 0, 0, []) := (congrFun pm_M_in 2).trans rfl
theorem rl_M_in_3 : (am_pg z_M_in).2 3 = some (.ifCond .lt (14), 6, 17, 0, 0, 0, 0, []) := (congrFun pm_M_in 3).trans rfl
theorem rl_M_in_6 : (am_pg z_M_in).2 6 = some (.lload_n 0, 7, 0, 0, 0, 0, 0, []) := (congrFun pm_M_in 6).trans rfl
theorem rl_M_in_7 : (am_pg z_M_in).2 7 = some (.lload 4, 9, 4, 0, 0, 0, 0, []) := (congrFun pm_M_in 7).trans rfl
theorem rl_M_in_9 : (am_pg z_M_in).2 9 = some (.lcmp, 10, 0, 0, 0, 0, 0, []) := (congrFun pm_M_in 9).trans rfl
theorem rl_M_in_10 : (am_pg z_M_in).2 10 = some (.ifCond .gt (7), 13, 17, 0, 0, 0, 0, []) := (congrFun pm_M_in 10).trans rfl
theorem rl_M_in_13 : (am_pg z_M_in).2 13 = some (.iconst (1), 14, 0, 0, 0, 0, 1, []) := (congrFun pm_M_in 13).trans rfl
theorem rl_M_in_14 : (am_pg z_M_in).2 14 = some (.goto (4), 17, 18, 0, 0, 0, 0, []) := (congrFun pm_M_in 14).trans rfl
theorem rl_M_in_17 : (am_pg z_M_in).2 17 = some (.iconst (0), 18, 0, 0, 0, 0, 0, []) := (congrFun pm_M_in 17).trans rfl
theorem rl_M_in_18 : (am_pg z_M_in).2 18 = some (.ireturn, 19, 0, 0, 1, 0, 0, []) := (congrFun pm_M_in 18).trans rfl
theorem rl_M_isPlace_0 : (am_pg z_M_isPlace).2 0 = some (.iload_n 0, 1, 0, 0, 0, 0, 0, []) := (congrFun pm_M_isPlace 0).trans rfl
theorem rl_M_isPlace_1 : (am_pg z_M_isPlace).2 1 = some (.i2l, 2, 0, 0, 0, 0, 0, []) := (congrFun pm_M_isPlace 1).trans rfl
theorem rl_M_isPlace_2 : (am_pg z_M_isPlace).2 2 = some (.ldc2_w 70, 5, 0, 0, 0, 6, -1, []) := (congrFun pm_M_isPlace 2).trans rfl
theorem rl_M_isPlace_5 : (am_pg z_M_isPlace).2 5 = some (.ldc2_w 64, 8, 0, 0, 0, 7, 5, []) := (congrFun pm_M_isPlace 5).trans rfl
theorem rl_M_isPlace_8 : (am_pg z_M_isPlace).2 8 = some (.invokestatic 66, 11, 84, 3, 0, 210, 0, []) := (congrFun pm_M_isPlace 8).trans rfl
theorem rl_M_isPlace_11 : (am_pg z_M_isPlace).2 11 = some (.ireturn, 12, 0, 0, 1, 0, 0, []) := (congrFun pm_M_isPlace 11).trans rfl
theorem rl_M_isDay_0 : (am_pg z_M_isDay).2 0 = some (.iload_n 0, 1, 0, 0, 0, 0, 0, []) := (congrFun pm_M_isDay 0).trans rfl
theorem rl_M_isDay_1 : (am_pg z_M_isDay).2 1 = some (.i2l, 2, 0, 0, 0, 0, 0, []) := (congrFun pm_M_isDay 1).trans rfl
theorem rl_M_isDay_2 : (am_pg z_M_isDay).2 2 = some (.lconst 0, 3, 0, 0, 0, 0, 0, []) := (congrFun pm_M_isDay 2).trans rfl
theorem rl_M_isDay_3 : (am_pg z_M_isDay).2 3 = some (.ldc2_w 72, 6, 0, 0, 0, 5, 1079, []) := (congrFun pm_M_isDay 3).trans rfl
theorem rl_M_isDay_6 : (am_pg z_M_isDay).2 6 = some (.invokestatic 66, 9, 84, 3, 0, 210, 0, []) := (congrFun pm_M_isDay 6).trans rfl
theorem rl_M_isDay_9 : (am_pg z_M_isDay).2 9 = some (.ireturn, 10, 0, 0, 1, 0, 0, []) := (congrFun pm_M_isDay 9).trans rfl
theorem rl_M_areDays_0 : (am_pg z_M_areDays).2 0 = some (.iload_n 0, 1, 0, 0, 0, 0, 0, []) := (congrFun pm_M_areDays 0).trans rfl
theorem rl_M_areDays_1 : (am_pg z_M_areDays).2 1 = some (.invokestatic 74, 4, 87, 1, 0, 221, 0, []) := (congrFun pm_M_areDays 1).trans rfl
theorem rl_M_areDays_4 : (am_pg z_M_areDays).2 4 = some (.ifCond .eq (20), 7, 24, 0, 0, 0, 0, []) := (congrFun pm_M_areDays 4).trans rfl
theorem rl_M_areDays_7 : (am_pg z_M_areDays).2 7 = some (.iload_n 1, 8, 1, 0, 0, 0, 0, []) := (congrFun pm_M_areDays 7).trans rfl
theorem rl_M_areDays_8 : (am_pg z_M_areDays).2 8 = some (.i2l, 9, 0, 0, 0, 0, 0, []) := (congrFun pm_M_areDays 8).trans rfl
theorem rl_M_areDays_9 : (am_pg z_M_areDays).2 9 = some (.iload_n 0, 10, 0, 0, 0, 0, 0, []) := (congrFun pm_M_areDays 9).trans rfl
theorem rl_M_areDays_10 : (am_pg z_M_areDays).2 10 = some (.i2l, 11, 0, 0, 0, 0, 0, []) := (congrFun pm_M_areDays 10).trans rfl
theorem rl_M_areDays_11 : (am_pg z_M_areDays).2 11 = some (.ldc2_w 72, 14, 0, 0, 0, 5, 1079, []) := (congrFun pm_M_areDays 11).trans rfl
theorem rl_M_areDays_14 : (am_pg z_M_areDays).2 14 = some (.invokestatic 66, 17, 84, 3, 0, 210, 0, []) := (congrFun pm_M_areDays 14).trans rfl
theorem rl_M_areDays_17 : (am_pg z_M_areDays).2 17 = some (.ifCond .eq (7), 20, 24, 0, 0, 0, 0, []) := (congrFun pm_M_areDays 17).trans rfl
theorem rl_M_areDays_20 : (am_pg z_M_areDays).2 20 = some (.iconst (1), 21, 0, 0, 0, 0, 1, []) := (congrFun pm_M_areDays 20).trans rfl
theorem rl_M_areDays_21 : (am_pg z_M_areDays).2 21 = some (.goto (4), 24, 25, 0, 0, 0, 0, []) := (congrFun pm_M_areDays 21).trans rfl
theorem rl_M_areDays_24 : (am_pg z_M_areDays).2 24 = some (.iconst (0), 25, 0, 0, 0, 0, 0, []) := (congrFun pm_M_areDays 24).trans rfl
theorem rl_M_areDays_25 : (am_pg z_M_areDays).2 25 = some (.ireturn, 26, 0, 0, 1, 0, 0, []) := (congrFun pm_M_areDays 25).trans rfl
theorem rl_M_more_0 : (am_pg z_M_more).2 0 = some (.iload_n 0, 1, 0, 0, 0, 0, 0, []) := (congrFun pm_M_more 0).trans rfl
theorem rl_M_more_1 : (am_pg z_M_more).2 1 = some (.iload_n 1, 2, 1, 0, 0, 0, 0, []) := (congrFun pm_M_more 1).trans rfl
theorem rl_M_more_2 : (am_pg z_M_more).2 2 = some (.if_icmp .le (7), 5, 9, 0, 0, 0, 0, []) := (congrFun pm_M_more 2).trans rfl
theorem rl_M_more_5 : (am_pg z_M_more).2 5 = some (.iload_n 0, 6, 0, 0, 0, 0, 0, []) := (congrFun pm_M_more 5).trans rfl
theorem rl_M_more_6 : (am_pg z_M_more).2 6 = some (.goto (4), 9, 10, 0, 0, 0, 0, []) := (congrFun pm_M_more 6).trans rfl
theorem rl_M_more_9 : (am_pg z_M_more).2 9 = some (.iload_n 1, 10, 1, 0, 0, 0, 0, []) := (congrFun pm_M_more 9).trans rfl
theorem rl_M_more_10 : (am_pg z_M_more).2 10 = some (.ireturn, 11, 0, 0, 0, 0, 0, []) := (congrFun pm_M_more 10).trans rfl
theorem rl_M_stay_0 : (am_pg z_M_stay).2 0 = some (.iload_n 1, 1, 1, 0, 0, 0, 0, []) := (congrFun pm_M_stay 0).trans rfl
theorem rl_M_stay_1 : (am_pg z_M_stay).2 1 = some (.invokestatic 137, 4, 86, 1, 0, 219, 0, []) := (congrFun pm_M_stay 1).trans rfl
theorem rl_M_stay_4 : (am_pg z_M_stay).2 4 = some (.ifCond .eq (11), 7, 15, 0, 0, 0, 0, []) := (congrFun pm_M_stay 4).trans rfl
theorem rl_M_stay_7 : (am_pg z_M_stay).2 7 = some (.iload_n 2, 8, 2, 0, 0, 0, 0, []) := (congrFun pm_M_stay 7).trans rfl
theorem rl_M_stay_8 : (am_pg z_M_stay).2 8 = some (.iload_n 3, 9, 3, 0, 0, 0, 0, []) := (congrFun pm_M_stay 8).trans rfl
theorem rl_M_stay_9 : (am_pg z_M_stay).2 9 = some (.invokestatic 140, 12, 88, 2, 0, 220, 0, []) := (congrFun pm_M_stay 9).trans rfl
theorem rl_M_stay_12 : (am_pg z_M_stay).2 12 = some (.ifCond .ne (5), 15, 17, 0, 0, 0, 0, []) := (congrFun pm_M_stay 12).trans rfl
theorem rl_M_stay_15 : (am_pg z_M_stay).2 15 = some (.iconst (-1), 16, 0, 0, 0, 0, -1, []) := (congrFun pm_M_stay 15).trans rfl
theorem rl_M_stay_16 : (am_pg z_M_stay).2 16 = some (.ireturn, 17, 0, 0, 0, 0, 0, []) := (congrFun pm_M_stay 16).trans rfl
theorem rl_M_stay_17 : (am_pg z_M_stay).2 17 = some (.iconst (0), 18, 0, 0, 0, 0, 0, []) := (congrFun pm_M_stay 17).trans rfl
theorem rl_M_stay_18 : (am_pg z_M_stay).2 18 = some (.istore 4, 20, 4, 0, 0, 0, 0, []) := (congrFun pm_M_stay 18).trans rfl
theorem rl_M_stay_20 : (am_pg z_M_stay).2 20 = some (.iload_n 2, 21, 2, 0, 0, 0, 0, []) := (congrFun pm_M_stay 20).trans rfl
theorem rl_M_stay_21 : (am_pg z_M_stay).2 21 = some (.istore 5, 23, 5, 0, 0, 0, 0, []) := (congrFun pm_M_stay 21).trans rfl
theorem rl_M_stay_23 : (am_pg z_M_stay).2 23 = some (.iload 5, 25, 5, 0, 0, 0, 0, []) := (congrFun pm_M_stay 23).trans rfl
theorem rl_M_stay_25 : (am_pg z_M_stay).2 25 = some (.iload_n 3, 26, 3, 0, 0, 0, 0, []) := (congrFun pm_M_stay 25).trans rfl
theorem rl_M_stay_26 : (am_pg z_M_stay).2 26 = some (.if_icmp .gt (38), 29, 64, 0, 0, 0, 0, []) := (congrFun pm_M_stay 26).trans rfl
theorem rl_M_stay_29 : (am_pg z_M_stay).2 29 = some (.iload 4, 31, 4, 0, 0, 0, 0, []) := (congrFun pm_M_stay 29).trans rfl
theorem rl_M_stay_31 : (am_pg z_M_stay).2 31 = some (.aload_n 0, 32, 0, 0, 0, 0, 0, []) := (congrFun pm_M_stay 31).trans rfl
theorem rl_M_stay_32 : (am_pg z_M_stay).2 32 = some (.getfield 7, 35, 9, 0, 0, 76, 0, []) := (congrFun pm_M_stay 32).trans rfl
theorem rl_M_stay_35 : (am_pg z_M_stay).2 35 = some (.iload 5, 37, 5, 0, 0, 0, 0, []) := (congrFun pm_M_stay 35).trans rfl
theorem rl_M_stay_37 : (am_pg z_M_stay).2 37 = some (.iaload, 38, 0, 0, 0, 0, 0, []) := (congrFun pm_M_stay 37).trans rfl
theorem rl_M_stay_38 : (am_pg z_M_stay).2 38 = some (.iload_n 1, 39, 1, 0, 0, 0, 0, []) := (congrFun pm_M_stay 38).trans rfl
theorem rl_M_stay_39 : (am_pg z_M_stay).2 39 = some (.if_icmp .ne (7), 42, 46, 0, 0, 0, 0, []) := (congrFun pm_M_stay 39).trans rfl
theorem rl_M_stay_42 : (am_pg z_M_stay).2 42 = some (.iconst (0), 43, 0, 0, 0, 0, 0, []) := (congrFun pm_M_stay 42).trans rfl
theorem rl_M_stay_43 : (am_pg z_M_stay).2 43 = some (.goto (4), 46, 47, 0, 0, 0, 0, []) := (congrFun pm_M_stay 43).trans rfl
theorem rl_M_stay_46 : (am_pg z_M_stay).2 46 = some (.iconst (1), 47, 0, 0, 0, 0, 1, []) := (congrFun pm_M_stay 46).trans rfl
theorem rl_M_stay_47 : (am_pg z_M_stay).2 47 = some (.iadd, 48, 0, 0, 0, 0, 0, []) := (congrFun pm_M_stay 47).trans rfl
theorem rl_M_stay_48 : (am_pg z_M_stay).2 48 = some (.istore 4, 50, 4, 0, 0, 0, 0, []) := (congrFun pm_M_stay 48).trans rfl
theorem rl_M_stay_50 : (am_pg z_M_stay).2 50 = some (.aload_n 0, 51, 0, 0, 0, 0, 0, []) := (congrFun pm_M_stay 50).trans rfl
theorem rl_M_stay_51 : (am_pg z_M_stay).2 51 = some (.getfield 7, 54, 9, 0, 0, 76, 0, []) := (congrFun pm_M_stay 51).trans rfl
theorem rl_M_stay_54 : (am_pg z_M_stay).2 54 = some (.iload 5, 56, 5, 0, 0, 0, 0, []) := (congrFun pm_M_stay 54).trans rfl
theorem rl_M_stay_56 : (am_pg z_M_stay).2 56 = some (.iload_n 1, 57, 1, 0, 0, 0, 0, []) := (congrFun pm_M_stay 56).trans rfl
theorem rl_M_stay_57 : (am_pg z_M_stay).2 57 = some (.iastore, 58, 0, 0, 0, 0, 0, []) := (congrFun pm_M_stay 57).trans rfl
theorem rl_M_stay_58 : (am_pg z_M_stay).2 58 = some (.iinc 5 (1), 61, 5, 0, 0, 0, 1, []) := (congrFun pm_M_stay 58).trans rfl
theorem rl_M_stay_61 : (am_pg z_M_stay).2 61 = some (.goto (-38), 64, 23, 0, 0, 0, 0, []) := (congrFun pm_M_stay 61).trans rfl
theorem rl_M_stay_64 : (am_pg z_M_stay).2 64 = some (.iload 4, 66, 4, 0, 0, 0, 0, []) := (congrFun pm_M_stay 64).trans rfl
theorem rl_M_stay_66 : (am_pg z_M_stay).2 66 = some (.ireturn, 67, 0, 0, 0, 0, 0, []) := (congrFun pm_M_stay 66).trans rfl
theorem rl_M_at_0 : (am_pg z_M_at).2 0 = some (.iload_n 1, 1, 1, 0, 0, 0, 0, []) := (congrFun pm_M_at 0).trans rfl
theorem rl_M_at_1 : (am_pg z_M_at).2 1 = some (.invokestatic 74, 4, 87, 1, 0, 221, 0, []) := (congrFun pm_M_at 1).trans rfl
theorem rl_M_at_4 : (am_pg z_M_at).2 4 = some (.ifCond .eq (15), 7, 19, 0, 0, 0, 0, []) := (congrFun pm_M_at 4).trans rfl
theorem rl_M_at_7 : (am_pg z_M_at).2 7 = some (.iload_n 2, 8, 2, 0, 0, 0, 0, []) := (congrFun pm_M_at 7).trans rfl
theorem rl_M_at_8 : (am_pg z_M_at).2 8 = some (.i2l, 9, 0, 0, 0, 0, 0, []) := (congrFun pm_M_at 8).trans rfl
theorem rl_M_at_9 : (am_pg z_M_at).2 9 = some (.lconst 0, 10, 0, 0, 0, 0, 0, []) := (congrFun pm_M_at 9).trans rfl
theorem rl_M_at_10 : (am_pg z_M_at).2 10 = some (.ldc2_w 78, 13, 0, 0, 0, 10, 2, []) := (congrFun pm_M_at 10).trans rfl
theorem rl_M_at_13 : (am_pg z_M_at).2 13 = some (.invokestatic 66, 16, 84, 3, 0, 210, 0, []) := (congrFun pm_M_at 13).trans rfl
theorem rl_M_at_16 : (am_pg z_M_at).2 16 = some (.ifCond .ne (5), 19, 21, 0, 0, 0, 0, []) := (congrFun pm_M_at 16).trans rfl
theorem rl_M_at_19 : (am_pg z_M_at).2 19 = some (.iconst (-1), 20, 0, 0, 0, 0, -1, []) := (congrFun pm_M_at 19).trans rfl
theorem rl_M_at_20 : (am_pg z_M_at).2 20 = some (.ireturn, 21, 0, 0, 0, 0, 0, []) := (congrFun pm_M_at 20).trans rfl
theorem rl_M_at_21 : (am_pg z_M_at).2 21 = some (.iload_n 2, 22, 2, 0, 0, 0, 0, []) := (congrFun pm_M_at 21).trans rfl
theorem rl_M_at_22 : (am_pg z_M_at).2 22 = some (.ifCond .ne (12), 25, 34, 0, 0, 0, 0, []) := (congrFun pm_M_at 22).trans rfl
theorem rl_M_at_25 : (am_pg z_M_at).2 25 = some (.aload_n 0, 26, 0, 0, 0, 0, 0, []) := (congrFun pm_M_at 25).trans rfl
theorem rl_M_at_26 : (am_pg z_M_at).2 26 = some (.getfield 7, 29, 9, 0, 0, 76, 0, []) := (congrFun pm_M_at 26).trans rfl
theorem rl_M_at_29 : (am_pg z_M_at).2 29 = some (.iload_n 1, 30, 1, 0, 0, 0, 0, []) := (congrFun pm_M_at 29).trans rfl
theorem rl_M_at_30 : (am_pg z_M_at).2 30 = some (.iaload, 31, 0, 0, 0, 0, 0, []) := (congrFun pm_M_at 30).trans rfl
theorem rl_M_at_31 : (am_pg z_M_at).2 31 = some (.goto (9), 34, 40, 0, 0, 0, 0, []) := (congrFun pm_M_at 31).trans rfl
theorem rl_M_at_34 : (am_pg z_M_at).2 34 = some (.aload_n 0, 35, 0, 0, 0, 0, 0, []) := (congrFun pm_M_at 34).trans rfl
theorem rl_M_at_35 : (am_pg z_M_at).2 35 = some (.getfield 16, 38, 9, 2, 0, 78, 0, []) := (congrFun pm_M_at 35).trans rfl
theorem rl_M_at_38 : (am_pg z_M_at).2 38 = some (.iload_n 1, 39, 1, 0, 0, 0, 0, []) := (congrFun pm_M_at 38).trans rfl
theorem rl_M_at_39 : (am_pg z_M_at).2 39 = some (.iaload, 40, 0, 0, 0, 0, 0, []) := (congrFun pm_M_at 39).trans rfl
theorem rl_M_at_40 : (am_pg z_M_at).2 40 = some (.istore_n 3, 41, 3, 0, 0, 0, 0, []) := (congrFun pm_M_at 40).trans rfl
theorem rl_M_at_41 : (am_pg z_M_at).2 41 = some (.iload_n 2, 42, 2, 0, 0, 0, 0, []) := (congrFun pm_M_at 41).trans rfl
theorem rl_M_at_42 : (am_pg z_M_at).2 42 = some (.iconst (2), 43, 0, 0, 0, 0, 2, []) := (congrFun pm_M_at 42).trans rfl
theorem rl_M_at_43 : (am_pg z_M_at).2 43 = some (.if_icmp .ne (12), 46, 55, 0, 0, 0, 0, []) := (congrFun pm_M_at 43).trans rfl
theorem rl_M_at_46 : (am_pg z_M_at).2 46 = some (.aload_n 0, 47, 0, 0, 0, 0, 0, []) := (congrFun pm_M_at 46).trans rfl
theorem rl_M_at_47 : (am_pg z_M_at).2 47 = some (.getfield 13, 50, 9, 1, 0, 77, 0, []) := (congrFun pm_M_at 47).trans rfl
theorem rl_M_at_50 : (am_pg z_M_at).2 50 = some (.iload_n 1, 51, 1, 0, 0, 0, 0, []) := (congrFun pm_M_at 50).trans rfl
theorem rl_M_at_51 : (am_pg z_M_at).2 51 = some (.iaload, 52, 0, 0, 0, 0, 0, []) := (congrFun pm_M_at 51).trans rfl
theorem rl_M_at_52 : (am_pg z_M_at).2 52 = some (.goto (14), 55, 66, 0, 0, 0, 0, []) := (congrFun pm_M_at 52).trans rfl
theorem rl_M_at_55 : (am_pg z_M_at).2 55 = some (.iload_n 3, 56, 3, 0, 0, 0, 0, []) := (congrFun pm_M_at 55).trans rfl
theorem rl_M_at_56 : (am_pg z_M_at).2 56 = some (.iconst (-1), 57, 0, 0, 0, 0, -1, []) := (congrFun pm_M_at 56).trans rfl
theorem rl_M_at_57 : (am_pg z_M_at).2 57 = some (.if_icmp .ne (8), 60, 65, 0, 0, 0, 0, []) := (congrFun pm_M_at 57).trans rfl
theorem rl_M_at_60 : (am_pg z_M_at).2 60 = some (.bipush (-2), 62, 0, 0, 0, 0, -2, []) := (congrFun pm_M_at 60).trans rfl
theorem rl_M_at_62 : (am_pg z_M_at).2 62 = some (.goto (4), 65, 66, 0, 0, 0, 0, []) := (congrFun pm_M_at 62).trans rfl
theorem rl_M_at_65 : (am_pg z_M_at).2 65 = some (.iload_n 3, 66, 3, 0, 0, 0, 0, []) := (congrFun pm_M_at 65).trans rfl
theorem rl_M_at_66 : (am_pg z_M_at).2 66 = some (.ireturn, 67, 0, 0, 0, 0, 0, []) := (congrFun pm_M_at 66).trans rfl
theorem rl_M_between_0 : (am_pg z_M_between).2 0 = some (.iconst (0), 1, 0, 0, 0, 0, 0, []) := (congrFun pm_M_between 0).trans rfl
theorem rl_M_between_1 : (am_pg z_M_between).2 1 = some (.istore 4, 3, 4, 0, 0, 0, 0, []) := (congrFun pm_M_between 1).trans rfl
theorem rl_M_between_3 : (am_pg z_M_between).2 3 = some (.iconst (0), 4, 0, 0, 0, 0, 0, []) := (congrFun pm_M_between 3).trans rfl
theorem rl_M_between_4 : (am_pg z_M_between).2 4 = some (.iload_n 2, 5, 2, 0, 0, 0, 0, []) := (congrFun pm_M_between 4).trans rfl
theorem rl_M_between_5 : (am_pg z_M_between).2 5 = some (.invokestatic 197, 8, 90, 2, 0, 244, 0, []) := (congrFun pm_M_between 5).trans rfl
theorem rl_M_between_8 : (am_pg z_M_between).2 8 = some (.istore 5, 10, 5, 0, 0, 0, 0, []) := (congrFun pm_M_between 8).trans rfl
theorem rl_M_between_10 : (am_pg z_M_between).2 10 = some (.iload 5, 12, 5, 0, 0, 0, 0, []) := (congrFun pm_M_between 10).trans rfl
theorem rl_M_between_12 : (am_pg z_M_between).2 12 = some (.iload_n 3, 13, 3, 0, 0, 0, 0, []) := (congrFun pm_M_between 12).trans rfl
theorem rl_M_between_13 : (am_pg z_M_between).2 13 = some (.if_icmp .gt (30), 16, 43, 0, 0, 0, 0, []) := (congrFun pm_M_between 13).trans rfl
theorem rl_M_between_16 : (am_pg z_M_between).2 16 = some (.iload 4, 18, 4, 0, 0, 0, 0, []) := (congrFun pm_M_between 16).trans rfl
theorem rl_M_between_18 : (am_pg z_M_between).2 18 = some (.aload_n 0, 19, 0, 0, 0, 0, 0, []) := (congrFun pm_M_between 18).trans rfl
theorem rl_M_between_19 : (am_pg z_M_between).2 19 = some (.getfield 7, 22, 9, 0, 0, 76, 0, []) := (congrFun pm_M_between 19).trans rfl
theorem rl_M_between_22 : (am_pg z_M_between).2 22 = some (.iload 5, 24, 5, 0, 0, 0, 0, []) := (congrFun pm_M_between 22).trans rfl
theorem rl_M_between_24 : (am_pg z_M_between).2 24 = some (.iaload, 25, 0, 0, 0, 0, 0, []) := (congrFun pm_M_between 24).trans rfl
theorem rl_M_between_25 : (am_pg z_M_between).2 25 = some (.iload_n 1, 26, 1, 0, 0, 0, 0, []) := (congrFun pm_M_between 25).trans rfl
theorem rl_M_between_26 : (am_pg z_M_between).2 26 = some (.if_icmp .ne (7), 29, 33, 0, 0, 0, 0, []) := (congrFun pm_M_between 26).trans rfl
theorem rl_M_between_29 : (am_pg z_M_between).2 29 = some (.iconst (1), 30, 0, 0, 0, 0, 1, []) := (congrFun pm_M_between 29).trans rfl
theorem rl_M_between_30 : (am_pg z_M_between).2 30 = some (.goto (4), 33, 34, 0, 0, 0, 0, []) := (congrFun pm_M_between 30).trans rfl
theorem rl_M_between_33 : (am_pg z_M_between).2 33 = some (.iconst (0), 34, 0, 0, 0, 0, 0, []) := (congrFun pm_M_between 33).trans rfl
theorem rl_M_between_34 : (am_pg z_M_between).2 34 = some (.iadd, 35, 0, 0, 0, 0, 0, []) := (congrFun pm_M_between 34).trans rfl
theorem rl_M_between_35 : (am_pg z_M_between).2 35 = some (.istore 4, 37, 4, 0, 0, 0, 0, []) := (congrFun pm_M_between 35).trans rfl
theorem rl_M_between_37 : (am_pg z_M_between).2 37 = some (.iinc 5 (1), 40, 5, 0, 0, 0, 1, []) := (congrFun pm_M_between 37).trans rfl
theorem rl_M_between_40 : (am_pg z_M_between).2 40 = some (.goto (-30), 43, 10, 0, 0, 0, 0, []) := (congrFun pm_M_between 40).trans rfl
theorem rl_M_between_43 : (am_pg z_M_between).2 43 = some (.iload 4, 45, 4, 0, 0, 0, 0, []) := (congrFun pm_M_between 43).trans rfl
theorem rl_M_between_45 : (am_pg z_M_between).2 45 = some (.ireturn, 46, 0, 0, 0, 0, 0, []) := (congrFun pm_M_between 45).trans rfl
set_option maxRecDepth 100000 in
set_option maxHeartbeats 4000000 in
theorem sg_M_between_0 {L : Nat} {xs : Nat → Int32} {A V : Nat → Nat → Int32} {K : Nat → Option Nat} {T : am_H} {v : Option Int32} {h' : am_H} {land frm to : Int32} (k0 :
    if 0 ≤ frm then (
      am_fin [(z_M_between, 10, [.ref 36, .int land, .int frm, .int to, .int 0, .int frm], [])] (hp L xs A V K T) v h')
    else (
      am_fin [(z_M_between, 10, [.ref 36, .int land, .int frm, .int to, .int 0, .int 0], [])] (hp L xs A V K T) v h')) : am_fin [(z_M_between, 0, [.ref 36, .int land, .int frm, .int to, .null, .null], [])] (hp L xs A V K T) v h' :=
  fn_iconst rl_M_between_0 (fn_istore (ls' := [.ref 36, .int land, .int frm, .int to, .int 0, .null]) rl_M_between_1 rfl rfl (fn_iconst rl_M_between_3 (fn_iload_n rl_M_between_4 rfl (fn_stat (as := [.int 0, .int frm]) (r := []) (ls' := [.int 0, .int frm]) rl_M_between_5 rfl rfl rfl rfl pl_M_more rfl rfl (fn_iload_n rl_M_more_0 rfl (fn_iload_n rl_M_more_1 rfl (fn_icmp_le rl_M_more_2 (fun k1 => fn_iload_n rl_M_more_9 rfl (fn_retci rl_M_more_10 rfl (fn_istore (ls' := [.ref 36, .int land, .int frm, .int to, .int 0, .int frm]) rl_M_between_8 rfl rfl (k1)))) (fun k2 => fn_iload_n rl_M_more_5 rfl (fn_goto rl_M_more_6 (fn_retci rl_M_more_10 rfl (fn_istore (ls' := [.ref 36, .int land, .int frm, .int to, .int 0, .int 0]) rl_M_between_8 rfl rfl (k2))))) k0)))))))
set_option maxRecDepth 100000 in
set_option maxHeartbeats 4000000 in
theorem sg_M_between_10 {L : Nat} {xs : Nat → Int32} {A V : Nat → Nat → Int32} {K : Nat → Option Nat} {T : am_H} {v : Option Int32} {h' : am_H} {v1 v2 v3 v4 v5 : Int32} (k0 :
    if v3 < v5 then (
      v = some v4 ∧ h' = hp L xs A V K T)
    else (
      ¬ (v5 < 0 ∨ 1080 ≤ v5.toNatClampNeg) ∧ (
      if ((A 37) v5.toNatClampNeg) = v1 then (
        am_fin [(z_M_between, 10, [.ref 36, .int v1, .int v2, .int v3, .int (v4 + 1), .int (v5 + 1)], [])] (hp L xs A V K T) v h')
      else (
        am_fin [(z_M_between, 10, [.ref 36, .int v1, .int v2, .int v3, .int (v4 + 0), .int (v5 + 1)], [])] (hp L xs A V K T) v h')))) : am_fin [(z_M_between, 10, [.ref 36, .int v1, .int v2, .int v3, .int v4, .int v5], [])] (hp L xs A V K T) v h' :=
  fn_iload rl_M_between_10 rfl (fn_iload_n rl_M_between_12 rfl (fn_icmp_gt rl_M_between_13 (fun k6 => fn_iload rl_M_between_43 rfl (fn_reti rl_M_between_45 rfl k6)) (fun k7 => fn_iload rl_M_between_16 rfl (fn_aload_n rl_M_between_18 rfl (fn_get rl_M_between_19 hp_36 rfl (fn_iload rl_M_between_22 rfl (fn_iald rl_M_between_24 hp_37 (fun k5 => fn_iload_n rl_M_between_25 rfl (fn_icmp_ne rl_M_between_26 (fun k3 => fn_iconst rl_M_between_29 (fn_goto rl_M_between_30 (fn_iadd rl_M_between_34 (fn_istore (ls' := [.ref 36, .int v1, .int v2, .int v3, .int (v4 + 1), .int v5]) rl_M_between_35 rfl rfl (fn_iinc (ls' := [.ref 36, .int v1, .int v2, .int v3, .int (v4 + 1), .int (v5 + 1)]) rl_M_between_37 rfl rfl rfl (fn_goto rl_M_between_40 (k3))))))) (fun k4 => fn_iconst rl_M_between_33 (fn_iadd rl_M_between_34 (fn_istore (ls' := [.ref 36, .int v1, .int v2, .int v3, .int (v4 + 0), .int v5]) rl_M_between_35 rfl rfl (fn_iinc (ls' := [.ref 36, .int v1, .int v2, .int v3, .int (v4 + 0), .int (v5 + 1)]) rl_M_between_37 rfl rfl rfl (fn_goto rl_M_between_40 (k4)))))) k5)) k7))))) k0))
set_option maxRecDepth 100000 in
set_option maxHeartbeats 4000000 in
theorem sg_M_at_0 {L : Nat} {xs : Nat → Int32} {A V : Nat → Nat → Int32} {K : Nat → Option Nat} {T : am_H} {v : Option Int32} {h' : am_H} {day what : Int32} (k0 :
    if (lg_cmp ((day : Int32).toInt64) ((0 : Int32).toInt64)) < 0 then (
      v = some (-1) ∧ h' = hp L xs A V K T)
    else (
      if 0 < (lg_cmp ((day : Int32).toInt64) ((1079 : Int32).toInt64)) then (
        v = some (-1) ∧ h' = hp L xs A V K T)
      else (
        if (lg_cmp ((what : Int32).toInt64) ((0 : Int32).toInt64)) < 0 then (
          v = some (-1) ∧ h' = hp L xs A V K T)
        else (
          if 0 < (lg_cmp ((what : Int32).toInt64) ((2 : Int32).toInt64)) then (
            v = some (-1) ∧ h' = hp L xs A V K T)
          else (
            if what = 0 then (
              ¬ (day < 0 ∨ 1080 ≤ day.toNatClampNeg) ∧ (
              if what = 2 then (
                ¬ (day < 0 ∨ 1080 ≤ day.toNatClampNeg) ∧ (
                v = some ((A 38) day.toNatClampNeg) ∧ h' = hp L xs A V K T))
              else (
                if ((A 37) day.toNatClampNeg) = (-1) then (
                  v = some (-2) ∧ h' = hp L xs A V K T)
                else (
                  v = some ((A 37) day.toNatClampNeg) ∧ h' = hp L xs A V K T))))
            else (
              ¬ (day < 0 ∨ 1080 ≤ day.toNatClampNeg) ∧ (
              if what = 2 then (
                ¬ (day < 0 ∨ 1080 ≤ day.toNatClampNeg) ∧ (
                v = some ((A 38) day.toNatClampNeg) ∧ h' = hp L xs A V K T))
              else (
                if ((A 39) day.toNatClampNeg) = (-1) then (
                  v = some (-2) ∧ h' = hp L xs A V K T)
                else (
                  v = some ((A 39) day.toNatClampNeg) ∧ h' = hp L xs A V K T))))))))) : am_fin [(z_M_at, 0, [.ref 36, .int day, .int what, .null], [])] (hp L xs A V K T) v h' :=
  fn_iload_n rl_M_at_0 rfl (fn_stat (as := [.int day]) (r := []) (ls' := [.int day]) rl_M_at_1 rfl rfl rfl rfl pl_M_isDay rfl rfl (fn_iload_n rl_M_isDay_0 rfl (fn_i2l rl_M_isDay_1 (fn_lconst rl_M_isDay_2 (fn_ldc2_w rl_M_isDay_3 (fn_stat (as := [.long ((day : Int32).toInt64), .long ((0 : Int32).toInt64), .long ((1079 : Int32).toInt64)]) (r := []) (ls' := [.long ((day : Int32).toInt64), .null, .long ((0 : Int32).toInt64), .null, .long ((1079 : Int32).toInt64), .null]) rl_M_isDay_6 rfl rfl rfl rfl pl_M_in rfl rfl (fn_lload_n rl_M_in_0 rfl (fn_lload_n rl_M_in_1 rfl (fn_lcmp rl_M_in_2 (fn_if_lt rl_M_in_3 (fun k28 => fn_iconst rl_M_in_17 (fn_retci rl_M_in_18 rfl (fn_retci rl_M_isDay_9 rfl (fn_if_eq_t rl_M_at_4 (by decide +kernel) (fn_iconst rl_M_at_19 (fn_reti rl_M_at_20 rfl k28)))))) (fun k29 => fn_lload_n rl_M_in_6 rfl (fn_lload rl_M_in_7 rfl (fn_lcmp rl_M_in_9 (fn_if_gt rl_M_in_10 (fun k26 => fn_iconst rl_M_in_17 (fn_retci rl_M_in_18 rfl (fn_retci rl_M_isDay_9 rfl (fn_if_eq_t rl_M_at_4 (by decide +kernel) (fn_iconst rl_M_at_19 (fn_reti rl_M_at_20 rfl k26)))))) (fun k27 => fn_iconst rl_M_in_13 (fn_goto rl_M_in_14 (fn_retci rl_M_in_18 rfl (fn_retci rl_M_isDay_9 rfl (fn_if_eq_f rl_M_at_4 (by decide +kernel) (fn_iload_n rl_M_at_7 rfl (fn_i2l rl_M_at_8 (fn_lconst rl_M_at_9 (fn_ldc2_w rl_M_at_10 (fn_stat (as := [.long ((what : Int32).toInt64), .long ((0 : Int32).toInt64), .long ((2 : Int32).toInt64)]) (r := []) (ls' := [.long ((what : Int32).toInt64), .null, .long ((0 : Int32).toInt64), .null, .long ((2 : Int32).toInt64), .null]) rl_M_at_13 rfl rfl rfl rfl pl_M_in rfl rfl (fn_lload_n rl_M_in_0 rfl (fn_lload_n rl_M_in_1 rfl (fn_lcmp rl_M_in_2 (fn_if_lt rl_M_in_3 (fun k24 => fn_iconst rl_M_in_17 (fn_retci rl_M_in_18 rfl (fn_if_ne_t rl_M_at_16 (by decide +kernel) (fn_iconst rl_M_at_19 (fn_reti rl_M_at_20 rfl k24))))) (fun k25 => fn_lload_n rl_M_in_6 rfl (fn_lload rl_M_in_7 rfl (fn_lcmp rl_M_in_9 (fn_if_gt rl_M_in_10 (fun k22 => fn_iconst rl_M_in_17 (fn_retci rl_M_in_18 rfl (fn_if_ne_t rl_M_at_16 (by decide +kernel) (fn_iconst rl_M_at_19 (fn_reti rl_M_at_20 rfl k22))))) (fun k23 => fn_iconst rl_M_in_13 (fn_goto rl_M_in_14 (fn_retci rl_M_in_18 rfl (fn_if_ne_f rl_M_at_16 (by decide +kernel) (fn_iload_n rl_M_at_21 rfl (fn_if_ne rl_M_at_22 (fun k20 => fn_aload_n rl_M_at_25 rfl (fn_get rl_M_at_26 hp_36 rfl (fn_iload_n rl_M_at_29 rfl (fn_iald rl_M_at_30 hp_37 (fun k13 => fn_goto rl_M_at_31 (fn_istore_n (ls' := [.ref 36, .int day, .int what, .int ((A 37) day.toNatClampNeg)]) rl_M_at_40 rfl rfl (fn_iload_n rl_M_at_41 rfl (fn_iconst rl_M_at_42 (fn_icmp_ne rl_M_at_43 (fun k11 => fn_aload_n rl_M_at_46 rfl (fn_get rl_M_at_47 hp_36 rfl (fn_iload_n rl_M_at_50 rfl (fn_iald rl_M_at_51 hp_38 (fun k8 => fn_goto rl_M_at_52 (fn_reti rl_M_at_66 rfl k8)) k11)))) (fun k12 => fn_iload_n rl_M_at_55 rfl (fn_iconst rl_M_at_56 (fn_icmp_ne rl_M_at_57 (fun k9 => fn_bipush rl_M_at_60 (fn_goto rl_M_at_62 (fn_reti rl_M_at_66 rfl k9))) (fun k10 => fn_iload_n rl_M_at_65 rfl (fn_reti rl_M_at_66 rfl k10)) k12))) k13))))) k20)))) (fun k21 => fn_aload_n rl_M_at_34 rfl (fn_get rl_M_at_35 hp_36 rfl (fn_iload_n rl_M_at_38 rfl (fn_iald rl_M_at_39 hp_39 (fun k19 => fn_istore_n (ls' := [.ref 36, .int day, .int what, .int ((A 39) day.toNatClampNeg)]) rl_M_at_40 rfl rfl (fn_iload_n rl_M_at_41 rfl (fn_iconst rl_M_at_42 (fn_icmp_ne rl_M_at_43 (fun k17 => fn_aload_n rl_M_at_46 rfl (fn_get rl_M_at_47 hp_36 rfl (fn_iload_n rl_M_at_50 rfl (fn_iald rl_M_at_51 hp_38 (fun k14 => fn_goto rl_M_at_52 (fn_reti rl_M_at_66 rfl k14)) k17)))) (fun k18 => fn_iload_n rl_M_at_55 rfl (fn_iconst rl_M_at_56 (fn_icmp_ne rl_M_at_57 (fun k15 => fn_bipush rl_M_at_60 (fn_goto rl_M_at_62 (fn_reti rl_M_at_66 rfl k15))) (fun k16 => fn_iload_n rl_M_at_65 rfl (fn_reti rl_M_at_66 rfl k16)) k18))) k19)))) k21)))) k23)))))) k25)))) k27)))))))))))))) k29)))) k0))))))))))
set_option maxRecDepth 100000 in
set_option maxHeartbeats 4000000 in
theorem sg_M_stay_0 {L : Nat} {xs : Nat → Int32} {A V : Nat → Nat → Int32} {K : Nat → Option Nat} {T : am_H} {v : Option Int32} {h' : am_H} {land frm to : Int32} (k0 :
    if (lg_cmp ((land : Int32).toInt64) (((-1) : Int32).toInt64)) < 0 then (
      v = some (-1) ∧ h' = hp L xs A V K T)
    else (
      if 0 < (lg_cmp ((land : Int32).toInt64) ((5 : Int32).toInt64)) then (
        v = some (-1) ∧ h' = hp L xs A V K T)
      else (
        if (lg_cmp ((frm : Int32).toInt64) ((0 : Int32).toInt64)) < 0 then (
          v = some (-1) ∧ h' = hp L xs A V K T)
        else (
          if 0 < (lg_cmp ((frm : Int32).toInt64) ((1079 : Int32).toInt64)) then (
            v = some (-1) ∧ h' = hp L xs A V K T)
          else (
            if (lg_cmp ((to : Int32).toInt64) ((frm : Int32).toInt64)) < 0 then (
              v = some (-1) ∧ h' = hp L xs A V K T)
            else (
              if 0 < (lg_cmp ((to : Int32).toInt64) ((1079 : Int32).toInt64)) then (
                v = some (-1) ∧ h' = hp L xs A V K T)
              else (
                am_fin [(z_M_stay, 23, [.ref 36, .int land, .int frm, .int to, .int 0, .int frm], [])] (hp L xs A V K T) v h'))))))) : am_fin [(z_M_stay, 0, [.ref 36, .int land, .int frm, .int to, .null, .null], [])] (hp L xs A V K T) v h' :=
  fn_iload_n rl_M_stay_0 rfl (fn_stat (as := [.int land]) (r := []) (ls' := [.int land]) rl_M_stay_1 rfl rfl rfl rfl pl_M_isPlace rfl rfl (fn_iload_n rl_M_isPlace_0 rfl (fn_i2l rl_M_isPlace_1 (fn_ldc2_w rl_M_isPlace_2 (fn_ldc2_w rl_M_isPlace_5 (fn_stat (as := [.long ((land : Int32).toInt64), .long (((-1) : Int32).toInt64), .long ((5 : Int32).toInt64)]) (r := []) (ls' := [.long ((land : Int32).toInt64), .null, .long (((-1) : Int32).toInt64), .null, .long ((5 : Int32).toInt64), .null]) rl_M_isPlace_8 rfl rfl rfl rfl pl_M_in rfl rfl (fn_lload_n rl_M_in_0 rfl (fn_lload_n rl_M_in_1 rfl (fn_lcmp rl_M_in_2 (fn_if_lt rl_M_in_3 (fun k40 => fn_iconst rl_M_in_17 (fn_retci rl_M_in_18 rfl (fn_retci rl_M_isPlace_11 rfl (fn_if_eq_t rl_M_stay_4 (by decide +kernel) (fn_iconst rl_M_stay_15 (fn_reti rl_M_stay_16 rfl k40)))))) (fun k41 => fn_lload_n rl_M_in_6 rfl (fn_lload rl_M_in_7 rfl (fn_lcmp rl_M_in_9 (fn_if_gt rl_M_in_10 (fun k38 => fn_iconst rl_M_in_17 (fn_retci rl_M_in_18 rfl (fn_retci rl_M_isPlace_11 rfl (fn_if_eq_t rl_M_stay_4 (by decide +kernel) (fn_iconst rl_M_stay_15 (fn_reti rl_M_stay_16 rfl k38)))))) (fun k39 => fn_iconst rl_M_in_13 (fn_goto rl_M_in_14 (fn_retci rl_M_in_18 rfl (fn_retci rl_M_isPlace_11 rfl (fn_if_eq_f rl_M_stay_4 (by decide +kernel) (fn_iload_n rl_M_stay_7 rfl (fn_iload_n rl_M_stay_8 rfl (fn_stat (as := [.int frm, .int to]) (r := []) (ls' := [.int frm, .int to]) rl_M_stay_9 rfl rfl rfl rfl pl_M_areDays rfl rfl (fn_iload_n rl_M_areDays_0 rfl (fn_stat (as := [.int frm]) (r := []) (ls' := [.int frm]) rl_M_areDays_1 rfl rfl rfl rfl pl_M_isDay rfl rfl (fn_iload_n rl_M_isDay_0 rfl (fn_i2l rl_M_isDay_1 (fn_lconst rl_M_isDay_2 (fn_ldc2_w rl_M_isDay_3 (fn_stat (as := [.long ((frm : Int32).toInt64), .long ((0 : Int32).toInt64), .long ((1079 : Int32).toInt64)]) (r := []) (ls' := [.long ((frm : Int32).toInt64), .null, .long ((0 : Int32).toInt64), .null, .long ((1079 : Int32).toInt64), .null]) rl_M_isDay_6 rfl rfl rfl rfl pl_M_in rfl rfl (fn_lload_n rl_M_in_0 rfl (fn_lload_n rl_M_in_1 rfl (fn_lcmp rl_M_in_2 (fn_if_lt rl_M_in_3 (fun k36 => fn_iconst rl_M_in_17 (fn_retci rl_M_in_18 rfl (fn_retci rl_M_isDay_9 rfl (fn_if_eq_t rl_M_areDays_4 (by decide +kernel) (fn_iconst rl_M_areDays_24 (fn_retci rl_M_areDays_25 rfl (fn_if_ne_t rl_M_stay_12 (by decide +kernel) (fn_iconst rl_M_stay_15 (fn_reti rl_M_stay_16 rfl k36))))))))) (fun k37 => fn_lload_n rl_M_in_6 rfl (fn_lload rl_M_in_7 rfl (fn_lcmp rl_M_in_9 (fn_if_gt rl_M_in_10 (fun k34 => fn_iconst rl_M_in_17 (fn_retci rl_M_in_18 rfl (fn_retci rl_M_isDay_9 rfl (fn_if_eq_t rl_M_areDays_4 (by decide +kernel) (fn_iconst rl_M_areDays_24 (fn_retci rl_M_areDays_25 rfl (fn_if_ne_t rl_M_stay_12 (by decide +kernel) (fn_iconst rl_M_stay_15 (fn_reti rl_M_stay_16 rfl k34))))))))) (fun k35 => fn_iconst rl_M_in_13 (fn_goto rl_M_in_14 (fn_retci rl_M_in_18 rfl (fn_retci rl_M_isDay_9 rfl (fn_if_eq_f rl_M_areDays_4 (by decide +kernel) (fn_iload_n rl_M_areDays_7 rfl (fn_i2l rl_M_areDays_8 (fn_iload_n rl_M_areDays_9 rfl (fn_i2l rl_M_areDays_10 (fn_ldc2_w rl_M_areDays_11 (fn_stat (as := [.long ((to : Int32).toInt64), .long ((frm : Int32).toInt64), .long ((1079 : Int32).toInt64)]) (r := []) (ls' := [.long ((to : Int32).toInt64), .null, .long ((frm : Int32).toInt64), .null, .long ((1079 : Int32).toInt64), .null]) rl_M_areDays_14 rfl rfl rfl rfl pl_M_in rfl rfl (fn_lload_n rl_M_in_0 rfl (fn_lload_n rl_M_in_1 rfl (fn_lcmp rl_M_in_2 (fn_if_lt rl_M_in_3 (fun k32 => fn_iconst rl_M_in_17 (fn_retci rl_M_in_18 rfl (fn_if_eq_t rl_M_areDays_17 (by decide +kernel) (fn_iconst rl_M_areDays_24 (fn_retci rl_M_areDays_25 rfl (fn_if_ne_t rl_M_stay_12 (by decide +kernel) (fn_iconst rl_M_stay_15 (fn_reti rl_M_stay_16 rfl k32)))))))) (fun k33 => fn_lload_n rl_M_in_6 rfl (fn_lload rl_M_in_7 rfl (fn_lcmp rl_M_in_9 (fn_if_gt rl_M_in_10 (fun k30 => fn_iconst rl_M_in_17 (fn_retci rl_M_in_18 rfl (fn_if_eq_t rl_M_areDays_17 (by decide +kernel) (fn_iconst rl_M_areDays_24 (fn_retci rl_M_areDays_25 rfl (fn_if_ne_t rl_M_stay_12 (by decide +kernel) (fn_iconst rl_M_stay_15 (fn_reti rl_M_stay_16 rfl k30)))))))) (fun k31 => fn_iconst rl_M_in_13 (fn_goto rl_M_in_14 (fn_retci rl_M_in_18 rfl (fn_if_eq_f rl_M_areDays_17 (by decide +kernel) (fn_iconst rl_M_areDays_20 (fn_goto rl_M_areDays_21 (fn_retci rl_M_areDays_25 rfl (fn_if_ne_f rl_M_stay_12 (by decide +kernel) (fn_iconst rl_M_stay_17 (fn_istore (ls' := [.ref 36, .int land, .int frm, .int to, .int 0, .null]) rl_M_stay_18 rfl rfl (fn_iload_n rl_M_stay_20 rfl (fn_istore (ls' := [.ref 36, .int land, .int frm, .int to, .int 0, .int frm]) rl_M_stay_21 rfl rfl (k31))))))))))))) k33)))) k35))))))))))))))) k37)))) k39))))))))))))))))))) k41)))) k0))))))))))
set_option maxRecDepth 100000 in
set_option maxHeartbeats 4000000 in
theorem sg_M_stay_23 {L : Nat} {xs : Nat → Int32} {A V : Nat → Nat → Int32} {K : Nat → Option Nat} {T : am_H} {v : Option Int32} {h' : am_H} {v1 v2 v3 v4 v5 : Int32} (k0 :
    if v3 < v5 then (
      v = some v4 ∧ h' = hp L xs A V K T)
    else (
      ¬ (v5 < 0 ∨ 1080 ≤ v5.toNatClampNeg) ∧ (
      if ((A 37) v5.toNatClampNeg) = v1 then (
        ¬ (v5 < 0 ∨ 1080 ≤ v5.toNatClampNeg) ∧ (
        am_fin [(z_M_stay, 23, [.ref 36, .int v1, .int v2, .int v3, .int (v4 + 0), .int (v5 + 1)], [])] (hp L xs (upA A 37 (upd (A 37) v5.toNatClampNeg v1)) V K T) v h'))
      else (
        ¬ (v5 < 0 ∨ 1080 ≤ v5.toNatClampNeg) ∧ (
        am_fin [(z_M_stay, 23, [.ref 36, .int v1, .int v2, .int v3, .int (v4 + 1), .int (v5 + 1)], [])] (hp L xs (upA A 37 (upd (A 37) v5.toNatClampNeg v1)) V K T) v h'))))) : am_fin [(z_M_stay, 23, [.ref 36, .int v1, .int v2, .int v3, .int v4, .int v5], [])] (hp L xs A V K T) v h' :=
  fn_iload rl_M_stay_23 rfl (fn_iload_n rl_M_stay_25 rfl (fn_icmp_gt rl_M_stay_26 (fun k47 => fn_iload rl_M_stay_64 rfl (fn_reti rl_M_stay_66 rfl k47)) (fun k48 => fn_iload rl_M_stay_29 rfl (fn_aload_n rl_M_stay_31 rfl (fn_get rl_M_stay_32 hp_36 rfl (fn_iload rl_M_stay_35 rfl (fn_iald rl_M_stay_37 hp_37 (fun k46 => fn_iload_n rl_M_stay_38 rfl (fn_icmp_ne rl_M_stay_39 (fun k44 => fn_iconst rl_M_stay_42 (fn_goto rl_M_stay_43 (fn_iadd rl_M_stay_47 (fn_istore (ls' := [.ref 36, .int v1, .int v2, .int v3, .int (v4 + 0), .int v5]) rl_M_stay_48 rfl rfl (fn_aload_n rl_M_stay_50 rfl (fn_get rl_M_stay_51 hp_36 rfl (fn_iload rl_M_stay_54 rfl (fn_iload_n rl_M_stay_56 rfl (fn_iast rl_M_stay_57 hp_37 hps_37 (fun k42 => fn_iinc (ls' := [.ref 36, .int v1, .int v2, .int v3, .int (v4 + 0), .int (v5 + 1)]) rl_M_stay_58 rfl rfl rfl (fn_goto rl_M_stay_61 (k42))) k44))))))))) (fun k45 => fn_iconst rl_M_stay_46 (fn_iadd rl_M_stay_47 (fn_istore (ls' := [.ref 36, .int v1, .int v2, .int v3, .int (v4 + 1), .int v5]) rl_M_stay_48 rfl rfl (fn_aload_n rl_M_stay_50 rfl (fn_get rl_M_stay_51 hp_36 rfl (fn_iload rl_M_stay_54 rfl (fn_iload_n rl_M_stay_56 rfl (fn_iast rl_M_stay_57 hp_37 hps_37 (fun k43 => fn_iinc (ls' := [.ref 36, .int v1, .int v2, .int v3, .int (v4 + 1), .int (v5 + 1)]) rl_M_stay_58 rfl rfl rfl (fn_goto rl_M_stay_61 (k43))) k45)))))))) k46)) k48))))) k0))
set_option maxRecDepth 100000 in
set_option maxHeartbeats 4000000 in
theorem sg_L_window_0 {L : Nat} {xs : Nat → Int32} {A V : Nat → Nat → Int32} {K : Nat → Option Nat} {T : am_H} {v : Option Int32} {h' : am_H} {land w m : Int32} (k0 :
    if land < 0 then (
      v = some (-1) ∧ h' = hp L xs A V K T)
    else (
      if 5 < land then (
        v = some (-1) ∧ h' = hp L xs A V K T)
      else (
        if w < 0 then (
          v = some (-1) ∧ h' = hp L xs A V K T)
        else (
          if 360 < w then (
            v = some (-1) ∧ h' = hp L xs A V K T)
          else (
            if m < 0 then (
              v = some (-1) ∧ h' = hp L xs A V K T)
            else (
              if w < m then (
                v = some (-1) ∧ h' = hp L xs A V K T)
              else (
                ¬ (land < 0 ∨ 6 ≤ land.toNatClampNeg) ∧ (
                ¬ (land < 0 ∨ 6 ≤ land.toNatClampNeg) ∧ (
                ¬ (land < 0 ∨ 6 ≤ land.toNatClampNeg) ∧ (
                v = some ((A 11) land.toNatClampNeg) ∧ h' = hp L xs (upA (upA A 11 (upd (A 11) land.toNatClampNeg w)) 12 (upd ((upA A 11 (upd (A 11) land.toNatClampNeg w)) 12) land.toNatClampNeg m)) V K T)))))))))) : am_fin [(z_L_window, 0, [.ref 1, .int land, .int w, .int m, .null], [])] (hp L xs A V K T) v h' :=
  fn_iload_n rl_L_window_0 rfl (fn_stat (as := [.int land]) (r := []) (ls' := [.int land]) rl_L_window_1 rfl rfl rfl rfl pl_L_isLand rfl rfl (fn_iload_n rl_L_isLand_0 rfl (fn_iconst rl_L_isLand_1 (fn_iconst rl_L_isLand_2 (fn_stat (as := [.int land, .int 0, .int 5]) (r := []) (ls' := [.int land, .int 0, .int 5]) rl_L_isLand_3 rfl rfl rfl rfl pl_L_isAmong rfl rfl (fn_iload_n rl_L_isAmong_0 rfl (fn_iload_n rl_L_isAmong_1 rfl (fn_icmp_lt rl_L_isAmong_2 (fun k62 => fn_iconst rl_L_isAmong_14 (fn_retci rl_L_isAmong_15 rfl (fn_retci rl_L_isLand_6 rfl (fn_if_eq_t rl_L_window_4 (by decide +kernel) (fn_iconst rl_L_window_27 (fn_reti rl_L_window_28 rfl k62)))))) (fun k63 => fn_iload_n rl_L_isAmong_5 rfl (fn_iload_n rl_L_isAmong_6 rfl (fn_icmp_gt rl_L_isAmong_7 (fun k60 => fn_iconst rl_L_isAmong_14 (fn_retci rl_L_isAmong_15 rfl (fn_retci rl_L_isLand_6 rfl (fn_if_eq_t rl_L_window_4 (by decide +kernel) (fn_iconst rl_L_window_27 (fn_reti rl_L_window_28 rfl k60)))))) (fun k61 => fn_iconst rl_L_isAmong_10 (fn_goto rl_L_isAmong_11 (fn_retci rl_L_isAmong_15 rfl (fn_retci rl_L_isLand_6 rfl (fn_if_eq_f rl_L_window_4 (by decide +kernel) (fn_iload_n rl_L_window_7 rfl (fn_iconst rl_L_window_8 (fn_sipush rl_L_window_9 (fn_stat (as := [.int w, .int 0, .int 360]) (r := []) (ls' := [.int w, .int 0, .int 360]) rl_L_window_12 rfl rfl rfl rfl pl_L_isAmong rfl rfl (fn_iload_n rl_L_isAmong_0 rfl (fn_iload_n rl_L_isAmong_1 rfl (fn_icmp_lt rl_L_isAmong_2 (fun k58 => fn_iconst rl_L_isAmong_14 (fn_retci rl_L_isAmong_15 rfl (fn_if_eq_t rl_L_window_15 (by decide +kernel) (fn_iconst rl_L_window_27 (fn_reti rl_L_window_28 rfl k58))))) (fun k59 => fn_iload_n rl_L_isAmong_5 rfl (fn_iload_n rl_L_isAmong_6 rfl (fn_icmp_gt rl_L_isAmong_7 (fun k56 => fn_iconst rl_L_isAmong_14 (fn_retci rl_L_isAmong_15 rfl (fn_if_eq_t rl_L_window_15 (by decide +kernel) (fn_iconst rl_L_window_27 (fn_reti rl_L_window_28 rfl k56))))) (fun k57 => fn_iconst rl_L_isAmong_10 (fn_goto rl_L_isAmong_11 (fn_retci rl_L_isAmong_15 rfl (fn_if_eq_f rl_L_window_15 (by decide +kernel) (fn_iload_n rl_L_window_18 rfl (fn_iconst rl_L_window_19 (fn_iload_n rl_L_window_20 rfl (fn_stat (as := [.int m, .int 0, .int w]) (r := []) (ls' := [.int m, .int 0, .int w]) rl_L_window_21 rfl rfl rfl rfl pl_L_isAmong rfl rfl (fn_iload_n rl_L_isAmong_0 rfl (fn_iload_n rl_L_isAmong_1 rfl (fn_icmp_lt rl_L_isAmong_2 (fun k54 => fn_iconst rl_L_isAmong_14 (fn_retci rl_L_isAmong_15 rfl (fn_if_ne_t rl_L_window_24 (by decide +kernel) (fn_iconst rl_L_window_27 (fn_reti rl_L_window_28 rfl k54))))) (fun k55 => fn_iload_n rl_L_isAmong_5 rfl (fn_iload_n rl_L_isAmong_6 rfl (fn_icmp_gt rl_L_isAmong_7 (fun k52 => fn_iconst rl_L_isAmong_14 (fn_retci rl_L_isAmong_15 rfl (fn_if_ne_t rl_L_window_24 (by decide +kernel) (fn_iconst rl_L_window_27 (fn_reti rl_L_window_28 rfl k52))))) (fun k53 => fn_iconst rl_L_isAmong_10 (fn_goto rl_L_isAmong_11 (fn_retci rl_L_isAmong_15 rfl (fn_if_ne_f rl_L_window_24 (by decide +kernel) (fn_aload_n rl_L_window_29 rfl (fn_get rl_L_window_30 hp_1 rfl (fn_get rl_L_window_33 hp_2 rfl (fn_get rl_L_window_36 hp_10 rfl (fn_iload_n rl_L_window_39 rfl (fn_iald rl_L_window_40 hp_11 (fun k51 => fn_istore (ls' := [.ref 1, .int land, .int w, .int m, .int ((A 11) land.toNatClampNeg)]) rl_L_window_41 rfl rfl (fn_aload_n rl_L_window_43 rfl (fn_get rl_L_window_44 hp_1 rfl (fn_get rl_L_window_47 hp_2 rfl (fn_get rl_L_window_50 hp_10 rfl (fn_iload_n rl_L_window_53 rfl (fn_iload_n rl_L_window_54 rfl (fn_iast rl_L_window_55 hp_11 hps_11 (fun k50 => fn_aload_n rl_L_window_56 rfl (fn_get rl_L_window_57 hp_1 rfl (fn_get rl_L_window_60 hp_2 rfl (fn_get rl_L_window_63 hp_10 rfl (fn_iload_n rl_L_window_66 rfl (fn_iload_n rl_L_window_67 rfl (fn_iast rl_L_window_68 hp_12 hps_12 (fun k49 => fn_iload rl_L_window_69 rfl (fn_reti rl_L_window_71 rfl k49)) k50))))))) k51)))))))) k53)))))))))) k55))) k57))))))))))) k59))) k61)))))))))))) k63))) k0))))))))
