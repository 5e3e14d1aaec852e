theorem rl_L_spot_5 : (am_pg z_L_spot).2 5 = some (.ireturn, 6, 0, 0, 0, 0, 0, []) := (congrFun pm_L_spot 5).trans rfl
theorem rl_L_nextDraw_0 : (am_pg z_L_nextDraw).2 0 = some (.sipush (25173), 3, 0, 0, 0, 0, 25173, []) := (congrFun pm_L_nextDraw 0).trans rfl
theorem rl_L_nextDraw_3 : (am_pg z_L_nextDraw).2 3 = some (.iload_n 0, 4, 0, 0, 0, 0, 0, []) := (congrFun pm_L_nextDraw 3).trans rfl
theorem rl_L_nextDraw_4 : (am_pg z_L_nextDraw).2 4 = some (.imul, 5, 0, 0, 0, 0, 0, []) := (congrFun pm_L_nextDraw 4).trans rfl
theorem rl_L_nextDraw_5 : (am_pg z_L_nextDraw).2 5 = some (.sipush (13849), 8, 0, 0, 0, 0, 13849, []) := (congrFun pm_L_nextDraw 5).trans rfl
theorem rl_L_nextDraw_8 : (am_pg z_L_nextDraw).2 8 = some (.iadd, 9, 0, 0, 0, 0, 0, []) := (congrFun pm_L_nextDraw 8).trans rfl
theorem rl_L_nextDraw_9 : (am_pg z_L_nextDraw).2 9 = some (.ldc 137, 11, 0, 0, 0, 0, 65535, []) := (congrFun pm_L_nextDraw 9).trans rfl
theorem rl_L_nextDraw_11 : (am_pg z_L_nextDraw).2 11 = some (.iand, 12, 0, 0, 0, 0, 0, []) := (congrFun pm_L_nextDraw 11).trans rfl
theorem rl_L_nextDraw_12 : (am_pg z_L_nextDraw).2 12 = some (.ireturn, 13, 0, 0, 0, 0, 0, []) := (congrFun pm_L_nextDraw 12).trans rfl
theorem rl_L_rowLength_0 : (am_pg z_L_rowLength).2 0 = some (.iload_n 0, 1, 0, 0, 0, 0, 0, []) := (congrFun pm_L_rowLength 0).trans rfl
theorem rl_L_rowLength_1 : (am_pg z_L_rowLength).2 1 = some (.bipush (7), 3, 0, 0, 0, 0, 7, []) := (congrFun pm_L_rowLength 1).trans rfl
theorem rl_L_rowLength_3 : (am_pg z_L_rowLength).2 3 = some (.iand, 4, 0, 0, 0, 0, 0, []) := (congrFun pm_L_rowLength 3).trans rfl
theorem rl_L_rowLength_4 : (am_pg z_L_rowLength).2 4 = some (.ireturn, 5, 0, 0, 0, 0, 0, []) := (congrFun pm_L_rowLength 4).trans rfl
theorem rl_L_rowLetter_0 : (am_pg z_L_rowLetter).2 0 = some (.iload_n 0, 1, 0, 0, 0, 0, 0, []) := (congrFun pm_L_rowLetter 0).trans rfl
theorem rl_L_rowLetter_1 : (am_pg z_L_rowLetter).2 1 = some (.iconst (3), 2, 0, 0, 0, 0, 3, []) := (congrFun pm_L_rowLetter 1).trans rfl
theorem rl_L_rowLetter_2 : (am_pg z_L_rowLetter).2 2 = some (.iconst (2), 3, 0, 0, 0, 0, 2, []) := (congrFun pm_L_rowLetter 2).trans rfl
theorem rl_L_rowLetter_3 : (am_pg z_L_rowLetter).2 3 = some (.iload_n 1, 4, 1, 0, 0, 0, 0, []) := (congrFun pm_L_rowLetter 3).trans rfl
theorem rl_L_rowLetter_4 : (am_pg z_L_rowLetter).2 4 = some (.imul, 5, 0, 0, 0, 0, 0, []) := (congrFun pm_L_rowLetter 4).trans rfl
theorem rl_L_rowLetter_5 : (am_pg z_L_rowLetter).2 5 = some (.iadd, 6, 0, 0, 0, 0, 0, []) := (congrFun pm_L_rowLetter 5).trans rfl
theorem rl_L_rowLetter_6 : (am_pg z_L_rowLetter).2 6 = some (.ishr, 7, 0, 0, 0, 0, 0, []) := (congrFun pm_L_rowLetter 6).trans rfl
theorem rl_L_rowLetter_7 : (am_pg z_L_rowLetter).2 7 = some (.iconst (3), 8, 0, 0, 0, 0, 3, []) := (congrFun pm_L_rowLetter 7).trans rfl
theorem rl_L_rowLetter_8 : (am_pg z_L_rowLetter).2 8 = some (.iand, 9, 0, 0, 0, 0, 0, []) := (congrFun pm_L_rowLetter 8).trans rfl
theorem rl_L_rowLetter_9 : (am_pg z_L_rowLetter).2 9 = some (.ireturn, 10, 0, 0, 0, 0, 0, []) := (congrFun pm_L_rowLetter 9).trans rfl
theorem rl_L_rowWith_0 : (am_pg z_L_rowWith).2 0 = some (.iload_n 0, 1, 0, 0, 0, 0, 0, []) := (congrFun pm_L_rowWith 0).trans rfl
theorem rl_L_rowWith_1 : (am_pg z_L_rowWith).2 1 = some (.iconst (1), 2, 0, 0, 0, 0, 1, []) := (congrFun pm_L_rowWith 1).trans rfl
theorem rl_L_rowWith_2 : (am_pg z_L_rowWith).2 2 = some (.iadd, 3, 0, 0, 0, 0, 0, []) := (congrFun pm_L_rowWith 2).trans rfl
theorem rl_L_rowWith_3 : (am_pg z_L_rowWith).2 3 = some (.iload_n 1, 4, 1, 0, 0, 0, 0, []) := (congrFun pm_L_rowWith 3).trans rfl
theorem rl_L_rowWith_4 : (am_pg z_L_rowWith).2 4 = some (.iconst (3), 5, 0, 0, 0, 0, 3, []) := (congrFun pm_L_rowWith 4).trans rfl
theorem rl_L_rowWith_5 : (am_pg z_L_rowWith).2 5 = some (.iconst (2), 6, 0, 0, 0, 0, 2, []) := (congrFun pm_L_rowWith 5).trans rfl
theorem rl_L_rowWith_6 : (am_pg z_L_rowWith).2 6 = some (.iload_n 0, 7, 0, 0, 0, 0, 0, []) := (congrFun pm_L_rowWith 6).trans rfl
theorem rl_L_rowWith_7 : (am_pg z_L_rowWith).2 7 = some (.invokestatic 218, 10, 80, 1, 0, 67, 0, []) := (congrFun pm_L_rowWith 7).trans rfl
theorem rl_L_rowWith_10 : (am_pg z_L_rowWith).2 10 = some (.imul, 11, 0, 0, 0, 0, 0, []) := (congrFun pm_L_rowWith 10).trans rfl
theorem rl_L_rowWith_11 : (am_pg z_L_rowWith).2 11 = some (.iadd, 12, 0, 0, 0, 0, 0, []) := (congrFun pm_L_rowWith 11).trans rfl
theorem rl_L_rowWith_12 : (am_pg z_L_rowWith).2 12 = some (.ishl, 13, 0, 0, 0, 0, 0, []) := (congrFun pm_L_rowWith 12).trans rfl
theorem rl_L_rowWith_13 : (am_pg z_L_rowWith).2 13 = some (.ior, 14, 0, 0, 0, 0, 0, []) := (congrFun pm_L_rowWith 13).trans rfl
theorem rl_L_rowWith_14 : (am_pg z_L_rowWith).2 14 = some (.ireturn, 15, 0, 0, 0, 0, 0, []) := (congrFun pm_L_rowWith 14).trans rfl
theorem rl_M_in_0 : (am_pg z_M_in).2 0 = some (.lload_n 0, 1, 0, 0, 0, 0, 0, []) := (congrFun pm_M_in 0).trans rfl
theorem rl_M_in_1 : (am_pg z_M_in).2 1 = some (.lload_n 2, 2, 2, 0, 0, 0, 0, []) := (congrFun pm_M_in 1).trans rfl
theorem rl_M_in_2 : (am_pg z_M_in).2 2 = some (.lcmp, 3, 0, 0, 0, 0, 0, []) := (congrFun pm_M_in 2).trans rfl
theorem rl_M_in_3 : (am_pg z_M_in).2 3 = some (.ifCond .lt (14), 6, 17, 0, 0, 0, 0, []) := (congrFun pm_M_in 3).trans rfl
theorem rl_M_in_6 : (am_pg z_M_in).2 6 = some (.lload_n 0, 7, 0, 0, 0, 0, 0, []) := (congrFun pm_M_in 6).trans rfl
theorem rl_M_in_7 : (am_pg z_M_in).2 7 = some (.lload 4, 9, 4, 0, 0, 0, 0, []) := (congrFun pm_M_in 7).trans rfl
theorem rl_M_in_9 : (am_pg z_M_in).2 9 = some (.lcmp, 10, 0, 0, 0, 0, 0, []) := (congrFun pm_M_in 9).trans rfl
theorem rl_M_in_10 : (am_pg z_M_in).2 10 = some (.ifCond .gt (7), 13, 17, 0, 0, 0, 0, []) := (congrFun pm_M_in 10).trans rfl
theorem rl_M_in_13 : (am_pg z_M_in).2 13 = some (.iconst (1), 14, 0, 0, 0, 0, 1, []) := (congrFun pm_M_in 13).trans rfl
theorem rl_M_in_14 : (am_pg z_M_in).2 14 = some (.goto (4), 17, 18, 0, 0, 0, 0, []) := (congrFun pm_M_in 14).trans rfl
theorem rl_M_in_17 : (am_pg z_M_in).2 17 = some (.iconst (0), 18, 0, 0, 0, 0, 0, []) := (congrFun pm_M_in 17).trans rfl
theorem rl_M_in_18 : (am_pg z_M_in).2 18 = some (.ireturn, 19, 0, 0, 1, 0, 0, []) := (congrFun pm_M_in 18).trans rfl
theorem rl_M_isLand_0 : (am_pg z_M_isLand).2 0 = some (.iload_n 0, 1, 0, 0, 0, 0, 0, []) := (congrFun pm_M_isLand 0).trans rfl
theorem rl_M_isLand_1 : (am_pg z_M_isLand).2 1 = some (.i2l, 2, 0, 0, 0, 0, 0, []) := (congrFun pm_M_isLand 1).trans rfl
theorem rl_M_isLand_2 : (am_pg z_M_isLand).2 2 = some (.lconst 0, 3, 0, 0, 0, 0, 0, []) := (congrFun pm_M_isLand 2).trans rfl
theorem rl_M_isLand_3 : (am_pg z_M_isLand).2 3 = some (.ldc2_w 64, 6, 0, 0, 0, 7, 5, []) := (congrFun pm_M_isLand 3).trans rfl
theorem rl_M_isLand_6 : (am_pg z_M_isLand).2 6 = some (.invokestatic 66, 9, 84, 3, 0, 210, 0, []) := (congrFun pm_M_isLand 6).trans rfl
theorem rl_M_isLand_9 : (am_pg z_M_isLand).2 9 = some (.ireturn, 10, 0, 0, 1, 0, 0, []) := (congrFun pm_M_isLand 9).trans rfl
theorem rl_M_isPlace_0 : (am_pg z_M_isPlace).2 0 = some (.iload_n 0, 1, 0, 0, 0, 0, 0, []) := (congrFun pm_M_isPlace 0).trans rfl
theorem rl_M_isPlace_1 : (am_pg z_M_isPlace).2 1 = some (.i2l, 2, 0, 0, 0, 0, 0, []) := (congrFun pm_M_isPlace 1).trans rfl
theorem rl_M_isPlace_2 : (am_pg z_M_isPlace).2 2 = some (.ldc2_w 70, 5, 0, 0, 0, 6, -1, []) := (congrFun pm_M_isPlace 2).trans rfl
theorem rl_M_isPlace_5 : (am_pg z_M_isPlace).2 5 = some (.ldc2_w 64, 8, 0, 0, 0, 7, 5, []) := (congrFun pm_M_isPlace 5).trans rfl
theorem rl_M_isPlace_8 : (am_pg z_M_isPlace).2 8 = some (.invokestatic 66, 11, 84, 3, 0, 210, 0, []) := (congrFun pm_M_isPlace 8).trans rfl
theorem rl_M_isPlace_11 : (am_pg z_M_isPlace).2 11 = some (.ireturn, 12, 0, 0, 1, 0, 0, []) := (congrFun pm_M_isPlace 11).trans rfl
theorem rl_M_isDay_0 : (am_pg z_M_isDay).2 0 = some (.iload_n 0, 1, 0, 0, 0, 0, 0, []) := (congrFun pm_M_isDay 0).trans rfl
theorem rl_M_isDay_1 : (am_pg z_M_isDay).2 1 = some (.i2l, 2, 0, 0, 0, 0, 0, []) := (congrFun pm_M_isDay 1).trans rfl
theorem rl_M_isDay_2 : (am_pg z_M_isDay).2 2 = some (.lconst 0, 3, 0, 0, 0, 0, 0, []) := (congrFun pm_M_isDay 2).trans rfl
theorem rl_M_isDay_3 : (am_pg z_M_isDay).2 3 = some (.ldc2_w 72, 6, 0, 0, 0, 5, 1079, []) := (congrFun pm_M_isDay 3).trans rfl
theorem rl_M_isDay_6 : (am_pg z_M_isDay).2 6 = some (.invokestatic 66, 9, 84, 3, 0, 210, 0, []) := (congrFun pm_M_isDay 6).trans rfl
theorem rl_M_isDay_9 : (am_pg z_M_isDay).2 9 = some (.ireturn, 10, 0, 0, 1, 0, 0, []) := (congrFun pm_M_isDay 9).trans rfl
theorem rl_M_areDays_0 : (am_pg z_M_areDays).2 0 = some (.iload_n 0, 1, 0, 0, 0, 0, 0, []) := (congrFun pm_M_areDays 0).trans rfl
theorem rl_M_areDays_1 : (am_pg z_M_areDays).2 1 = some (.invokestatic 74, 4, 87, 1, 0, 221, 0, []) := (congrFun pm_M_areDays 1).trans rfl
theorem rl_M_areDays_4 : (am_pg z_M_areDays).2 4 = some (.ifCond .eq (20), 7, 24, 0, 0, 0, 0, []) := (congrFun pm_M_areDays 4).trans rfl
theorem rl_M_areDays_7 : (am_pg z_M_areDays).2 7 = some (.iload_n 1, 8, 1, 0, 0, 0, 0, []) := (congrFun pm_M_areDays 7).trans rfl
theorem rl_M_areDays_8 : (am_pg z_M_areDays).2 8 = some (.i2l, 9, 0, 0, 0, 0, 0, []) := (congrFun pm_M_areDays 8).trans rfl
theorem rl_M_areDays_9 : (am_pg z_M_areDays).2 9 = some (.iload_n 0, 10, 0, 0, 0, 0, 0, []) := (congrFun pm_M_areDays 9).trans rfl
theorem rl_M_areDays_10 : (am_pg z_M_areDays).2 10 = some (.i2l, 11, 0, 0, 0, 0, 0, []) := (congrFun pm_M_areDays 10).trans rfl
theorem rl_M_areDays_11 : (am_pg z_M_areDays).2 11 = some (.ldc2_w 72, 14, 0, 0, 0, 5, 1079, []) := (congrFun pm_M_areDays 11).trans rfl
theorem rl_M_areDays_14 : (am_pg z_M_areDays).2 14 = some (.invokestatic 66, 17, 84, 3, 0, 210, 0, []) := (congrFun pm_M_areDays 14).trans rfl
theorem rl_M_areDays_17 : (am_pg z_M_areDays).2 17 = some (.ifCond .eq (7), 20, 24, 0, 0, 0, 0, []) := (congrFun pm_M_areDays 17).trans rfl
theorem rl_M_areDays_20 : (am_pg z_M_areDays).2 20 = some (.iconst (1), 21, 0, 0, 0, 0, 1, []) := (congrFun pm_M_areDays 20).trans rfl
theorem rl_M_areDays_21 : (am_pg z_M_areDays).2 21 = some (.goto (4), 24, 25, 0, 0, 0, 0, []) := (congrFun pm_M_areDays 21).trans rfl
theorem rl_M_areDays_24 : (am_pg z_M_areDays).2 24 = some (.iconst (0), 25, 0, 0, 0, 0, 0, []) := (congrFun pm_M_areDays 24).trans rfl
theorem rl_M_areDays_25 : (am_pg z_M_areDays).2 25 = some (.ireturn, 26, 0, 0, 1, 0, 0, []) := (congrFun pm_M_areDays 25).trans rfl
theorem rl_M_isYear_0 : (am_pg z_M_isYear).2 0 = some (.iload_n 0, 1, 0, 0, 0, 0, 0, []) := (congrFun pm_M_isYear 0).trans rfl
theorem rl_M_isYear_1 : (am_pg z_M_isYear).2 1 = some (.i2l, 2, 0, 0, 0, 0, 0, []) := (congrFun pm_M_isYear 1).trans rfl
theorem rl_M_isYear_2 : (am_pg z_M_isYear).2 2 = some (.lconst 0, 3, 0, 0, 0, 0, 0, []) := (congrFun pm_M_isYear 2).trans rfl
theorem rl_M_isYear_3 : (am_pg z_M_isYear).2 3 = some (.ldc2_w 78, 6, 0, 0, 0, 10, 2, []) := (congrFun pm_M_isYear 3).trans rfl
theorem rl_M_isYear_6 : (am_pg z_M_isYear).2 6 = some (.invokestatic 66, 9, 84, 3, 0, 210, 0, []) := (congrFun pm_M_isYear 6).trans rfl
theorem rl_M_isYear_9 : (am_pg z_M_isYear).2 9 = some (.ireturn, 10, 0, 0, 1, 0, 0, []) := (congrFun pm_M_isYear 9).trans rfl
theorem rl_M_more_0 : (am_pg z_M_more).2 0 = some (.iload_n 0, 1, 0, 0, 0, 0, 0, []) := (congrFun pm_M_more 0).trans rfl
theorem rl_M_more_1 : (am_pg z_M_more).2 1 = some (.iload_n 1, 2, 1, 0, 0, 0, 0, []) := (congrFun pm_M_more 1).trans rfl
theorem rl_M_more_2 : (am_pg z_M_more).2 2 = some (.if_icmp .le (7), 5, 9, 0, 0, 0, 0, []) := (congrFun pm_M_more 2).trans rfl
theorem rl_M_more_5 : (am_pg z_M_more).2 5 = some (.iload_n 0, 6, 0, 0, 0, 0, 0, []) := (congrFun pm_M_more 5).trans rfl
theorem rl_M_more_6 : (am_pg z_M_more).2 6 = some (.goto (4), 9, 10, 0, 0, 0, 0, []) := (congrFun pm_M_more 6).trans rfl
theorem rl_M_more_9 : (am_pg z_M_more).2 9 = some (.iload_n 1, 10, 1, 0, 0, 0, 0, []) := (congrFun pm_M_more 9).trans rfl
theorem rl_M_more_10 : (am_pg z_M_more).2 10 = some (.ireturn, 11, 0, 0, 0, 0, 0, []) := (congrFun pm_M_more 10).trans rfl
theorem rl_M_less_0 : (am_pg z_M_less).2 0 = some (.iload_n 0, 1, 0, 0, 0, 0, 0, []) := (congrFun pm_M_less 0).trans rfl
theorem rl_M_less_1 : (am_pg z_M_less).2 1 = some (.iload_n 1, 2, 1, 0, 0, 0, 0, []) := (congrFun pm_M_less 1).trans rfl
theorem rl_M_less_2 : (am_pg z_M_less).2 2 = some (.if_icmp .ge (7), 5, 9, 0, 0, 0, 0, []) := (congrFun pm_M_less 2).trans rfl
theorem rl_M_less_5 : (am_pg z_M_less).2 5 = some (.iload_n 0, 6, 0, 0, 0, 0, 0, []) := (congrFun pm_M_less 5).trans rfl
theorem rl_M_less_6 : (am_pg z_M_less).2 6 = some (.goto (4), 9, 10, 0, 0, 0, 0, []) := (congrFun pm_M_less 6).trans rfl
theorem rl_M_less_9 : (am_pg z_M_less).2 9 = some (.iload_n 1, 10, 1, 0, 0, 0, 0, []) := (congrFun pm_M_less 9).trans rfl
theorem rl_M_less_10 : (am_pg z_M_less).2 10 = some (.ireturn, 11, 0, 0, 0, 0, 0, []) := (congrFun pm_M_less 10).trans rfl
theorem rl_M_of_0 : (am_pg z_M_of).2 0 = some (.aload_n 0, 1, 0, 0, 0, 0, 0, []) := (congrFun pm_M_of 0).trans rfl
theorem rl_M_of_1 : (am_pg z_M_of).2 1 = some (.getfield 22, 4, 9, 4, 0, 80, 0, []) := (congrFun pm_M_of 1).trans rfl
theorem rl_M_of_4 : (am_pg z_M_of).2 4 = some (.bipush (13), 6, 0, 0, 0, 0, 13, []) := (congrFun pm_M_of 4).trans rfl
theorem rl_M_of_6 : (am_pg z_M_of).2 6 = some (.iload_n 1, 7, 1, 0, 0, 0, 0, []) := (congrFun pm_M_of 6).trans rfl
theorem rl_M_of_7 : (am_pg z_M_of).2 7 = some (.imul, 8, 0, 0, 0, 0, 0, []) := (congrFun pm_M_of 7).trans rfl
theorem rl_M_of_8 : (am_pg z_M_of).2 8 = some (.iload_n 2, 9, 2, 0, 0, 0, 0, []) := (congrFun pm_M_of 8).trans rfl
theorem rl_M_of_9 : (am_pg z_M_of).2 9 = some (.iadd, 10, 0, 0, 0, 0, 0, []) := (congrFun pm_M_of 9).trans rfl
theorem rl_M_of_10 : (am_pg z_M_of).2 10 = some (.iaload, 11, 0, 0, 0, 0, 0, []) := (congrFun pm_M_of 10).trans rfl
theorem rl_M_of_11 : (am_pg z_M_of).2 11 = some (.ireturn, 12, 0, 0, 0, 0, 0, []) := (congrFun pm_M_of 11).trans rfl
theorem rl_M_sets_0 : (am_pg z_M_sets).2 0 = some (.aload_n 0, 1, 0, 0, 0, 0, 0, []) := (congrFun pm_M_sets 0).trans rfl
theorem rl_M_sets_1 : (am_pg z_M_sets).2 1 = some (.getfield 22, 4, 9, 4, 0, 80, 0, []) := (congrFun pm_M_sets 1).trans rfl
theorem rl_M_sets_4 : (am_pg z_M_sets).2 4 = some (.bipush (13), 6, 0, 0, 0, 0, 13, []) := (congrFun pm_M_sets 4).trans rfl
theorem rl_M_sets_6 : (am_pg z_M_sets).2 6 = some (.iload_n 1, 7, 1, 0, 0, 0, 0, []) := (congrFun pm_M_sets 6).trans rfl
theorem rl_M_sets_7 : (am_pg z_M_sets).2 7 = some (.imul, 8, 0, 0, 0, 0, 0, []) := (congrFun pm_M_sets 7).trans rfl
theorem rl_M_sets_8 : (am_pg z_M_sets).2 8 = some (.iload_n 2, 9, 2, 0, 0, 0, 0, []) := (congrFun pm_M_sets 8).trans rfl
theorem rl_M_sets_9 : (am_pg z_M_sets).2 9 = some (.iadd, 10, 0, 0, 0, 0, 0, []) := (congrFun pm_M_sets 9).trans rfl
theorem rl_M_sets_10 : (am_pg z_M_sets).2 10 = some (.iload_n 3, 11, 3, 0, 0, 0, 0, []) := (congrFun pm_M_sets 10).trans rfl
theorem rl_M_sets_11 : (am_pg z_M_sets).2 11 = some (.iastore, 12, 0, 0, 0, 0, 0, []) := (congrFun pm_M_sets 11).trans rfl
theorem rl_M_sets_12 : (am_pg z_M_sets).2 12 = some (.return_, 13, 0, 0, 0, 0, 0, []) := (congrFun pm_M_sets 12).trans rfl
theorem rl_M_typed4_0 : (am_pg z_M_typed4).2 0 = some (.iconst (3), 1, 0, 0, 0, 0, 3, []) := (congrFun pm_M_typed4 0).trans rfl
theorem rl_M_typed4_1 : (am_pg z_M_typed4).2 1 = some (.istore_n 2, 2, 2, 0, 0, 0, 0, []) := (congrFun pm_M_typed4 1).trans rfl
theorem rl_M_typed4_2 : (am_pg z_M_typed4).2 2 = some (.iload_n 2, 3, 2, 0, 0, 0, 0, []) := (congrFun pm_M_typed4 2).trans rfl
theorem rl_M_typed4_3 : (am_pg z_M_typed4).2 3 = some (.ifCond .lt (35), 6, 38, 0, 0, 0, 0, []) := (congrFun pm_M_typed4 3).trans rfl
theorem rl_M_typed4_6 : (am_pg z_M_typed4).2 6 = some (.aload_n 0, 7, 0, 0, 0, 0, 0, []) := (congrFun pm_M_typed4 6).trans rfl
theorem rl_M_typed4_7 : (am_pg z_M_typed4).2 7 = some (.getfield 25, 10, 9, 6, 0, 82, 0, []) := (congrFun pm_M_typed4 7).trans rfl
theorem rl_M_typed4_10 : (am_pg z_M_typed4).2 10 = some (.aload_n 0, 11, 0, 0, 0, 0, 0, []) := (congrFun pm_M_typed4 10).trans rfl
theorem rl_M_typed4_11 : (am_pg z_M_typed4).2 11 = some (.getfield 80, 14, 9, 7, 0, 83, 0, []) := (congrFun pm_M_typed4 11).trans rfl
theorem rl_M_typed4_14 : (am_pg z_M_typed4).2 14 = some (.iload_n 1, 15, 1, 0, 0, 0, 0, []) := (congrFun pm_M_typed4 14).trans rfl
theorem rl_M_typed4_15 : (am_pg z_M_typed4).2 15 = some (.bipush (8), 17, 0, 0, 0, 0, 8, []) := (congrFun pm_M_typed4 15).trans rfl
theorem rl_M_typed4_17 : (am_pg z_M_typed4).2 17 = some (.iload_n 2, 18, 2, 0, 0, 0, 0, []) := (congrFun pm_M_typed4 17).trans rfl
theorem rl_M_typed4_18 : (am_pg z_M_typed4).2 18 = some (.imul, 19, 0, 0, 0, 0, 0, []) := (congrFun pm_M_typed4 18).trans rfl
theorem rl_M_typed4_19 : (am_pg z_M_typed4).2 19 = some (.ishr, 20, 0, 0, 0, 0, 0, []) := (congrFun pm_M_typed4 19).trans rfl
theorem rl_M_typed4_20 : (am_pg z_M_typed4).2 20 = some (.i2b, 21, 0, 0, 0, 0, 0, []) := (congrFun pm_M_typed4 20).trans rfl
theorem rl_M_typed4_21 : (am_pg z_M_typed4).2 21 = some (.bastore, 22, 0, 0, 0, 0, 0, []) := (congrFun pm_M_typed4 21).trans rfl
theorem rl_M_typed4_22 : (am_pg z_M_typed4).2 22 = some (.aload_n 0, 23, 0, 0, 0, 0, 0, []) := (congrFun pm_M_typed4 22).trans rfl
theorem rl_M_typed4_23 : (am_pg z_M_typed4).2 23 = some (.aload_n 0, 24, 0, 0, 0, 0, 0, []) := (congrFun pm_M_typed4 23).trans rfl
theorem rl_M_typed4_24 : (am_pg z_M_typed4).2 24 = some (.getfield 80, 27, 9, 7, 0, 83, 0, []) := (congrFun pm_M_typed4 24).trans rfl
theorem rl_M_typed4_27 : (am_pg z_M_typed4).2 27 = some (.iconst (1), 28, 0, 0, 0, 0, 1, []) := (congrFun pm_M_typed4 27).trans rfl
theorem rl_M_typed4_28 : (am_pg z_M_typed4).2 28 = some (.iadd, 29, 0, 0, 0, 0, 0, []) := (congrFun pm_M_typed4 28).trans rfl
theorem rl_M_typed4_29 : (am_pg z_M_typed4).2 29 = some (.putfield 80, 32, 9, 7, 0, 83, 0, []) := (congrFun pm_M_typed4 29).trans rfl
theorem rl_M_typed4_32 : (am_pg z_M_typed4).2 32 = some (.iinc 2 (-1), 35, 2, 0, 0, 0, -1, []) := (congrFun pm_M_typed4 32).trans rfl
theorem rl_M_typed4_35 : (am_pg z_M_typed4).2 35 = some (.goto (-33), 38, 2, 0, 0, 0, 0, []) := (congrFun pm_M_typed4 35).trans rfl
theorem rl_M_typed4_38 : (am_pg z_M_typed4).2 38 = some (.return_, 39, 0, 0, 0, 0, 0, []) := (congrFun pm_M_typed4 38).trans rfl
theorem rl_M_feed_0 : (am_pg z_M_feed).2 0 = some (.aload_n 0, 1, 0, 0, 0, 0, 0, []) := (congrFun pm_M_feed 0).trans rfl
theorem rl_M_feed_1 : (am_pg z_M_feed).2 1 = some (.getfield 80, 4, 9, 7, 0, 83, 0, []) := (congrFun pm_M_feed 1).trans rfl
theorem rl_M_feed_4 : (am_pg z_M_feed).2 4 = some (.bipush (20), 6, 0, 0, 0, 0, 20, []) := (congrFun pm_M_feed 4).trans rfl
theorem rl_M_feed_6 : (am_pg z_M_feed).2 6 = some (.iadd, 7, 0, 0, 0, 0, 0, []) := (congrFun pm_M_feed 6).trans rfl
theorem rl_M_feed_7 : (am_pg z_M_feed).2 7 = some (.sipush (320), 10, 0, 0, 0, 0, 320, []) := (congrFun pm_M_feed 7).trans rfl
theorem rl_M_feed_10 : (am_pg z_M_feed).2 10 = some (.if_icmp .le (5), 13, 15, 0, 0, 0, 0, []) := (congrFun pm_M_feed 10).trans rfl
theorem rl_M_feed_13 : (am_pg z_M_feed).2 13 = some (.iconst (-1), 14, 0, 0, 0, 0, -1, []) := (congrFun pm_M_feed 13).trans rfl
theorem rl_M_feed_14 : (am_pg z_M_feed).2 14 = some (.ireturn, 15, 0, 0, 0, 0, 0, []) := (congrFun pm_M_feed 14).trans rfl
theorem rl_M_feed_15 : (am_pg z_M_feed).2 15 = some (.aload_n 0, 16, 0, 0, 0, 0, 0, []) := (congrFun pm_M_feed 15).trans rfl
theorem rl_M_feed_16 : (am_pg z_M_feed).2 16 = some (.iload_n 1, 17, 1, 0, 0, 0, 0, []) := (congrFun pm_M_feed 16).trans rfl
theorem rl_M_feed_17 : (am_pg z_M_feed).2 17 = some (.invokevirtual 84, 20, 94, 1, 9, 207, 0, []) := (congrFun pm_M_feed 17).trans rfl
theorem rl_M_feed_20 : (am_pg z_M_feed).2 20 = some (.aload_n 0, 21, 0, 0, 0, 0, 0, []) := (congrFun pm_M_feed 20).trans rfl
theorem rl_M_feed_21 : (am_pg z_M_feed).2 21 = some (.iload_n 2, 22, 2, 0, 0, 0, 0, []) := (congrFun pm_M_feed 21).trans rfl
theorem rl_M_feed_22 : (am_pg z_M_feed).2 22 = some (.invokevirtual 84, 25, 94, 1, 9, 207, 0, []) := (congrFun pm_M_feed 22).trans rfl
theorem rl_M_feed_25 : (am_pg z_M_feed).2 25 = some (.aload_n 0, 26, 0, 0, 0, 0, 0, []) := (congrFun pm_M_feed 25).trans rfl
theorem rl_M_feed_26 : (am_pg z_M_feed).2 26 = some (.iload_n 3, 27, 3, 0, 0, 0, 0, []) := (congrFun pm_M_feed 26).trans rfl
theorem rl_M_feed_27 : (am_pg z_M_feed).2 27 = some (.invokevirtual 84, 30, 94, 1, 9, 207, 0, []) := (congrFun pm_M_feed 27).trans rfl
theorem rl_M_feed_30 : (am_pg z_M_feed).2 30 = some (.aload_n 0, 31, 0, 0, 0, 0, 0, []) := (congrFun pm_M_feed 30).trans rfl
theorem rl_M_feed_31 : (am_pg z_M_feed).2 31 = some (.iload 4, 33, 4, 0, 0, 0, 0, []) := (congrFun pm_M_feed 31).trans rfl
theorem rl_M_feed_33 : (am_pg z_M_feed).2 33 = some (.invokevirtual 84, 36, 94, 1, 9, 207, 0, []) := (congrFun pm_M_feed 33).trans rfl
theorem rl_M_feed_36 : (am_pg z_M_feed).2 36 = some (.aload_n 0, 37, 0, 0, 0, 0, 0, []) := (congrFun pm_M_feed 36).trans rfl
theorem rl_M_feed_37 : (am_pg z_M_feed).2 37 = some (.iload 5, 39, 5, 0, 0, 0, 0, []) := (congrFun pm_M_feed 37).trans rfl
theorem rl_M_feed_39 : (am_pg z_M_feed).2 39 = some (.invokevirtual 84, 42, 94, 1, 9, 207, 0, []) := (congrFun pm_M_feed 39).trans rfl
theorem rl_M_feed_42 : (am_pg z_M_feed).2 42 = some (.aload_n 0, 43, 0, 0, 0, 0, 0, []) := (congrFun pm_M_feed 42).trans rfl
theorem rl_M_feed_43 : (am_pg z_M_feed).2 43 = some (.getfield 80, 46, 9, 7, 0, 83, 0, []) := (congrFun pm_M_feed 43).trans rfl
theorem rl_M_feed_46 : (am_pg z_M_feed).2 46 = some (.ireturn, 47, 0, 0, 0, 0, 0, []) := (congrFun pm_M_feed 46).trans rfl
theorem rl_M_see_0 : (am_pg z_M_see).2 0 = some (.aload_n 0, 1, 0, 0, 0, 0, 0, []) := (congrFun pm_M_see 0).trans rfl
theorem rl_M_see_1 : (am_pg z_M_see).2 1 = some (.getfield 88, 4, 9, 8, 0, 84, 0, []) := (congrFun pm_M_see 1).trans rfl
theorem rl_M_see_4 : (am_pg z_M_see).2 4 = some (.aload_n 0, 5, 0, 0, 0, 0, 0, []) := (congrFun pm_M_see 4).trans rfl
theorem rl_M_see_5 : (am_pg z_M_see).2 5 = some (.getfield 91, 8, 9, 9, 0, 85, 0, []) := (congrFun pm_M_see 5).trans rfl
theorem rl_M_see_8 : (am_pg z_M_see).2 8 = some (.if_icmp .ge (30), 11, 38, 0, 0, 0, 0, []) := (congrFun pm_M_see 8).trans rfl
theorem rl_M_see_11 : (am_pg z_M_see).2 11 = some (.aload_n 0, 12, 0, 0, 0, 0, 0, []) := (congrFun pm_M_see 11).trans rfl
theorem rl_M_see_12 : (am_pg z_M_see).2 12 = some (.getfield 25, 15, 9, 6, 0, 82, 0, []) := (congrFun pm_M_see 12).trans rfl
theorem rl_M_see_15 : (am_pg z_M_see).2 15 = some (.aload_n 0, 16, 0, 0, 0, 0, 0, []) := (congrFun pm_M_see 15).trans rfl
theorem rl_M_see_16 : (am_pg z_M_see).2 16 = some (.getfield 88, 19, 9, 8, 0, 84, 0, []) := (congrFun pm_M_see 16).trans rfl
theorem rl_M_see_19 : (am_pg z_M_see).2 19 = some (.baload, 20, 0, 0, 0, 0, 0, []) := (congrFun pm_M_see 19).trans rfl
theorem rl_M_see_20 : (am_pg z_M_see).2 20 = some (.bipush (32), 22, 0, 0, 0, 0, 32, []) := (congrFun pm_M_see 20).trans rfl
theorem rl_M_see_22 : (am_pg z_M_see).2 22 = some (.if_icmp .ne (16), 25, 38, 0, 0, 0, 0, []) := (congrFun pm_M_see 22).trans rfl
theorem rl_M_see_25 : (am_pg z_M_see).2 25 = some (.aload_n 0, 26, 0, 0, 0, 0, 0, []) := (congrFun pm_M_see 25).trans rfl
theorem rl_M_see_26 : (am_pg z_M_see).2 26 = some (.aload_n 0, 27, 0, 0, 0, 0, 0, []) := (congrFun pm_M_see 26).trans rfl
theorem rl_M_see_27 : (am_pg z_M_see).2 27 = some (.getfield 88, 30, 9, 8, 0, 84, 0, []) := (congrFun pm_M_see 27).trans rfl
theorem rl_M_see_30 : (am_pg z_M_see).2 30 = some (.iconst (1), 31, 0, 0, 0, 0, 1, []) := (congrFun pm_M_see 30).trans rfl
theorem rl_M_see_31 : (am_pg z_M_see).2 31 = some (.iadd, 32, 0, 0, 0, 0, 0, []) := (congrFun pm_M_see 31).trans rfl
theorem rl_M_see_32 : (am_pg z_M_see).2 32 = some (.putfield 88, 35, 9, 8, 0, 84, 0, []) := (congrFun pm_M_see 32).trans rfl
theorem rl_M_see_35 : (am_pg z_M_see).2 35 = some (.goto (-35), 38, 0, 0, 0, 0, 0, []) := (congrFun pm_M_see 35).trans rfl
theorem rl_M_see_38 : (am_pg z_M_see).2 38 = some (.aload_n 0, 39, 0, 0, 0, 0, 0, []) := (congrFun pm_M_see 38).trans rfl
theorem rl_M_see_39 : (am_pg z_M_see).2 39 = some (.getfield 88, 42, 9, 8, 0, 84, 0, []) := (congrFun pm_M_see 39).trans rfl
theorem rl_M_see_42 : (am_pg z_M_see).2 42 = some (.aload_n 0, 43, 0, 0, 0, 0, 0, []) := (congrFun pm_M_see 42).trans rfl
theorem rl_M_see_43 : (am_pg z_M_see).2 43 = some (.getfield 91, 46, 9, 9, 0, 85, 0, []) := (congrFun pm_M_see 43).trans rfl
theorem rl_M_see_46 : (am_pg z_M_see).2 46 = some (.if_icmp .ge (19), 49, 65, 0, 0, 0, 0, []) := (congrFun pm_M_see 46).trans rfl
theorem rl_M_see_49 : (am_pg z_M_see).2 49 = some (.aload_n 0, 50, 0, 0, 0, 0, 0, []) := (congrFun pm_M_see 49).trans rfl
theorem rl_M_see_50 : (am_pg z_M_see).2 50 = some (.getfield 25, 53, 9, 6, 0, 82, 0, []) := (congrFun pm_M_see 50).trans rfl
theorem rl_M_see_53 : (am_pg z_M_see).2 53 = some (.aload_n 0, 54, 0, 0, 0, 0, 0, []) := (congrFun pm_M_see 53).trans rfl
theorem rl_M_see_54 : (am_pg z_M_see).2 54 = some (.getfield 88, 57, 9, 8, 0, 84, 0, []) := (congrFun pm_M_see 54).trans rfl
theorem rl_M_see_57 : (am_pg z_M_see).2 57 = some (.baload, 58, 0, 0, 0, 0, 0, []) := (congrFun pm_M_see 57).trans rfl
theorem rl_M_see_58 : (am_pg z_M_see).2 58 = some (.sipush (255), 61, 0, 0, 0, 0, 255, []) := (congrFun pm_M_see 58).trans rfl
theorem rl_M_see_61 : (am_pg z_M_see).2 61 = some (.iand, 62, 0, 0, 0, 0, 0, []) := (congrFun pm_M_see 61).trans rfl
theorem rl_M_see_62 : (am_pg z_M_see).2 62 = some (.goto (4), 65, 66, 0, 0, 0, 0, []) := (congrFun pm_M_see 62).trans rfl
theorem rl_M_see_65 : (am_pg z_M_see).2 65 = some (.iconst (-1), 66, 0, 0, 0, 0, -1, []) := (congrFun pm_M_see 65).trans rfl
theorem rl_M_see_66 : (am_pg z_M_see).2 66 = some (.ireturn, 67, 0, 0, 0, 0, 0, []) := (congrFun pm_M_see 66).trans rfl
theorem rl_M_wrong_0 : (am_pg z_M_wrong).2 0 = some (.aload_n 0, 1, 0, 0, 0, 0, 0, []) := (congrFun pm_M_wrong 0).trans rfl
theorem rl_M_wrong_1 : (am_pg z_M_wrong).2 1 = some (.getfield 94, 4, 9, 10, 0, 86, 0, []) := (congrFun pm_M_wrong 1).trans rfl
theorem rl_M_wrong_4 : (am_pg z_M_wrong).2 4 = some (.ifCond .ne (14), 7, 18, 0, 0, 0, 0, []) := (congrFun pm_M_wrong 4).trans rfl
theorem rl_M_wrong_7 : (am_pg z_M_wrong).2 7 = some (.aload_n 0, 8, 0, 0, 0, 0, 0, []) := (congrFun pm_M_wrong 7).trans rfl
theorem rl_M_wrong_8 : (am_pg z_M_wrong).2 8 = some (.sipush (-1000), 11, 0, 0, 0, 0, -1000, []) := (congrFun pm_M_wrong 8).trans rfl
theorem rl_M_wrong_11 : (am_pg z_M_wrong).2 11 = some (.iload_n 1, 12, 1, 0, 0, 0, 0, []) := (congrFun pm_M_wrong 11).trans rfl
theorem rl_M_wrong_12 : (am_pg z_M_wrong).2 12 = some (.imul, 13, 0, 0, 0, 0, 0, []) := (congrFun pm_M_wrong 12).trans rfl
theorem rl_M_wrong_13 : (am_pg z_M_wrong).2 13 = some (.iload_n 2, 14, 2, 0, 0, 0, 0, []) := (congrFun pm_M_wrong 13).trans rfl
theorem rl_M_wrong_14 : (am_pg z_M_wrong).2 14 = some (.isub, 15, 0, 0, 0, 0, 0, []) := (congrFun pm_M_wrong 14).trans rfl
theorem rl_M_wrong_15 : (am_pg z_M_wrong).2 15 = some (.putfield 94, 18, 9, 10, 0, 86, 0, []) := (congrFun pm_M_wrong 15).trans rfl
theorem rl_M_wrong_18 : (am_pg z_M_wrong).2 18 = some (.iconst (0), 19, 0, 0, 0, 0, 0, []) := (congrFun pm_M_wrong 18).trans rfl
theorem rl_M_wrong_19 : (am_pg z_M_wrong).2 19 = some (.ireturn, 20, 0, 0, 1, 0, 0, []) := (congrFun pm_M_wrong 19).trans rfl
theorem rl_M_isDigit_0 : (am_pg z_M_isDigit).2 0 = some (.iload_n 0, 1, 0, 0, 0, 0, 0, []) := (congrFun pm_M_isDigit 0).trans rfl
theorem rl_M_isDigit_1 : (am_pg z_M_isDigit).2 1 = some (.i2l, 2, 0, 0, 0, 0, 0, []) := (congrFun pm_M_isDigit 1).trans rfl
theorem rl_M_isDigit_2 : (am_pg z_M_isDigit).2 2 = some (.ldc2_w 97, 5, 0, 0, 0, 3, 48, []) := (congrFun pm_M_isDigit 2).trans rfl
theorem rl_M_isDigit_5 : (am_pg z_M_isDigit).2 5 = some (.ldc2_w 99, 8, 0, 0, 0, 4, 57, []) := (congrFun pm_M_isDigit 5).trans rfl
theorem rl_M_isDigit_8 : (am_pg z_M_isDigit).2 8 = some (.invokestatic 66, 11, 84, 3, 0, 210, 0, []) := (congrFun pm_M_isDigit 8).trans rfl
theorem rl_M_isDigit_11 : (am_pg z_M_isDigit).2 11 = some (.ireturn, 12, 0, 0, 1, 0, 0, []) := (congrFun pm_M_isDigit 11).trans rfl
theorem rl_M_readsDay_0 : (am_pg z_M_readsDay).2 0 = some (.aload_n 0, 1, 0, 0, 0, 0, 0, []) := (congrFun pm_M_readsDay 0).trans rfl
theorem rl_M_readsDay_1 : (am_pg z_M_readsDay).2 1 = some (.invokevirtual 101, 4, 96, 0, 9, 213, 0, []) := (congrFun pm_M_readsDay 1).trans rfl
theorem rl_M_readsDay_4 : (am_pg z_M_readsDay).2 4 = some (.istore_n 2, 5, 2, 0, 0, 0, 0, []) := (congrFun pm_M_readsDay 4).trans rfl
theorem rl_M_readsDay_5 : (am_pg z_M_readsDay).2 5 = some (.aload_n 0, 6, 0, 0, 0, 0, 0, []) := (congrFun pm_M_readsDay 5).trans rfl
theorem rl_M_readsDay_6 : (am_pg z_M_readsDay).2 6 = some (.getfield 88, 9, 9, 8, 0, 84, 0, []) := (congrFun pm_M_readsDay 6).trans rfl
theorem rl_M_readsDay_9 : (am_pg z_M_readsDay).2 9 = some (.istore_n 3, 10, 3, 0, 0, 0, 0, []) := (congrFun pm_M_readsDay 9).trans rfl
theorem rl_M_readsDay_10 : (am_pg z_M_readsDay).2 10 = some (.iload_n 2, 11, 2, 0, 0, 0, 0, []) := (congrFun pm_M_readsDay 10).trans rfl
theorem rl_M_readsDay_11 : (am_pg z_M_readsDay).2 11 = some (.invokestatic 105, 14, 98, 1, 0, 216, 0, []) := (congrFun pm_M_readsDay 11).trans rfl
theorem rl_M_readsDay_14 : (am_pg z_M_readsDay).2 14 = some (.ifCond .ne (13), 17, 27, 0, 0, 0, 0, []) := (congrFun pm_M_readsDay 14).trans rfl
theorem rl_M_readsDay_17 : (am_pg z_M_readsDay).2 17 = some (.aload_n 0, 18, 0, 0, 0, 0, 0, []) := (congrFun pm_M_readsDay 17).trans rfl
theorem rl_M_readsDay_18 : (am_pg z_M_readsDay).2 18 = some (.iconst (1), 19, 0, 0, 0, 0, 1, []) := (congrFun pm_M_readsDay 18).trans rfl
theorem rl_M_readsDay_19 : (am_pg z_M_readsDay).2 19 = some (.aload_n 0, 20, 0, 0, 0, 0, 0, []) := (congrFun pm_M_readsDay 19).trans rfl
theorem rl_M_readsDay_20 : (am_pg z_M_readsDay).2 20 = some (.getfield 88, 23, 9, 8, 0, 84, 0, []) := (congrFun pm_M_readsDay 20).trans rfl
theorem rl_M_readsDay_23 : (am_pg z_M_readsDay).2 23 = some (.invokevirtual 108, 26, 97, 2, 9, 214, 0, []) := (congrFun pm_M_readsDay 23).trans rfl
theorem rl_M_readsDay_26 : (am_pg z_M_readsDay).2 26 = some (.ireturn, 27, 0, 0, 1, 0, 0, []) := (congrFun pm_M_readsDay 26).trans rfl
theorem rl_M_readsDay_27 : (am_pg z_M_readsDay).2 27 = some (.aload_n 0, 28, 0, 0, 0, 0, 0, []) := (congrFun pm_M_readsDay 27).trans rfl
theorem rl_M_readsDay_28 : (am_pg z_M_readsDay).2 28 = some (.iconst (0), 29, 0, 0, 0, 0, 0, []) := (congrFun pm_M_readsDay 28).trans rfl
theorem rl_M_readsDay_29 : (am_pg z_M_readsDay).2 29 = some (.putfield 112, 32, 9, 11, 0, 87, 0, []) := (congrFun pm_M_readsDay 29).trans rfl
theorem rl_M_readsDay_32 : (am_pg z_M_readsDay).2 32 = some (.aload_n 0, 33, 0, 0, 0, 0, 0, []) := (congrFun pm_M_readsDay 32).trans rfl
theorem rl_M_readsDay_33 : (am_pg z_M_readsDay).2 33 = some (.getfield 88, 36, 9, 8, 0, 84, 0, []) := (congrFun pm_M_readsDay 33).trans rfl
theorem rl_M_readsDay_36 : (am_pg z_M_readsDay).2 36 = some (.aload_n 0, 37, 0, 0, 0, 0, 0, []) := (congrFun pm_M_readsDay 36).trans rfl
theorem rl_M_readsDay_37 : (am_pg z_M_readsDay).2 37 = some (.getfield 91, 40, 9, 9, 0, 85, 0, []) := (congrFun pm_M_readsDay 37).trans rfl
theorem rl_M_readsDay_40 : (am_pg z_M_readsDay).2 40 = some (.if_icmp .ge (75), 43, 115, 0, 0, 0, 0, []) := (congrFun pm_M_readsDay 40).trans rfl
theorem rl_M_readsDay_43 : (am_pg z_M_readsDay).2 43 = some (.aload_n 0, 44, 0, 0, 0, 0, 0, []) := (congrFun pm_M_readsDay 43).trans rfl
theorem rl_M_readsDay_44 : (am_pg z_M_readsDay).2 44 = some (.getfield 25, 47, 9, 6, 0, 82, 0, []) := (congrFun pm_M_readsDay 44).trans rfl
theorem rl_M_readsDay_47 : (am_pg z_M_readsDay).2 47 = some (.aload_n 0, 48, 0, 0, 0, 0, 0, []) := (congrFun pm_M_readsDay 47).trans rfl
theorem rl_M_readsDay_48 : (am_pg z_M_readsDay).2 48 = some (.getfield 88, 51, 9, 8, 0, 84, 0, []) := (congrFun pm_M_readsDay 48).trans rfl
theorem rl_M_readsDay_51 : (am_pg z_M_readsDay).2 51 = some (.baload, 52, 0, 0, 0, 0, 0, []) := (congrFun pm_M_readsDay 51).trans rfl
theorem rl_M_readsDay_52 : (am_pg z_M_readsDay).2 52 = some (.invokestatic 105, 55, 98, 1, 0, 216, 0, []) := (congrFun pm_M_readsDay 52).trans rfl
theorem rl_M_readsDay_55 : (am_pg z_M_readsDay).2 55 = some (.ifCond .eq (60), 58, 115, 0, 0, 0, 0, []) := (congrFun pm_M_readsDay 55).trans rfl
theorem rl_M_readsDay_58 : (am_pg z_M_readsDay).2 58 = some (.aload_n 0, 59, 0, 0, 0, 0, 0, []) := (congrFun pm_M_readsDay 58).trans rfl
theorem rl_M_readsDay_59 : (am_pg z_M_readsDay).2 59 = some (.getfield 88, 62, 9, 8, 0, 84, 0, []) := (congrFun pm_M_readsDay 59).trans rfl
theorem rl_M_readsDay_62 : (am_pg z_M_readsDay).2 62 = some (.iload_n 3, 63, 3, 0, 0, 0, 0, []) := (congrFun pm_M_readsDay 62).trans rfl
theorem rl_M_readsDay_63 : (am_pg z_M_readsDay).2 63 = some (.isub, 64, 0, 0, 0, 0, 0, []) := (congrFun pm_M_readsDay 63).trans rfl
theorem rl_M_readsDay_64 : (am_pg z_M_readsDay).2 64 = some (.iconst (4), 65, 0, 0, 0, 0, 4, []) := (congrFun pm_M_readsDay 64).trans rfl
theorem rl_M_readsDay_65 : (am_pg z_M_readsDay).2 65 = some (.if_icmp .ne (13), 68, 78, 0, 0, 0, 0, []) := (congrFun pm_M_readsDay 65).trans rfl
theorem rl_M_readsDay_68 : (am_pg z_M_readsDay).2 68 = some (.aload_n 0, 69, 0, 0, 0, 0, 0, []) := (congrFun pm_M_readsDay 68).trans rfl
theorem rl_M_readsDay_69 : (am_pg z_M_readsDay).2 69 = some (.iconst (1), 70, 0, 0, 0, 0, 1, []) := (congrFun pm_M_readsDay 69).trans rfl
theorem rl_M_readsDay_70 : (am_pg z_M_readsDay).2 70 = some (.aload_n 0, 71, 0, 0, 0, 0, 0, []) := (congrFun pm_M_readsDay 70).trans rfl
theorem rl_M_readsDay_71 : (am_pg z_M_readsDay).2 71 = some (.getfield 88, 74, 9, 8, 0, 84, 0, []) := (congrFun pm_M_readsDay 71).trans rfl
theorem rl_M_readsDay_74 : (am_pg z_M_readsDay).2 74 = some (.invokevirtual 108, 77, 97, 2, 9, 214, 0, []) := (congrFun pm_M_readsDay 74).trans rfl
theorem rl_M_readsDay_77 : (am_pg z_M_readsDay).2 77 = some (.ireturn, 78, 0, 0, 1, 0, 0, []) := (congrFun pm_M_readsDay 77).trans rfl
theorem rl_M_readsDay_78 : (am_pg z_M_readsDay).2 78 = some (.aload_n 0, 79, 0, 0, 0, 0, 0, []) := (congrFun pm_M_readsDay 78).trans rfl
theorem rl_M_readsDay_79 : (am_pg z_M_readsDay).2 79 = some (.bipush (10), 81, 0, 0, 0, 0, 10, []) := (congrFun pm_M_readsDay 79).trans rfl
theorem rl_M_readsDay_81 : (am_pg z_M_readsDay).2 81 = some (.aload_n 0, 82, 0, 0, 0, 0, 0, []) := (congrFun pm_M_readsDay 81).trans rfl
theorem rl_M_readsDay_82 : (am_pg z_M_readsDay).2 82 = some (.getfield 112, 85, 9, 11, 0, 87, 0, []) := (congrFun pm_M_readsDay 82).trans rfl
theorem rl_M_readsDay_85 : (am_pg z_M_readsDay).2 85 = some (.imul, 86, 0, 0, 0, 0, 0, []) := (congrFun pm_M_readsDay 85).trans rfl
theorem rl_M_readsDay_86 : (am_pg z_M_readsDay).2 86 = some (.aload_n 0, 87, 0, 0, 0, 0, 0, []) := (congrFun pm_M_readsDay 86).trans rfl
theorem rl_M_readsDay_87 : (am_pg z_M_readsDay).2 87 = some (.getfield 25, 90, 9, 6, 0, 82, 0, []) := (congrFun pm_M_readsDay 87).trans rfl
theorem rl_M_readsDay_90 : (am_pg z_M_readsDay).2 90 = some (.aload_n 0, 91, 0, 0, 0, 0, 0, []) := (congrFun pm_M_readsDay 90).trans rfl
theorem rl_M_readsDay_91 : (am_pg z_M_readsDay).2 91 = some (.getfield 88, 94, 9, 8, 0, 84, 0, []) := (congrFun pm_M_readsDay 91).trans rfl
theorem rl_M_readsDay_94 : (am_pg z_M_readsDay).2 94 = some (.baload, 95, 0, 0, 0, 0, 0, []) := (congrFun pm_M_readsDay 94).trans rfl
theorem rl_M_readsDay_95 : (am_pg z_M_readsDay).2 95 = some (.iadd, 96, 0, 0, 0, 0, 0, []) := (congrFun pm_M_readsDay 95).trans rfl
theorem rl_M_readsDay_96 : (am_pg z_M_readsDay).2 96 = some (.bipush (48), 98, 0, 0, 0, 0, 48, []) := (congrFun pm_M_readsDay 96).trans rfl
theorem rl_M_readsDay_98 : (am_pg z_M_readsDay).2 98 = some (.isub, 99, 0, 0, 0, 0, 0, []) := (congrFun pm_M_readsDay 98).trans rfl
theorem rl_M_readsDay_99 : (am_pg z_M_readsDay).2 99 = some (.putfield 112, 102, 9, 11, 0, 87, 0, []) := (congrFun pm_M_readsDay 99).trans rfl
theorem rl_M_readsDay_102 : (am_pg z_M_readsDay).2 102 = some (.aload_n 0, 103, 0, 0, 0, 0, 0, []) := (congrFun pm_M_readsDay 102).trans rfl
theorem rl_M_readsDay_103 : (am_pg z_M_readsDay).2 103 = some (.aload_n 0, 104, 0, 0, 0, 0, 0, []) := (congrFun pm_M_readsDay 103).trans rfl
theorem rl_M_readsDay_104 : (am_pg z_M_readsDay).2 104 = some (.getfield 88, 107, 9, 8, 0, 84, 0, []) := (congrFun pm_M_readsDay 104).trans rfl
theorem rl_M_readsDay_107 : (am_pg z_M_readsDay).2 107 = some (.iconst (1), 108, 0, 0, 0, 0, 1, []) := (congrFun pm_M_readsDay 107).trans rfl
theorem rl_M_readsDay_108 : (am_pg z_M_readsDay).2 108 = some (.iadd, 109, 0, 0, 0, 0, 0, []) := (congrFun pm_M_readsDay 108).trans rfl
theorem rl_M_readsDay_109 : (am_pg z_M_readsDay).2 109 = some (.putfield 88, 112, 9, 8, 0, 84, 0, []) := (congrFun pm_M_readsDay 109).trans rfl
theorem rl_M_readsDay_112 : (am_pg z_M_readsDay).2 112 = some (.goto (-80), 115, 32, 0, 0, 0, 0, []) := (congrFun pm_M_readsDay 112).trans rfl
theorem rl_M_readsDay_115 : (am_pg z_M_readsDay).2 115 = some (.aload_n 0, 116, 0, 0, 0, 0, 0, []) := (congrFun pm_M_readsDay 115).trans rfl
theorem rl_M_readsDay_116 : (am_pg z_M_readsDay).2 116 = some (.getfield 112, 119, 9, 11, 0, 87, 0, []) := (congrFun pm_M_readsDay 116).trans rfl
theorem rl_M_readsDay_119 : (am_pg z_M_readsDay).2 119 = some (.i2l, 120, 0, 0, 0, 0, 0, []) := (congrFun pm_M_readsDay 119).trans rfl
theorem rl_M_readsDay_120 : (am_pg z_M_readsDay).2 120 = some (.iload_n 1, 121, 1, 0, 0, 0, 0, []) := (congrFun pm_M_readsDay 120).trans rfl
theorem rl_M_readsDay_121 : (am_pg z_M_readsDay).2 121 = some (.i2l, 122, 0, 0, 0, 0, 0, []) := (congrFun pm_M_readsDay 121).trans rfl
theorem rl_M_readsDay_122 : (am_pg z_M_readsDay).2 122 = some (.ldc2_w 72, 125, 0, 0, 0, 5, 1079, []) := (congrFun pm_M_readsDay 122).trans rfl
theorem rl_M_readsDay_125 : (am_pg z_M_readsDay).2 125 = some (.invokestatic 66, 128, 84, 3, 0, 210, 0, []) := (congrFun pm_M_readsDay 125).trans rfl
theorem rl_M_readsDay_128 : (am_pg z_M_readsDay).2 128 = some (.ifCond .ne (12), 131, 140, 0, 0, 0, 0, []) := (congrFun pm_M_readsDay 128).trans rfl
theorem rl_M_readsDay_131 : (am_pg z_M_readsDay).2 131 = some (.aload_n 0, 132, 0, 0, 0, 0, 0, []) := (congrFun pm_M_readsDay 131).trans rfl
theorem rl_M_readsDay_132 : (am_pg z_M_readsDay).2 132 = some (.iconst (2), 133, 0, 0, 0, 0, 2, []) := (congrFun pm_M_readsDay 132).trans rfl
theorem rl_M_readsDay_133 : (am_pg z_M_readsDay).2 133 = some (.iload_n 3, 134, 3, 0, 0, 0, 0, []) := (congrFun pm_M_readsDay 133).trans rfl
theorem rl_M_readsDay_134 : (am_pg z_M_readsDay).2 134 = some (.invokevirtual 108, 137, 97, 2, 9, 214, 0, []) := (congrFun pm_M_readsDay 134).trans rfl
theorem rl_M_readsDay_137 : (am_pg z_M_readsDay).2 137 = some (.ifCond .eq (7), 140, 144, 0, 0, 0, 0, []) := (congrFun pm_M_readsDay 137).trans rfl
theorem rl_M_readsDay_140 : (am_pg z_M_readsDay).2 140 = some (.iconst (1), 141, 0, 0, 0, 0, 1, []) := (congrFun pm_M_readsDay 140).trans rfl
theorem rl_M_readsDay_141 : (am_pg z_M_readsDay).2 141 = some (.goto (4), 144, 145, 0, 0, 0, 0, []) := (congrFun pm_M_readsDay 141).trans rfl
theorem rl_M_readsDay_144 : (am_pg z_M_readsDay).2 144 = some (.iconst (0), 145, 0, 0, 0, 0, 0, []) := (congrFun pm_M_readsDay 144).trans rfl
theorem rl_M_readsDay_145 : (am_pg z_M_readsDay).2 145 = some (.ireturn, 146, 0, 0, 1, 0, 0, []) := (congrFun pm_M_readsDay 145).trans rfl
theorem rl_M_readsStay_0 : (am_pg z_M_readsStay).2 0 = some (.aload_n 0, 1, 0, 0, 0, 0, 0, []) := (congrFun pm_M_readsStay 0).trans rfl
theorem rl_M_readsStay_1 : (am_pg z_M_readsStay).2 1 = some (.invokevirtual 101, 4, 96, 0, 9, 213, 0, []) := (congrFun pm_M_readsStay 1).trans rfl
theorem rl_M_readsStay_4 : (am_pg z_M_readsStay).2 4 = some (.istore_n 2, 5, 2, 0, 0, 0, 0, []) := (congrFun pm_M_readsStay 4).trans rfl
theorem rl_M_readsStay_5 : (am_pg z_M_readsStay).2 5 = some (.iload_n 2, 6, 2, 0, 0, 0, 0, []) := (congrFun pm_M_readsStay 5).trans rfl
theorem rl_M_readsStay_6 : (am_pg z_M_readsStay).2 6 = some (.bipush (45), 8, 0, 0, 0, 0, 45, []) := (congrFun pm_M_readsStay 6).trans rfl
theorem rl_M_readsStay_8 : (am_pg z_M_readsStay).2 8 = some (.if_icmp .eq (28), 11, 36, 0, 0, 0, 0, []) := (congrFun pm_M_readsStay 8).trans rfl
theorem rl_M_readsStay_11 : (am_pg z_M_readsStay).2 11 = some (.iload_n 2, 12, 2, 0, 0, 0, 0, []) := (congrFun pm_M_readsStay 11).trans rfl
theorem rl_M_readsStay_12 : (am_pg z_M_readsStay).2 12 = some (.i2l, 13, 0, 0, 0, 0, 0, []) := (congrFun pm_M_readsStay 12).trans rfl
theorem rl_M_readsStay_13 : (am_pg z_M_readsStay).2 13 = some (.ldc2_w 115, 16, 0, 0, 0, 1, 97, []) := (congrFun pm_M_readsStay 13).trans rfl
theorem rl_M_readsStay_16 : (am_pg z_M_readsStay).2 16 = some (.ldc2_w 117, 19, 0, 0, 0, 2, 102, []) := (congrFun pm_M_readsStay 16).trans rfl
theorem rl_M_readsStay_19 : (am_pg z_M_readsStay).2 19 = some (.invokestatic 66, 22, 84, 3, 0, 210, 0, []) := (congrFun pm_M_readsStay 19).trans rfl
theorem rl_M_readsStay_22 : (am_pg z_M_readsStay).2 22 = some (.ifCond .ne (14), 25, 36, 0, 0, 0, 0, []) := (congrFun pm_M_readsStay 22).trans rfl
theorem rl_M_readsStay_25 : (am_pg z_M_readsStay).2 25 = some (.aload_n 0, 26, 0, 0, 0, 0, 0, []) := (congrFun pm_M_readsStay 25).trans rfl
theorem rl_M_readsStay_26 : (am_pg z_M_readsStay).2 26 = some (.iconst (1), 27, 0, 0, 0, 0, 1, []) := (congrFun pm_M_readsStay 26).trans rfl
theorem rl_M_readsStay_27 : (am_pg z_M_readsStay).2 27 = some (.aload_n 0, 28, 0, 0, 0, 0, 0, []) := (congrFun pm_M_readsStay 27).trans rfl
theorem rl_M_readsStay_28 : (am_pg z_M_readsStay).2 28 = some (.getfield 88, 31, 9, 8, 0, 84, 0, []) := (congrFun pm_M_readsStay 28).trans rfl
theorem rl_M_readsStay_31 : (am_pg z_M_readsStay).2 31 = some (.invokevirtual 108, 34, 97, 2, 9, 214, 0, []) := (congrFun pm_M_readsStay 31).trans rfl
theorem rl_M_readsStay_34 : (am_pg z_M_readsStay).2 34 = some (.pop, 35, 0, 0, 0, 0, 0, []) := (congrFun pm_M_readsStay 34).trans rfl
theorem rl_M_readsStay_35 : (am_pg z_M_readsStay).2 35 = some (.return_, 36, 0, 0, 0, 0, 0, []) := (congrFun pm_M_readsStay 35).trans rfl
theorem rl_M_readsStay_36 : (am_pg z_M_readsStay).2 36 = some (.aload_n 0, 37, 0, 0, 0, 0, 0, []) := (congrFun pm_M_readsStay 36).trans rfl
theorem rl_M_readsStay_37 : (am_pg z_M_readsStay).2 37 = some (.aload_n 0, 38, 0, 0, 0, 0, 0, []) := (congrFun pm_M_readsStay 37).trans rfl
theorem rl_M_readsStay_38 : (am_pg z_M_readsStay).2 38 = some (.getfield 88, 41, 9, 8, 0, 84, 0, []) := (congrFun pm_M_readsStay 38).trans rfl
theorem rl_M_readsStay_41 : (am_pg z_M_readsStay).2 41 = some (.iconst (1), 42, 0, 0, 0, 0, 1, []) := (congrFun pm_M_readsStay 41).trans rfl
theorem rl_M_readsStay_42 : (am_pg z_M_readsStay).2 42 = some (.iadd, 43, 0, 0, 0, 0, 0, []) := (congrFun pm_M_readsStay 42).trans rfl
theorem rl_M_readsStay_43 : (am_pg z_M_readsStay).2 43 = some (.putfield 88, 46, 9, 8, 0, 84, 0, []) := (congrFun pm_M_readsStay 43).trans rfl
theorem rl_M_readsStay_46 : (am_pg z_M_readsStay).2 46 = some (.aload_n 0, 47, 0, 0, 0, 0, 0, []) := (congrFun pm_M_readsStay 46).trans rfl
theorem rl_M_readsStay_47 : (am_pg z_M_readsStay).2 47 = some (.getfield 29, 50, 9, 12, 0, 88, 0, []) := (congrFun pm_M_readsStay 47).trans rfl
theorem rl_M_readsStay_50 : (am_pg z_M_readsStay).2 50 = some (.iconst (3), 51, 0, 0, 0, 0, 3, []) := (congrFun pm_M_readsStay 50).trans rfl
theorem rl_M_readsStay_51 : (am_pg z_M_readsStay).2 51 = some (.iload_n 1, 52, 1, 0, 0, 0, 0, []) := (congrFun pm_M_readsStay 51).trans rfl
theorem rl_M_readsStay_52 : (am_pg z_M_readsStay).2 52 = some (.imul, 53, 0, 0, 0, 0, 0, []) := (congrFun pm_M_readsStay 52).trans rfl
theorem rl_M_readsStay_53 : (am_pg z_M_readsStay).2 53 = some (.iload_n 2, 54, 2, 0, 0, 0, 0, []) := (congrFun pm_M_readsStay 53).trans rfl
theorem rl_M_readsStay_54 : (am_pg z_M_readsStay).2 54 = some (.bipush (45), 56, 0, 0, 0, 0, 45, []) := (congrFun pm_M_readsStay 54).trans rfl
theorem rl_M_readsStay_56 : (am_pg z_M_readsStay).2 56 = some (.if_icmp .ne (7), 59, 63, 0, 0, 0, 0, []) := (congrFun pm_M_readsStay 56).trans rfl
theorem rl_M_readsStay_59 : (am_pg z_M_readsStay).2 59 = some (.iconst (-1), 60, 0, 0, 0, 0, -1, []) := (congrFun pm_M_readsStay 59).trans rfl
theorem rl_M_readsStay_60 : (am_pg z_M_readsStay).2 60 = some (.goto (7), 63, 67, 0, 0, 0, 0, []) := (congrFun pm_M_readsStay 60).trans rfl
theorem rl_M_readsStay_63 : (am_pg z_M_readsStay).2 63 = some (.iload_n 2, 64, 2, 0, 0, 0, 0, []) := (congrFun pm_M_readsStay 63).trans rfl
theorem rl_M_readsStay_64 : (am_pg z_M_readsStay).2 64 = some (.bipush (97), 66, 0, 0, 0, 0, 97, []) := (congrFun pm_M_readsStay 64).trans rfl
theorem rl_M_readsStay_66 : (am_pg z_M_readsStay).2 66 = some (.isub, 67, 0, 0, 0, 0, 0, []) := (congrFun pm_M_readsStay 66).trans rfl
theorem rl_M_readsStay_67 : (am_pg z_M_readsStay).2 67 = some (.iastore, 68, 0, 0, 0, 0, 0, []) := (congrFun pm_M_readsStay 67).trans rfl
theorem rl_M_readsStay_68 : (am_pg z_M_readsStay).2 68 = some (.aload_n 0, 69, 0, 0, 0, 0, 0, []) := (congrFun pm_M_readsStay 68).trans rfl
theorem rl_M_readsStay_69 : (am_pg z_M_readsStay).2 69 = some (.iconst (0), 70, 0, 0, 0, 0, 0, []) := (congrFun pm_M_readsStay 69).trans rfl
theorem rl_M_readsStay_70 : (am_pg z_M_readsStay).2 70 = some (.invokevirtual 119, 73, 99, 1, 9, 215, 0, []) := (congrFun pm_M_readsStay 70).trans rfl
theorem rl_M_readsStay_73 : (am_pg z_M_readsStay).2 73 = some (.ifCond .ne (4), 76, 77, 0, 0, 0, 0, []) := (congrFun pm_M_readsStay 73).trans rfl
theorem rl_M_readsStay_76 : (am_pg z_M_readsStay).2 76 = some (.return_, 77, 0, 0, 0, 0, 0, []) := (congrFun pm_M_readsStay 76).trans rfl
theorem rl_M_readsStay_77 : (am_pg z_M_readsStay).2 77 = some (.aload_n 0, 78, 0, 0, 0, 0, 0, []) := (congrFun pm_M_readsStay 77).trans rfl
theorem rl_M_readsStay_78 : (am_pg z_M_readsStay).2 78 = some (.getfield 29, 81, 9, 12, 0, 88, 0, []) := (congrFun pm_M_readsStay 78).trans rfl
theorem rl_M_readsStay_81 : (am_pg z_M_readsStay).2 81 = some (.iconst (3), 82, 0, 0, 0, 0, 3, []) := (congrFun pm_M_readsStay 81).trans rfl
theorem rl_M_readsStay_82 : (am_pg z_M_readsStay).2 82 = some (.iload_n 1, 83, 1, 0, 0, 0, 0, []) := (congrFun pm_M_readsStay 82).trans rfl
theorem rl_M_readsStay_83 : (am_pg z_M_readsStay).2 83 = some (.imul, 84, 0, 0, 0, 0, 0, []) := (congrFun pm_M_readsStay 83).trans rfl
theorem rl_M_readsStay_84 : (am_pg z_M_readsStay).2 84 = some (.iconst (1), 85, 0, 0, 0, 0, 1, []) := (congrFun pm_M_readsStay 84).trans rfl
theorem rl_M_readsStay_85 : (am_pg z_M_readsStay).2 85 = some (.iadd, 86, 0, 0, 0, 0, 0, []) := (congrFun pm_M_readsStay 85).trans rfl
theorem rl_M_readsStay_86 : (am_pg z_M_readsStay).2 86 = some (.aload_n 0, 87, 0, 0, 0, 0, 0, []) := (congrFun pm_M_readsStay 86).trans rfl
theorem rl_M_readsStay_87 : (am_pg z_M_readsStay).2 87 = some (.getfield 112, 90, 9, 11, 0, 87, 0, []) := (congrFun pm_M_readsStay 87).trans rfl
theorem rl_M_readsStay_90 : (am_pg z_M_readsStay).2 90 = some (.iastore, 91, 0, 0, 0, 0, 0, []) := (congrFun pm_M_readsStay 90).trans rfl
theorem rl_M_readsStay_91 : (am_pg z_M_readsStay).2 91 = some (.aload_n 0, 92, 0, 0, 0, 0, 0, []) := (congrFun pm_M_readsStay 91).trans rfl
theorem rl_M_readsStay_92 : (am_pg z_M_readsStay).2 92 = some (.getfield 29, 95, 9, 12, 0, 88, 0, []) := (congrFun pm_M_readsStay 92).trans rfl
theorem rl_M_readsStay_95 : (am_pg z_M_readsStay).2 95 = some (.iconst (3), 96, 0, 0, 0, 0, 3, []) := (congrFun pm_M_readsStay 95).trans rfl
theorem rl_M_readsStay_96 : (am_pg z_M_readsStay).2 96 = some (.iload_n 1, 97, 1, 0, 0, 0, 0, []) := (congrFun pm_M_readsStay 96).trans rfl
theorem rl_M_readsStay_97 : (am_pg z_M_readsStay).2 97 = some (.imul, 98, 0, 0, 0, 0, 0, []) := (congrFun pm_M_readsStay 97).trans rfl
theorem rl_M_readsStay_98 : (am_pg z_M_readsStay).2 98 = some (.iconst (2), 99, 0, 0, 0, 0, 2, []) := (congrFun pm_M_readsStay 98).trans rfl
theorem rl_M_readsStay_99 : (am_pg z_M_readsStay).2 99 = some (.iadd, 100, 0, 0, 0, 0, 0, []) := (congrFun pm_M_readsStay 99).trans rfl
theorem rl_M_readsStay_100 : (am_pg z_M_readsStay).2 100 = some (.aload_n 0, 101, 0, 0, 0, 0, 0, []) := (congrFun pm_M_readsStay 100).trans rfl
theorem rl_M_readsStay_101 : (am_pg z_M_readsStay).2 101 = some (.getfield 112, 104, 9, 11, 0, 87, 0, []) := (congrFun pm_M_readsStay 101).trans rfl
theorem rl_M_readsStay_104 : (am_pg z_M_readsStay).2 104 = some (.iastore, 105, 0, 0, 0, 0, 0, []) := (congrFun pm_M_readsStay 104).trans rfl
theorem rl_M_readsStay_105 : (am_pg z_M_readsStay).2 105 = some (.aload_n 0, 106, 0, 0, 0, 0, 0, []) := (congrFun pm_M_readsStay 105).trans rfl
theorem rl_M_readsStay_106 : (am_pg z_M_readsStay).2 106 = some (.invokevirtual 101, 109, 96, 0, 9, 213, 0, []) := (congrFun pm_M_readsStay 106).trans rfl
theorem rl_M_readsStay_109 : (am_pg z_M_readsStay).2 109 = some (.bipush (46), 111, 0, 0, 0, 0, 46, []) := (congrFun pm_M_readsStay 109).trans rfl
theorem rl_M_readsStay_111 : (am_pg z_M_readsStay).2 111 = some (.if_icmp .eq (4), 114, 115, 0, 0, 0, 0, []) := (congrFun pm_M_readsStay 111).trans rfl
theorem rl_M_readsStay_114 : (am_pg z_M_readsStay).2 114 = some (.return_, 115, 0, 0, 0, 0, 0, []) := (congrFun pm_M_readsStay 114).trans rfl
theorem rl_M_readsStay_115 : (am_pg z_M_readsStay).2 115 = some (.aload_n 0, 116, 0, 0, 0, 0, 0, []) := (congrFun pm_M_readsStay 115).trans rfl
theorem rl_M_readsStay_116 : (am_pg z_M_readsStay).2 116 = some (.aload_n 0, 117, 0, 0, 0, 0, 0, []) := (congrFun pm_M_readsStay 116).trans rfl
theorem rl_M_readsStay_117 : (am_pg z_M_readsStay).2 117 = some (.getfield 88, 120, 9, 8, 0, 84, 0, []) := (congrFun pm_M_readsStay 117).trans rfl
theorem rl_M_readsStay_120 : (am_pg z_M_readsStay).2 120 = some (.iconst (1), 121, 0, 0, 0, 0, 1, []) := (congrFun pm_M_readsStay 120).trans rfl
theorem rl_M_readsStay_121 : (am_pg z_M_readsStay).2 121 = some (.iadd, 122, 0, 0, 0, 0, 0, []) := (congrFun pm_M_readsStay 121).trans rfl
theorem rl_M_readsStay_122 : (am_pg z_M_readsStay).2 122 = some (.putfield 88, 125, 9, 8, 0, 84, 0, []) := (congrFun pm_M_readsStay 122).trans rfl
theorem rl_M_readsStay_125 : (am_pg z_M_readsStay).2 125 = some (.aload_n 0, 126, 0, 0, 0, 0, 0, []) := (congrFun pm_M_readsStay 125).trans rfl
theorem rl_M_readsStay_126 : (am_pg z_M_readsStay).2 126 = some (.getfield 88, 129, 9, 8, 0, 84, 0, []) := (congrFun pm_M_readsStay 126).trans rfl
theorem rl_M_readsStay_129 : (am_pg z_M_readsStay).2 129 = some (.aload_n 0, 130, 0, 0, 0, 0, 0, []) := (congrFun pm_M_readsStay 129).trans rfl
theorem rl_M_readsStay_130 : (am_pg z_M_readsStay).2 130 = some (.getfield 91, 133, 9, 9, 0, 85, 0, []) := (congrFun pm_M_readsStay 130).trans rfl
theorem rl_M_readsStay_133 : (am_pg z_M_readsStay).2 133 = some (.if_icmp .ge (17), 136, 150, 0, 0, 0, 0, []) := (congrFun pm_M_readsStay 133).trans rfl
theorem rl_M_readsStay_136 : (am_pg z_M_readsStay).2 136 = some (.aload_n 0, 137, 0, 0, 0, 0, 0, []) := (congrFun pm_M_readsStay 136).trans rfl
theorem rl_M_readsStay_137 : (am_pg z_M_readsStay).2 137 = some (.getfield 25, 140, 9, 6, 0, 82, 0, []) := (congrFun pm_M_readsStay 137).trans rfl
theorem rl_M_readsStay_140 : (am_pg z_M_readsStay).2 140 = some (.aload_n 0, 141, 0, 0, 0, 0, 0, []) := (congrFun pm_M_readsStay 140).trans rfl
theorem rl_M_readsStay_141 : (am_pg z_M_readsStay).2 141 = some (.getfield 88, 144, 9, 8, 0, 84, 0, []) := (congrFun pm_M_readsStay 141).trans rfl
theorem rl_M_readsStay_144 : (am_pg z_M_readsStay).2 144 = some (.baload, 145, 0, 0, 0, 0, 0, []) := (congrFun pm_M_readsStay 144).trans rfl
theorem rl_M_readsStay_145 : (am_pg z_M_readsStay).2 145 = some (.bipush (46), 147, 0, 0, 0, 0, 46, []) := (congrFun pm_M_readsStay 145).trans rfl
theorem rl_M_readsStay_147 : (am_pg z_M_readsStay).2 147 = some (.if_icmp .eq (14), 150, 161, 0, 0, 0, 0, []) := (congrFun pm_M_readsStay 147).trans rfl
theorem rl_M_readsStay_150 : (am_pg z_M_readsStay).2 150 = some (.aload_n 0, 151, 0, 0, 0, 0, 0, []) := (congrFun pm_M_readsStay 150).trans rfl
theorem rl_M_readsStay_151 : (am_pg z_M_readsStay).2 151 = some (.iconst (1), 152, 0, 0, 0, 0, 1, []) := (congrFun pm_M_readsStay 151).trans rfl
theorem rl_M_readsStay_152 : (am_pg z_M_readsStay).2 152 = some (.aload_n 0, 153, 0, 0, 0, 0, 0, []) := (congrFun pm_M_readsStay 152).trans rfl
theorem rl_M_readsStay_153 : (am_pg z_M_readsStay).2 153 = some (.getfield 88, 156, 9, 8, 0, 84, 0, []) := (congrFun pm_M_readsStay 153).trans rfl
theorem rl_M_readsStay_156 : (am_pg z_M_readsStay).2 156 = some (.invokevirtual 108, 159, 97, 2, 9, 214, 0, []) := (congrFun pm_M_readsStay 156).trans rfl
theorem rl_M_readsStay_159 : (am_pg z_M_readsStay).2 159 = some (.pop, 160, 0, 0, 0, 0, 0, []) := (congrFun pm_M_readsStay 159).trans rfl
theorem rl_M_readsStay_160 : (am_pg z_M_readsStay).2 160 = some (.return_, 161, 0, 0, 0, 0, 0, []) := (congrFun pm_M_readsStay 160).trans rfl
theorem rl_M_readsStay_161 : (am_pg z_M_readsStay).2 161 = some (.aload_n 0, 162, 0, 0, 0, 0, 0, []) := (congrFun pm_M_readsStay 161).trans rfl
theorem rl_M_readsStay_162 : (am_pg z_M_readsStay).2 162 = some (.aload_n 0, 163, 0, 0, 0, 0, 0, []) := (congrFun pm_M_readsStay 162).trans rfl
theorem rl_M_readsStay_163 : (am_pg z_M_readsStay).2 163 = some (.getfield 88, 166, 9, 8, 0, 84, 0, []) := (congrFun pm_M_readsStay 163).trans rfl
theorem rl_M_readsStay_166 : (am_pg z_M_readsStay).2 166 = some (.iconst (1), 167, 0, 0, 0, 0, 1, []) := (congrFun pm_M_readsStay 166).trans rfl
theorem rl_M_readsStay_167 : (am_pg z_M_readsStay).2 167 = some (.iadd, 168, 0, 0, 0, 0, 0, []) := (congrFun pm_M_readsStay 167).trans rfl
theorem rl_M_readsStay_168 : (am_pg z_M_readsStay).2 168 = some (.putfield 88, 171, 9, 8, 0, 84, 0, []) := (congrFun pm_M_readsStay 168).trans rfl
theorem rl_M_readsStay_171 : (am_pg z_M_readsStay).2 171 = some (.aload_n 0, 172, 0, 0, 0, 0, 0, []) := (congrFun pm_M_readsStay 171).trans rfl
theorem rl_M_readsStay_172 : (am_pg z_M_readsStay).2 172 = some (.aload_n 0, 173, 0, 0, 0, 0, 0, []) := (congrFun pm_M_readsStay 172).trans rfl
theorem rl_M_readsStay_173 : (am_pg z_M_readsStay).2 173 = some (.getfield 112, 176, 9, 11, 0, 87, 0, []) := (congrFun pm_M_readsStay 173).trans rfl
theorem rl_M_readsStay_176 : (am_pg z_M_readsStay).2 176 = some (.invokevirtual 119, 179, 99, 1, 9, 215, 0, []) := (congrFun pm_M_readsStay 176).trans rfl
theorem rl_M_readsStay_179 : (am_pg z_M_readsStay).2 179 = some (.ifCond .eq (17), 182, 196, 0, 0, 0, 0, []) := (congrFun pm_M_readsStay 179).trans rfl
theorem rl_M_readsStay_182 : (am_pg z_M_readsStay).2 182 = some (.aload_n 0, 183, 0, 0, 0, 0, 0, []) := (congrFun pm_M_readsStay 182).trans rfl
theorem rl_M_readsStay_183 : (am_pg z_M_readsStay).2 183 = some (.getfield 29, 186, 9, 12, 0, 88, 0, []) := (congrFun pm_M_readsStay 183).trans rfl
theorem rl_M_readsStay_186 : (am_pg z_M_readsStay).2 186 = some (.iconst (3), 187, 0, 0, 0, 0, 3, []) := (congrFun pm_M_readsStay 186).trans rfl
theorem rl_M_readsStay_187 : (am_pg z_M_readsStay).2 187 = some (.iload_n 1, 188, 1, 0, 0, 0, 0, []) := (congrFun pm_M_readsStay 187).trans rfl
theorem rl_M_readsStay_188 : (am_pg z_M_readsStay).2 188 = some (.imul, 189, 0, 0, 0, 0, 0, []) := (congrFun pm_M_readsStay 188).trans rfl
theorem rl_M_readsStay_189 : (am_pg z_M_readsStay).2 189 = some (.iconst (2), 190, 0, 0, 0, 0, 2, []) := (congrFun pm_M_readsStay 189).trans rfl
theorem rl_M_readsStay_190 : (am_pg z_M_readsStay).2 190 = some (.iadd, 191, 0, 0, 0, 0, 0, []) := (congrFun pm_M_readsStay 190).trans rfl
theorem rl_M_readsStay_191 : (am_pg z_M_readsStay).2 191 = some (.aload_n 0, 192, 0, 0, 0, 0, 0, []) := (congrFun pm_M_readsStay 191).trans rfl
theorem rl_M_readsStay_192 : (am_pg z_M_readsStay).2 192 = some (.getfield 112, 195, 9, 11, 0, 87, 0, []) := (congrFun pm_M_readsStay 192).trans rfl
theorem rl_M_readsStay_195 : (am_pg z_M_readsStay).2 195 = some (.iastore, 196, 0, 0, 0, 0, 0, []) := (congrFun pm_M_readsStay 195).trans rfl
theorem rl_M_readsStay_196 : (am_pg z_M_readsStay).2 196 = some (.return_, 197, 0, 0, 0, 0, 0, []) := (congrFun pm_M_readsStay 196).trans rfl
theorem rl_M_readsAll_0 : (am_pg z_M_readsAll).2 0 = some (.aload_n 0, 1, 0, 0, 0, 0, 0, []) := (congrFun pm_M_readsAll 0).trans rfl
theorem rl_M_readsAll_1 : (am_pg z_M_readsAll).2 1 = some (.iconst (0), 2, 0, 0, 0, 0, 0, []) := (congrFun pm_M_readsAll 1).trans rfl
theorem rl_M_readsAll_2 : (am_pg z_M_readsAll).2 2 = some (.putfield 80, 5, 9, 7, 0, 83, 0, []) := (congrFun pm_M_readsAll 2).trans rfl
theorem rl_M_readsAll_5 : (am_pg z_M_readsAll).2 5 = some (.aload_n 0, 6, 0, 0, 0, 0, 0, []) := (congrFun pm_M_readsAll 5).trans rfl
theorem rl_M_readsAll_6 : (am_pg z_M_readsAll).2 6 = some (.iload_n 1, 7, 1, 0, 0, 0, 0, []) := (congrFun pm_M_readsAll 6).trans rfl
theorem rl_M_readsAll_7 : (am_pg z_M_readsAll).2 7 = some (.putfield 91, 10, 9, 9, 0, 85, 0, []) := (congrFun pm_M_readsAll 7).trans rfl
theorem rl_M_readsAll_10 : (am_pg z_M_readsAll).2 10 = some (.aload_n 0, 11, 0, 0, 0, 0, 0, []) := (congrFun pm_M_readsAll 10).trans rfl
theorem rl_M_readsAll_11 : (am_pg z_M_readsAll).2 11 = some (.iconst (0), 12, 0, 0, 0, 0, 0, []) := (congrFun pm_M_readsAll 11).trans rfl
theorem rl_M_readsAll_12 : (am_pg z_M_readsAll).2 12 = some (.putfield 88, 15, 9, 8, 0, 84, 0, []) := (congrFun pm_M_readsAll 12).trans rfl
theorem rl_M_readsAll_15 : (am_pg z_M_readsAll).2 15 = some (.aload_n 0, 16, 0, 0, 0, 0, 0, []) := (congrFun pm_M_readsAll 15).trans rfl
theorem rl_M_readsAll_16 : (am_pg z_M_readsAll).2 16 = some (.iconst (0), 17, 0, 0, 0, 0, 0, []) := (congrFun pm_M_readsAll 16).trans rfl
theorem rl_M_readsAll_17 : (am_pg z_M_readsAll).2 17 = some (.putfield 94, 20, 9, 10, 0, 86, 0, []) := (congrFun pm_M_readsAll 17).trans rfl
theorem rl_M_readsAll_20 : (am_pg z_M_readsAll).2 20 = some (.iconst (0), 21, 0, 0, 0, 0, 0, []) := (congrFun pm_M_readsAll 20).trans rfl
theorem rl_M_readsAll_21 : (am_pg z_M_readsAll).2 21 = some (.istore_n 2, 22, 2, 0, 0, 0, 0, []) := (congrFun pm_M_readsAll 21).trans rfl
theorem rl_M_readsAll_22 : (am_pg z_M_readsAll).2 22 = some (.iconst (1), 23, 0, 0, 0, 0, 1, []) := (congrFun pm_M_readsAll 22).trans rfl
theorem rl_M_readsAll_23 : (am_pg z_M_readsAll).2 23 = some (.istore_n 3, 24, 3, 0, 0, 0, 0, []) := (congrFun pm_M_readsAll 23).trans rfl
theorem rl_M_readsAll_24 : (am_pg z_M_readsAll).2 24 = some (.iload_n 3, 25, 3, 0, 0, 0, 0, []) := (congrFun pm_M_readsAll 24).trans rfl
theorem rl_M_readsAll_25 : (am_pg z_M_readsAll).2 25 = some (.ifCond .eq (73), 28, 98, 0, 0, 0, 0, []) := (congrFun pm_M_readsAll 25).trans rfl
theorem rl_M_readsAll_28 : (am_pg z_M_readsAll).2 28 = some (.aload_n 0, 29, 0, 0, 0, 0, 0, []) := (congrFun pm_M_readsAll 28).trans rfl
theorem rl_M_readsAll_29 : (am_pg z_M_readsAll).2 29 = some (.iload_n 2, 30, 2, 0, 0, 0, 0, []) := (congrFun pm_M_readsAll 29).trans rfl
theorem rl_M_readsAll_30 : (am_pg z_M_readsAll).2 30 = some (.invokevirtual 122, 33, 100, 1, 9, 212, 0, []) := (congrFun pm_M_readsAll 30).trans rfl
theorem rl_M_readsAll_33 : (am_pg z_M_readsAll).2 33 = some (.iload_n 2, 34, 2, 0, 0, 0, 0, []) := (congrFun pm_M_readsAll 33).trans rfl
theorem rl_M_readsAll_34 : (am_pg z_M_readsAll).2 34 = some (.iconst (1), 35, 0, 0, 0, 0, 1, []) := (congrFun pm_M_readsAll 34).trans rfl
theorem rl_M_readsAll_35 : (am_pg z_M_readsAll).2 35 = some (.iadd, 36, 0, 0, 0, 0, 0, []) := (congrFun pm_M_readsAll 35).trans rfl
theorem rl_M_readsAll_36 : (am_pg z_M_readsAll).2 36 = some (.istore_n 2, 37, 2, 0, 0, 0, 0, []) := (congrFun pm_M_readsAll 36).trans rfl
theorem rl_M_readsAll_37 : (am_pg z_M_readsAll).2 37 = some (.aload_n 0, 38, 0, 0, 0, 0, 0, []) := (congrFun pm_M_readsAll 37).trans rfl
theorem rl_M_readsAll_38 : (am_pg z_M_readsAll).2 38 = some (.getfield 94, 41, 9, 10, 0, 86, 0, []) := (congrFun pm_M_readsAll 38).trans rfl
theorem rl_M_readsAll_41 : (am_pg z_M_readsAll).2 41 = some (.ifCond .ne (15), 44, 56, 0, 0, 0, 0, []) := (congrFun pm_M_readsAll 41).trans rfl
theorem rl_M_readsAll_44 : (am_pg z_M_readsAll).2 44 = some (.aload_n 0, 45, 0, 0, 0, 0, 0, []) := (congrFun pm_M_readsAll 44).trans rfl
theorem rl_M_readsAll_45 : (am_pg z_M_readsAll).2 45 = some (.invokevirtual 101, 48, 96, 0, 9, 213, 0, []) := (congrFun pm_M_readsAll 45).trans rfl
theorem rl_M_readsAll_48 : (am_pg z_M_readsAll).2 48 = some (.iconst (-1), 49, 0, 0, 0, 0, -1, []) := (congrFun pm_M_readsAll 48).trans rfl
theorem rl_M_readsAll_49 : (am_pg z_M_readsAll).2 49 = some (.if_icmp .eq (7), 52, 56, 0, 0, 0, 0, []) := (congrFun pm_M_readsAll 49).trans rfl
theorem rl_M_readsAll_52 : (am_pg z_M_readsAll).2 52 = some (.iconst (1), 53, 0, 0, 0, 0, 1, []) := (congrFun pm_M_readsAll 52).trans rfl
theorem rl_M_readsAll_53 : (am_pg z_M_readsAll).2 53 = some (.goto (4), 56, 57, 0, 0, 0, 0, []) := (congrFun pm_M_readsAll 53).trans rfl
theorem rl_M_readsAll_56 : (am_pg z_M_readsAll).2 56 = some (.iconst (0), 57, 0, 0, 0, 0, 0, []) := (congrFun pm_M_readsAll 56).trans rfl
theorem rl_M_readsAll_57 : (am_pg z_M_readsAll).2 57 = some (.istore_n 3, 58, 3, 0, 0, 0, 0, []) := (congrFun pm_M_readsAll 57).trans rfl
theorem rl_M_readsAll_58 : (am_pg z_M_readsAll).2 58 = some (.iload_n 3, 59, 3, 0, 0, 0, 0, []) := (congrFun pm_M_readsAll 58).trans rfl
theorem rl_M_readsAll_59 : (am_pg z_M_readsAll).2 59 = some (.ifCond .eq (22), 62, 81, 0, 0, 0, 0, []) := (congrFun pm_M_readsAll 59).trans rfl
theorem rl_M_readsAll_62 : (am_pg z_M_readsAll).2 62 = some (.aload_n 0, 63, 0, 0, 0, 0, 0, []) := (congrFun pm_M_readsAll 62).trans rfl
theorem rl_M_readsAll_63 : (am_pg z_M_readsAll).2 63 = some (.invokevirtual 101, 66, 96, 0, 9, 213, 0, []) := (congrFun pm_M_readsAll 63).trans rfl
theorem rl_M_readsAll_66 : (am_pg z_M_readsAll).2 66 = some (.bipush (44), 68, 0, 0, 0, 0, 44, []) := (congrFun pm_M_readsAll 66).trans rfl
theorem rl_M_readsAll_68 : (am_pg z_M_readsAll).2 68 = some (.if_icmp .eq (13), 71, 81, 0, 0, 0, 0, []) := (congrFun pm_M_readsAll 68).trans rfl
theorem rl_M_readsAll_71 : (am_pg z_M_readsAll).2 71 = some (.aload_n 0, 72, 0, 0, 0, 0, 0, []) := (congrFun pm_M_readsAll 71).trans rfl
theorem rl_M_readsAll_72 : (am_pg z_M_readsAll).2 72 = some (.iconst (1), 73, 0, 0, 0, 0, 1, []) := (congrFun pm_M_readsAll 72).trans rfl
theorem rl_M_readsAll_73 : (am_pg z_M_readsAll).2 73 = some (.aload_n 0, 74, 0, 0, 0, 0, 0, []) := (congrFun pm_M_readsAll 73).trans rfl
theorem rl_M_readsAll_74 : (am_pg z_M_readsAll).2 74 = some (.getfield 88, 77, 9, 8, 0, 84, 0, []) := (congrFun pm_M_readsAll 74).trans rfl
theorem rl_M_readsAll_77 : (am_pg z_M_readsAll).2 77 = some (.invokevirtual 108, 80, 97, 2, 9, 214, 0, []) := (congrFun pm_M_readsAll 77).trans rfl
theorem rl_M_readsAll_80 : (am_pg z_M_readsAll).2 80 = some (.istore_n 3, 81, 3, 0, 0, 0, 0, []) := (congrFun pm_M_readsAll 80).trans rfl
theorem rl_M_readsAll_81 : (am_pg z_M_readsAll).2 81 = some (.iload_n 3, 82, 3, 0, 0, 0, 0, []) := (congrFun pm_M_readsAll 81).trans rfl
theorem rl_M_readsAll_82 : (am_pg z_M_readsAll).2 82 = some (.ifCond .eq (-58), 85, 24, 0, 0, 0, 0, []) := (congrFun pm_M_readsAll 82).trans rfl
theorem rl_M_readsAll_85 : (am_pg z_M_readsAll).2 85 = some (.aload_n 0, 86, 0, 0, 0, 0, 0, []) := (congrFun pm_M_readsAll 85).trans rfl
theorem rl_M_readsAll_86 : (am_pg z_M_readsAll).2 86 = some (.aload_n 0, 87, 0, 0, 0, 0, 0, []) := (congrFun pm_M_readsAll 86).trans rfl
theorem rl_M_readsAll_87 : (am_pg z_M_readsAll).2 87 = some (.getfield 88, 90, 9, 8, 0, 84, 0, []) := (congrFun pm_M_readsAll 87).trans rfl
theorem rl_M_readsAll_90 : (am_pg z_M_readsAll).2 90 = some (.iconst (1), 91, 0, 0, 0, 0, 1, []) := (congrFun pm_M_readsAll 90).trans rfl
theorem rl_M_readsAll_91 : (am_pg z_M_readsAll).2 91 = some (.iadd, 92, 0, 0, 0, 0, 0, []) := (congrFun pm_M_readsAll 91).trans rfl
theorem rl_M_readsAll_92 : (am_pg z_M_readsAll).2 92 = some (.putfield 88, 95, 9, 8, 0, 84, 0, []) := (congrFun pm_M_readsAll 92).trans rfl
theorem rl_M_readsAll_95 : (am_pg z_M_readsAll).2 95 = some (.goto (-71), 98, 24, 0, 0, 0, 0, []) := (congrFun pm_M_readsAll 95).trans rfl
theorem rl_M_readsAll_98 : (am_pg z_M_readsAll).2 98 = some (.aload_n 0, 99, 0, 0, 0, 0, 0, []) := (congrFun pm_M_readsAll 98).trans rfl
theorem rl_M_readsAll_99 : (am_pg z_M_readsAll).2 99 = some (.getfield 94, 102, 9, 10, 0, 86, 0, []) := (congrFun pm_M_readsAll 99).trans rfl
theorem rl_M_readsAll_102 : (am_pg z_M_readsAll).2 102 = some (.ifCond .eq (10), 105, 112, 0, 0, 0, 0, []) := (congrFun pm_M_readsAll 102).trans rfl
theorem rl_M_readsAll_105 : (am_pg z_M_readsAll).2 105 = some (.aload_n 0, 106, 0, 0, 0, 0, 0, []) := (congrFun pm_M_readsAll 105).trans rfl
theorem rl_M_readsAll_106 : (am_pg z_M_readsAll).2 106 = some (.getfield 94, 109, 9, 10, 0, 86, 0, []) := (congrFun pm_M_readsAll 106).trans rfl
theorem rl_M_readsAll_109 : (am_pg z_M_readsAll).2 109 = some (.goto (4), 112, 113, 0, 0, 0, 0, []) := (congrFun pm_M_readsAll 109).trans rfl
theorem rl_M_readsAll_112 : (am_pg z_M_readsAll).2 112 = some (.iload_n 2, 113, 2, 0, 0, 0, 0, []) := (congrFun pm_M_readsAll 112).trans rfl
theorem rl_M_readsAll_113 : (am_pg z_M_readsAll).2 113 = some (.ireturn, 114, 0, 0, 0, 0, 0, []) := (congrFun pm_M_readsAll 113).trans rfl
theorem rl_M_laysStays_0 : (am_pg z_M_laysStays).2 0 = some (.iconst (0), 1, 0, 0, 0, 0, 0, []) := (congrFun pm_M_laysStays 0).trans rfl
theorem rl_M_laysStays_1 : (am_pg z_M_laysStays).2 1 = some (.istore_n 2, 2, 2, 0, 0, 0, 0, []) := (congrFun pm_M_laysStays 1).trans rfl
theorem rl_M_laysStays_2 : (am_pg z_M_laysStays).2 2 = some (.iload_n 2, 3, 2, 0, 0, 0, 0, []) := (congrFun pm_M_laysStays 2).trans rfl
theorem rl_M_laysStays_3 : (am_pg z_M_laysStays).2 3 = some (.iload_n 1, 4, 1, 0, 0, 0, 0, []) := (congrFun pm_M_laysStays 3).trans rfl
theorem rl_M_laysStays_4 : (am_pg z_M_laysStays).2 4 = some (.if_icmp .ge (54), 7, 58, 0, 0, 0, 0, []) := (congrFun pm_M_laysStays 4).trans rfl
theorem rl_M_laysStays_7 : (am_pg z_M_laysStays).2 7 = some (.aload_n 0, 8, 0, 0, 0, 0, 0, []) := (congrFun pm_M_laysStays 7).trans rfl
theorem rl_M_laysStays_8 : (am_pg z_M_laysStays).2 8 = some (.getfield 29, 11, 9, 12, 0, 88, 0, []) := (congrFun pm_M_laysStays 8).trans rfl
theorem rl_M_laysStays_11 : (am_pg z_M_laysStays).2 11 = some (.iconst (3), 12, 0, 0, 0, 0, 3, []) := (congrFun pm_M_laysStays 11).trans rfl
theorem rl_M_laysStays_12 : (am_pg z_M_laysStays).2 12 = some (.iload_n 2, 13, 2, 0, 0, 0, 0, []) := (congrFun pm_M_laysStays 12).trans rfl
theorem rl_M_laysStays_13 : (am_pg z_M_laysStays).2 13 = some (.imul, 14, 0, 0, 0, 0, 0, []) := (congrFun pm_M_laysStays 13).trans rfl
theorem rl_M_laysStays_14 : (am_pg z_M_laysStays).2 14 = some (.iconst (1), 15, 0, 0, 0, 0, 1, []) := (congrFun pm_M_laysStays 14).trans rfl
theorem rl_M_laysStays_15 : (am_pg z_M_laysStays).2 15 = some (.iadd, 16, 0, 0, 0, 0, 0, []) := (congrFun pm_M_laysStays 15).trans rfl
theorem rl_M_laysStays_16 : (am_pg z_M_laysStays).2 16 = some (.iaload, 17, 0, 0, 0, 0, 0, []) := (congrFun pm_M_laysStays 16).trans rfl
theorem rl_M_laysStays_17 : (am_pg z_M_laysStays).2 17 = some (.istore_n 3, 18, 3, 0, 0, 0, 0, []) := (congrFun pm_M_laysStays 17).trans rfl
theorem rl_M_laysStays_18 : (am_pg z_M_laysStays).2 18 = some (.iload_n 3, 19, 3, 0, 0, 0, 0, []) := (congrFun pm_M_laysStays 18).trans rfl
theorem rl_M_laysStays_19 : (am_pg z_M_laysStays).2 19 = some (.aload_n 0, 20, 0, 0, 0, 0, 0, []) := (congrFun pm_M_laysStays 19).trans rfl
theorem rl_M_laysStays_20 : (am_pg z_M_laysStays).2 20 = some (.getfield 29, 23, 9, 12, 0, 88, 0, []) := (congrFun pm_M_laysStays 20).trans rfl
theorem rl_M_laysStays_23 : (am_pg z_M_laysStays).2 23 = some (.iconst (3), 24, 0, 0, 0, 0, 3, []) := (congrFun pm_M_laysStays 23).trans rfl
theorem rl_M_laysStays_24 : (am_pg z_M_laysStays).2 24 = some (.iload_n 2, 25, 2, 0, 0, 0, 0, []) := (congrFun pm_M_laysStays 24).trans rfl
theorem rl_M_laysStays_25 : (am_pg z_M_laysStays).2 25 = some (.imul, 26, 0, 0, 0, 0, 0, []) := (congrFun pm_M_laysStays 25).trans rfl
theorem rl_M_laysStays_26 : (am_pg z_M_laysStays).2 26 = some (.iconst (2), 27, 0, 0, 0, 0, 2, []) := (congrFun pm_M_laysStays 26).trans rfl
theorem rl_M_laysStays_27 : (am_pg z_M_laysStays).2 27 = some (.iadd, 28, 0, 0, 0, 0, 0, []) := (congrFun pm_M_laysStays 27).trans rfl
theorem rl_M_laysStays_28 : (am_pg z_M_laysStays).2 28 = some (.iaload, 29, 0, 0, 0, 0, 0, []) := (congrFun pm_M_laysStays 28).trans rfl
theorem rl_M_laysStays_29 : (am_pg z_M_laysStays).2 29 = some (.if_icmp .gt (23), 32, 52, 0, 0, 0, 0, []) := (congrFun pm_M_laysStays 29).trans rfl
theorem rl_M_laysStays_32 : (am_pg z_M_laysStays).2 32 = some (.aload_n 0, 33, 0, 0, 0, 0, 0, []) := (congrFun pm_M_laysStays 32).trans rfl
theorem rl_M_laysStays_33 : (am_pg z_M_laysStays).2 33 = some (.getfield 7, 36, 9, 0, 0, 76, 0, []) := (congrFun pm_M_laysStays 33).trans rfl
theorem rl_M_laysStays_36 : (am_pg z_M_laysStays).2 36 = some (.iload_n 3, 37, 3, 0, 0, 0, 0, []) := (congrFun pm_M_laysStays 36).trans rfl
theorem rl_M_laysStays_37 : (am_pg z_M_laysStays).2 37 = some (.aload_n 0, 38, 0, 0, 0, 0, 0, []) := (congrFun pm_M_laysStays 37).trans rfl
theorem rl_M_laysStays_38 : (am_pg z_M_laysStays).2 38 = some (.getfield 29, 41, 9, 12, 0, 88, 0, []) := (congrFun pm_M_laysStays 38).trans rfl
theorem rl_M_laysStays_41 : (am_pg z_M_laysStays).2 41 = some (.iconst (3), 42, 0, 0, 0, 0, 3, []) := (congrFun pm_M_laysStays 41).trans rfl
theorem rl_M_laysStays_42 : (am_pg z_M_laysStays).2 42 = some (.iload_n 2, 43, 2, 0, 0, 0, 0, []) := (congrFun pm_M_laysStays 42).trans rfl
theorem rl_M_laysStays_43 : (am_pg z_M_laysStays).2 43 = some (.imul, 44, 0, 0, 0, 0, 0, []) := (congrFun pm_M_laysStays 43).trans rfl
theorem rl_M_laysStays_44 : (am_pg z_M_laysStays).2 44 = some (.iaload, 45, 0, 0, 0, 0, 0, []) := (congrFun pm_M_laysStays 44).trans rfl
theorem rl_M_laysStays_45 : (am_pg z_M_laysStays).2 45 = some (.iastore, 46, 0, 0, 0, 0, 0, []) := (congrFun pm_M_laysStays 45).trans rfl
theorem rl_M_laysStays_46 : (am_pg z_M_laysStays).2 46 = some (.iinc 3 (1), 49, 3, 0, 0, 0, 1, []) := (congrFun pm_M_laysStays 46).trans rfl
theorem rl_M_laysStays_49 : (am_pg z_M_laysStays).2 49 = some (.goto (-31), 52, 18, 0, 0, 0, 0, []) := (congrFun pm_M_laysStays 49).trans rfl
theorem rl_M_laysStays_52 : (am_pg z_M_laysStays).2 52 = some (.iinc 2 (1), 55, 2, 0, 0, 0, 1, []) := (congrFun pm_M_laysStays 52).trans rfl
theorem rl_M_laysStays_55 : (am_pg z_M_laysStays).2 55 = some (.goto (-53), 58, 2, 0, 0, 0, 0, []) := (congrFun pm_M_laysStays 55).trans rfl
theorem rl_M_laysStays_58 : (am_pg z_M_laysStays).2 58 = some (.return_, 59, 0, 0, 0, 0, 0, []) := (congrFun pm_M_laysStays 58).trans rfl
theorem rl_M_hasText_0 : (am_pg z_M_hasText).2 0 = some (.iload_n 1, 1, 1, 0, 0, 0, 0, []) := (congrFun pm_M_hasText 0).trans rfl
theorem rl_M_hasText_1 : (am_pg z_M_hasText).2 1 = some (.i2l, 2, 0, 0, 0, 0, 0, []) := (congrFun pm_M_hasText 1).trans rfl
theorem rl_M_hasText_2 : (am_pg z_M_hasText).2 2 = some (.lconst 1, 3, 0, 0, 0, 0, 1, []) := (congrFun pm_M_hasText 2).trans rfl
theorem rl_M_hasText_3 : (am_pg z_M_hasText).2 3 = some (.ldc2_w 125, 6, 0, 0, 0, 0, 160, []) := (congrFun pm_M_hasText 3).trans rfl
theorem rl_M_hasText_6 : (am_pg z_M_hasText).2 6 = some (.invokestatic 66, 9, 84, 3, 0, 210, 0, []) := (congrFun pm_M_hasText 6).trans rfl
theorem rl_M_hasText_9 : (am_pg z_M_hasText).2 9 = some (.ifCond .eq (15), 12, 24, 0, 0, 0, 0, []) := (congrFun pm_M_hasText 9).trans rfl
theorem rl_M_hasText_12 : (am_pg z_M_hasText).2 12 = some (.iload_n 1, 13, 1, 0, 0, 0, 0, []) := (congrFun pm_M_hasText 12).trans rfl
theorem rl_M_hasText_13 : (am_pg z_M_hasText).2 13 = some (.aload_n 0, 14, 0, 0, 0, 0, 0, []) := (congrFun pm_M_hasText 13).trans rfl
theorem rl_M_hasText_14 : (am_pg z_M_hasText).2 14 = some (.getfield 80, 17, 9, 7, 0, 83, 0, []) := (congrFun pm_M_hasText 14).trans rfl
theorem rl_M_hasText_17 : (am_pg z_M_hasText).2 17 = some (.if_icmp .gt (7), 20, 24, 0, 0, 0, 0, []) := (congrFun pm_M_hasText 17).trans rfl
theorem rl_M_hasText_20 : (am_pg z_M_hasText).2 20 = some (.iconst (1), 21, 0, 0, 0, 0, 1, []) := (congrFun pm_M_hasText 20).trans rfl
theorem rl_M_hasText_21 : (am_pg z_M_hasText).2 21 = some (.goto (4), 24, 25, 0, 0, 0, 0, []) := (congrFun pm_M_hasText 21).trans rfl
theorem rl_M_hasText_24 : (am_pg z_M_hasText).2 24 = some (.iconst (0), 25, 0, 0, 0, 0, 0, []) := (congrFun pm_M_hasText 24).trans rfl
theorem rl_M_hasText_25 : (am_pg z_M_hasText).2 25 = some (.ireturn, 26, 0, 0, 1, 0, 0, []) := (congrFun pm_M_hasText 25).trans rfl
theorem rl_M_calendar_0 : (am_pg z_M_calendar).2 0 = some (.aload_n 0, 1, 0, 0, 0, 0, 0, []) := (congrFun pm_M_calendar 0).trans rfl
theorem rl_M_calendar_1 : (am_pg z_M_calendar).2 1 = some (.iload_n 1, 2, 1, 0, 0, 0, 0, []) := (congrFun pm_M_calendar 1).trans rfl
theorem rl_M_calendar_2 : (am_pg z_M_calendar).2 2 = some (.invokevirtual 127, 5, 103, 1, 9, 209, 0, []) := (congrFun pm_M_calendar 2).trans rfl
theorem rl_M_calendar_5 : (am_pg z_M_calendar).2 5 = some (.ifCond .ne (5), 8, 10, 0, 0, 0, 0, []) := (congrFun pm_M_calendar 5).trans rfl
theorem rl_M_calendar_8 : (am_pg z_M_calendar).2 8 = some (.iconst (-1), 9, 0, 0, 0, 0, -1, []) := (congrFun pm_M_calendar 8).trans rfl
theorem rl_M_calendar_9 : (am_pg z_M_calendar).2 9 = some (.ireturn, 10, 0, 0, 0, 0, 0, []) := (congrFun pm_M_calendar 9).trans rfl
theorem rl_M_calendar_10 : (am_pg z_M_calendar).2 10 = some (.aload_n 0, 11, 0, 0, 0, 0, 0, []) := (congrFun pm_M_calendar 10).trans rfl
theorem rl_M_calendar_11 : (am_pg z_M_calendar).2 11 = some (.iload_n 1, 12, 1, 0, 0, 0, 0, []) := (congrFun pm_M_calendar 11).trans rfl
theorem rl_M_calendar_12 : (am_pg z_M_calendar).2 12 = some (.invokevirtual 130, 15, 101, 1, 9, 211, 0, []) := (congrFun pm_M_calendar 12).trans rfl
theorem rl_M_calendar_15 : (am_pg z_M_calendar).2 15 = some (.istore_n 2, 16, 2, 0, 0, 0, 0, []) := (congrFun pm_M_calendar 15).trans rfl
theorem rl_M_calendar_16 : (am_pg z_M_calendar).2 16 = some (.iload_n 2, 17, 2, 0, 0, 0, 0, []) := (congrFun pm_M_calendar 16).trans rfl
theorem rl_M_calendar_17 : (am_pg z_M_calendar).2 17 = some (.ifCond .le (8), 20, 25, 0, 0, 0, 0, []) := (congrFun pm_M_calendar 17).trans rfl
theorem rl_M_calendar_20 : (am_pg z_M_calendar).2 20 = some (.aload_n 0, 21, 0, 0, 0, 0, 0, []) := (congrFun pm_M_calendar 20).trans rfl
theorem rl_M_calendar_21 : (am_pg z_M_calendar).2 21 = some (.iload_n 2, 22, 2, 0, 0, 0, 0, []) := (congrFun pm_M_calendar 21).trans rfl
theorem rl_M_calendar_22 : (am_pg z_M_calendar).2 22 = some (.invokevirtual 134, 25, 102, 1, 9, 217, 0, []) := (congrFun pm_M_calendar 22).trans rfl
theorem rl_M_calendar_25 : (am_pg z_M_calendar).2 25 = some (.iload_n 2, 26, 2, 0, 0, 0, 0, []) := (congrFun pm_M_calendar 25).trans rfl
theorem rl_M_calendar_26 : (am_pg z_M_calendar).2 26 = some (.ireturn, 27, 0, 0, 0, 0, 0, []) := (congrFun pm_M_calendar 26).trans rfl
theorem rl_M_stay_0 : (am_pg z_M_stay).2 0 = some (.iload_n 1, 1, 1, 0, 0, 0, 0, []) := (congrFun pm_M_stay 0).trans rfl
theorem rl_M_stay_1 : (am_pg z_M_stay).2 1 = some (.invokestatic 137, 4, 86, 1, 0, 219, 0, []) := (congrFun pm_M_stay 1).trans rfl
theorem rl_M_stay_4 : (am_pg z_M_stay).2 4 = some (.ifCond .eq (11), 7, 15, 0, 0, 0, 0, []) := (congrFun pm_M_stay 4).trans rfl
theorem rl_M_stay_7 : (am_pg z_M_stay).2 7 = some (.iload_n 2, 8, 2, 0, 0, 0, 0, []) := (congrFun pm_M_stay 7).trans rfl
theorem rl_M_stay_8 : (am_pg z_M_stay).2 8 = some (.iload_n 3, 9, 3, 0, 0, 0, 0, []) := (congrFun pm_M_stay 8).trans rfl
theorem rl_M_stay_9 : (am_pg z_M_stay).2 9 = some (.invokestatic 140, 12, 88, 2, 0, 220, 0, []) := (congrFun pm_M_stay 9).trans rfl
theorem rl_M_stay_12 : (am_pg z_M_stay).2 12 = some (.ifCond .ne (5), 15, 17, 0, 0, 0, 0, []) := (congrFun pm_M_stay 12).trans rfl
theorem rl_M_stay_15 : (am_pg z_M_stay).2 15 = some (.iconst (-1), 16, 0, 0, 0, 0, -1, []) := (congrFun pm_M_stay 15).trans rfl
theorem rl_M_stay_16 : (am_pg z_M_stay).2 16 = some (.ireturn, 17, 0, 0, 0, 0, 0, []) := (congrFun pm_M_stay 16).trans rfl
theorem rl_M_stay_17 : (am_pg z_M_stay).2 17 = some (.iconst (0), 18, 0, 0, 0, 0, 0, []) := (congrFun pm_M_stay 17).trans rfl
theorem rl_M_stay_18 : (am_pg z_M_stay).2 18 = some (.istore 4, 20, 4, 0, 0, 0, 0, []) := (congrFun pm_M_stay 18).trans rfl
theorem rl_M_stay_20 : (am_pg z_M_stay).2 20 = some (.iload_n 2, 21, 2, 0, 0, 0, 0, []) := (congrFun pm_M_stay 20).trans rfl
theorem rl_M_stay_21 : (am_pg z_M_stay).2 21 = some (.istore 5, 23, 5, 0, 0, 0, 0, []) := (congrFun pm_M_stay 21).trans rfl
theorem rl_M_stay_23 : (am_pg z_M_stay).2 23 = some (.iload 5, 25, 5, 0, 0, 0, 0, []) := (congrFun pm_M_stay 23).trans rfl
theorem rl_M_stay_25 : (am_pg z_M_stay).2 25 = some (.iload_n 3, 26, 3, 0, 0, 0, 0, []) := (congrFun pm_M_stay 25).trans rfl
theorem rl_M_stay_26 : (am_pg z_M_stay).2 26 = some (.if_icmp .gt (38), 29, 64, 0, 0, 0, 0, []) := (congrFun pm_M_stay 26).trans rfl
theorem rl_M_stay_29 : (am_pg z_M_stay).2 29 = some (.iload 4, 31, 4, 0, 0, 0, 0, []) := (congrFun pm_M_stay 29).trans rfl
theorem rl_M_stay_31 : (am_pg z_M_stay).2 31 = some (.aload_n 0, 32, 0, 0, 0, 0, 0, []) := (congrFun pm_M_stay 31).trans rfl
theorem rl_M_stay_32 : (am_pg z_M_stay).2 32 = some (.getfield 7, 35, 9, 0, 0, 76, 0, []) := (congrFun pm_M_stay 32).trans rfl
theorem rl_M_stay_35 : (am_pg z_M_stay).2 35 = some (.iload 5, 37, 5, 0, 0, 0, 0, []) := (congrFun pm_M_stay 35).trans rfl
theorem rl_M_stay_37 : (am_pg z_M_stay).2 37 = some (.iaload, 38, 0, 0, 0, 0, 0, []) := (congrFun pm_M_stay 37).trans rfl
theorem rl_M_stay_38 : (am_pg z_M_stay).2 38 = some (.iload_n 1, 39, 1, 0, 0, 0, 0, []) := (congrFun pm_M_stay 38).trans rfl
theorem rl_M_stay_39 : (am_pg z_M_stay).2 39 = some (.if_icmp .ne (7), 42, 46, 0, 0, 0, 0, []) := (congrFun pm_M_stay 39).trans rfl
theorem rl_M_stay_42 : (am_pg z_M_stay).2 42 = some (.iconst (0), 43, 0, 0, 0, 0, 0, []) := (congrFun pm_M_stay 42).trans rfl
theorem rl_M_stay_43 : (am_pg z_M_stay).2 43 = some (.goto (4), 46, 47, 0, 0, 0, 0, []) := (congrFun pm_M_stay 43).trans rfl
theorem rl_M_stay_46 : (am_pg z_M_stay).2 46 = some (.iconst (1), 47, 0, 0, 0, 0, 1, []) := (congrFun pm_M_stay 46).trans rfl
theorem rl_M_stay_47 : (am_pg z_M_stay).2 47 = some (.iadd, 48, 0, 0, 0, 0, 0, []) := (congrFun pm_M_stay 47).trans rfl
theorem rl_M_stay_48 : (am_pg z_M_stay).2 48 = some (.istore 4, 50, 4, 0, 0, 0, 0, []) := (congrFun pm_M_stay 48).trans rfl
theorem rl_M_stay_50 : (am_pg z_M_stay).2 50 = some (.aload_n 0, 51, 0, 0, 0, 0, 0, []) := (congrFun pm_M_stay 50).trans rfl
theorem rl_M_stay_51 : (am_pg z_M_stay).2 51 = some (.getfield 7, 54, 9, 0, 0, 76, 0, []) := (congrFun pm_M_stay 51).trans rfl
theorem rl_M_stay_54 : (am_pg z_M_stay).2 54 = some (.iload 5, 56, 5, 0, 0, 0, 0, []) := (congrFun pm_M_stay 54).trans rfl
theorem rl_M_stay_56 : (am_pg z_M_stay).2 56 = some (.iload_n 1, 57, 1, 0, 0, 0, 0, []) := (congrFun pm_M_stay 56).trans rfl
theorem rl_M_stay_57 : (am_pg z_M_stay).2 57 = some (.iastore, 58, 0, 0, 0, 0, 0, []) := (congrFun pm_M_stay 57).trans rfl
theorem rl_M_stay_58 : (am_pg z_M_stay).2 58 = some (.iinc 5 (1), 61, 5, 0, 0, 0, 1, []) := (congrFun pm_M_stay 58).trans rfl
theorem rl_M_stay_61 : (am_pg z_M_stay).2 61 = some (.goto (-38), 64, 23, 0, 0, 0, 0, []) := (congrFun pm_M_stay 61).trans rfl
theorem rl_M_stay_64 : (am_pg z_M_stay).2 64 = some (.iload 4, 66, 4, 0, 0, 0, 0, []) := (congrFun pm_M_stay 64).trans rfl
theorem rl_M_stay_66 : (am_pg z_M_stay).2 66 = some (.ireturn, 67, 0, 0, 0, 0, 0, []) := (congrFun pm_M_stay 66).trans rfl
theorem rl_M_home_0 : (am_pg z_M_home).2 0 = some (.iload_n 1, 1, 1, 0, 0, 0, 0, []) := (congrFun pm_M_home 0).trans rfl
theorem rl_M_home_1 : (am_pg z_M_home).2 1 = some (.invokestatic 143, 4, 85, 1, 0, 223, 0, []) := (congrFun pm_M_home 1).trans rfl
theorem rl_M_home_4 : (am_pg z_M_home).2 4 = some (.ifCond .eq (11), 7, 15, 0, 0, 0, 0, []) := (congrFun pm_M_home 4).trans rfl
theorem rl_M_home_7 : (am_pg z_M_home).2 7 = some (.iload_n 2, 8, 2, 0, 0, 0, 0, []) := (congrFun pm_M_home 7).trans rfl
theorem rl_M_home_8 : (am_pg z_M_home).2 8 = some (.iload_n 3, 9, 3, 0, 0, 0, 0, []) := (congrFun pm_M_home 8).trans rfl
theorem rl_M_home_9 : (am_pg z_M_home).2 9 = some (.invokestatic 140, 12, 88, 2, 0, 220, 0, []) := (congrFun pm_M_home 9).trans rfl
theorem rl_M_home_12 : (am_pg z_M_home).2 12 = some (.ifCond .ne (5), 15, 17, 0, 0, 0, 0, []) := (congrFun pm_M_home 12).trans rfl
theorem rl_M_home_15 : (am_pg z_M_home).2 15 = some (.iconst (-1), 16, 0, 0, 0, 0, -1, []) := (congrFun pm_M_home 15).trans rfl
theorem rl_M_home_16 : (am_pg z_M_home).2 16 = some (.ireturn, 17, 0, 0, 0, 0, 0, []) := (congrFun pm_M_home 16).trans rfl
theorem rl_M_home_17 : (am_pg z_M_home).2 17 = some (.iconst (0), 18, 0, 0, 0, 0, 0, []) := (congrFun pm_M_home 17).trans rfl
theorem rl_M_home_18 : (am_pg z_M_home).2 18 = some (.istore 5, 20, 5, 0, 0, 0, 0, []) := (congrFun pm_M_home 18).trans rfl
theorem rl_M_home_20 : (am_pg z_M_home).2 20 = some (.iload_n 2, 21, 2, 0, 0, 0, 0, []) := (congrFun pm_M_home 20).trans rfl
theorem rl_M_home_21 : (am_pg z_M_home).2 21 = some (.istore 6, 23, 6, 0, 0, 0, 0, []) := (congrFun pm_M_home 21).trans rfl
theorem rl_M_home_23 : (am_pg z_M_home).2 23 = some (.iload 6, 25, 6, 0, 0, 0, 0, []) := (congrFun pm_M_home 23).trans rfl
theorem rl_M_home_25 : (am_pg z_M_home).2 25 = some (.iload_n 3, 26, 3, 0, 0, 0, 0, []) := (congrFun pm_M_home 25).trans rfl
theorem rl_M_home_26 : (am_pg z_M_home).2 26 = some (.if_icmp .gt (83), 29, 109, 0, 0, 0, 0, []) := (congrFun pm_M_home 26).trans rfl
theorem rl_M_home_29 : (am_pg z_M_home).2 29 = some (.aload_n 0, 30, 0, 0, 0, 0, 0, []) := (congrFun pm_M_home 29).trans rfl
theorem rl_M_home_30 : (am_pg z_M_home).2 30 = some (.getfield 13, 33, 9, 1, 0, 77, 0, []) := (congrFun pm_M_home 30).trans rfl
theorem rl_M_home_33 : (am_pg z_M_home).2 33 = some (.iload 6, 35, 6, 0, 0, 0, 0, []) := (congrFun pm_M_home 33).trans rfl
theorem rl_M_home_35 : (am_pg z_M_home).2 35 = some (.iaload, 36, 0, 0, 0, 0, 0, []) := (congrFun pm_M_home 35).trans rfl
theorem rl_M_home_36 : (am_pg z_M_home).2 36 = some (.iload_n 1, 37, 1, 0, 0, 0, 0, []) := (congrFun pm_M_home 36).trans rfl
theorem rl_M_home_37 : (am_pg z_M_home).2 37 = some (.ishr, 38, 0, 0, 0, 0, 0, []) := (congrFun pm_M_home 37).trans rfl
theorem rl_M_home_38 : (am_pg z_M_home).2 38 = some (.iconst (1), 39, 0, 0, 0, 0, 1, []) := (congrFun pm_M_home 38).trans rfl
theorem rl_M_home_39 : (am_pg z_M_home).2 39 = some (.iand, 40, 0, 0, 0, 0, 0, []) := (congrFun pm_M_home 39).trans rfl
theorem rl_M_home_40 : (am_pg z_M_home).2 40 = some (.iconst (1), 41, 0, 0, 0, 0, 1, []) := (congrFun pm_M_home 40).trans rfl
theorem rl_M_home_41 : (am_pg z_M_home).2 41 = some (.if_icmp .ne (7), 44, 48, 0, 0, 0, 0, []) := (congrFun pm_M_home 41).trans rfl
theorem rl_M_home_44 : (am_pg z_M_home).2 44 = some (.iconst (1), 45, 0, 0, 0, 0, 1, []) := (congrFun pm_M_home 44).trans rfl
theorem rl_M_home_45 : (am_pg z_M_home).2 45 = some (.goto (4), 48, 49, 0, 0, 0, 0, []) := (congrFun pm_M_home 45).trans rfl
theorem rl_M_home_48 : (am_pg z_M_home).2 48 = some (.iconst (0), 49, 0, 0, 0, 0, 0, []) := (congrFun pm_M_home 48).trans rfl
theorem rl_M_home_49 : (am_pg z_M_home).2 49 = some (.istore 7, 51, 7, 0, 0, 0, 0, []) := (congrFun pm_M_home 49).trans rfl
theorem rl_M_home_51 : (am_pg z_M_home).2 51 = some (.iload 5, 53, 5, 0, 0, 0, 0, []) := (congrFun pm_M_home 51).trans rfl
theorem rl_M_home_53 : (am_pg z_M_home).2 53 = some (.iload 7, 55, 7, 0, 0, 0, 0, []) := (congrFun pm_M_home 53).trans rfl
theorem rl_M_home_55 : (am_pg z_M_home).2 55 = some (.iload 4, 57, 4, 0, 0, 0, 0, []) := (congrFun pm_M_home 55).trans rfl
theorem rl_M_home_57 : (am_pg z_M_home).2 57 = some (.if_icmp .ne (7), 60, 64, 0, 0, 0, 0, []) := (congrFun pm_M_home 57).trans rfl
theorem rl_M_home_60 : (am_pg z_M_home).2 60 = some (.iconst (0), 61, 0, 0, 0, 0, 0, []) := (congrFun pm_M_home 60).trans rfl
theorem rl_M_home_61 : (am_pg z_M_home).2 61 = some (.goto (4), 64, 65, 0, 0, 0, 0, []) := (congrFun pm_M_home 61).trans rfl
theorem rl_M_home_64 : (am_pg z_M_home).2 64 = some (.iconst (1), 65, 0, 0, 0, 0, 1, []) := (congrFun pm_M_home 64).trans rfl
theorem rl_M_home_65 : (am_pg z_M_home).2 65 = some (.iadd, 66, 0, 0, 0, 0, 0, []) := (congrFun pm_M_home 65).trans rfl
theorem rl_M_home_66 : (am_pg z_M_home).2 66 = some (.istore 5, 68, 5, 0, 0, 0, 0, []) := (congrFun pm_M_home 66).trans rfl
theorem rl_M_home_68 : (am_pg z_M_home).2 68 = some (.aload_n 0, 69, 0, 0, 0, 0, 0, []) := (congrFun pm_M_home 68).trans rfl
theorem rl_M_home_69 : (am_pg z_M_home).2 69 = some (.getfield 13, 72, 9, 1, 0, 77, 0, []) := (congrFun pm_M_home 69).trans rfl
theorem rl_M_home_72 : (am_pg z_M_home).2 72 = some (.iload 6, 74, 6, 0, 0, 0, 0, []) := (congrFun pm_M_home 72).trans rfl
theorem rl_M_home_74 : (am_pg z_M_home).2 74 = some (.iload 7, 76, 7, 0, 0, 0, 0, []) := (congrFun pm_M_home 74).trans rfl
theorem rl_M_home_76 : (am_pg z_M_home).2 76 = some (.iload 4, 78, 4, 0, 0, 0, 0, []) := (congrFun pm_M_home 76).trans rfl
theorem rl_M_home_78 : (am_pg z_M_home).2 78 = some (.if_icmp .ne (13), 81, 91, 0, 0, 0, 0, []) := (congrFun pm_M_home 78).trans rfl
theorem rl_M_home_81 : (am_pg z_M_home).2 81 = some (.aload_n 0, 82, 0, 0, 0, 0, 0, []) := (congrFun pm_M_home 81).trans rfl
theorem rl_M_home_82 : (am_pg z_M_home).2 82 = some (.getfield 13, 85, 9, 1, 0, 77, 0, []) := (congrFun pm_M_home 82).trans rfl
theorem rl_M_home_85 : (am_pg z_M_home).2 85 = some (.iload 6, 87, 6, 0, 0, 0, 0, []) := (congrFun pm_M_home 85).trans rfl
theorem rl_M_home_87 : (am_pg z_M_home).2 87 = some (.iaload, 88, 0, 0, 0, 0, 0, []) := (congrFun pm_M_home 87).trans rfl
theorem rl_M_home_88 : (am_pg z_M_home).2 88 = some (.goto (14), 91, 102, 0, 0, 0, 0, []) := (congrFun pm_M_home 88).trans rfl
theorem rl_M_home_91 : (am_pg z_M_home).2 91 = some (.aload_n 0, 92, 0, 0, 0, 0, 0, []) := (congrFun pm_M_home 91).trans rfl
theorem rl_M_home_92 : (am_pg z_M_home).2 92 = some (.getfield 13, 95, 9, 1, 0, 77, 0, []) := (congrFun pm_M_home 92).trans rfl
theorem rl_M_home_95 : (am_pg z_M_home).2 95 = some (.iload 6, 97, 6, 0, 0, 0, 0, []) := (congrFun pm_M_home 95).trans rfl
theorem rl_M_home_97 : (am_pg z_M_home).2 97 = some (.iaload, 98, 0, 0, 0, 0, 0, []) := (congrFun pm_M_home 97).trans rfl
theorem rl_M_home_98 : (am_pg z_M_home).2 98 = some (.iconst (1), 99, 0, 0, 0, 0, 1, []) := (congrFun pm_M_home 98).trans rfl
theorem rl_M_home_99 : (am_pg z_M_home).2 99 = some (.iload_n 1, 100, 1, 0, 0, 0, 0, []) := (congrFun pm_M_home 99).trans rfl
theorem rl_M_home_100 : (am_pg z_M_home).2 100 = some (.ishl, 101, 0, 0, 0, 0, 0, []) := (congrFun pm_M_home 100).trans rfl
theorem rl_M_home_101 : (am_pg z_M_home).2 101 = some (.ixor, 102, 0, 0, 0, 0, 0, []) := (congrFun pm_M_home 101).trans rfl
theorem rl_M_home_102 : (am_pg z_M_home).2 102 = some (.iastore, 103, 0, 0, 0, 0, 0, []) := (congrFun pm_M_home 102).trans rfl
theorem rl_M_home_103 : (am_pg z_M_home).2 103 = some (.iinc 6 (1), 106, 6, 0, 0, 0, 1, []) := (congrFun pm_M_home 103).trans rfl
theorem rl_M_home_106 : (am_pg z_M_home).2 106 = some (.goto (-83), 109, 23, 0, 0, 0, 0, []) := (congrFun pm_M_home 106).trans rfl
theorem rl_M_home_109 : (am_pg z_M_home).2 109 = some (.iload 5, 111, 5, 0, 0, 0, 0, []) := (congrFun pm_M_home 109).trans rfl
theorem rl_M_home_111 : (am_pg z_M_home).2 111 = some (.ireturn, 112, 0, 0, 0, 0, 0, []) := (congrFun pm_M_home 111).trans rfl
theorem rl_M_centre_0 : (am_pg z_M_centre).2 0 = some (.iload_n 1, 1, 1, 0, 0, 0, 0, []) := (congrFun pm_M_centre 0).trans rfl
theorem rl_M_centre_1 : (am_pg z_M_centre).2 1 = some (.invokestatic 137, 4, 86, 1, 0, 219, 0, []) := (congrFun pm_M_centre 1).trans rfl
theorem rl_M_centre_4 : (am_pg z_M_centre).2 4 = some (.ifCond .eq (11), 7, 15, 0, 0, 0, 0, []) := (congrFun pm_M_centre 4).trans rfl
theorem rl_M_centre_7 : (am_pg z_M_centre).2 7 = some (.iload_n 2, 8, 2, 0, 0, 0, 0, []) := (congrFun pm_M_centre 7).trans rfl
theorem rl_M_centre_8 : (am_pg z_M_centre).2 8 = some (.iload_n 3, 9, 3, 0, 0, 0, 0, []) := (congrFun pm_M_centre 8).trans rfl
theorem rl_M_centre_9 : (am_pg z_M_centre).2 9 = some (.invokestatic 140, 12, 88, 2, 0, 220, 0, []) := (congrFun pm_M_centre 9).trans rfl
theorem rl_M_centre_12 : (am_pg z_M_centre).2 12 = some (.ifCond .ne (5), 15, 17, 0, 0, 0, 0, []) := (congrFun pm_M_centre 12).trans rfl
theorem rl_M_centre_15 : (am_pg z_M_centre).2 15 = some (.iconst (-1), 16, 0, 0, 0, 0, -1, []) := (congrFun pm_M_centre 15).trans rfl
theorem rl_M_centre_16 : (am_pg z_M_centre).2 16 = some (.ireturn, 17, 0, 0, 0, 0, 0, []) := (congrFun pm_M_centre 16).trans rfl
theorem rl_M_centre_17 : (am_pg z_M_centre).2 17 = some (.iconst (0), 18, 0, 0, 0, 0, 0, []) := (congrFun pm_M_centre 17).trans rfl
theorem rl_M_centre_18 : (am_pg z_M_centre).2 18 = some (.istore 4, 20, 4, 0, 0, 0, 0, []) := (congrFun pm_M_centre 18).trans rfl
theorem rl_M_centre_20 : (am_pg z_M_centre).2 20 = some (.iload_n 2, 21, 2, 0, 0, 0, 0, []) := (congrFun pm_M_centre 20).trans rfl
theorem rl_M_centre_21 : (am_pg z_M_centre).2 21 = some (.istore 5, 23, 5, 0, 0, 0, 0, []) := (congrFun pm_M_centre 21).trans rfl
theorem rl_M_centre_23 : (am_pg z_M_centre).2 23 = some (.iload 5, 25, 5, 0, 0, 0, 0, []) := (congrFun pm_M_centre 23).trans rfl
theorem rl_M_centre_25 : (am_pg z_M_centre).2 25 = some (.iload_n 3, 26, 3, 0, 0, 0, 0, []) := (congrFun pm_M_centre 25).trans rfl
theorem rl_M_centre_26 : (am_pg z_M_centre).2 26 = some (.if_icmp .gt (38), 29, 64, 0, 0, 0, 0, []) := (congrFun pm_M_centre 26).trans rfl
theorem rl_M_centre_29 : (am_pg z_M_centre).2 29 = some (.iload 4, 31, 4, 0, 0, 0, 0, []) := (congrFun pm_M_centre 29).trans rfl
theorem rl_M_centre_31 : (am_pg z_M_centre).2 31 = some (.aload_n 0, 32, 0, 0, 0, 0, 0, []) := (congrFun pm_M_centre 31).trans rfl
theorem rl_M_centre_32 : (am_pg z_M_centre).2 32 = some (.getfield 16, 35, 9, 2, 0, 78, 0, []) := (congrFun pm_M_centre 32).trans rfl
theorem rl_M_centre_35 : (am_pg z_M_centre).2 35 = some (.iload 5, 37, 5, 0, 0, 0, 0, []) := (congrFun pm_M_centre 35).trans rfl
theorem rl_M_centre_37 : (am_pg z_M_centre).2 37 = some (.iaload, 38, 0, 0, 0, 0, 0, []) := (congrFun pm_M_centre 37).trans rfl
theorem rl_M_centre_38 : (am_pg z_M_centre).2 38 = some (.iload_n 1, 39, 1, 0, 0, 0, 0, []) := (congrFun pm_M_centre 38).trans rfl
theorem rl_M_centre_39 : (am_pg z_M_centre).2 39 = some (.if_icmp .ne (7), 42, 46, 0, 0, 0, 0, []) := (congrFun pm_M_centre 39).trans rfl
theorem rl_M_centre_42 : (am_pg z_M_centre).2 42 = some (.iconst (0), 43, 0, 0, 0, 0, 0, []) := (congrFun pm_M_centre 42).trans rfl
theorem rl_M_centre_43 : (am_pg z_M_centre).2 43 = some (.goto (4), 46, 47, 0, 0, 0, 0, []) := (congrFun pm_M_centre 43).trans rfl
theorem rl_M_centre_46 : (am_pg z_M_centre).2 46 = some (.iconst (1), 47, 0, 0, 0, 0, 1, []) := (congrFun pm_M_centre 46).trans rfl
theorem rl_M_centre_47 : (am_pg z_M_centre).2 47 = some (.iadd, 48, 0, 0, 0, 0, 0, []) := (congrFun pm_M_centre 47).trans rfl
theorem rl_M_centre_48 : (am_pg z_M_centre).2 48 = some (.istore 4, 50, 4, 0, 0, 0, 0, []) := (congrFun pm_M_centre 48).trans rfl
theorem rl_M_centre_50 : (am_pg z_M_centre).2 50 = some (.aload_n 0, 51, 0, 0, 0, 0, 0, []) := (congrFun pm_M_centre 50).trans rfl
theorem rl_M_centre_51 : (am_pg z_M_centre).2 51 = some (.getfield 16, 54, 9, 2, 0, 78, 0, []) := (congrFun pm_M_centre 51).trans rfl
theorem rl_M_centre_54 : (am_pg z_M_centre).2 54 = some (.iload 5, 56, 5, 0, 0, 0, 0, []) := (congrFun pm_M_centre 54).trans rfl
theorem rl_M_centre_56 : (am_pg z_M_centre).2 56 = some (.iload_n 1, 57, 1, 0, 0, 0, 0, []) := (congrFun pm_M_centre 56).trans rfl
theorem rl_M_centre_57 : (am_pg z_M_centre).2 57 = some (.iastore, 58, 0, 0, 0, 0, 0, []) := (congrFun pm_M_centre 57).trans rfl
theorem rl_M_centre_58 : (am_pg z_M_centre).2 58 = some (.iinc 5 (1), 61, 5, 0, 0, 0, 1, []) := (congrFun pm_M_centre 58).trans rfl
theorem rl_M_centre_61 : (am_pg z_M_centre).2 61 = some (.goto (-38), 64, 23, 0, 0, 0, 0, []) := (congrFun pm_M_centre 61).trans rfl
theorem rl_M_centre_64 : (am_pg z_M_centre).2 64 = some (.iload 4, 66, 4, 0, 0, 0, 0, []) := (congrFun pm_M_centre 64).trans rfl
theorem rl_M_centre_66 : (am_pg z_M_centre).2 66 = some (.ireturn, 67, 0, 0, 0, 0, 0, []) := (congrFun pm_M_centre 66).trans rfl
theorem rl_M_nation_0 : (am_pg z_M_nation).2 0 = some (.iload_n 1, 1, 1, 0, 0, 0, 0, []) := (congrFun pm_M_nation 0).trans rfl
theorem rl_M_nation_1 : (am_pg z_M_nation).2 1 = some (.invokestatic 143, 4, 85, 1, 0, 223, 0, []) := (congrFun pm_M_nation 1).trans rfl
theorem rl_M_nation_4 : (am_pg z_M_nation).2 4 = some (.ifCond .eq (22), 7, 26, 0, 0, 0, 0, []) := (congrFun pm_M_nation 4).trans rfl
theorem rl_M_nation_7 : (am_pg z_M_nation).2 7 = some (.aload_n 0, 8, 0, 0, 0, 0, 0, []) := (congrFun pm_M_nation 7).trans rfl
theorem rl_M_nation_8 : (am_pg z_M_nation).2 8 = some (.iload_n 1, 9, 1, 0, 0, 0, 0, []) := (congrFun pm_M_nation 8).trans rfl
theorem rl_M_nation_9 : (am_pg z_M_nation).2 9 = some (.bipush (6), 11, 0, 0, 0, 0, 6, []) := (congrFun pm_M_nation 9).trans rfl
theorem rl_M_nation_11 : (am_pg z_M_nation).2 11 = some (.invokevirtual 146, 14, 92, 2, 9, 226, 0, []) := (congrFun pm_M_nation 11).trans rfl
theorem rl_M_nation_14 : (am_pg z_M_nation).2 14 = some (.iload_n 2, 15, 2, 0, 0, 0, 0, []) := (congrFun pm_M_nation 14).trans rfl
theorem rl_M_nation_15 : (am_pg z_M_nation).2 15 = some (.ifCond .eq (7), 18, 22, 0, 0, 0, 0, []) := (congrFun pm_M_nation 15).trans rfl
theorem rl_M_nation_18 : (am_pg z_M_nation).2 18 = some (.iconst (1), 19, 0, 0, 0, 0, 1, []) := (congrFun pm_M_nation 18).trans rfl
theorem rl_M_nation_19 : (am_pg z_M_nation).2 19 = some (.goto (4), 22, 23, 0, 0, 0, 0, []) := (congrFun pm_M_nation 19).trans rfl
theorem rl_M_nation_22 : (am_pg z_M_nation).2 22 = some (.iconst (0), 23, 0, 0, 0, 0, 0, []) := (congrFun pm_M_nation 22).trans rfl
theorem rl_M_nation_23 : (am_pg z_M_nation).2 23 = some (.if_icmp .ne (5), 26, 28, 0, 0, 0, 0, []) := (congrFun pm_M_nation 23).trans rfl
theorem rl_M_nation_26 : (am_pg z_M_nation).2 26 = some (.iconst (0), 27, 0, 0, 0, 0, 0, []) := (congrFun pm_M_nation 26).trans rfl
theorem rl_M_nation_27 : (am_pg z_M_nation).2 27 = some (.ireturn, 28, 0, 0, 1, 0, 0, []) := (congrFun pm_M_nation 27).trans rfl
theorem rl_M_nation_28 : (am_pg z_M_nation).2 28 = some (.aload_n 0, 29, 0, 0, 0, 0, 0, []) := (congrFun pm_M_nation 28).trans rfl
theorem rl_M_nation_29 : (am_pg z_M_nation).2 29 = some (.iload_n 1, 30, 1, 0, 0, 0, 0, []) := (congrFun pm_M_nation 29).trans rfl
theorem rl_M_nation_30 : (am_pg z_M_nation).2 30 = some (.bipush (6), 32, 0, 0, 0, 0, 6, []) := (congrFun pm_M_nation 30).trans rfl
theorem rl_M_nation_32 : (am_pg z_M_nation).2 32 = some (.iload_n 2, 33, 2, 0, 0, 0, 0, []) := (congrFun pm_M_nation 32).trans rfl
theorem rl_M_nation_33 : (am_pg z_M_nation).2 33 = some (.ifCond .eq (7), 36, 40, 0, 0, 0, 0, []) := (congrFun pm_M_nation 33).trans rfl
theorem rl_M_nation_36 : (am_pg z_M_nation).2 36 = some (.iconst (1), 37, 0, 0, 0, 0, 1, []) := (congrFun pm_M_nation 36).trans rfl
theorem rl_M_nation_37 : (am_pg z_M_nation).2 37 = some (.goto (4), 40, 41, 0, 0, 0, 0, []) := (congrFun pm_M_nation 37).trans rfl
theorem rl_M_nation_40 : (am_pg z_M_nation).2 40 = some (.iconst (0), 41, 0, 0, 0, 0, 0, []) := (congrFun pm_M_nation 40).trans rfl
theorem rl_M_nation_41 : (am_pg z_M_nation).2 41 = some (.invokevirtual 60, 44, 93, 3, 9, 205, 0, []) := (congrFun pm_M_nation 41).trans rfl
theorem rl_M_nation_44 : (am_pg z_M_nation).2 44 = some (.iconst (1), 45, 0, 0, 0, 0, 1, []) := (congrFun pm_M_nation 44).trans rfl
theorem rl_M_nation_45 : (am_pg z_M_nation).2 45 = some (.ireturn, 46, 0, 0, 1, 0, 0, []) := (congrFun pm_M_nation 45).trans rfl
theorem rl_M_draw_0 : (am_pg z_M_draw).2 0 = some (.aload_n 0, 1, 0, 0, 0, 0, 0, []) := (congrFun pm_M_draw 0).trans rfl
theorem rl_M_draw_1 : (am_pg z_M_draw).2 1 = some (.sipush (25173), 4, 0, 0, 0, 0, 25173, []) := (congrFun pm_M_draw 1).trans rfl
theorem rl_M_draw_4 : (am_pg z_M_draw).2 4 = some (.aload_n 0, 5, 0, 0, 0, 0, 0, []) := (congrFun pm_M_draw 4).trans rfl
theorem rl_M_draw_5 : (am_pg z_M_draw).2 5 = some (.getfield 150, 8, 9, 13, 0, 89, 0, []) := (congrFun pm_M_draw 5).trans rfl
theorem rl_M_draw_8 : (am_pg z_M_draw).2 8 = some (.imul, 9, 0, 0, 0, 0, 0, []) := (congrFun pm_M_draw 8).trans rfl
theorem rl_M_draw_9 : (am_pg z_M_draw).2 9 = some (.sipush (13849), 12, 0, 0, 0, 0, 13849, []) := (congrFun pm_M_draw 9).trans rfl
theorem rl_M_draw_12 : (am_pg z_M_draw).2 12 = some (.iadd, 13, 0, 0, 0, 0, 0, []) := (congrFun pm_M_draw 12).trans rfl
theorem rl_M_draw_13 : (am_pg z_M_draw).2 13 = some (.ldc 153, 15, 0, 0, 0, 5, 65536, []) := (congrFun pm_M_draw 13).trans rfl
theorem rl_M_draw_15 : (am_pg z_M_draw).2 15 = some (.irem, 16, 0, 0, 0, 0, 0, []) := (congrFun pm_M_draw 15).trans rfl
theorem rl_M_draw_16 : (am_pg z_M_draw).2 16 = some (.putfield 150, 19, 9, 13, 0, 89, 0, []) := (congrFun pm_M_draw 16).trans rfl
theorem rl_M_draw_19 : (am_pg z_M_draw).2 19 = some (.aload_n 0, 20, 0, 0, 0, 0, 0, []) := (congrFun pm_M_draw 19).trans rfl
theorem rl_M_draw_20 : (am_pg z_M_draw).2 20 = some (.getfield 150, 23, 9, 13, 0, 89, 0, []) := (congrFun pm_M_draw 20).trans rfl
theorem rl_M_draw_23 : (am_pg z_M_draw).2 23 = some (.iconst (4), 24, 0, 0, 0, 0, 4, []) := (congrFun pm_M_draw 23).trans rfl
theorem rl_M_draw_24 : (am_pg z_M_draw).2 24 = some (.idiv, 25, 0, 0, 0, 0, 0, []) := (congrFun pm_M_draw 24).trans rfl
theorem rl_M_draw_25 : (am_pg z_M_draw).2 25 = some (.iload_n 1, 26, 1, 0, 0, 0, 0, []) := (congrFun pm_M_draw 25).trans rfl
theorem rl_M_draw_26 : (am_pg z_M_draw).2 26 = some (.irem, 27, 0, 0, 0, 0, 0, []) := (congrFun pm_M_draw 26).trans rfl
theorem rl_M_draw_27 : (am_pg z_M_draw).2 27 = some (.ireturn, 28, 0, 0, 0, 0, 0, []) := (congrFun pm_M_draw 27).trans rfl
theorem rl_M_drawn_0 : (am_pg z_M_drawn).2 0 = some (.iload_n 2, 1, 2, 0, 0, 0, 0, []) := (congrFun pm_M_drawn 0).trans rfl
theorem rl_M_drawn_1 : (am_pg z_M_drawn).2 1 = some (.i2l, 2, 0, 0, 0, 0, 0, []) := (congrFun pm_M_drawn 1).trans rfl
theorem rl_M_drawn_2 : (am_pg z_M_drawn).2 2 = some (.lconst 1, 3, 0, 0, 0, 0, 1, []) := (congrFun pm_M_drawn 2).trans rfl
theorem rl_M_drawn_3 : (am_pg z_M_drawn).2 3 = some (.ldc2_w 154, 6, 0, 0, 0, 8, 100, []) := (congrFun pm_M_drawn 3).trans rfl
theorem rl_M_drawn_6 : (am_pg z_M_drawn).2 6 = some (.invokestatic 66, 9, 84, 3, 0, 210, 0, []) := (congrFun pm_M_drawn 6).trans rfl
theorem rl_M_drawn_9 : (am_pg z_M_drawn).2 9 = some (.ifCond .eq (15), 12, 24, 0, 0, 0, 0, []) := (congrFun pm_M_drawn 9).trans rfl
theorem rl_M_drawn_12 : (am_pg z_M_drawn).2 12 = some (.iload_n 3, 13, 3, 0, 0, 0, 0, []) := (congrFun pm_M_drawn 12).trans rfl
theorem rl_M_drawn_13 : (am_pg z_M_drawn).2 13 = some (.i2l, 14, 0, 0, 0, 0, 0, []) := (congrFun pm_M_drawn 13).trans rfl
theorem rl_M_drawn_14 : (am_pg z_M_drawn).2 14 = some (.lconst 1, 15, 0, 0, 0, 0, 1, []) := (congrFun pm_M_drawn 14).trans rfl
theorem rl_M_drawn_15 : (am_pg z_M_drawn).2 15 = some (.ldc2_w 156, 18, 0, 0, 0, 9, 360, []) := (congrFun pm_M_drawn 15).trans rfl
theorem rl_M_drawn_18 : (am_pg z_M_drawn).2 18 = some (.invokestatic 66, 21, 84, 3, 0, 210, 0, []) := (congrFun pm_M_drawn 18).trans rfl
theorem rl_M_drawn_21 : (am_pg z_M_drawn).2 21 = some (.ifCond .ne (5), 24, 26, 0, 0, 0, 0, []) := (congrFun pm_M_drawn 21).trans rfl
theorem rl_M_drawn_24 : (am_pg z_M_drawn).2 24 = some (.iconst (-1), 25, 0, 0, 0, 0, -1, []) := (congrFun pm_M_drawn 24).trans rfl
theorem rl_M_drawn_25 : (am_pg z_M_drawn).2 25 = some (.ireturn, 26, 0, 0, 0, 0, 0, []) := (congrFun pm_M_drawn 25).trans rfl
theorem rl_M_drawn_26 : (am_pg z_M_drawn).2 26 = some (.aload_n 0, 27, 0, 0, 0, 0, 0, []) := (congrFun pm_M_drawn 26).trans rfl
theorem rl_M_drawn_27 : (am_pg z_M_drawn).2 27 = some (.iload_n 1, 28, 1, 0, 0, 0, 0, []) := (congrFun pm_M_drawn 27).trans rfl
theorem rl_M_drawn_28 : (am_pg z_M_drawn).2 28 = some (.ldc 158, 30, 0, 0, 0, 4, 65535, []) := (congrFun pm_M_drawn 28).trans rfl
theorem rl_M_drawn_30 : (am_pg z_M_drawn).2 30 = some (.iand, 31, 0, 0, 0, 0, 0, []) := (congrFun pm_M_drawn 30).trans rfl
theorem rl_M_drawn_31 : (am_pg z_M_drawn).2 31 = some (.putfield 150, 34, 9, 13, 0, 89, 0, []) := (congrFun pm_M_drawn 31).trans rfl
theorem rl_M_drawn_34 : (am_pg z_M_drawn).2 34 = some (.iconst (0), 35, 0, 0, 0, 0, 0, []) := (congrFun pm_M_drawn 34).trans rfl
theorem rl_M_drawn_35 : (am_pg z_M_drawn).2 35 = some (.istore 4, 37, 4, 0, 0, 0, 0, []) := (congrFun pm_M_drawn 35).trans rfl
theorem rl_M_drawn_37 : (am_pg z_M_drawn).2 37 = some (.iload 4, 39, 4, 0, 0, 0, 0, []) := (congrFun pm_M_drawn 37).trans rfl
theorem rl_M_drawn_39 : (am_pg z_M_drawn).2 39 = some (.sipush (1080), 42, 0, 0, 0, 0, 1080, []) := (congrFun pm_M_drawn 39).trans rfl
theorem rl_M_drawn_42 : (am_pg z_M_drawn).2 42 = some (.if_icmp .ge (17), 45, 59, 0, 0, 0, 0, []) := (congrFun pm_M_drawn 42).trans rfl
theorem rl_M_drawn_45 : (am_pg z_M_drawn).2 45 = some (.aload_n 0, 46, 0, 0, 0, 0, 0, []) := (congrFun pm_M_drawn 45).trans rfl
theorem rl_M_drawn_46 : (am_pg z_M_drawn).2 46 = some (.getfield 7, 49, 9, 0, 0, 76, 0, []) := (congrFun pm_M_drawn 46).trans rfl
theorem rl_M_drawn_49 : (am_pg z_M_drawn).2 49 = some (.iload 4, 51, 4, 0, 0, 0, 0, []) := (congrFun pm_M_drawn 49).trans rfl
theorem rl_M_drawn_51 : (am_pg z_M_drawn).2 51 = some (.iconst (-1), 52, 0, 0, 0, 0, -1, []) := (congrFun pm_M_drawn 51).trans rfl
theorem rl_M_drawn_52 : (am_pg z_M_drawn).2 52 = some (.iastore, 53, 0, 0, 0, 0, 0, []) := (congrFun pm_M_drawn 52).trans rfl
theorem rl_M_drawn_53 : (am_pg z_M_drawn).2 53 = some (.iinc 4 (1), 56, 4, 0, 0, 0, 1, []) := (congrFun pm_M_drawn 53).trans rfl
theorem rl_M_drawn_56 : (am_pg z_M_drawn).2 56 = some (.goto (-19), 59, 37, 0, 0, 0, 0, []) := (congrFun pm_M_drawn 56).trans rfl
theorem rl_M_drawn_59 : (am_pg z_M_drawn).2 59 = some (.iconst (0), 60, 0, 0, 0, 0, 0, []) := (congrFun pm_M_drawn 59).trans rfl
theorem rl_M_drawn_60 : (am_pg z_M_drawn).2 60 = some (.istore 4, 62, 4, 0, 0, 0, 0, []) := (congrFun pm_M_drawn 60).trans rfl
theorem rl_M_drawn_62 : (am_pg z_M_drawn).2 62 = some (.iconst (0), 63, 0, 0, 0, 0, 0, []) := (congrFun pm_M_drawn 62).trans rfl
theorem rl_M_drawn_63 : (am_pg z_M_drawn).2 63 = some (.istore 5, 65, 5, 0, 0, 0, 0, []) := (congrFun pm_M_drawn 63).trans rfl
theorem rl_M_drawn_65 : (am_pg z_M_drawn).2 65 = some (.iload 5, 67, 5, 0, 0, 0, 0, []) := (congrFun pm_M_drawn 65).trans rfl
theorem rl_M_drawn_67 : (am_pg z_M_drawn).2 67 = some (.iload_n 2, 68, 2, 0, 0, 0, 0, []) := (congrFun pm_M_drawn 67).trans rfl
theorem rl_M_drawn_68 : (am_pg z_M_drawn).2 68 = some (.if_icmp .ge (70), 71, 138, 0, 0, 0, 0, []) := (congrFun pm_M_drawn 68).trans rfl
theorem rl_M_drawn_71 : (am_pg z_M_drawn).2 71 = some (.iload 4, 73, 4, 0, 0, 0, 0, []) := (congrFun pm_M_drawn 71).trans rfl
theorem rl_M_drawn_73 : (am_pg z_M_drawn).2 73 = some (.sipush (1080), 76, 0, 0, 0, 0, 1080, []) := (congrFun pm_M_drawn 73).trans rfl
theorem rl_M_drawn_76 : (am_pg z_M_drawn).2 76 = some (.if_icmp .ge (62), 79, 138, 0, 0, 0, 0, []) := (congrFun pm_M_drawn 76).trans rfl
theorem rl_M_drawn_79 : (am_pg z_M_drawn).2 79 = some (.aload_n 0, 80, 0, 0, 0, 0, 0, []) := (congrFun pm_M_drawn 79).trans rfl
theorem rl_M_drawn_80 : (am_pg z_M_drawn).2 80 = some (.bipush (7), 82, 0, 0, 0, 0, 7, []) := (congrFun pm_M_drawn 80).trans rfl
theorem rl_M_drawn_82 : (am_pg z_M_drawn).2 82 = some (.invokevirtual 159, 85, 109, 1, 9, 228, 0, []) := (congrFun pm_M_drawn 82).trans rfl
theorem rl_M_drawn_85 : (am_pg z_M_drawn).2 85 = some (.iconst (1), 86, 0, 0, 0, 0, 1, []) := (congrFun pm_M_drawn 85).trans rfl
theorem rl_M_drawn_86 : (am_pg z_M_drawn).2 86 = some (.isub, 87, 0, 0, 0, 0, 0, []) := (congrFun pm_M_drawn 86).trans rfl
theorem rl_M_drawn_87 : (am_pg z_M_drawn).2 87 = some (.istore 6, 89, 6, 0, 0, 0, 0, []) := (congrFun pm_M_drawn 87).trans rfl
theorem rl_M_drawn_89 : (am_pg z_M_drawn).2 89 = some (.sipush (1080), 92, 0, 0, 0, 0, 1080, []) := (congrFun pm_M_drawn 89).trans rfl
theorem rl_M_drawn_92 : (am_pg z_M_drawn).2 92 = some (.iload 4, 94, 4, 0, 0, 0, 0, []) := (congrFun pm_M_drawn 92).trans rfl
theorem rl_M_drawn_94 : (am_pg z_M_drawn).2 94 = some (.aload_n 0, 95, 0, 0, 0, 0, 0, []) := (congrFun pm_M_drawn 94).trans rfl
theorem rl_M_drawn_95 : (am_pg z_M_drawn).2 95 = some (.iload_n 3, 96, 3, 0, 0, 0, 0, []) := (congrFun pm_M_drawn 95).trans rfl
theorem rl_M_drawn_96 : (am_pg z_M_drawn).2 96 = some (.invokevirtual 159, 99, 109, 1, 9, 228, 0, []) := (congrFun pm_M_drawn 96).trans rfl
theorem rl_M_drawn_99 : (am_pg z_M_drawn).2 99 = some (.iadd, 100, 0, 0, 0, 0, 0, []) := (congrFun pm_M_drawn 99).trans rfl
theorem rl_M_drawn_100 : (am_pg z_M_drawn).2 100 = some (.iconst (1), 101, 0, 0, 0, 0, 1, []) := (congrFun pm_M_drawn 100).trans rfl
theorem rl_M_drawn_101 : (am_pg z_M_drawn).2 101 = some (.iadd, 102, 0, 0, 0, 0, 0, []) := (congrFun pm_M_drawn 101).trans rfl
theorem rl_M_drawn_102 : (am_pg z_M_drawn).2 102 = some (.invokestatic 162, 105, 91, 2, 0, 229, 0, []) := (congrFun pm_M_drawn 102).trans rfl
theorem rl_M_drawn_105 : (am_pg z_M_drawn).2 105 = some (.istore 7, 107, 7, 0, 0, 0, 0, []) := (congrFun pm_M_drawn 105).trans rfl
theorem rl_M_drawn_107 : (am_pg z_M_drawn).2 107 = some (.iload 4, 109, 4, 0, 0, 0, 0, []) := (congrFun pm_M_drawn 107).trans rfl
theorem rl_M_drawn_109 : (am_pg z_M_drawn).2 109 = some (.iload 7, 111, 7, 0, 0, 0, 0, []) := (congrFun pm_M_drawn 109).trans rfl
theorem rl_M_drawn_111 : (am_pg z_M_drawn).2 111 = some (.if_icmp .ge (21), 114, 132, 0, 0, 0, 0, []) := (congrFun pm_M_drawn 111).trans rfl
theorem rl_M_drawn_114 : (am_pg z_M_drawn).2 114 = some (.aload_n 0, 115, 0, 0, 0, 0, 0, []) := (congrFun pm_M_drawn 114).trans rfl
theorem rl_M_drawn_115 : (am_pg z_M_drawn).2 115 = some (.getfield 7, 118, 9, 0, 0, 76, 0, []) := (congrFun pm_M_drawn 115).trans rfl
theorem rl_M_drawn_118 : (am_pg z_M_drawn).2 118 = some (.iload 4, 120, 4, 0, 0, 0, 0, []) := (congrFun pm_M_drawn 118).trans rfl
theorem rl_M_drawn_120 : (am_pg z_M_drawn).2 120 = some (.iload 6, 122, 6, 0, 0, 0, 0, []) := (congrFun pm_M_drawn 120).trans rfl
theorem rl_M_drawn_122 : (am_pg z_M_drawn).2 122 = some (.iastore, 123, 0, 0, 0, 0, 0, []) := (congrFun pm_M_drawn 122).trans rfl
theorem rl_M_drawn_123 : (am_pg z_M_drawn).2 123 = some (.iload 4, 125, 4, 0, 0, 0, 0, []) := (congrFun pm_M_drawn 123).trans rfl
theorem rl_M_drawn_125 : (am_pg z_M_drawn).2 125 = some (.iconst (1), 126, 0, 0, 0, 0, 1, []) := (congrFun pm_M_drawn 125).trans rfl
theorem rl_M_drawn_126 : (am_pg z_M_drawn).2 126 = some (.iadd, 127, 0, 0, 0, 0, 0, []) := (congrFun pm_M_drawn 126).trans rfl
theorem rl_M_drawn_127 : (am_pg z_M_drawn).2 127 = some (.istore 4, 129, 4, 0, 0, 0, 0, []) := (congrFun pm_M_drawn 127).trans rfl
theorem rl_M_drawn_129 : (am_pg z_M_drawn).2 129 = some (.goto (-22), 132, 107, 0, 0, 0, 0, []) := (congrFun pm_M_drawn 129).trans rfl
theorem rl_M_drawn_132 : (am_pg z_M_drawn).2 132 = some (.iinc 5 (1), 135, 5, 0, 0, 0, 1, []) := (congrFun pm_M_drawn 132).trans rfl
theorem rl_M_drawn_135 : (am_pg z_M_drawn).2 135 = some (.goto (-70), 138, 65, 0, 0, 0, 0, []) := (congrFun pm_M_drawn 135).trans rfl
theorem rl_M_drawn_138 : (am_pg z_M_drawn).2 138 = some (.iload 4, 140, 4, 0, 0, 0, 0, []) := (congrFun pm_M_drawn 138).trans rfl
theorem rl_M_drawn_140 : (am_pg z_M_drawn).2 140 = some (.ireturn, 141, 0, 0, 0, 0, 0, []) := (congrFun pm_M_drawn 140).trans rfl
theorem rl_M_at_0 : (am_pg z_M_at).2 0 = some (.iload_n 1, 1, 1, 0, 0, 0, 0, []) := (congrFun pm_M_at 0).trans rfl
theorem rl_M_at_1 : (am_pg z_M_at).2 1 = some (.invokestatic 74, 4, 87, 1, 0, 221, 0, []) := (congrFun pm_M_at 1).trans rfl
theorem rl_M_at_4 : (am_pg z_M_at).2 4 = some (.ifCond .eq (15), 7, 19, 0, 0, 0, 0, []) := (congrFun pm_M_at 4).trans rfl
theorem rl_M_at_7 : (am_pg z_M_at).2 7 = some (.iload_n 2, 8, 2, 0, 0, 0, 0, []) := (congrFun pm_M_at 7).trans rfl
theorem rl_M_at_8 : (am_pg z_M_at).2 8 = some (.i2l, 9, 0, 0, 0, 0, 0, []) := (congrFun pm_M_at 8).trans rfl
theorem rl_M_at_9 : (am_pg z_M_at).2 9 = some (.lconst 0, 10, 0, 0, 0, 0, 0, []) := (congrFun pm_M_at 9).trans rfl
theorem rl_M_at_10 : (am_pg z_M_at).2 10 = some (.ldc2_w 78, 13, 0, 0, 0, 10, 2, []) := (congrFun pm_M_at 10).trans rfl
theorem rl_M_at_13 : (am_pg z_M_at).2 13 = some (.invokestatic 66, 16, 84, 3, 0, 210, 0, []) := (congrFun pm_M_at 13).trans rfl
theorem rl_M_at_16 : (am_pg z_M_at).2 16 = some (.ifCond .ne (5), 19, 21, 0, 0, 0, 0, []) := (congrFun pm_M_at 16).trans rfl
theorem rl_M_at_19 : (am_pg z_M_at).2 19 = some (.iconst (-1), 20, 0, 0, 0, 0, -1, []) := (congrFun pm_M_at 19).trans rfl
theorem rl_M_at_20 : (am_pg z_M_at).2 20 = some (.ireturn, 21, 0, 0, 0, 0, 0, []) := (congrFun pm_M_at 20).trans rfl
theorem rl_M_at_21 : (am_pg z_M_at).2 21 = some (.iload_n 2, 22, 2, 0, 0, 0, 0, []) := (congrFun pm_M_at 21).trans rfl
theorem rl_M_at_22 : (am_pg z_M_at).2 22 = some (.ifCond .ne (12), 25, 34, 0, 0, 0, 0, []) := (congrFun pm_M_at 22).trans rfl
theorem rl_M_at_25 : (am_pg z_M_at).2 25 = some (.aload_n 0, 26, 0, 0, 0, 0, 0, []) := (congrFun pm_M_at 25).trans rfl
theorem rl_M_at_26 : (am_pg z_M_at).2 26 = some (.getfield 7, 29, 9, 0, 0, 76, 0, []) := (congrFun pm_M_at 26).trans rfl
theorem rl_M_at_29 : (am_pg z_M_at).2 29 = some (.iload_n 1, 30, 1, 0, 0, 0, 0, []) := (congrFun pm_M_at 29).trans rfl
theorem rl_M_at_30 : (am_pg z_M_at).2 30 = some (.iaload, 31, 0, 0, 0, 0, 0, []) := (congrFun pm_M_at 30).trans rfl
theorem rl_M_at_31 : (am_pg z_M_at).2 31 = some (.goto (9), 34, 40, 0, 0, 0, 0, []) := (congrFun pm_M_at 31).trans rfl
theorem rl_M_at_34 : (am_pg z_M_at).2 34 = some (.aload_n 0, 35, 0, 0, 0, 0, 0, []) := (congrFun pm_M_at 34).trans rfl
theorem rl_M_at_35 : (am_pg z_M_at).2 35 = some (.getfield 16, 38, 9, 2, 0, 78, 0, []) := (congrFun pm_M_at 35).trans rfl
theorem rl_M_at_38 : (am_pg z_M_at).2 38 = some (.iload_n 1, 39, 1, 0, 0, 0, 0, []) := (congrFun pm_M_at 38).trans rfl
theorem rl_M_at_39 : (am_pg z_M_at).2 39 = some (.iaload, 40, 0, 0, 0, 0, 0, []) := (congrFun pm_M_at 39).trans rfl
theorem rl_M_at_40 : (am_pg z_M_at).2 40 = some (.istore_n 3, 41, 3, 0, 0, 0, 0, []) := (congrFun pm_M_at 40).trans rfl
theorem rl_M_at_41 : (am_pg z_M_at).2 41 = some (.iload_n 2, 42, 2, 0, 0, 0, 0, []) := (congrFun pm_M_at 41).trans rfl
theorem rl_M_at_42 : (am_pg z_M_at).2 42 = some (.iconst (2), 43, 0, 0, 0, 0, 2, []) := (congrFun pm_M_at 42).trans rfl
theorem rl_M_at_43 : (am_pg z_M_at).2 43 = some (.if_icmp .ne (12), 46, 55, 0, 0, 0, 0, []) := (congrFun pm_M_at 43).trans rfl
theorem rl_M_at_46 : (am_pg z_M_at).2 46 = some (.aload_n 0, 47, 0, 0, 0, 0, 0, []) := (congrFun pm_M_at 46).trans rfl
theorem rl_M_at_47 : (am_pg z_M_at).2 47 = some (.getfield 13, 50, 9, 1, 0, 77, 0, []) := (congrFun pm_M_at 47).trans rfl
theorem rl_M_at_50 : (am_pg z_M_at).2 50 = some (.iload_n 1, 51, 1, 0, 0, 0, 0, []) := (congrFun pm_M_at 50).trans rfl
theorem rl_M_at_51 : (am_pg z_M_at).2 51 = some (.iaload, 52, 0, 0, 0, 0, 0, []) := (congrFun pm_M_at 51).trans rfl
theorem rl_M_at_52 : (am_pg z_M_at).2 52 = some (.goto (14), 55, 66, 0, 0, 0, 0, []) := (congrFun pm_M_at 52).trans rfl
theorem rl_M_at_55 : (am_pg z_M_at).2 55 = some (.iload_n 3, 56, 3, 0, 0, 0, 0, []) := (congrFun pm_M_at 55).trans rfl
theorem rl_M_at_56 : (am_pg z_M_at).2 56 = some (.iconst (-1), 57, 0, 0, 0, 0, -1, []) := (congrFun pm_M_at 56).trans rfl
theorem rl_M_at_57 : (am_pg z_M_at).2 57 = some (.if_icmp .ne (8), 60, 65, 0, 0, 0, 0, []) := (congrFun pm_M_at 57).trans rfl
theorem rl_M_at_60 : (am_pg z_M_at).2 60 = some (.bipush (-2), 62, 0, 0, 0, 0, -2, []) := (congrFun pm_M_at 60).trans rfl
theorem rl_M_at_62 : (am_pg z_M_at).2 62 = some (.goto (4), 65, 66, 0, 0, 0, 0, []) := (congrFun pm_M_at 62).trans rfl
theorem rl_M_at_65 : (am_pg z_M_at).2 65 = some (.iload_n 3, 66, 3, 0, 0, 0, 0, []) := (congrFun pm_M_at 65).trans rfl
theorem rl_M_at_66 : (am_pg z_M_at).2 66 = some (.ireturn, 67, 0, 0, 0, 0, 0, []) := (congrFun pm_M_at 66).trans rfl
theorem rl_M_writes_0 : (am_pg z_M_writes).2 0 = some (.aload_n 0, 1, 0, 0, 0, 0, 0, []) := (congrFun pm_M_writes 0).trans rfl
theorem rl_M_writes_1 : (am_pg z_M_writes).2 1 = some (.getfield 165, 4, 9, 14, 0, 90, 0, []) := (congrFun pm_M_writes 1).trans rfl
theorem rl_M_writes_4 : (am_pg z_M_writes).2 4 = some (.aload_n 0, 5, 0, 0, 0, 0, 0, []) := (congrFun pm_M_writes 4).trans rfl
theorem rl_M_writes_5 : (am_pg z_M_writes).2 5 = some (.getfield 168, 8, 9, 15, 0, 91, 0, []) := (congrFun pm_M_writes 5).trans rfl
theorem rl_M_writes_8 : (am_pg z_M_writes).2 8 = some (.if_icmp .ne (8), 11, 16, 0, 0, 0, 0, []) := (congrFun pm_M_writes 8).trans rfl
theorem rl_M_writes_11 : (am_pg z_M_writes).2 11 = some (.aload_n 0, 12, 0, 0, 0, 0, 0, []) := (congrFun pm_M_writes 11).trans rfl
theorem rl_M_writes_12 : (am_pg z_M_writes).2 12 = some (.iload_n 1, 13, 1, 0, 0, 0, 0, []) := (congrFun pm_M_writes 12).trans rfl
theorem rl_M_writes_13 : (am_pg z_M_writes).2 13 = some (.putfield 171, 16, 9, 16, 0, 92, 0, []) := (congrFun pm_M_writes 13).trans rfl
theorem rl_M_writes_16 : (am_pg z_M_writes).2 16 = some (.aload_n 0, 17, 0, 0, 0, 0, 0, []) := (congrFun pm_M_writes 16).trans rfl
theorem rl_M_writes_17 : (am_pg z_M_writes).2 17 = some (.aload_n 0, 18, 0, 0, 0, 0, 0, []) := (congrFun pm_M_writes 17).trans rfl
theorem rl_M_writes_18 : (am_pg z_M_writes).2 18 = some (.getfield 165, 21, 9, 14, 0, 90, 0, []) := (congrFun pm_M_writes 18).trans rfl
theorem rl_M_writes_21 : (am_pg z_M_writes).2 21 = some (.iconst (1), 22, 0, 0, 0, 0, 1, []) := (congrFun pm_M_writes 21).trans rfl
theorem rl_M_writes_22 : (am_pg z_M_writes).2 22 = some (.iadd, 23, 0, 0, 0, 0, 0, []) := (congrFun pm_M_writes 22).trans rfl
theorem rl_M_writes_23 : (am_pg z_M_writes).2 23 = some (.putfield 165, 26, 9, 14, 0, 90, 0, []) := (congrFun pm_M_writes 23).trans rfl
theorem rl_M_writes_26 : (am_pg z_M_writes).2 26 = some (.return_, 27, 0, 0, 0, 0, 0, []) := (congrFun pm_M_writes 26).trans rfl
theorem rl_M_writesNumber_0 : (am_pg z_M_writesNumber).2 0 = some (.sipush (1000), 3, 0, 0, 0, 0, 1000, []) := (congrFun pm_M_writesNumber 0).trans rfl
theorem rl_M_writesNumber_3 : (am_pg z_M_writesNumber).2 3 = some (.istore_n 2, 4, 2, 0, 0, 0, 0, []) := (congrFun pm_M_writesNumber 3).trans rfl
theorem rl_M_writesNumber_4 : (am_pg z_M_writesNumber).2 4 = some (.iload_n 2, 5, 2, 0, 0, 0, 0, []) := (congrFun pm_M_writesNumber 4).trans rfl
theorem rl_M_writesNumber_5 : (am_pg z_M_writesNumber).2 5 = some (.ifCond .le (34), 8, 39, 0, 0, 0, 0, []) := (congrFun pm_M_writesNumber 5).trans rfl
theorem rl_M_writesNumber_8 : (am_pg z_M_writesNumber).2 8 = some (.iload_n 1, 9, 1, 0, 0, 0, 0, []) := (congrFun pm_M_writesNumber 8).trans rfl
theorem rl_M_writesNumber_9 : (am_pg z_M_writesNumber).2 9 = some (.iload_n 2, 10, 2, 0, 0, 0, 0, []) := (congrFun pm_M_writesNumber 9).trans rfl
theorem rl_M_writesNumber_10 : (am_pg z_M_writesNumber).2 10 = some (.if_icmp .ge (8), 13, 18, 0, 0, 0, 0, []) := (congrFun pm_M_writesNumber 10).trans rfl
theorem rl_M_writesNumber_13 : (am_pg z_M_writesNumber).2 13 = some (.iload_n 2, 14, 2, 0, 0, 0, 0, []) := (congrFun pm_M_writesNumber 13).trans rfl
theorem rl_M_writesNumber_14 : (am_pg z_M_writesNumber).2 14 = some (.iconst (1), 15, 0, 0, 0, 0, 1, []) := (congrFun pm_M_writesNumber 14).trans rfl
theorem rl_M_writesNumber_15 : (am_pg z_M_writesNumber).2 15 = some (.if_icmp .ne (16), 18, 31, 0, 0, 0, 0, []) := (congrFun pm_M_writesNumber 15).trans rfl
theorem rl_M_writesNumber_18 : (am_pg z_M_writesNumber).2 18 = some (.aload_n 0, 19, 0, 0, 0, 0, 0, []) := (congrFun pm_M_writesNumber 18).trans rfl
theorem rl_M_writesNumber_19 : (am_pg z_M_writesNumber).2 19 = some (.bipush (48), 21, 0, 0, 0, 0, 48, []) := (congrFun pm_M_writesNumber 19).trans rfl
theorem rl_M_writesNumber_21 : (am_pg z_M_writesNumber).2 21 = some (.iload_n 1, 22, 1, 0, 0, 0, 0, []) := (congrFun pm_M_writesNumber 21).trans rfl
theorem rl_M_writesNumber_22 : (am_pg z_M_writesNumber).2 22 = some (.iload_n 2, 23, 2, 0, 0, 0, 0, []) := (congrFun pm_M_writesNumber 22).trans rfl
theorem rl_M_writesNumber_23 : (am_pg z_M_writesNumber).2 23 = some (.idiv, 24, 0, 0, 0, 0, 0, []) := (congrFun pm_M_writesNumber 23).trans rfl
theorem rl_M_writesNumber_24 : (am_pg z_M_writesNumber).2 24 = some (.bipush (10), 26, 0, 0, 0, 0, 10, []) := (congrFun pm_M_writesNumber 24).trans rfl
theorem rl_M_writesNumber_26 : (am_pg z_M_writesNumber).2 26 = some (.irem, 27, 0, 0, 0, 0, 0, []) := (congrFun pm_M_writesNumber 26).trans rfl
theorem rl_M_writesNumber_27 : (am_pg z_M_writesNumber).2 27 = some (.iadd, 28, 0, 0, 0, 0, 0, []) := (congrFun pm_M_writesNumber 27).trans rfl
theorem rl_M_writesNumber_28 : (am_pg z_M_writesNumber).2 28 = some (.invokevirtual 174, 31, 112, 1, 9, 233, 0, []) := (congrFun pm_M_writesNumber 28).trans rfl
theorem rl_M_writesNumber_31 : (am_pg z_M_writesNumber).2 31 = some (.iload_n 2, 32, 2, 0, 0, 0, 0, []) := (congrFun pm_M_writesNumber 31).trans rfl
theorem rl_M_writesNumber_32 : (am_pg z_M_writesNumber).2 32 = some (.bipush (10), 34, 0, 0, 0, 0, 10, []) := (congrFun pm_M_writesNumber 32).trans rfl
theorem rl_M_writesNumber_34 : (am_pg z_M_writesNumber).2 34 = some (.idiv, 35, 0, 0, 0, 0, 0, []) := (congrFun pm_M_writesNumber 34).trans rfl
theorem rl_M_writesNumber_35 : (am_pg z_M_writesNumber).2 35 = some (.istore_n 2, 36, 2, 0, 0, 0, 0, []) := (congrFun pm_M_writesNumber 35).trans rfl
theorem rl_M_writesNumber_36 : (am_pg z_M_writesNumber).2 36 = some (.goto (-32), 39, 4, 0, 0, 0, 0, []) := (congrFun pm_M_writesNumber 36).trans rfl
theorem rl_M_writesNumber_39 : (am_pg z_M_writesNumber).2 39 = some (.return_, 40, 0, 0, 0, 0, 0, []) := (congrFun pm_M_writesNumber 39).trans rfl
theorem rl_M_begins_0 : (am_pg z_M_begins).2 0 = some (.aload_n 0, 1, 0, 0, 0, 0, 0, []) := (congrFun pm_M_begins 0).trans rfl
theorem rl_M_begins_1 : (am_pg z_M_begins).2 1 = some (.getfield 7, 4, 9, 0, 0, 76, 0, []) := (congrFun pm_M_begins 1).trans rfl
theorem rl_M_begins_4 : (am_pg z_M_begins).2 4 = some (.iload_n 1, 5, 1, 0, 0, 0, 0, []) := (congrFun pm_M_begins 4).trans rfl
theorem rl_M_begins_5 : (am_pg z_M_begins).2 5 = some (.iaload, 6, 0, 0, 0, 0, 0, []) := (congrFun pm_M_begins 5).trans rfl
theorem rl_M_begins_6 : (am_pg z_M_begins).2 6 = some (.iconst (-1), 7, 0, 0, 0, 0, -1, []) := (congrFun pm_M_begins 6).trans rfl
theorem rl_M_begins_7 : (am_pg z_M_begins).2 7 = some (.if_icmp .eq (28), 10, 35, 0, 0, 0, 0, []) := (congrFun pm_M_begins 7).trans rfl
theorem rl_M_begins_10 : (am_pg z_M_begins).2 10 = some (.iload_n 1, 11, 1, 0, 0, 0, 0, []) := (congrFun pm_M_begins 10).trans rfl
theorem rl_M_begins_11 : (am_pg z_M_begins).2 11 = some (.ifCond .eq (20), 14, 31, 0, 0, 0, 0, []) := (congrFun pm_M_begins 11).trans rfl
theorem rl_M_begins_14 : (am_pg z_M_begins).2 14 = some (.aload_n 0, 15, 0, 0, 0, 0, 0, []) := (congrFun pm_M_begins 14).trans rfl
theorem rl_M_begins_15 : (am_pg z_M_begins).2 15 = some (.getfield 7, 18, 9, 0, 0, 76, 0, []) := (congrFun pm_M_begins 15).trans rfl
theorem rl_M_begins_18 : (am_pg z_M_begins).2 18 = some (.iload_n 1, 19, 1, 0, 0, 0, 0, []) := (congrFun pm_M_begins 18).trans rfl
theorem rl_M_begins_19 : (am_pg z_M_begins).2 19 = some (.iconst (1), 20, 0, 0, 0, 0, 1, []) := (congrFun pm_M_begins 19).trans rfl
theorem rl_M_begins_20 : (am_pg z_M_begins).2 20 = some (.isub, 21, 0, 0, 0, 0, 0, []) := (congrFun pm_M_begins 20).trans rfl
theorem rl_M_begins_21 : (am_pg z_M_begins).2 21 = some (.iaload, 22, 0, 0, 0, 0, 0, []) := (congrFun pm_M_begins 21).trans rfl
theorem rl_M_begins_22 : (am_pg z_M_begins).2 22 = some (.aload_n 0, 23, 0, 0, 0, 0, 0, []) := (congrFun pm_M_begins 22).trans rfl
theorem rl_M_begins_23 : (am_pg z_M_begins).2 23 = some (.getfield 7, 26, 9, 0, 0, 76, 0, []) := (congrFun pm_M_begins 23).trans rfl
theorem rl_M_begins_26 : (am_pg z_M_begins).2 26 = some (.iload_n 1, 27, 1, 0, 0, 0, 0, []) := (congrFun pm_M_begins 26).trans rfl
theorem rl_M_begins_27 : (am_pg z_M_begins).2 27 = some (.iaload, 28, 0, 0, 0, 0, 0, []) := (congrFun pm_M_begins 27).trans rfl
theorem rl_M_begins_28 : (am_pg z_M_begins).2 28 = some (.if_icmp .eq (7), 31, 35, 0, 0, 0, 0, []) := (congrFun pm_M_begins 28).trans rfl
theorem rl_M_begins_31 : (am_pg z_M_begins).2 31 = some (.iconst (1), 32, 0, 0, 0, 0, 1, []) := (congrFun pm_M_begins 31).trans rfl
theorem rl_M_begins_32 : (am_pg z_M_begins).2 32 = some (.goto (4), 35, 36, 0, 0, 0, 0, []) := (congrFun pm_M_begins 32).trans rfl
theorem rl_M_begins_35 : (am_pg z_M_begins).2 35 = some (.iconst (0), 36, 0, 0, 0, 0, 0, []) := (congrFun pm_M_begins 35).trans rfl
theorem rl_M_begins_36 : (am_pg z_M_begins).2 36 = some (.ireturn, 37, 0, 0, 1, 0, 0, []) := (congrFun pm_M_begins 36).trans rfl
theorem rl_M_endOf_0 : (am_pg z_M_endOf).2 0 = some (.iload_n 1, 1, 1, 0, 0, 0, 0, []) := (congrFun pm_M_endOf 0).trans rfl
theorem rl_M_endOf_1 : (am_pg z_M_endOf).2 1 = some (.istore_n 2, 2, 2, 0, 0, 0, 0, []) := (congrFun pm_M_endOf 1).trans rfl
theorem rl_M_endOf_2 : (am_pg z_M_endOf).2 2 = some (.iload_n 2, 3, 2, 0, 0, 0, 0, []) := (congrFun pm_M_endOf 2).trans rfl
theorem rl_M_endOf_3 : (am_pg z_M_endOf).2 3 = some (.iconst (1), 4, 0, 0, 0, 0, 1, []) := (congrFun pm_M_endOf 3).trans rfl
theorem rl_M_endOf_4 : (am_pg z_M_endOf).2 4 = some (.iadd, 5, 0, 0, 0, 0, 0, []) := (congrFun pm_M_endOf 4).trans rfl
theorem rl_M_endOf_5 : (am_pg z_M_endOf).2 5 = some (.sipush (1080), 8, 0, 0, 0, 0, 1080, []) := (congrFun pm_M_endOf 5).trans rfl
theorem rl_M_endOf_8 : (am_pg z_M_endOf).2 8 = some (.if_icmp .ge (27), 11, 35, 0, 0, 0, 0, []) := (congrFun pm_M_endOf 8).trans rfl
theorem rl_M_endOf_11 : (am_pg z_M_endOf).2 11 = some (.aload_n 0, 12, 0, 0, 0, 0, 0, []) := (congrFun pm_M_endOf 11).trans rfl
theorem rl_M_endOf_12 : (am_pg z_M_endOf).2 12 = some (.getfield 7, 15, 9, 0, 0, 76, 0, []) := (congrFun pm_M_endOf 12).trans rfl
theorem rl_M_endOf_15 : (am_pg z_M_endOf).2 15 = some (.iload_n 2, 16, 2, 0, 0, 0, 0, []) := (congrFun pm_M_endOf 15).trans rfl
theorem rl_M_endOf_16 : (am_pg z_M_endOf).2 16 = some (.iconst (1), 17, 0, 0, 0, 0, 1, []) := (congrFun pm_M_endOf 16).trans rfl
theorem rl_M_endOf_17 : (am_pg z_M_endOf).2 17 = some (.iadd, 18, 0, 0, 0, 0, 0, []) := (congrFun pm_M_endOf 17).trans rfl
theorem rl_M_endOf_18 : (am_pg z_M_endOf).2 18 = some (.iaload, 19, 0, 0, 0, 0, 0, []) := (congrFun pm_M_endOf 18).trans rfl
theorem rl_M_endOf_19 : (am_pg z_M_endOf).2 19 = some (.aload_n 0, 20, 0, 0, 0, 0, 0, []) := (congrFun pm_M_endOf 19).trans rfl
theorem rl_M_endOf_20 : (am_pg z_M_endOf).2 20 = some (.getfield 7, 23, 9, 0, 0, 76, 0, []) := (congrFun pm_M_endOf 20).trans rfl
theorem rl_M_endOf_23 : (am_pg z_M_endOf).2 23 = some (.iload_n 1, 24, 1, 0, 0, 0, 0, []) := (congrFun pm_M_endOf 23).trans rfl
theorem rl_M_endOf_24 : (am_pg z_M_endOf).2 24 = some (.iaload, 25, 0, 0, 0, 0, 0, []) := (congrFun pm_M_endOf 24).trans rfl
theorem rl_M_endOf_25 : (am_pg z_M_endOf).2 25 = some (.if_icmp .ne (10), 28, 35, 0, 0, 0, 0, []) := (congrFun pm_M_endOf 25).trans rfl
theorem rl_M_endOf_28 : (am_pg z_M_endOf).2 28 = some (.iload_n 2, 29, 2, 0, 0, 0, 0, []) := (congrFun pm_M_endOf 28).trans rfl
theorem rl_M_endOf_29 : (am_pg z_M_endOf).2 29 = some (.iconst (1), 30, 0, 0, 0, 0, 1, []) := (congrFun pm_M_endOf 29).trans rfl
theorem rl_M_endOf_30 : (am_pg z_M_endOf).2 30 = some (.iadd, 31, 0, 0, 0, 0, 0, []) := (congrFun pm_M_endOf 30).trans rfl
theorem rl_M_endOf_31 : (am_pg z_M_endOf).2 31 = some (.istore_n 2, 32, 2, 0, 0, 0, 0, []) := (congrFun pm_M_endOf 31).trans rfl
theorem rl_M_endOf_32 : (am_pg z_M_endOf).2 32 = some (.goto (-30), 35, 2, 0, 0, 0, 0, []) := (congrFun pm_M_endOf 32).trans rfl
theorem rl_M_endOf_35 : (am_pg z_M_endOf).2 35 = some (.iload_n 2, 36, 2, 0, 0, 0, 0, []) := (congrFun pm_M_endOf 35).trans rfl
theorem rl_M_endOf_36 : (am_pg z_M_endOf).2 36 = some (.ireturn, 37, 0, 0, 0, 0, 0, []) := (congrFun pm_M_endOf 36).trans rfl
theorem rl_M_letter_0 : (am_pg z_M_letter).2 0 = some (.iload_n 1, 1, 1, 0, 0, 0, 0, []) := (congrFun pm_M_letter 0).trans rfl
theorem rl_M_letter_1 : (am_pg z_M_letter).2 1 = some (.iconst (-1), 2, 0, 0, 0, 0, -1, []) := (congrFun pm_M_letter 1).trans rfl
theorem rl_M_letter_2 : (am_pg z_M_letter).2 2 = some (.if_icmp .ge (5), 5, 7, 0, 0, 0, 0, []) := (congrFun pm_M_letter 2).trans rfl
theorem rl_M_letter_5 : (am_pg z_M_letter).2 5 = some (.iconst (-1), 6, 0, 0, 0, 0, -1, []) := (congrFun pm_M_letter 5).trans rfl
theorem rl_M_letter_6 : (am_pg z_M_letter).2 6 = some (.ireturn, 7, 0, 0, 0, 0, 0, []) := (congrFun pm_M_letter 6).trans rfl
theorem rl_M_letter_7 : (am_pg z_M_letter).2 7 = some (.aload_n 0, 8, 0, 0, 0, 0, 0, []) := (congrFun pm_M_letter 7).trans rfl
theorem rl_M_letter_8 : (am_pg z_M_letter).2 8 = some (.iconst (0), 9, 0, 0, 0, 0, 0, []) := (congrFun pm_M_letter 8).trans rfl
theorem rl_M_letter_9 : (am_pg z_M_letter).2 9 = some (.putfield 165, 12, 9, 14, 0, 90, 0, []) := (congrFun pm_M_letter 9).trans rfl
theorem rl_M_letter_12 : (am_pg z_M_letter).2 12 = some (.aload_n 0, 13, 0, 0, 0, 0, 0, []) := (congrFun pm_M_letter 12).trans rfl
theorem rl_M_letter_13 : (am_pg z_M_letter).2 13 = some (.iload_n 1, 14, 1, 0, 0, 0, 0, []) := (congrFun pm_M_letter 13).trans rfl
theorem rl_M_letter_14 : (am_pg z_M_letter).2 14 = some (.putfield 168, 17, 9, 15, 0, 91, 0, []) := (congrFun pm_M_letter 14).trans rfl
theorem rl_M_letter_17 : (am_pg z_M_letter).2 17 = some (.iconst (0), 18, 0, 0, 0, 0, 0, []) := (congrFun pm_M_letter 17).trans rfl
theorem rl_M_letter_18 : (am_pg z_M_letter).2 18 = some (.istore_n 2, 19, 2, 0, 0, 0, 0, []) := (congrFun pm_M_letter 18).trans rfl
theorem rl_M_letter_19 : (am_pg z_M_letter).2 19 = some (.iload_n 2, 20, 2, 0, 0, 0, 0, []) := (congrFun pm_M_letter 19).trans rfl
theorem rl_M_letter_20 : (am_pg z_M_letter).2 20 = some (.sipush (1080), 23, 0, 0, 0, 0, 1080, []) := (congrFun pm_M_letter 20).trans rfl
theorem rl_M_letter_23 : (am_pg z_M_letter).2 23 = some (.if_icmp .ge (84), 26, 107, 0, 0, 0, 0, []) := (congrFun pm_M_letter 23).trans rfl
theorem rl_M_letter_26 : (am_pg z_M_letter).2 26 = some (.aload_n 0, 27, 0, 0, 0, 0, 0, []) := (congrFun pm_M_letter 26).trans rfl
theorem rl_M_letter_27 : (am_pg z_M_letter).2 27 = some (.iload_n 2, 28, 2, 0, 0, 0, 0, []) := (congrFun pm_M_letter 27).trans rfl
theorem rl_M_letter_28 : (am_pg z_M_letter).2 28 = some (.invokevirtual 177, 31, 114, 1, 9, 232, 0, []) := (congrFun pm_M_letter 28).trans rfl
theorem rl_M_letter_31 : (am_pg z_M_letter).2 31 = some (.ifCond .ne (6), 34, 37, 0, 0, 0, 0, []) := (congrFun pm_M_letter 31).trans rfl
theorem rl_M_letter_34 : (am_pg z_M_letter).2 34 = some (.goto (67), 37, 101, 0, 0, 0, 0, []) := (congrFun pm_M_letter 34).trans rfl
theorem rl_M_letter_37 : (am_pg z_M_letter).2 37 = some (.aload_n 0, 38, 0, 0, 0, 0, 0, []) := (congrFun pm_M_letter 37).trans rfl
theorem rl_M_letter_38 : (am_pg z_M_letter).2 38 = some (.getfield 165, 41, 9, 14, 0, 90, 0, []) := (congrFun pm_M_letter 38).trans rfl
theorem rl_M_letter_41 : (am_pg z_M_letter).2 41 = some (.ifCond .le (9), 44, 50, 0, 0, 0, 0, []) := (congrFun pm_M_letter 41).trans rfl
theorem rl_M_letter_44 : (am_pg z_M_letter).2 44 = some (.aload_n 0, 45, 0, 0, 0, 0, 0, []) := (congrFun pm_M_letter 44).trans rfl
theorem rl_M_letter_45 : (am_pg z_M_letter).2 45 = some (.bipush (44), 47, 0, 0, 0, 0, 44, []) := (congrFun pm_M_letter 45).trans rfl
theorem rl_M_letter_47 : (am_pg z_M_letter).2 47 = some (.invokevirtual 174, 50, 112, 1, 9, 233, 0, []) := (congrFun pm_M_letter 47).trans rfl
theorem rl_M_letter_50 : (am_pg z_M_letter).2 50 = some (.aload_n 0, 51, 0, 0, 0, 0, 0, []) := (congrFun pm_M_letter 50).trans rfl
theorem rl_M_letter_51 : (am_pg z_M_letter).2 51 = some (.bipush (97), 53, 0, 0, 0, 0, 97, []) := (congrFun pm_M_letter 51).trans rfl
theorem rl_M_letter_53 : (am_pg z_M_letter).2 53 = some (.aload_n 0, 54, 0, 0, 0, 0, 0, []) := (congrFun pm_M_letter 53).trans rfl
theorem rl_M_letter_54 : (am_pg z_M_letter).2 54 = some (.getfield 7, 57, 9, 0, 0, 76, 0, []) := (congrFun pm_M_letter 54).trans rfl
theorem rl_M_letter_57 : (am_pg z_M_letter).2 57 = some (.iload_n 2, 58, 2, 0, 0, 0, 0, []) := (congrFun pm_M_letter 57).trans rfl
theorem rl_M_letter_58 : (am_pg z_M_letter).2 58 = some (.iaload, 59, 0, 0, 0, 0, 0, []) := (congrFun pm_M_letter 58).trans rfl
theorem rl_M_letter_59 : (am_pg z_M_letter).2 59 = some (.iadd, 60, 0, 0, 0, 0, 0, []) := (congrFun pm_M_letter 59).trans rfl
theorem rl_M_letter_60 : (am_pg z_M_letter).2 60 = some (.invokevirtual 174, 63, 112, 1, 9, 233, 0, []) := (congrFun pm_M_letter 60).trans rfl
theorem rl_M_letter_63 : (am_pg z_M_letter).2 63 = some (.aload_n 0, 64, 0, 0, 0, 0, 0, []) := (congrFun pm_M_letter 63).trans rfl
theorem rl_M_letter_64 : (am_pg z_M_letter).2 64 = some (.iload_n 2, 65, 2, 0, 0, 0, 0, []) := (congrFun pm_M_letter 64).trans rfl
theorem rl_M_letter_65 : (am_pg z_M_letter).2 65 = some (.invokevirtual 180, 68, 113, 1, 9, 234, 0, []) := (congrFun pm_M_letter 65).trans rfl
theorem rl_M_letter_68 : (am_pg z_M_letter).2 68 = some (.aload_n 0, 69, 0, 0, 0, 0, 0, []) := (congrFun pm_M_letter 68).trans rfl
theorem rl_M_letter_69 : (am_pg z_M_letter).2 69 = some (.iload_n 2, 70, 2, 0, 0, 0, 0, []) := (congrFun pm_M_letter 69).trans rfl
theorem rl_M_letter_70 : (am_pg z_M_letter).2 70 = some (.invokevirtual 183, 73, 115, 1, 9, 235, 0, []) := (congrFun pm_M_letter 70).trans rfl
theorem rl_M_letter_73 : (am_pg z_M_letter).2 73 = some (.iload_n 2, 74, 2, 0, 0, 0, 0, []) := (congrFun pm_M_letter 73).trans rfl
theorem rl_M_letter_74 : (am_pg z_M_letter).2 74 = some (.if_icmp .ne (6), 77, 80, 0, 0, 0, 0, []) := (congrFun pm_M_letter 74).trans rfl
theorem rl_M_letter_77 : (am_pg z_M_letter).2 77 = some (.goto (24), 80, 101, 0, 0, 0, 0, []) := (congrFun pm_M_letter 77).trans rfl
theorem rl_M_letter_80 : (am_pg z_M_letter).2 80 = some (.aload_n 0, 81, 0, 0, 0, 0, 0, []) := (congrFun pm_M_letter 80).trans rfl
theorem rl_M_letter_81 : (am_pg z_M_letter).2 81 = some (.bipush (46), 83, 0, 0, 0, 0, 46, []) := (congrFun pm_M_letter 81).trans rfl
theorem rl_M_letter_83 : (am_pg z_M_letter).2 83 = some (.invokevirtual 174, 86, 112, 1, 9, 233, 0, []) := (congrFun pm_M_letter 83).trans rfl
theorem rl_M_letter_86 : (am_pg z_M_letter).2 86 = some (.aload_n 0, 87, 0, 0, 0, 0, 0, []) := (congrFun pm_M_letter 86).trans rfl
theorem rl_M_letter_87 : (am_pg z_M_letter).2 87 = some (.bipush (46), 89, 0, 0, 0, 0, 46, []) := (congrFun pm_M_letter 87).trans rfl
theorem rl_M_letter_89 : (am_pg z_M_letter).2 89 = some (.invokevirtual 174, 92, 112, 1, 9, 233, 0, []) := (congrFun pm_M_letter 89).trans rfl
theorem rl_M_letter_92 : (am_pg z_M_letter).2 92 = some (.aload_n 0, 93, 0, 0, 0, 0, 0, []) := (congrFun pm_M_letter 92).trans rfl
theorem rl_M_letter_93 : (am_pg z_M_letter).2 93 = some (.aload_n 0, 94, 0, 0, 0, 0, 0, []) := (congrFun pm_M_letter 93).trans rfl
theorem rl_M_letter_94 : (am_pg z_M_letter).2 94 = some (.iload_n 2, 95, 2, 0, 0, 0, 0, []) := (congrFun pm_M_letter 94).trans rfl
theorem rl_M_letter_95 : (am_pg z_M_letter).2 95 = some (.invokevirtual 183, 98, 115, 1, 9, 235, 0, []) := (congrFun pm_M_letter 95).trans rfl
theorem rl_M_letter_98 : (am_pg z_M_letter).2 98 = some (.invokevirtual 180, 101, 113, 1, 9, 234, 0, []) := (congrFun pm_M_letter 98).trans rfl
theorem rl_M_letter_101 : (am_pg z_M_letter).2 101 = some (.iinc 2 (1), 104, 2, 0, 0, 0, 1, []) := (congrFun pm_M_letter 101).trans rfl
theorem rl_M_letter_104 : (am_pg z_M_letter).2 104 = some (.goto (-85), 107, 19, 0, 0, 0, 0, []) := (congrFun pm_M_letter 104).trans rfl
theorem rl_M_letter_107 : (am_pg z_M_letter).2 107 = some (.iload_n 1, 108, 1, 0, 0, 0, 0, []) := (congrFun pm_M_letter 107).trans rfl
theorem rl_M_letter_108 : (am_pg z_M_letter).2 108 = some (.iconst (-1), 109, 0, 0, 0, 0, -1, []) := (congrFun pm_M_letter 108).trans rfl
theorem rl_M_letter_109 : (am_pg z_M_letter).2 109 = some (.if_icmp .ne (10), 112, 119, 0, 0, 0, 0, []) := (congrFun pm_M_letter 109).trans rfl
theorem rl_M_letter_112 : (am_pg z_M_letter).2 112 = some (.aload_n 0, 113, 0, 0, 0, 0, 0, []) := (congrFun pm_M_letter 112).trans rfl
theorem rl_M_letter_113 : (am_pg z_M_letter).2 113 = some (.getfield 165, 116, 9, 14, 0, 90, 0, []) := (congrFun pm_M_letter 113).trans rfl
theorem rl_M_letter_116 : (am_pg z_M_letter).2 116 = some (.goto (20), 119, 136, 0, 0, 0, 0, []) := (congrFun pm_M_letter 116).trans rfl
theorem rl_M_letter_119 : (am_pg z_M_letter).2 119 = some (.iload_n 1, 120, 1, 0, 0, 0, 0, []) := (congrFun pm_M_letter 119).trans rfl
theorem rl_M_letter_120 : (am_pg z_M_letter).2 120 = some (.aload_n 0, 121, 0, 0, 0, 0, 0, []) := (congrFun pm_M_letter 120).trans rfl
theorem rl_M_letter_121 : (am_pg z_M_letter).2 121 = some (.getfield 165, 124, 9, 14, 0, 90, 0, []) := (congrFun pm_M_letter 121).trans rfl
theorem rl_M_letter_124 : (am_pg z_M_letter).2 124 = some (.if_icmp .ge (10), 127, 134, 0, 0, 0, 0, []) := (congrFun pm_M_letter 124).trans rfl
theorem rl_M_letter_127 : (am_pg z_M_letter).2 127 = some (.aload_n 0, 128, 0, 0, 0, 0, 0, []) := (congrFun pm_M_letter 127).trans rfl
theorem rl_M_letter_128 : (am_pg z_M_letter).2 128 = some (.getfield 171, 131, 9, 16, 0, 92, 0, []) := (congrFun pm_M_letter 128).trans rfl
theorem rl_M_letter_131 : (am_pg z_M_letter).2 131 = some (.goto (5), 134, 136, 0, 0, 0, 0, []) := (congrFun pm_M_letter 131).trans rfl
theorem rl_M_letter_134 : (am_pg z_M_letter).2 134 = some (.bipush (-2), 136, 0, 0, 0, 0, -2, []) := (congrFun pm_M_letter 134).trans rfl
theorem rl_M_letter_136 : (am_pg z_M_letter).2 136 = some (.ireturn, 137, 0, 0, 0, 0, 0, []) := (congrFun pm_M_letter 136).trans rfl
theorem rl_M_window_0 : (am_pg z_M_window).2 0 = some (.iload_n 1, 1, 1, 0, 0, 0, 0, []) := (congrFun pm_M_window 0).trans rfl
theorem rl_M_window_1 : (am_pg z_M_window).2 1 = some (.invokestatic 143, 4, 85, 1, 0, 223, 0, []) := (congrFun pm_M_window 1).trans rfl
theorem rl_M_window_4 : (am_pg z_M_window).2 4 = some (.ifCond .eq (26), 7, 30, 0, 0, 0, 0, []) := (congrFun pm_M_window 4).trans rfl
theorem rl_M_window_7 : (am_pg z_M_window).2 7 = some (.iload_n 2, 8, 2, 0, 0, 0, 0, []) := (congrFun pm_M_window 7).trans rfl
theorem rl_M_window_8 : (am_pg z_M_window).2 8 = some (.i2l, 9, 0, 0, 0, 0, 0, []) := (congrFun pm_M_window 8).trans rfl
theorem rl_M_window_9 : (am_pg z_M_window).2 9 = some (.lconst 0, 10, 0, 0, 0, 0, 0, []) := (congrFun pm_M_window 9).trans rfl
theorem rl_M_window_10 : (am_pg z_M_window).2 10 = some (.ldc2_w 156, 13, 0, 0, 0, 9, 360, []) := (congrFun pm_M_window 10).trans rfl
theorem rl_M_window_13 : (am_pg z_M_window).2 13 = some (.invokestatic 66, 16, 84, 3, 0, 210, 0, []) := (congrFun pm_M_window 13).trans rfl
theorem rl_M_window_16 : (am_pg z_M_window).2 16 = some (.ifCond .eq (14), 19, 30, 0, 0, 0, 0, []) := (congrFun pm_M_window 16).trans rfl
theorem rl_M_window_19 : (am_pg z_M_window).2 19 = some (.iload_n 3, 20, 3, 0, 0, 0, 0, []) := (congrFun pm_M_window 19).trans rfl
theorem rl_M_window_20 : (am_pg z_M_window).2 20 = some (.i2l, 21, 0, 0, 0, 0, 0, []) := (congrFun pm_M_window 20).trans rfl
theorem rl_M_window_21 : (am_pg z_M_window).2 21 = some (.lconst 0, 22, 0, 0, 0, 0, 0, []) := (congrFun pm_M_window 21).trans rfl
theorem rl_M_window_22 : (am_pg z_M_window).2 22 = some (.iload_n 2, 23, 2, 0, 0, 0, 0, []) := (congrFun pm_M_window 22).trans rfl
theorem rl_M_window_23 : (am_pg z_M_window).2 23 = some (.i2l, 24, 0, 0, 0, 0, 0, []) := (congrFun pm_M_window 23).trans rfl
theorem rl_M_window_24 : (am_pg z_M_window).2 24 = some (.invokestatic 66, 27, 84, 3, 0, 210, 0, []) := (congrFun pm_M_window 24).trans rfl
theorem rl_M_window_27 : (am_pg z_M_window).2 27 = some (.ifCond .ne (5), 30, 32, 0, 0, 0, 0, []) := (congrFun pm_M_window 27).trans rfl
theorem rl_M_window_30 : (am_pg z_M_window).2 30 = some (.iconst (-1), 31, 0, 0, 0, 0, -1, []) := (congrFun pm_M_window 30).trans rfl
theorem rl_M_window_31 : (am_pg z_M_window).2 31 = some (.ireturn, 32, 0, 0, 0, 0, 0, []) := (congrFun pm_M_window 31).trans rfl
theorem rl_M_window_32 : (am_pg z_M_window).2 32 = some (.aload_n 0, 33, 0, 0, 0, 0, 0, []) := (congrFun pm_M_window 32).trans rfl
theorem rl_M_window_33 : (am_pg z_M_window).2 33 = some (.iload_n 1, 34, 1, 0, 0, 0, 0, []) := (congrFun pm_M_window 33).trans rfl
theorem rl_M_window_34 : (am_pg z_M_window).2 34 = some (.iconst (0), 35, 0, 0, 0, 0, 0, []) := (congrFun pm_M_window 34).trans rfl
theorem rl_M_window_35 : (am_pg z_M_window).2 35 = some (.invokevirtual 146, 38, 92, 2, 9, 226, 0, []) := (congrFun pm_M_window 35).trans rfl
theorem rl_M_window_38 : (am_pg z_M_window).2 38 = some (.istore 4, 40, 4, 0, 0, 0, 0, []) := (congrFun pm_M_window 38).trans rfl
theorem rl_M_window_40 : (am_pg z_M_window).2 40 = some (.aload_n 0, 41, 0, 0, 0, 0, 0, []) := (congrFun pm_M_window 40).trans rfl
theorem rl_M_window_41 : (am_pg z_M_window).2 41 = some (.iload_n 1, 42, 1, 0, 0, 0, 0, []) := (congrFun pm_M_window 41).trans rfl
theorem rl_M_window_42 : (am_pg z_M_window).2 42 = some (.iconst (0), 43, 0, 0, 0, 0, 0, []) := (congrFun pm_M_window 42).trans rfl
theorem rl_M_window_43 : (am_pg z_M_window).2 43 = some (.iload_n 2, 44, 2, 0, 0, 0, 0, []) := (congrFun pm_M_window 43).trans rfl
theorem rl_M_window_44 : (am_pg z_M_window).2 44 = some (.invokevirtual 60, 47, 93, 3, 9, 205, 0, []) := (congrFun pm_M_window 44).trans rfl
theorem rl_M_window_47 : (am_pg z_M_window).2 47 = some (.aload_n 0, 48, 0, 0, 0, 0, 0, []) := (congrFun pm_M_window 47).trans rfl
theorem rl_M_window_48 : (am_pg z_M_window).2 48 = some (.iload_n 1, 49, 1, 0, 0, 0, 0, []) := (congrFun pm_M_window 48).trans rfl
theorem rl_M_window_49 : (am_pg z_M_window).2 49 = some (.iconst (1), 50, 0, 0, 0, 0, 1, []) := (congrFun pm_M_window 49).trans rfl
theorem rl_M_window_50 : (am_pg z_M_window).2 50 = some (.iload_n 3, 51, 3, 0, 0, 0, 0, []) := (congrFun pm_M_window 50).trans rfl
theorem rl_M_window_51 : (am_pg z_M_window).2 51 = some (.invokevirtual 60, 54, 93, 3, 9, 205, 0, []) := (congrFun pm_M_window 51).trans rfl
theorem rl_M_window_54 : (am_pg z_M_window).2 54 = some (.iload 4, 56, 4, 0, 0, 0, 0, []) := (congrFun pm_M_window 54).trans rfl
theorem rl_M_window_56 : (am_pg z_M_window).2 56 = some (.ireturn, 57, 0, 0, 0, 0, 0, []) := (congrFun pm_M_window 56).trans rfl
theorem rl_M_rule_0 : (am_pg z_M_rule).2 0 = some (.iload_n 1, 1, 1, 0, 0, 0, 0, []) := (congrFun pm_M_rule 0).trans rfl
theorem rl_M_rule_1 : (am_pg z_M_rule).2 1 = some (.invokestatic 143, 4, 85, 1, 0, 223, 0, []) := (congrFun pm_M_rule 1).trans rfl
theorem rl_M_rule_4 : (am_pg z_M_rule).2 4 = some (.ifCond .eq (27), 7, 31, 0, 0, 0, 0, []) := (congrFun pm_M_rule 4).trans rfl
theorem rl_M_rule_7 : (am_pg z_M_rule).2 7 = some (.iload_n 2, 8, 2, 0, 0, 0, 0, []) := (congrFun pm_M_rule 7).trans rfl
theorem rl_M_rule_8 : (am_pg z_M_rule).2 8 = some (.i2l, 9, 0, 0, 0, 0, 0, []) := (congrFun pm_M_rule 8).trans rfl
theorem rl_M_rule_9 : (am_pg z_M_rule).2 9 = some (.lconst 0, 10, 0, 0, 0, 0, 0, []) := (congrFun pm_M_rule 9).trans rfl
theorem rl_M_rule_10 : (am_pg z_M_rule).2 10 = some (.ldc2_w 78, 13, 0, 0, 0, 10, 2, []) := (congrFun pm_M_rule 10).trans rfl
theorem rl_M_rule_13 : (am_pg z_M_rule).2 13 = some (.invokestatic 66, 16, 84, 3, 0, 210, 0, []) := (congrFun pm_M_rule 13).trans rfl
theorem rl_M_rule_16 : (am_pg z_M_rule).2 16 = some (.ifCond .eq (15), 19, 31, 0, 0, 0, 0, []) := (congrFun pm_M_rule 16).trans rfl
theorem rl_M_rule_19 : (am_pg z_M_rule).2 19 = some (.iload_n 3, 20, 3, 0, 0, 0, 0, []) := (congrFun pm_M_rule 19).trans rfl
theorem rl_M_rule_20 : (am_pg z_M_rule).2 20 = some (.i2l, 21, 0, 0, 0, 0, 0, []) := (congrFun pm_M_rule 20).trans rfl
theorem rl_M_rule_21 : (am_pg z_M_rule).2 21 = some (.lconst 0, 22, 0, 0, 0, 0, 0, []) := (congrFun pm_M_rule 21).trans rfl
theorem rl_M_rule_22 : (am_pg z_M_rule).2 22 = some (.ldc2_w 156, 25, 0, 0, 0, 9, 360, []) := (congrFun pm_M_rule 22).trans rfl
theorem rl_M_rule_25 : (am_pg z_M_rule).2 25 = some (.invokestatic 66, 28, 84, 3, 0, 210, 0, []) := (congrFun pm_M_rule 25).trans rfl
theorem rl_M_rule_28 : (am_pg z_M_rule).2 28 = some (.ifCond .ne (5), 31, 33, 0, 0, 0, 0, []) := (congrFun pm_M_rule 28).trans rfl
theorem rl_M_rule_31 : (am_pg z_M_rule).2 31 = some (.iconst (-1), 32, 0, 0, 0, 0, -1, []) := (congrFun pm_M_rule 31).trans rfl
theorem rl_M_rule_32 : (am_pg z_M_rule).2 32 = some (.ireturn, 33, 0, 0, 0, 0, 0, []) := (congrFun pm_M_rule 32).trans rfl
theorem rl_M_rule_33 : (am_pg z_M_rule).2 33 = some (.aload_n 0, 34, 0, 0, 0, 0, 0, []) := (congrFun pm_M_rule 33).trans rfl
theorem rl_M_rule_34 : (am_pg z_M_rule).2 34 = some (.iload_n 1, 35, 1, 0, 0, 0, 0, []) := (congrFun pm_M_rule 34).trans rfl
theorem rl_M_rule_35 : (am_pg z_M_rule).2 35 = some (.iconst (2), 36, 0, 0, 0, 0, 2, []) := (congrFun pm_M_rule 35).trans rfl
theorem rl_M_rule_36 : (am_pg z_M_rule).2 36 = some (.iload_n 2, 37, 2, 0, 0, 0, 0, []) := (congrFun pm_M_rule 36).trans rfl
theorem rl_M_rule_37 : (am_pg z_M_rule).2 37 = some (.iadd, 38, 0, 0, 0, 0, 0, []) := (congrFun pm_M_rule 37).trans rfl
theorem rl_M_rule_38 : (am_pg z_M_rule).2 38 = some (.invokevirtual 146, 41, 92, 2, 9, 226, 0, []) := (congrFun pm_M_rule 38).trans rfl
theorem rl_M_rule_41 : (am_pg z_M_rule).2 41 = some (.istore 4, 43, 4, 0, 0, 0, 0, []) := (congrFun pm_M_rule 41).trans rfl
theorem rl_M_rule_43 : (am_pg z_M_rule).2 43 = some (.aload_n 0, 44, 0, 0, 0, 0, 0, []) := (congrFun pm_M_rule 43).trans rfl
theorem rl_M_rule_44 : (am_pg z_M_rule).2 44 = some (.iload_n 1, 45, 1, 0, 0, 0, 0, []) := (congrFun pm_M_rule 44).trans rfl
theorem rl_M_rule_45 : (am_pg z_M_rule).2 45 = some (.iconst (2), 46, 0, 0, 0, 0, 2, []) := (congrFun pm_M_rule 45).trans rfl
theorem rl_M_rule_46 : (am_pg z_M_rule).2 46 = some (.iload_n 2, 47, 2, 0, 0, 0, 0, []) := (congrFun pm_M_rule 46).trans rfl
theorem rl_M_rule_47 : (am_pg z_M_rule).2 47 = some (.iadd, 48, 0, 0, 0, 0, 0, []) := (congrFun pm_M_rule 47).trans rfl
theorem rl_M_rule_48 : (am_pg z_M_rule).2 48 = some (.iload_n 3, 49, 3, 0, 0, 0, 0, []) := (congrFun pm_M_rule 48).trans rfl
theorem rl_M_rule_49 : (am_pg z_M_rule).2 49 = some (.invokevirtual 60, 52, 93, 3, 9, 205, 0, []) := (congrFun pm_M_rule 49).trans rfl
theorem rl_M_rule_52 : (am_pg z_M_rule).2 52 = some (.iload 4, 54, 4, 0, 0, 0, 0, []) := (congrFun pm_M_rule 52).trans rfl
theorem rl_M_rule_54 : (am_pg z_M_rule).2 54 = some (.ireturn, 55, 0, 0, 0, 0, 0, []) := (congrFun pm_M_rule 54).trans rfl
theorem rl_M_letterOf_0 : (am_pg z_M_letterOf).2 0 = some (.iload_n 0, 1, 0, 0, 0, 0, 0, []) := (congrFun pm_M_letterOf 0).trans rfl
theorem rl_M_letterOf_1 : (am_pg z_M_letterOf).2 1 = some (.bipush (104), 3, 0, 0, 0, 0, 104, []) := (congrFun pm_M_letterOf 1).trans rfl
theorem rl_M_letterOf_3 : (am_pg z_M_letterOf).2 3 = some (.if_icmp .ne (7), 6, 10, 0, 0, 0, 0, []) := (congrFun pm_M_letterOf 3).trans rfl
theorem rl_M_letterOf_6 : (am_pg z_M_letterOf).2 6 = some (.iconst (0), 7, 0, 0, 0, 0, 0, []) := (congrFun pm_M_letterOf 6).trans rfl
theorem rl_M_letterOf_7 : (am_pg z_M_letterOf).2 7 = some (.goto (34), 10, 41, 0, 0, 0, 0, []) := (congrFun pm_M_letterOf 7).trans rfl
theorem rl_M_letterOf_10 : (am_pg z_M_letterOf).2 10 = some (.iload_n 0, 11, 0, 0, 0, 0, 0, []) := (congrFun pm_M_letterOf 10).trans rfl
theorem rl_M_letterOf_11 : (am_pg z_M_letterOf).2 11 = some (.bipush (99), 13, 0, 0, 0, 0, 99, []) := (congrFun pm_M_letterOf 11).trans rfl
theorem rl_M_letterOf_13 : (am_pg z_M_letterOf).2 13 = some (.if_icmp .ne (7), 16, 20, 0, 0, 0, 0, []) := (congrFun pm_M_letterOf 13).trans rfl
theorem rl_M_letterOf_16 : (am_pg z_M_letterOf).2 16 = some (.iconst (1), 17, 0, 0, 0, 0, 1, []) := (congrFun pm_M_letterOf 16).trans rfl
theorem rl_M_letterOf_17 : (am_pg z_M_letterOf).2 17 = some (.goto (24), 20, 41, 0, 0, 0, 0, []) := (congrFun pm_M_letterOf 17).trans rfl
theorem rl_M_letterOf_20 : (am_pg z_M_letterOf).2 20 = some (.iload_n 0, 21, 0, 0, 0, 0, 0, []) := (congrFun pm_M_letterOf 20).trans rfl
theorem rl_M_letterOf_21 : (am_pg z_M_letterOf).2 21 = some (.bipush (100), 23, 0, 0, 0, 0, 100, []) := (congrFun pm_M_letterOf 21).trans rfl
theorem rl_M_letterOf_23 : (am_pg z_M_letterOf).2 23 = some (.if_icmp .ne (7), 26, 30, 0, 0, 0, 0, []) := (congrFun pm_M_letterOf 23).trans rfl
theorem rl_M_letterOf_26 : (am_pg z_M_letterOf).2 26 = some (.iconst (2), 27, 0, 0, 0, 0, 2, []) := (congrFun pm_M_letterOf 26).trans rfl
theorem rl_M_letterOf_27 : (am_pg z_M_letterOf).2 27 = some (.goto (14), 30, 41, 0, 0, 0, 0, []) := (congrFun pm_M_letterOf 27).trans rfl
theorem rl_M_letterOf_30 : (am_pg z_M_letterOf).2 30 = some (.iload_n 0, 31, 0, 0, 0, 0, 0, []) := (congrFun pm_M_letterOf 30).trans rfl
theorem rl_M_letterOf_31 : (am_pg z_M_letterOf).2 31 = some (.bipush (110), 33, 0, 0, 0, 0, 110, []) := (congrFun pm_M_letterOf 31).trans rfl
theorem rl_M_letterOf_33 : (am_pg z_M_letterOf).2 33 = some (.if_icmp .ne (7), 36, 40, 0, 0, 0, 0, []) := (congrFun pm_M_letterOf 33).trans rfl
theorem rl_M_letterOf_36 : (am_pg z_M_letterOf).2 36 = some (.iconst (3), 37, 0, 0, 0, 0, 3, []) := (congrFun pm_M_letterOf 36).trans rfl
theorem rl_M_letterOf_37 : (am_pg z_M_letterOf).2 37 = some (.goto (4), 40, 41, 0, 0, 0, 0, []) := (congrFun pm_M_letterOf 37).trans rfl
theorem rl_M_letterOf_40 : (am_pg z_M_letterOf).2 40 = some (.iconst (-1), 41, 0, 0, 0, 0, -1, []) := (congrFun pm_M_letterOf 40).trans rfl
theorem rl_M_letterOf_41 : (am_pg z_M_letterOf).2 41 = some (.ireturn, 42, 0, 0, 0, 0, 0, []) := (congrFun pm_M_letterOf 41).trans rfl
theorem rl_M_readsLetters_0 : (am_pg z_M_readsLetters).2 0 = some (.aload_n 0, 1, 0, 0, 0, 0, 0, []) := (congrFun pm_M_readsLetters 0).trans rfl
theorem rl_M_readsLetters_1 : (am_pg z_M_readsLetters).2 1 = some (.iconst (0), 2, 0, 0, 0, 0, 0, []) := (congrFun pm_M_readsLetters 1).trans rfl
theorem rl_M_readsLetters_2 : (am_pg z_M_readsLetters).2 2 = some (.putfield 80, 5, 9, 7, 0, 83, 0, []) := (congrFun pm_M_readsLetters 2).trans rfl
theorem rl_M_readsLetters_5 : (am_pg z_M_readsLetters).2 5 = some (.iconst (0), 6, 0, 0, 0, 0, 0, []) := (congrFun pm_M_readsLetters 5).trans rfl
theorem rl_M_readsLetters_6 : (am_pg z_M_readsLetters).2 6 = some (.istore_n 2, 7, 2, 0, 0, 0, 0, []) := (congrFun pm_M_readsLetters 6).trans rfl
theorem rl_M_readsLetters_7 : (am_pg z_M_readsLetters).2 7 = some (.iconst (0), 8, 0, 0, 0, 0, 0, []) := (congrFun pm_M_readsLetters 7).trans rfl
theorem rl_M_readsLetters_8 : (am_pg z_M_readsLetters).2 8 = some (.istore_n 3, 9, 3, 0, 0, 0, 0, []) := (congrFun pm_M_readsLetters 8).trans rfl
theorem rl_M_readsLetters_9 : (am_pg z_M_readsLetters).2 9 = some (.iload_n 3, 10, 3, 0, 0, 0, 0, []) := (congrFun pm_M_readsLetters 9).trans rfl
theorem rl_M_readsLetters_10 : (am_pg z_M_readsLetters).2 10 = some (.iload_n 1, 11, 1, 0, 0, 0, 0, []) := (congrFun pm_M_readsLetters 10).trans rfl
theorem rl_M_readsLetters_11 : (am_pg z_M_readsLetters).2 11 = some (.if_icmp .ge (61), 14, 72, 0, 0, 0, 0, []) := (congrFun pm_M_readsLetters 11).trans rfl
theorem rl_M_readsLetters_14 : (am_pg z_M_readsLetters).2 14 = some (.aload_n 0, 15, 0, 0, 0, 0, 0, []) := (congrFun pm_M_readsLetters 14).trans rfl
theorem rl_M_readsLetters_15 : (am_pg z_M_readsLetters).2 15 = some (.getfield 32, 18, 9, 17, 0, 93, 0, []) := (congrFun pm_M_readsLetters 15).trans rfl
theorem rl_M_readsLetters_18 : (am_pg z_M_readsLetters).2 18 = some (.iload_n 3, 19, 3, 0, 0, 0, 0, []) := (congrFun pm_M_readsLetters 18).trans rfl
theorem rl_M_readsLetters_19 : (am_pg z_M_readsLetters).2 19 = some (.aload_n 0, 20, 0, 0, 0, 0, 0, []) := (congrFun pm_M_readsLetters 19).trans rfl
theorem rl_M_readsLetters_20 : (am_pg z_M_readsLetters).2 20 = some (.getfield 25, 23, 9, 6, 0, 82, 0, []) := (congrFun pm_M_readsLetters 20).trans rfl
theorem rl_M_readsLetters_23 : (am_pg z_M_readsLetters).2 23 = some (.iload_n 3, 24, 3, 0, 0, 0, 0, []) := (congrFun pm_M_readsLetters 23).trans rfl
theorem rl_M_readsLetters_24 : (am_pg z_M_readsLetters).2 24 = some (.baload, 25, 0, 0, 0, 0, 0, []) := (congrFun pm_M_readsLetters 24).trans rfl
theorem rl_M_readsLetters_25 : (am_pg z_M_readsLetters).2 25 = some (.invokestatic 186, 28, 119, 1, 0, 240, 0, []) := (congrFun pm_M_readsLetters 25).trans rfl
theorem rl_M_readsLetters_28 : (am_pg z_M_readsLetters).2 28 = some (.iastore, 29, 0, 0, 0, 0, 0, []) := (congrFun pm_M_readsLetters 28).trans rfl
theorem rl_M_readsLetters_29 : (am_pg z_M_readsLetters).2 29 = some (.aload_n 0, 30, 0, 0, 0, 0, 0, []) := (congrFun pm_M_readsLetters 29).trans rfl
theorem rl_M_readsLetters_30 : (am_pg z_M_readsLetters).2 30 = some (.getfield 32, 33, 9, 17, 0, 93, 0, []) := (congrFun pm_M_readsLetters 30).trans rfl
theorem rl_M_readsLetters_33 : (am_pg z_M_readsLetters).2 33 = some (.iload_n 3, 34, 3, 0, 0, 0, 0, []) := (congrFun pm_M_readsLetters 33).trans rfl
theorem rl_M_readsLetters_34 : (am_pg z_M_readsLetters).2 34 = some (.iaload, 35, 0, 0, 0, 0, 0, []) := (congrFun pm_M_readsLetters 34).trans rfl
theorem rl_M_readsLetters_35 : (am_pg z_M_readsLetters).2 35 = some (.iconst (-1), 36, 0, 0, 0, 0, -1, []) := (congrFun pm_M_readsLetters 35).trans rfl
theorem rl_M_readsLetters_36 : (am_pg z_M_readsLetters).2 36 = some (.if_icmp .eq (17), 39, 53, 0, 0, 0, 0, []) := (congrFun pm_M_readsLetters 36).trans rfl
theorem rl_M_readsLetters_39 : (am_pg z_M_readsLetters).2 39 = some (.iload_n 2, 40, 2, 0, 0, 0, 0, []) := (congrFun pm_M_readsLetters 39).trans rfl
theorem rl_M_readsLetters_40 : (am_pg z_M_readsLetters).2 40 = some (.aload_n 0, 41, 0, 0, 0, 0, 0, []) := (congrFun pm_M_readsLetters 40).trans rfl
theorem rl_M_readsLetters_41 : (am_pg z_M_readsLetters).2 41 = some (.getfield 32, 44, 9, 17, 0, 93, 0, []) := (congrFun pm_M_readsLetters 41).trans rfl
theorem rl_M_readsLetters_44 : (am_pg z_M_readsLetters).2 44 = some (.iload_n 3, 45, 3, 0, 0, 0, 0, []) := (congrFun pm_M_readsLetters 44).trans rfl
theorem rl_M_readsLetters_45 : (am_pg z_M_readsLetters).2 45 = some (.iaload, 46, 0, 0, 0, 0, 0, []) := (congrFun pm_M_readsLetters 45).trans rfl
theorem rl_M_readsLetters_46 : (am_pg z_M_readsLetters).2 46 = some (.ishr, 47, 0, 0, 0, 0, 0, []) := (congrFun pm_M_readsLetters 46).trans rfl
theorem rl_M_readsLetters_47 : (am_pg z_M_readsLetters).2 47 = some (.iconst (1), 48, 0, 0, 0, 0, 1, []) := (congrFun pm_M_readsLetters 47).trans rfl
theorem rl_M_readsLetters_48 : (am_pg z_M_readsLetters).2 48 = some (.iand, 49, 0, 0, 0, 0, 0, []) := (congrFun pm_M_readsLetters 48).trans rfl
theorem rl_M_readsLetters_49 : (am_pg z_M_readsLetters).2 49 = some (.iconst (1), 50, 0, 0, 0, 0, 1, []) := (congrFun pm_M_readsLetters 49).trans rfl
theorem rl_M_readsLetters_50 : (am_pg z_M_readsLetters).2 50 = some (.if_icmp .ne (5), 53, 55, 0, 0, 0, 0, []) := (congrFun pm_M_readsLetters 50).trans rfl
theorem rl_M_readsLetters_53 : (am_pg z_M_readsLetters).2 53 = some (.iconst (0), 54, 0, 0, 0, 0, 0, []) := (congrFun pm_M_readsLetters 53).trans rfl
theorem rl_M_readsLetters_54 : (am_pg z_M_readsLetters).2 54 = some (.ireturn, 55, 0, 0, 1, 0, 0, []) := (congrFun pm_M_readsLetters 54).trans rfl
theorem rl_M_readsLetters_55 : (am_pg z_M_readsLetters).2 55 = some (.iload_n 2, 56, 2, 0, 0, 0, 0, []) := (congrFun pm_M_readsLetters 55).trans rfl
theorem rl_M_readsLetters_56 : (am_pg z_M_readsLetters).2 56 = some (.iconst (1), 57, 0, 0, 0, 0, 1, []) := (congrFun pm_M_readsLetters 56).trans rfl
theorem rl_M_readsLetters_57 : (am_pg z_M_readsLetters).2 57 = some (.aload_n 0, 58, 0, 0, 0, 0, 0, []) := (congrFun pm_M_readsLetters 57).trans rfl
theorem rl_M_readsLetters_58 : (am_pg z_M_readsLetters).2 58 = some (.getfield 32, 61, 9, 17, 0, 93, 0, []) := (congrFun pm_M_readsLetters 58).trans rfl
theorem rl_M_readsLetters_61 : (am_pg z_M_readsLetters).2 61 = some (.iload_n 3, 62, 3, 0, 0, 0, 0, []) := (congrFun pm_M_readsLetters 61).trans rfl
theorem rl_M_readsLetters_62 : (am_pg z_M_readsLetters).2 62 = some (.iaload, 63, 0, 0, 0, 0, 0, []) := (congrFun pm_M_readsLetters 62).trans rfl
theorem rl_M_readsLetters_63 : (am_pg z_M_readsLetters).2 63 = some (.ishl, 64, 0, 0, 0, 0, 0, []) := (congrFun pm_M_readsLetters 63).trans rfl
theorem rl_M_readsLetters_64 : (am_pg z_M_readsLetters).2 64 = some (.ior, 65, 0, 0, 0, 0, 0, []) := (congrFun pm_M_readsLetters 64).trans rfl
theorem rl_M_readsLetters_65 : (am_pg z_M_readsLetters).2 65 = some (.istore_n 2, 66, 2, 0, 0, 0, 0, []) := (congrFun pm_M_readsLetters 65).trans rfl
theorem rl_M_readsLetters_66 : (am_pg z_M_readsLetters).2 66 = some (.iinc 3 (1), 69, 3, 0, 0, 0, 1, []) := (congrFun pm_M_readsLetters 66).trans rfl
theorem rl_M_readsLetters_69 : (am_pg z_M_readsLetters).2 69 = some (.goto (-60), 72, 9, 0, 0, 0, 0, []) := (congrFun pm_M_readsLetters 69).trans rfl
theorem rl_M_readsLetters_72 : (am_pg z_M_readsLetters).2 72 = some (.iconst (1), 73, 0, 0, 0, 0, 1, []) := (congrFun pm_M_readsLetters 72).trans rfl
theorem rl_M_readsLetters_73 : (am_pg z_M_readsLetters).2 73 = some (.ireturn, 74, 0, 0, 1, 0, 0, []) := (congrFun pm_M_readsLetters 73).trans rfl
theorem rl_M_order_0 : (am_pg z_M_order).2 0 = some (.iload_n 1, 1, 1, 0, 0, 0, 0, []) := (congrFun pm_M_order 0).trans rfl
theorem rl_M_order_1 : (am_pg z_M_order).2 1 = some (.invokestatic 143, 4, 85, 1, 0, 223, 0, []) := (congrFun pm_M_order 1).trans rfl
theorem rl_M_order_4 : (am_pg z_M_order).2 4 = some (.ifCond .eq (31), 7, 35, 0, 0, 0, 0, []) := (congrFun pm_M_order 4).trans rfl
theorem rl_M_order_7 : (am_pg z_M_order).2 7 = some (.iload_n 2, 8, 2, 0, 0, 0, 0, []) := (congrFun pm_M_order 7).trans rfl
theorem rl_M_order_8 : (am_pg z_M_order).2 8 = some (.i2l, 9, 0, 0, 0, 0, 0, []) := (congrFun pm_M_order 8).trans rfl
theorem rl_M_order_9 : (am_pg z_M_order).2 9 = some (.lconst 0, 10, 0, 0, 0, 0, 0, []) := (congrFun pm_M_order 9).trans rfl
theorem rl_M_order_10 : (am_pg z_M_order).2 10 = some (.ldc2_w 189, 13, 0, 0, 0, 11, 4, []) := (congrFun pm_M_order 10).trans rfl
theorem rl_M_order_13 : (am_pg z_M_order).2 13 = some (.invokestatic 66, 16, 84, 3, 0, 210, 0, []) := (congrFun pm_M_order 13).trans rfl
theorem rl_M_order_16 : (am_pg z_M_order).2 16 = some (.ifCond .eq (19), 19, 35, 0, 0, 0, 0, []) := (congrFun pm_M_order 16).trans rfl
theorem rl_M_order_19 : (am_pg z_M_order).2 19 = some (.iload_n 2, 20, 2, 0, 0, 0, 0, []) := (congrFun pm_M_order 19).trans rfl
theorem rl_M_order_20 : (am_pg z_M_order).2 20 = some (.aload_n 0, 21, 0, 0, 0, 0, 0, []) := (congrFun pm_M_order 20).trans rfl
theorem rl_M_order_21 : (am_pg z_M_order).2 21 = some (.getfield 80, 24, 9, 7, 0, 83, 0, []) := (congrFun pm_M_order 21).trans rfl
theorem rl_M_order_24 : (am_pg z_M_order).2 24 = some (.if_icmp .gt (11), 27, 35, 0, 0, 0, 0, []) := (congrFun pm_M_order 24).trans rfl
theorem rl_M_order_27 : (am_pg z_M_order).2 27 = some (.aload_n 0, 28, 0, 0, 0, 0, 0, []) := (congrFun pm_M_order 27).trans rfl
theorem rl_M_order_28 : (am_pg z_M_order).2 28 = some (.iload_n 2, 29, 2, 0, 0, 0, 0, []) := (congrFun pm_M_order 28).trans rfl
theorem rl_M_order_29 : (am_pg z_M_order).2 29 = some (.invokevirtual 191, 32, 120, 1, 9, 239, 0, []) := (congrFun pm_M_order 29).trans rfl
theorem rl_M_order_32 : (am_pg z_M_order).2 32 = some (.ifCond .ne (5), 35, 37, 0, 0, 0, 0, []) := (congrFun pm_M_order 32).trans rfl
theorem rl_M_order_35 : (am_pg z_M_order).2 35 = some (.iconst (0), 36, 0, 0, 0, 0, 0, []) := (congrFun pm_M_order 35).trans rfl
theorem rl_M_order_36 : (am_pg z_M_order).2 36 = some (.ireturn, 37, 0, 0, 1, 0, 0, []) := (congrFun pm_M_order 36).trans rfl
theorem rl_M_order_37 : (am_pg z_M_order).2 37 = some (.aload_n 0, 38, 0, 0, 0, 0, 0, []) := (congrFun pm_M_order 37).trans rfl
theorem rl_M_order_38 : (am_pg z_M_order).2 38 = some (.iload_n 1, 39, 1, 0, 0, 0, 0, []) := (congrFun pm_M_order 38).trans rfl
theorem rl_M_order_39 : (am_pg z_M_order).2 39 = some (.bipush (8), 41, 0, 0, 0, 0, 8, []) := (congrFun pm_M_order 39).trans rfl
theorem rl_M_order_41 : (am_pg z_M_order).2 41 = some (.iload_n 2, 42, 2, 0, 0, 0, 0, []) := (congrFun pm_M_order 41).trans rfl
theorem rl_M_order_42 : (am_pg z_M_order).2 42 = some (.invokevirtual 60, 45, 93, 3, 9, 205, 0, []) := (congrFun pm_M_order 42).trans rfl
theorem rl_M_order_45 : (am_pg z_M_order).2 45 = some (.iconst (0), 46, 0, 0, 0, 0, 0, []) := (congrFun pm_M_order 45).trans rfl
theorem rl_M_order_46 : (am_pg z_M_order).2 46 = some (.istore_n 3, 47, 3, 0, 0, 0, 0, []) := (congrFun pm_M_order 46).trans rfl
theorem rl_M_order_47 : (am_pg z_M_order).2 47 = some (.iload_n 3, 48, 3, 0, 0, 0, 0, []) := (congrFun pm_M_order 47).trans rfl
theorem rl_M_order_48 : (am_pg z_M_order).2 48 = some (.iload_n 2, 49, 2, 0, 0, 0, 0, []) := (congrFun pm_M_order 48).trans rfl
theorem rl_M_order_49 : (am_pg z_M_order).2 49 = some (.if_icmp .ge (24), 52, 73, 0, 0, 0, 0, []) := (congrFun pm_M_order 49).trans rfl
theorem rl_M_order_52 : (am_pg z_M_order).2 52 = some (.aload_n 0, 53, 0, 0, 0, 0, 0, []) := (congrFun pm_M_order 52).trans rfl
theorem rl_M_order_53 : (am_pg z_M_order).2 53 = some (.iload_n 1, 54, 1, 0, 0, 0, 0, []) := (congrFun pm_M_order 53).trans rfl
theorem rl_M_order_54 : (am_pg z_M_order).2 54 = some (.bipush (9), 56, 0, 0, 0, 0, 9, []) := (congrFun pm_M_order 54).trans rfl
theorem rl_M_order_56 : (am_pg z_M_order).2 56 = some (.iload_n 3, 57, 3, 0, 0, 0, 0, []) := (congrFun pm_M_order 56).trans rfl
theorem rl_M_order_57 : (am_pg z_M_order).2 57 = some (.iadd, 58, 0, 0, 0, 0, 0, []) := (congrFun pm_M_order 57).trans rfl
theorem rl_M_order_58 : (am_pg z_M_order).2 58 = some (.aload_n 0, 59, 0, 0, 0, 0, 0, []) := (congrFun pm_M_order 58).trans rfl
theorem rl_M_order_59 : (am_pg z_M_order).2 59 = some (.getfield 32, 62, 9, 17, 0, 93, 0, []) := (congrFun pm_M_order 59).trans rfl
theorem rl_M_order_62 : (am_pg z_M_order).2 62 = some (.iload_n 3, 63, 3, 0, 0, 0, 0, []) := (congrFun pm_M_order 62).trans rfl
theorem rl_M_order_63 : (am_pg z_M_order).2 63 = some (.iaload, 64, 0, 0, 0, 0, 0, []) := (congrFun pm_M_order 63).trans rfl
theorem rl_M_order_64 : (am_pg z_M_order).2 64 = some (.invokevirtual 60, 67, 93, 3, 9, 205, 0, []) := (congrFun pm_M_order 64).trans rfl
theorem rl_M_order_67 : (am_pg z_M_order).2 67 = some (.iinc 3 (1), 70, 3, 0, 0, 0, 1, []) := (congrFun pm_M_order 67).trans rfl
theorem rl_M_order_70 : (am_pg z_M_order).2 70 = some (.goto (-23), 73, 47, 0, 0, 0, 0, []) := (congrFun pm_M_order 70).trans rfl
theorem rl_M_order_73 : (am_pg z_M_order).2 73 = some (.iconst (1), 74, 0, 0, 0, 0, 1, []) := (congrFun pm_M_order 73).trans rfl
theorem rl_M_order_74 : (am_pg z_M_order).2 74 = some (.ireturn, 75, 0, 0, 1, 0, 0, []) := (congrFun pm_M_order 74).trans rfl
theorem rl_M_entries_0 : (am_pg z_M_entries).2 0 = some (.iload_n 1, 1, 1, 0, 0, 0, 0, []) := (congrFun pm_M_entries 0).trans rfl
theorem rl_M_entries_1 : (am_pg z_M_entries).2 1 = some (.invokestatic 143, 4, 85, 1, 0, 223, 0, []) := (congrFun pm_M_entries 1).trans rfl
theorem rl_M_entries_4 : (am_pg z_M_entries).2 4 = some (.ifCond .eq (15), 7, 19, 0, 0, 0, 0, []) := (congrFun pm_M_entries 4).trans rfl
theorem rl_M_entries_7 : (am_pg z_M_entries).2 7 = some (.iload_n 2, 8, 2, 0, 0, 0, 0, []) := (congrFun pm_M_entries 7).trans rfl
theorem rl_M_entries_8 : (am_pg z_M_entries).2 8 = some (.i2l, 9, 0, 0, 0, 0, 0, []) := (congrFun pm_M_entries 8).trans rfl
theorem rl_M_entries_9 : (am_pg z_M_entries).2 9 = some (.lconst 0, 10, 0, 0, 0, 0, 0, []) := (congrFun pm_M_entries 9).trans rfl
theorem rl_M_entries_10 : (am_pg z_M_entries).2 10 = some (.ldc2_w 154, 13, 0, 0, 0, 8, 100, []) := (congrFun pm_M_entries 10).trans rfl
theorem rl_M_entries_13 : (am_pg z_M_entries).2 13 = some (.invokestatic 66, 16, 84, 3, 0, 210, 0, []) := (congrFun pm_M_entries 13).trans rfl
theorem rl_M_entries_16 : (am_pg z_M_entries).2 16 = some (.ifCond .ne (5), 19, 21, 0, 0, 0, 0, []) := (congrFun pm_M_entries 16).trans rfl
theorem rl_M_entries_19 : (am_pg z_M_entries).2 19 = some (.iconst (-1), 20, 0, 0, 0, 0, -1, []) := (congrFun pm_M_entries 19).trans rfl
theorem rl_M_entries_20 : (am_pg z_M_entries).2 20 = some (.ireturn, 21, 0, 0, 0, 0, 0, []) := (congrFun pm_M_entries 20).trans rfl
theorem rl_M_entries_21 : (am_pg z_M_entries).2 21 = some (.aload_n 0, 22, 0, 0, 0, 0, 0, []) := (congrFun pm_M_entries 21).trans rfl
theorem rl_M_entries_22 : (am_pg z_M_entries).2 22 = some (.iload_n 1, 23, 1, 0, 0, 0, 0, []) := (congrFun pm_M_entries 22).trans rfl
theorem rl_M_entries_23 : (am_pg z_M_entries).2 23 = some (.bipush (7), 25, 0, 0, 0, 0, 7, []) := (congrFun pm_M_entries 23).trans rfl
theorem rl_M_entries_25 : (am_pg z_M_entries).2 25 = some (.invokevirtual 146, 28, 92, 2, 9, 226, 0, []) := (congrFun pm_M_entries 25).trans rfl
theorem rl_M_entries_28 : (am_pg z_M_entries).2 28 = some (.istore_n 3, 29, 3, 0, 0, 0, 0, []) := (congrFun pm_M_entries 28).trans rfl
theorem rl_M_entries_29 : (am_pg z_M_entries).2 29 = some (.aload_n 0, 30, 0, 0, 0, 0, 0, []) := (congrFun pm_M_entries 29).trans rfl
theorem rl_M_entries_30 : (am_pg z_M_entries).2 30 = some (.iload_n 1, 31, 1, 0, 0, 0, 0, []) := (congrFun pm_M_entries 30).trans rfl
theorem rl_M_entries_31 : (am_pg z_M_entries).2 31 = some (.bipush (7), 33, 0, 0, 0, 0, 7, []) := (congrFun pm_M_entries 31).trans rfl
theorem rl_M_entries_33 : (am_pg z_M_entries).2 33 = some (.iload_n 2, 34, 2, 0, 0, 0, 0, []) := (congrFun pm_M_entries 33).trans rfl
theorem rl_M_entries_34 : (am_pg z_M_entries).2 34 = some (.invokevirtual 60, 37, 93, 3, 9, 205, 0, []) := (congrFun pm_M_entries 34).trans rfl
theorem rl_M_entries_37 : (am_pg z_M_entries).2 37 = some (.iload_n 3, 38, 3, 0, 0, 0, 0, []) := (congrFun pm_M_entries 37).trans rfl
theorem rl_M_entries_38 : (am_pg z_M_entries).2 38 = some (.ireturn, 39, 0, 0, 0, 0, 0, []) := (congrFun pm_M_entries 38).trans rfl
theorem rl_M_entered_0 : (am_pg z_M_entered).2 0 = some (.iload_n 1, 1, 1, 0, 0, 0, 0, []) := (congrFun pm_M_entered 0).trans rfl
theorem rl_M_entered_1 : (am_pg z_M_entered).2 1 = some (.invokestatic 143, 4, 85, 1, 0, 223, 0, []) := (congrFun pm_M_entered 1).trans rfl
theorem rl_M_entered_4 : (am_pg z_M_entered).2 4 = some (.ifCond .eq (22), 7, 26, 0, 0, 0, 0, []) := (congrFun pm_M_entered 4).trans rfl
theorem rl_M_entered_7 : (am_pg z_M_entered).2 7 = some (.iload_n 2, 8, 2, 0, 0, 0, 0, []) := (congrFun pm_M_entered 7).trans rfl
theorem rl_M_entered_8 : (am_pg z_M_entered).2 8 = some (.invokestatic 194, 11, 89, 1, 0, 243, 0, []) := (congrFun pm_M_entered 8).trans rfl
theorem rl_M_entered_11 : (am_pg z_M_entered).2 11 = some (.ifCond .eq (15), 14, 26, 0, 0, 0, 0, []) := (congrFun pm_M_entered 11).trans rfl
theorem rl_M_entered_14 : (am_pg z_M_entered).2 14 = some (.iload_n 3, 15, 3, 0, 0, 0, 0, []) := (congrFun pm_M_entered 14).trans rfl
theorem rl_M_entered_15 : (am_pg z_M_entered).2 15 = some (.i2l, 16, 0, 0, 0, 0, 0, []) := (congrFun pm_M_entered 15).trans rfl
theorem rl_M_entered_16 : (am_pg z_M_entered).2 16 = some (.lconst 0, 17, 0, 0, 0, 0, 0, []) := (congrFun pm_M_entered 16).trans rfl
theorem rl_M_entered_17 : (am_pg z_M_entered).2 17 = some (.ldc2_w 78, 20, 0, 0, 0, 10, 2, []) := (congrFun pm_M_entered 17).trans rfl
theorem rl_M_entered_20 : (am_pg z_M_entered).2 20 = some (.invokestatic 66, 23, 84, 3, 0, 210, 0, []) := (congrFun pm_M_entered 20).trans rfl
theorem rl_M_entered_23 : (am_pg z_M_entered).2 23 = some (.ifCond .ne (5), 26, 28, 0, 0, 0, 0, []) := (congrFun pm_M_entered 23).trans rfl
theorem rl_M_entered_26 : (am_pg z_M_entered).2 26 = some (.iconst (-1), 27, 0, 0, 0, 0, -1, []) := (congrFun pm_M_entered 26).trans rfl
theorem rl_M_entered_27 : (am_pg z_M_entered).2 27 = some (.ireturn, 28, 0, 0, 0, 0, 0, []) := (congrFun pm_M_entered 27).trans rfl
theorem rl_M_entered_28 : (am_pg z_M_entered).2 28 = some (.iconst (0), 29, 0, 0, 0, 0, 0, []) := (congrFun pm_M_entered 28).trans rfl
theorem rl_M_entered_29 : (am_pg z_M_entered).2 29 = some (.istore 4, 31, 4, 0, 0, 0, 0, []) := (congrFun pm_M_entered 29).trans rfl
theorem rl_M_entered_31 : (am_pg z_M_entered).2 31 = some (.aload_n 0, 32, 0, 0, 0, 0, 0, []) := (congrFun pm_M_entered 31).trans rfl
theorem rl_M_entered_32 : (am_pg z_M_entered).2 32 = some (.iload_n 1, 33, 1, 0, 0, 0, 0, []) := (congrFun pm_M_entered 32).trans rfl
theorem rl_M_entered_33 : (am_pg z_M_entered).2 33 = some (.bipush (7), 35, 0, 0, 0, 0, 7, []) := (congrFun pm_M_entered 33).trans rfl
theorem rl_M_entered_35 : (am_pg z_M_entered).2 35 = some (.invokevirtual 146, 38, 92, 2, 9, 226, 0, []) := (congrFun pm_M_entered 35).trans rfl
theorem rl_M_entered_38 : (am_pg z_M_entered).2 38 = some (.istore 5, 40, 5, 0, 0, 0, 0, []) := (congrFun pm_M_entered 38).trans rfl
theorem rl_M_entered_40 : (am_pg z_M_entered).2 40 = some (.bipush (-2), 42, 0, 0, 0, 0, -2, []) := (congrFun pm_M_entered 40).trans rfl
theorem rl_M_entered_42 : (am_pg z_M_entered).2 42 = some (.istore 6, 44, 6, 0, 0, 0, 0, []) := (congrFun pm_M_entered 42).trans rfl
theorem rl_M_entered_44 : (am_pg z_M_entered).2 44 = some (.sipush (360), 47, 0, 0, 0, 0, 360, []) := (congrFun pm_M_entered 44).trans rfl
theorem rl_M_entered_47 : (am_pg z_M_entered).2 47 = some (.iload_n 2, 48, 2, 0, 0, 0, 0, []) := (congrFun pm_M_entered 47).trans rfl
theorem rl_M_entered_48 : (am_pg z_M_entered).2 48 = some (.imul, 49, 0, 0, 0, 0, 0, []) := (congrFun pm_M_entered 48).trans rfl
theorem rl_M_entered_49 : (am_pg z_M_entered).2 49 = some (.istore 7, 51, 7, 0, 0, 0, 0, []) := (congrFun pm_M_entered 49).trans rfl
theorem rl_M_entered_51 : (am_pg z_M_entered).2 51 = some (.iload 7, 53, 7, 0, 0, 0, 0, []) := (congrFun pm_M_entered 51).trans rfl
theorem rl_M_entered_53 : (am_pg z_M_entered).2 53 = some (.sipush (360), 56, 0, 0, 0, 0, 360, []) := (congrFun pm_M_entered 53).trans rfl
theorem rl_M_entered_56 : (am_pg z_M_entered).2 56 = some (.iload_n 2, 57, 2, 0, 0, 0, 0, []) := (congrFun pm_M_entered 56).trans rfl
theorem rl_M_entered_57 : (am_pg z_M_entered).2 57 = some (.imul, 58, 0, 0, 0, 0, 0, []) := (congrFun pm_M_entered 57).trans rfl
theorem rl_M_entered_58 : (am_pg z_M_entered).2 58 = some (.sipush (360), 61, 0, 0, 0, 0, 360, []) := (congrFun pm_M_entered 58).trans rfl
theorem rl_M_entered_61 : (am_pg z_M_entered).2 61 = some (.iadd, 62, 0, 0, 0, 0, 0, []) := (congrFun pm_M_entered 61).trans rfl
theorem rl_M_entered_62 : (am_pg z_M_entered).2 62 = some (.if_icmp .ge (68), 65, 130, 0, 0, 0, 0, []) := (congrFun pm_M_entered 62).trans rfl
theorem rl_M_entered_65 : (am_pg z_M_entered).2 65 = some (.aload_n 0, 66, 0, 0, 0, 0, 0, []) := (congrFun pm_M_entered 65).trans rfl
theorem rl_M_entered_66 : (am_pg z_M_entered).2 66 = some (.getfield 7, 69, 9, 0, 0, 76, 0, []) := (congrFun pm_M_entered 66).trans rfl
theorem rl_M_entered_69 : (am_pg z_M_entered).2 69 = some (.iload 7, 71, 7, 0, 0, 0, 0, []) := (congrFun pm_M_entered 69).trans rfl
theorem rl_M_entered_71 : (am_pg z_M_entered).2 71 = some (.iaload, 72, 0, 0, 0, 0, 0, []) := (congrFun pm_M_entered 71).trans rfl
theorem rl_M_entered_72 : (am_pg z_M_entered).2 72 = some (.iload_n 1, 73, 1, 0, 0, 0, 0, []) := (congrFun pm_M_entered 72).trans rfl
theorem rl_M_entered_73 : (am_pg z_M_entered).2 73 = some (.if_icmp .ne (51), 76, 124, 0, 0, 0, 0, []) := (congrFun pm_M_entered 73).trans rfl
theorem rl_M_entered_76 : (am_pg z_M_entered).2 76 = some (.iload 7, 78, 7, 0, 0, 0, 0, []) := (congrFun pm_M_entered 76).trans rfl
theorem rl_M_entered_78 : (am_pg z_M_entered).2 78 = some (.ifCond .le (19), 81, 97, 0, 0, 0, 0, []) := (congrFun pm_M_entered 78).trans rfl
theorem rl_M_entered_81 : (am_pg z_M_entered).2 81 = some (.aload_n 0, 82, 0, 0, 0, 0, 0, []) := (congrFun pm_M_entered 81).trans rfl
theorem rl_M_entered_82 : (am_pg z_M_entered).2 82 = some (.getfield 7, 85, 9, 0, 0, 76, 0, []) := (congrFun pm_M_entered 82).trans rfl
theorem rl_M_entered_85 : (am_pg z_M_entered).2 85 = some (.iload 7, 87, 7, 0, 0, 0, 0, []) := (congrFun pm_M_entered 85).trans rfl
theorem rl_M_entered_87 : (am_pg z_M_entered).2 87 = some (.iconst (1), 88, 0, 0, 0, 0, 1, []) := (congrFun pm_M_entered 87).trans rfl
theorem rl_M_entered_88 : (am_pg z_M_entered).2 88 = some (.isub, 89, 0, 0, 0, 0, 0, []) := (congrFun pm_M_entered 88).trans rfl
theorem rl_M_entered_89 : (am_pg z_M_entered).2 89 = some (.iaload, 90, 0, 0, 0, 0, 0, []) := (congrFun pm_M_entered 89).trans rfl
theorem rl_M_entered_90 : (am_pg z_M_entered).2 90 = some (.iload_n 1, 91, 1, 0, 0, 0, 0, []) := (congrFun pm_M_entered 90).trans rfl
theorem rl_M_entered_91 : (am_pg z_M_entered).2 91 = some (.if_icmp .ne (6), 94, 97, 0, 0, 0, 0, []) := (congrFun pm_M_entered 91).trans rfl
theorem rl_M_entered_94 : (am_pg z_M_entered).2 94 = some (.goto (30), 97, 124, 0, 0, 0, 0, []) := (congrFun pm_M_entered 94).trans rfl
theorem rl_M_entered_97 : (am_pg z_M_entered).2 97 = some (.iload 5, 99, 5, 0, 0, 0, 0, []) := (congrFun pm_M_entered 97).trans rfl
theorem rl_M_entered_99 : (am_pg z_M_entered).2 99 = some (.ifCond .le (15), 102, 114, 0, 0, 0, 0, []) := (congrFun pm_M_entered 99).trans rfl
theorem rl_M_entered_102 : (am_pg z_M_entered).2 102 = some (.iload 4, 104, 4, 0, 0, 0, 0, []) := (congrFun pm_M_entered 102).trans rfl
theorem rl_M_entered_104 : (am_pg z_M_entered).2 104 = some (.iload 5, 106, 5, 0, 0, 0, 0, []) := (congrFun pm_M_entered 104).trans rfl
theorem rl_M_entered_106 : (am_pg z_M_entered).2 106 = some (.if_icmp .ne (8), 109, 114, 0, 0, 0, 0, []) := (congrFun pm_M_entered 106).trans rfl
theorem rl_M_entered_109 : (am_pg z_M_entered).2 109 = some (.iload 7, 111, 7, 0, 0, 0, 0, []) := (congrFun pm_M_entered 109).trans rfl
theorem rl_M_entered_111 : (am_pg z_M_entered).2 111 = some (.goto (5), 114, 116, 0, 0, 0, 0, []) := (congrFun pm_M_entered 111).trans rfl
theorem rl_M_entered_114 : (am_pg z_M_entered).2 114 = some (.iload 6, 116, 6, 0, 0, 0, 0, []) := (congrFun pm_M_entered 114).trans rfl
theorem rl_M_entered_116 : (am_pg z_M_entered).2 116 = some (.istore 6, 118, 6, 0, 0, 0, 0, []) := (congrFun pm_M_entered 116).trans rfl
theorem rl_M_entered_118 : (am_pg z_M_entered).2 118 = some (.iload 4, 120, 4, 0, 0, 0, 0, []) := (congrFun pm_M_entered 118).trans rfl
theorem rl_M_entered_120 : (am_pg z_M_entered).2 120 = some (.iconst (1), 121, 0, 0, 0, 0, 1, []) := (congrFun pm_M_entered 120).trans rfl
theorem rl_M_entered_121 : (am_pg z_M_entered).2 121 = some (.iadd, 122, 0, 0, 0, 0, 0, []) := (congrFun pm_M_entered 121).trans rfl
theorem rl_M_entered_122 : (am_pg z_M_entered).2 122 = some (.istore 4, 124, 4, 0, 0, 0, 0, []) := (congrFun pm_M_entered 122).trans rfl
theorem rl_M_entered_124 : (am_pg z_M_entered).2 124 = some (.iinc 7 (1), 127, 7, 0, 0, 0, 1, []) := (congrFun pm_M_entered 124).trans rfl
theorem rl_M_entered_127 : (am_pg z_M_entered).2 127 = some (.goto (-76), 130, 51, 0, 0, 0, 0, []) := (congrFun pm_M_entered 127).trans rfl
theorem rl_M_entered_130 : (am_pg z_M_entered).2 130 = some (.iload_n 3, 131, 3, 0, 0, 0, 0, []) := (congrFun pm_M_entered 130).trans rfl
theorem rl_M_entered_131 : (am_pg z_M_entered).2 131 = some (.ifCond .ne (8), 134, 139, 0, 0, 0, 0, []) := (congrFun pm_M_entered 131).trans rfl
theorem rl_M_entered_134 : (am_pg z_M_entered).2 134 = some (.iload 4, 136, 4, 0, 0, 0, 0, []) := (congrFun pm_M_entered 134).trans rfl
theorem rl_M_entered_136 : (am_pg z_M_entered).2 136 = some (.goto (31), 139, 167, 0, 0, 0, 0, []) := (congrFun pm_M_entered 136).trans rfl
theorem rl_M_entered_139 : (am_pg z_M_entered).2 139 = some (.iload_n 3, 140, 3, 0, 0, 0, 0, []) := (congrFun pm_M_entered 139).trans rfl
theorem rl_M_entered_140 : (am_pg z_M_entered).2 140 = some (.iconst (1), 141, 0, 0, 0, 0, 1, []) := (congrFun pm_M_entered 140).trans rfl
theorem rl_M_entered_141 : (am_pg z_M_entered).2 141 = some (.if_icmp .ne (24), 144, 165, 0, 0, 0, 0, []) := (congrFun pm_M_entered 141).trans rfl
theorem rl_M_entered_144 : (am_pg z_M_entered).2 144 = some (.iload 5, 146, 5, 0, 0, 0, 0, []) := (congrFun pm_M_entered 144).trans rfl
theorem rl_M_entered_146 : (am_pg z_M_entered).2 146 = some (.ifCond .ne (7), 149, 153, 0, 0, 0, 0, []) := (congrFun pm_M_entered 146).trans rfl
theorem rl_M_entered_149 : (am_pg z_M_entered).2 149 = some (.iconst (0), 150, 0, 0, 0, 0, 0, []) := (congrFun pm_M_entered 149).trans rfl
theorem rl_M_entered_150 : (am_pg z_M_entered).2 150 = some (.goto (17), 153, 167, 0, 0, 0, 0, []) := (congrFun pm_M_entered 150).trans rfl
theorem rl_M_entered_153 : (am_pg z_M_entered).2 153 = some (.iconst (0), 154, 0, 0, 0, 0, 0, []) := (congrFun pm_M_entered 153).trans rfl
theorem rl_M_entered_154 : (am_pg z_M_entered).2 154 = some (.iload 4, 156, 4, 0, 0, 0, 0, []) := (congrFun pm_M_entered 154).trans rfl
theorem rl_M_entered_156 : (am_pg z_M_entered).2 156 = some (.iload 5, 158, 5, 0, 0, 0, 0, []) := (congrFun pm_M_entered 156).trans rfl
theorem rl_M_entered_158 : (am_pg z_M_entered).2 158 = some (.isub, 159, 0, 0, 0, 0, 0, []) := (congrFun pm_M_entered 158).trans rfl
theorem rl_M_entered_159 : (am_pg z_M_entered).2 159 = some (.invokestatic 197, 162, 90, 2, 0, 244, 0, []) := (congrFun pm_M_entered 159).trans rfl
theorem rl_M_entered_162 : (am_pg z_M_entered).2 162 = some (.goto (5), 165, 167, 0, 0, 0, 0, []) := (congrFun pm_M_entered 162).trans rfl
theorem rl_M_entered_165 : (am_pg z_M_entered).2 165 = some (.iload 6, 167, 6, 0, 0, 0, 0, []) := (congrFun pm_M_entered 165).trans rfl
theorem rl_M_entered_167 : (am_pg z_M_entered).2 167 = some (.ireturn, 168, 0, 0, 0, 0, 0, []) := (congrFun pm_M_entered 167).trans rfl
theorem rl_M_areTwo_0 : (am_pg z_M_areTwo).2 0 = some (.iload_n 0, 1, 0, 0, 0, 0, 0, []) := (congrFun pm_M_areTwo 0).trans rfl
theorem rl_M_areTwo_1 : (am_pg z_M_areTwo).2 1 = some (.invokestatic 143, 4, 85, 1, 0, 223, 0, []) := (congrFun pm_M_areTwo 1).trans rfl
theorem rl_M_areTwo_4 : (am_pg z_M_areTwo).2 4 = some (.ifCond .eq (19), 7, 23, 0, 0, 0, 0, []) := (congrFun pm_M_areTwo 4).trans rfl
theorem rl_M_areTwo_7 : (am_pg z_M_areTwo).2 7 = some (.iload_n 1, 8, 1, 0, 0, 0, 0, []) := (congrFun pm_M_areTwo 7).trans rfl
theorem rl_M_areTwo_8 : (am_pg z_M_areTwo).2 8 = some (.invokestatic 143, 11, 85, 1, 0, 223, 0, []) := (congrFun pm_M_areTwo 8).trans rfl
theorem rl_M_areTwo_11 : (am_pg z_M_areTwo).2 11 = some (.ifCond .eq (12), 14, 23, 0, 0, 0, 0, []) := (congrFun pm_M_areTwo 11).trans rfl
theorem rl_M_areTwo_14 : (am_pg z_M_areTwo).2 14 = some (.iload_n 0, 15, 0, 0, 0, 0, 0, []) := (congrFun pm_M_areTwo 14).trans rfl
theorem rl_M_areTwo_15 : (am_pg z_M_areTwo).2 15 = some (.iload_n 1, 16, 1, 0, 0, 0, 0, []) := (congrFun pm_M_areTwo 15).trans rfl
theorem rl_M_areTwo_16 : (am_pg z_M_areTwo).2 16 = some (.if_icmp .eq (7), 19, 23, 0, 0, 0, 0, []) := (congrFun pm_M_areTwo 16).trans rfl
theorem rl_M_areTwo_19 : (am_pg z_M_areTwo).2 19 = some (.iconst (1), 20, 0, 0, 0, 0, 1, []) := (congrFun pm_M_areTwo 19).trans rfl
theorem rl_M_areTwo_20 : (am_pg z_M_areTwo).2 20 = some (.goto (4), 23, 24, 0, 0, 0, 0, []) := (congrFun pm_M_areTwo 20).trans rfl
theorem rl_M_areTwo_23 : (am_pg z_M_areTwo).2 23 = some (.iconst (0), 24, 0, 0, 0, 0, 0, []) := (congrFun pm_M_areTwo 23).trans rfl
theorem rl_M_areTwo_24 : (am_pg z_M_areTwo).2 24 = some (.ireturn, 25, 0, 0, 1, 0, 0, []) := (congrFun pm_M_areTwo 24).trans rfl
theorem rl_M_pactAt_0 : (am_pg z_M_pactAt).2 0 = some (.bipush (78), 2, 0, 0, 0, 0, 78, []) := (congrFun pm_M_pactAt 0).trans rfl
theorem rl_M_pactAt_2 : (am_pg z_M_pactAt).2 2 = some (.iconst (5), 3, 0, 0, 0, 0, 5, []) := (congrFun pm_M_pactAt 2).trans rfl
theorem rl_M_pactAt_3 : (am_pg z_M_pactAt).2 3 = some (.bipush (6), 5, 0, 0, 0, 0, 6, []) := (congrFun pm_M_pactAt 3).trans rfl
theorem rl_M_pactAt_5 : (am_pg z_M_pactAt).2 5 = some (.iload_n 0, 6, 0, 0, 0, 0, 0, []) := (congrFun pm_M_pactAt 5).trans rfl
theorem rl_M_pactAt_6 : (am_pg z_M_pactAt).2 6 = some (.iload_n 1, 7, 1, 0, 0, 0, 0, []) := (congrFun pm_M_pactAt 6).trans rfl
theorem rl_M_pactAt_7 : (am_pg z_M_pactAt).2 7 = some (.invokestatic 162, 10, 91, 2, 0, 229, 0, []) := (congrFun pm_M_pactAt 7).trans rfl
theorem rl_M_pactAt_10 : (am_pg z_M_pactAt).2 10 = some (.imul, 11, 0, 0, 0, 0, 0, []) := (congrFun pm_M_pactAt 10).trans rfl
theorem rl_M_pactAt_11 : (am_pg z_M_pactAt).2 11 = some (.iload_n 0, 12, 0, 0, 0, 0, 0, []) := (congrFun pm_M_pactAt 11).trans rfl
theorem rl_M_pactAt_12 : (am_pg z_M_pactAt).2 12 = some (.iload_n 1, 13, 1, 0, 0, 0, 0, []) := (congrFun pm_M_pactAt 12).trans rfl
theorem rl_M_pactAt_13 : (am_pg z_M_pactAt).2 13 = some (.invokestatic 197, 16, 90, 2, 0, 244, 0, []) := (congrFun pm_M_pactAt 13).trans rfl
theorem rl_M_pactAt_16 : (am_pg z_M_pactAt).2 16 = some (.iadd, 17, 0, 0, 0, 0, 0, []) := (congrFun pm_M_pactAt 16).trans rfl
theorem rl_M_pactAt_17 : (am_pg z_M_pactAt).2 17 = some (.imul, 18, 0, 0, 0, 0, 0, []) := (congrFun pm_M_pactAt 17).trans rfl
theorem rl_M_pactAt_18 : (am_pg z_M_pactAt).2 18 = some (.iadd, 19, 0, 0, 0, 0, 0, []) := (congrFun pm_M_pactAt 18).trans rfl
theorem rl_M_pactAt_19 : (am_pg z_M_pactAt).2 19 = some (.ireturn, 20, 0, 0, 0, 0, 0, []) := (congrFun pm_M_pactAt 19).trans rfl
theorem rl_M_treaty_0 : (am_pg z_M_treaty).2 0 = some (.iload_n 1, 1, 1, 0, 0, 0, 0, []) := (congrFun pm_M_treaty 0).trans rfl
theorem rl_M_treaty_1 : (am_pg z_M_treaty).2 1 = some (.iload_n 2, 2, 2, 0, 0, 0, 0, []) := (congrFun pm_M_treaty 1).trans rfl
theorem rl_M_treaty_2 : (am_pg z_M_treaty).2 2 = some (.invokestatic 200, 5, 124, 2, 0, 246, 0, []) := (congrFun pm_M_treaty 2).trans rfl
theorem rl_M_treaty_5 : (am_pg z_M_treaty).2 5 = some (.ifCond .eq (31), 8, 36, 0, 0, 0, 0, []) := (congrFun pm_M_treaty 5).trans rfl
theorem rl_M_treaty_8 : (am_pg z_M_treaty).2 8 = some (.iload_n 3, 9, 3, 0, 0, 0, 0, []) := (congrFun pm_M_treaty 8).trans rfl
theorem rl_M_treaty_9 : (am_pg z_M_treaty).2 9 = some (.i2l, 10, 0, 0, 0, 0, 0, []) := (congrFun pm_M_treaty 9).trans rfl
theorem rl_M_treaty_10 : (am_pg z_M_treaty).2 10 = some (.lconst 0, 11, 0, 0, 0, 0, 0, []) := (congrFun pm_M_treaty 10).trans rfl
theorem rl_M_treaty_11 : (am_pg z_M_treaty).2 11 = some (.ldc2_w 189, 14, 0, 0, 0, 11, 4, []) := (congrFun pm_M_treaty 11).trans rfl
theorem rl_M_treaty_14 : (am_pg z_M_treaty).2 14 = some (.invokestatic 66, 17, 84, 3, 0, 210, 0, []) := (congrFun pm_M_treaty 14).trans rfl
theorem rl_M_treaty_17 : (am_pg z_M_treaty).2 17 = some (.ifCond .eq (19), 20, 36, 0, 0, 0, 0, []) := (congrFun pm_M_treaty 17).trans rfl
theorem rl_M_treaty_20 : (am_pg z_M_treaty).2 20 = some (.iload_n 3, 21, 3, 0, 0, 0, 0, []) := (congrFun pm_M_treaty 20).trans rfl
theorem rl_M_treaty_21 : (am_pg z_M_treaty).2 21 = some (.aload_n 0, 22, 0, 0, 0, 0, 0, []) := (congrFun pm_M_treaty 21).trans rfl
theorem rl_M_treaty_22 : (am_pg z_M_treaty).2 22 = some (.getfield 80, 25, 9, 7, 0, 83, 0, []) := (congrFun pm_M_treaty 22).trans rfl
theorem rl_M_treaty_25 : (am_pg z_M_treaty).2 25 = some (.if_icmp .gt (11), 28, 36, 0, 0, 0, 0, []) := (congrFun pm_M_treaty 25).trans rfl
theorem rl_M_treaty_28 : (am_pg z_M_treaty).2 28 = some (.aload_n 0, 29, 0, 0, 0, 0, 0, []) := (congrFun pm_M_treaty 28).trans rfl
theorem rl_M_treaty_29 : (am_pg z_M_treaty).2 29 = some (.iload_n 3, 30, 3, 0, 0, 0, 0, []) := (congrFun pm_M_treaty 29).trans rfl
theorem rl_M_treaty_30 : (am_pg z_M_treaty).2 30 = some (.invokevirtual 191, 33, 120, 1, 9, 239, 0, []) := (congrFun pm_M_treaty 30).trans rfl
theorem rl_M_treaty_33 : (am_pg z_M_treaty).2 33 = some (.ifCond .ne (5), 36, 38, 0, 0, 0, 0, []) := (congrFun pm_M_treaty 33).trans rfl
theorem rl_M_treaty_36 : (am_pg z_M_treaty).2 36 = some (.iconst (0), 37, 0, 0, 0, 0, 0, []) := (congrFun pm_M_treaty 36).trans rfl
theorem rl_M_treaty_37 : (am_pg z_M_treaty).2 37 = some (.ireturn, 38, 0, 0, 1, 0, 0, []) := (congrFun pm_M_treaty 37).trans rfl
theorem rl_M_treaty_38 : (am_pg z_M_treaty).2 38 = some (.aload_n 0, 39, 0, 0, 0, 0, 0, []) := (congrFun pm_M_treaty 38).trans rfl
theorem rl_M_treaty_39 : (am_pg z_M_treaty).2 39 = some (.getfield 22, 42, 9, 4, 0, 80, 0, []) := (congrFun pm_M_treaty 39).trans rfl
theorem rl_M_treaty_42 : (am_pg z_M_treaty).2 42 = some (.iload_n 1, 43, 1, 0, 0, 0, 0, []) := (congrFun pm_M_treaty 42).trans rfl
theorem rl_M_treaty_43 : (am_pg z_M_treaty).2 43 = some (.iload_n 2, 44, 2, 0, 0, 0, 0, []) := (congrFun pm_M_treaty 43).trans rfl
theorem rl_M_treaty_44 : (am_pg z_M_treaty).2 44 = some (.invokestatic 203, 47, 125, 2, 0, 247, 0, []) := (congrFun pm_M_treaty 44).trans rfl
theorem rl_M_treaty_47 : (am_pg z_M_treaty).2 47 = some (.iload_n 3, 48, 3, 0, 0, 0, 0, []) := (congrFun pm_M_treaty 47).trans rfl
theorem rl_M_treaty_48 : (am_pg z_M_treaty).2 48 = some (.iconst (1), 49, 0, 0, 0, 0, 1, []) := (congrFun pm_M_treaty 48).trans rfl
theorem rl_M_treaty_49 : (am_pg z_M_treaty).2 49 = some (.iadd, 50, 0, 0, 0, 0, 0, []) := (congrFun pm_M_treaty 49).trans rfl
theorem rl_M_treaty_50 : (am_pg z_M_treaty).2 50 = some (.iastore, 51, 0, 0, 0, 0, 0, []) := (congrFun pm_M_treaty 50).trans rfl
theorem rl_M_treaty_51 : (am_pg z_M_treaty).2 51 = some (.iconst (0), 52, 0, 0, 0, 0, 0, []) := (congrFun pm_M_treaty 51).trans rfl
theorem rl_M_treaty_52 : (am_pg z_M_treaty).2 52 = some (.istore 4, 54, 4, 0, 0, 0, 0, []) := (congrFun pm_M_treaty 52).trans rfl
theorem rl_M_treaty_54 : (am_pg z_M_treaty).2 54 = some (.iload 4, 56, 4, 0, 0, 0, 0, []) := (congrFun pm_M_treaty 54).trans rfl
theorem rl_M_treaty_56 : (am_pg z_M_treaty).2 56 = some (.iload_n 3, 57, 3, 0, 0, 0, 0, []) := (congrFun pm_M_treaty 56).trans rfl
theorem rl_M_treaty_57 : (am_pg z_M_treaty).2 57 = some (.if_icmp .ge (31), 60, 88, 0, 0, 0, 0, []) := (congrFun pm_M_treaty 57).trans rfl
theorem rl_M_treaty_60 : (am_pg z_M_treaty).2 60 = some (.aload_n 0, 61, 0, 0, 0, 0, 0, []) := (congrFun pm_M_treaty 60).trans rfl
theorem rl_M_treaty_61 : (am_pg z_M_treaty).2 61 = some (.getfield 22, 64, 9, 4, 0, 80, 0, []) := (congrFun pm_M_treaty 61).trans rfl
theorem rl_M_treaty_64 : (am_pg z_M_treaty).2 64 = some (.iload_n 1, 65, 1, 0, 0, 0, 0, []) := (congrFun pm_M_treaty 64).trans rfl
theorem rl_M_treaty_65 : (am_pg z_M_treaty).2 65 = some (.iload_n 2, 66, 2, 0, 0, 0, 0, []) := (congrFun pm_M_treaty 65).trans rfl
theorem rl_M_treaty_66 : (am_pg z_M_treaty).2 66 = some (.invokestatic 203, 69, 125, 2, 0, 247, 0, []) := (congrFun pm_M_treaty 66).trans rfl
theorem rl_M_treaty_69 : (am_pg z_M_treaty).2 69 = some (.iconst (1), 70, 0, 0, 0, 0, 1, []) := (congrFun pm_M_treaty 69).trans rfl
theorem rl_M_treaty_70 : (am_pg z_M_treaty).2 70 = some (.iadd, 71, 0, 0, 0, 0, 0, []) := (congrFun pm_M_treaty 70).trans rfl
theorem rl_M_treaty_71 : (am_pg z_M_treaty).2 71 = some (.iload 4, 73, 4, 0, 0, 0, 0, []) := (congrFun pm_M_treaty 71).trans rfl
theorem rl_M_treaty_73 : (am_pg z_M_treaty).2 73 = some (.iadd, 74, 0, 0, 0, 0, 0, []) := (congrFun pm_M_treaty 73).trans rfl
theorem rl_M_treaty_74 : (am_pg z_M_treaty).2 74 = some (.aload_n 0, 75, 0, 0, 0, 0, 0, []) := (congrFun pm_M_treaty 74).trans rfl
theorem rl_M_treaty_75 : (am_pg z_M_treaty).2 75 = some (.getfield 32, 78, 9, 17, 0, 93, 0, []) := (congrFun pm_M_treaty 75).trans rfl
theorem rl_M_treaty_78 : (am_pg z_M_treaty).2 78 = some (.iload 4, 80, 4, 0, 0, 0, 0, []) := (congrFun pm_M_treaty 78).trans rfl
theorem rl_M_treaty_80 : (am_pg z_M_treaty).2 80 = some (.iaload, 81, 0, 0, 0, 0, 0, []) := (congrFun pm_M_treaty 80).trans rfl
theorem rl_M_treaty_81 : (am_pg z_M_treaty).2 81 = some (.iastore, 82, 0, 0, 0, 0, 0, []) := (congrFun pm_M_treaty 81).trans rfl
theorem rl_M_treaty_82 : (am_pg z_M_treaty).2 82 = some (.iinc 4 (1), 85, 4, 0, 0, 0, 1, []) := (congrFun pm_M_treaty 82).trans rfl
theorem rl_M_treaty_85 : (am_pg z_M_treaty).2 85 = some (.goto (-31), 88, 54, 0, 0, 0, 0, []) := (congrFun pm_M_treaty 85).trans rfl
theorem rl_M_treaty_88 : (am_pg z_M_treaty).2 88 = some (.iconst (1), 89, 0, 0, 0, 0, 1, []) := (congrFun pm_M_treaty 88).trans rfl
theorem rl_M_treaty_89 : (am_pg z_M_treaty).2 89 = some (.ireturn, 90, 0, 0, 1, 0, 0, []) := (congrFun pm_M_treaty 89).trans rfl
theorem rl_M_without_0 : (am_pg z_M_without).2 0 = some (.iload_n 1, 1, 1, 0, 0, 0, 0, []) := (congrFun pm_M_without 0).trans rfl
theorem rl_M_without_1 : (am_pg z_M_without).2 1 = some (.iload_n 2, 2, 2, 0, 0, 0, 0, []) := (congrFun pm_M_without 1).trans rfl
theorem rl_M_without_2 : (am_pg z_M_without).2 2 = some (.invokestatic 200, 5, 124, 2, 0, 246, 0, []) := (congrFun pm_M_without 2).trans rfl
theorem rl_M_without_5 : (am_pg z_M_without).2 5 = some (.ifCond .eq (16), 8, 21, 0, 0, 0, 0, []) := (congrFun pm_M_without 5).trans rfl
theorem rl_M_without_8 : (am_pg z_M_without).2 8 = some (.aload_n 0, 9, 0, 0, 0, 0, 0, []) := (congrFun pm_M_without 8).trans rfl
theorem rl_M_without_9 : (am_pg z_M_without).2 9 = some (.getfield 22, 12, 9, 4, 0, 80, 0, []) := (congrFun pm_M_without 9).trans rfl
theorem rl_M_without_12 : (am_pg z_M_without).2 12 = some (.iload_n 1, 13, 1, 0, 0, 0, 0, []) := (congrFun pm_M_without 12).trans rfl
theorem rl_M_without_13 : (am_pg z_M_without).2 13 = some (.iload_n 2, 14, 2, 0, 0, 0, 0, []) := (congrFun pm_M_without 13).trans rfl
theorem rl_M_without_14 : (am_pg z_M_without).2 14 = some (.invokestatic 203, 17, 125, 2, 0, 247, 0, []) := (congrFun pm_M_without 14).trans rfl
theorem rl_M_without_17 : (am_pg z_M_without).2 17 = some (.iaload, 18, 0, 0, 0, 0, 0, []) := (congrFun pm_M_without 17).trans rfl
theorem rl_M_without_18 : (am_pg z_M_without).2 18 = some (.ifCond .ne (5), 21, 23, 0, 0, 0, 0, []) := (congrFun pm_M_without 18).trans rfl
theorem rl_M_without_21 : (am_pg z_M_without).2 21 = some (.iconst (0), 22, 0, 0, 0, 0, 0, []) := (congrFun pm_M_without 21).trans rfl
theorem rl_M_without_22 : (am_pg z_M_without).2 22 = some (.ireturn, 23, 0, 0, 1, 0, 0, []) := (congrFun pm_M_without 22).trans rfl
theorem rl_M_without_23 : (am_pg z_M_without).2 23 = some (.aload_n 0, 24, 0, 0, 0, 0, 0, []) := (congrFun pm_M_without 23).trans rfl
theorem rl_M_without_24 : (am_pg z_M_without).2 24 = some (.getfield 22, 27, 9, 4, 0, 80, 0, []) := (congrFun pm_M_without 24).trans rfl
theorem rl_M_without_27 : (am_pg z_M_without).2 27 = some (.iload_n 1, 28, 1, 0, 0, 0, 0, []) := (congrFun pm_M_without 27).trans rfl
theorem rl_M_without_28 : (am_pg z_M_without).2 28 = some (.iload_n 2, 29, 2, 0, 0, 0, 0, []) := (congrFun pm_M_without 28).trans rfl
theorem rl_M_without_29 : (am_pg z_M_without).2 29 = some (.invokestatic 203, 32, 125, 2, 0, 247, 0, []) := (congrFun pm_M_without 29).trans rfl
theorem rl_M_without_32 : (am_pg z_M_without).2 32 = some (.iconst (0), 33, 0, 0, 0, 0, 0, []) := (congrFun pm_M_without 32).trans rfl
theorem rl_M_without_33 : (am_pg z_M_without).2 33 = some (.iastore, 34, 0, 0, 0, 0, 0, []) := (congrFun pm_M_without 33).trans rfl
theorem rl_M_without_34 : (am_pg z_M_without).2 34 = some (.iconst (1), 35, 0, 0, 0, 0, 1, []) := (congrFun pm_M_without 34).trans rfl
theorem rl_M_without_35 : (am_pg z_M_without).2 35 = some (.ireturn, 36, 0, 0, 1, 0, 0, []) := (congrFun pm_M_without 35).trans rfl
theorem rl_M_tax_0 : (am_pg z_M_tax).2 0 = some (.iload_n 1, 1, 1, 0, 0, 0, 0, []) := (congrFun pm_M_tax 0).trans rfl
theorem rl_M_tax_1 : (am_pg z_M_tax).2 1 = some (.invokestatic 143, 4, 85, 1, 0, 223, 0, []) := (congrFun pm_M_tax 1).trans rfl
theorem rl_M_tax_4 : (am_pg z_M_tax).2 4 = some (.ifCond .eq (15), 7, 19, 0, 0, 0, 0, []) := (congrFun pm_M_tax 4).trans rfl
theorem rl_M_tax_7 : (am_pg z_M_tax).2 7 = some (.iload_n 2, 8, 2, 0, 0, 0, 0, []) := (congrFun pm_M_tax 7).trans rfl
theorem rl_M_tax_8 : (am_pg z_M_tax).2 8 = some (.i2l, 9, 0, 0, 0, 0, 0, []) := (congrFun pm_M_tax 8).trans rfl
theorem rl_M_tax_9 : (am_pg z_M_tax).2 9 = some (.lconst 0, 10, 0, 0, 0, 0, 0, []) := (congrFun pm_M_tax 9).trans rfl
theorem rl_M_tax_10 : (am_pg z_M_tax).2 10 = some (.ldc2_w 206, 13, 0, 0, 0, 12, 60, []) := (congrFun pm_M_tax 10).trans rfl
theorem rl_M_tax_13 : (am_pg z_M_tax).2 13 = some (.invokestatic 66, 16, 84, 3, 0, 210, 0, []) := (congrFun pm_M_tax 13).trans rfl
theorem rl_M_tax_16 : (am_pg z_M_tax).2 16 = some (.ifCond .ne (5), 19, 21, 0, 0, 0, 0, []) := (congrFun pm_M_tax 16).trans rfl
theorem rl_M_tax_19 : (am_pg z_M_tax).2 19 = some (.iconst (-1), 20, 0, 0, 0, 0, -1, []) := (congrFun pm_M_tax 19).trans rfl
theorem rl_M_tax_20 : (am_pg z_M_tax).2 20 = some (.ireturn, 21, 0, 0, 0, 0, 0, []) := (congrFun pm_M_tax 20).trans rfl
theorem rl_M_tax_21 : (am_pg z_M_tax).2 21 = some (.aload_n 0, 22, 0, 0, 0, 0, 0, []) := (congrFun pm_M_tax 21).trans rfl
theorem rl_M_tax_22 : (am_pg z_M_tax).2 22 = some (.iload_n 1, 23, 1, 0, 0, 0, 0, []) := (congrFun pm_M_tax 22).trans rfl
theorem rl_M_tax_23 : (am_pg z_M_tax).2 23 = some (.iconst (5), 24, 0, 0, 0, 0, 5, []) := (congrFun pm_M_tax 23).trans rfl
theorem rl_M_tax_24 : (am_pg z_M_tax).2 24 = some (.invokevirtual 146, 27, 92, 2, 9, 226, 0, []) := (congrFun pm_M_tax 24).trans rfl
theorem rl_M_tax_27 : (am_pg z_M_tax).2 27 = some (.istore_n 3, 28, 3, 0, 0, 0, 0, []) := (congrFun pm_M_tax 27).trans rfl
theorem rl_M_tax_28 : (am_pg z_M_tax).2 28 = some (.aload_n 0, 29, 0, 0, 0, 0, 0, []) := (congrFun pm_M_tax 28).trans rfl
theorem rl_M_tax_29 : (am_pg z_M_tax).2 29 = some (.iload_n 1, 30, 1, 0, 0, 0, 0, []) := (congrFun pm_M_tax 29).trans rfl
theorem rl_M_tax_30 : (am_pg z_M_tax).2 30 = some (.iconst (5), 31, 0, 0, 0, 0, 5, []) := (congrFun pm_M_tax 30).trans rfl
theorem rl_M_tax_31 : (am_pg z_M_tax).2 31 = some (.iload_n 2, 32, 2, 0, 0, 0, 0, []) := (congrFun pm_M_tax 31).trans rfl
theorem rl_M_tax_32 : (am_pg z_M_tax).2 32 = some (.invokevirtual 60, 35, 93, 3, 9, 205, 0, []) := (congrFun pm_M_tax 32).trans rfl
theorem rl_M_tax_35 : (am_pg z_M_tax).2 35 = some (.iload_n 3, 36, 3, 0, 0, 0, 0, []) := (congrFun pm_M_tax 35).trans rfl
theorem rl_M_tax_36 : (am_pg z_M_tax).2 36 = some (.ireturn, 37, 0, 0, 0, 0, 0, []) := (congrFun pm_M_tax 36).trans rfl
theorem rl_M_told_0 : (am_pg z_M_told).2 0 = some (.iload_n 1, 1, 1, 0, 0, 0, 0, []) := (congrFun pm_M_told 0).trans rfl
theorem rl_M_told_1 : (am_pg z_M_told).2 1 = some (.invokestatic 143, 4, 85, 1, 0, 223, 0, []) := (congrFun pm_M_told 1).trans rfl
theorem rl_M_told_4 : (am_pg z_M_told).2 4 = some (.ifCond .eq (15), 7, 19, 0, 0, 0, 0, []) := (congrFun pm_M_told 4).trans rfl
theorem rl_M_told_7 : (am_pg z_M_told).2 7 = some (.iload_n 2, 8, 2, 0, 0, 0, 0, []) := (congrFun pm_M_told 7).trans rfl
theorem rl_M_told_8 : (am_pg z_M_told).2 8 = some (.i2l, 9, 0, 0, 0, 0, 0, []) := (congrFun pm_M_told 8).trans rfl
theorem rl_M_told_9 : (am_pg z_M_told).2 9 = some (.lconst 0, 10, 0, 0, 0, 0, 0, []) := (congrFun pm_M_told 9).trans rfl
theorem rl_M_told_10 : (am_pg z_M_told).2 10 = some (.ldc2_w 208, 13, 0, 0, 0, 13, 11, []) := (congrFun pm_M_told 10).trans rfl
theorem rl_M_told_13 : (am_pg z_M_told).2 13 = some (.invokestatic 66, 16, 84, 3, 0, 210, 0, []) := (congrFun pm_M_told 13).trans rfl
theorem rl_M_told_16 : (am_pg z_M_told).2 16 = some (.ifCond .ne (5), 19, 21, 0, 0, 0, 0, []) := (congrFun pm_M_told 16).trans rfl
theorem rl_M_told_19 : (am_pg z_M_told).2 19 = some (.iconst (-1), 20, 0, 0, 0, 0, -1, []) := (congrFun pm_M_told 19).trans rfl
theorem rl_M_told_20 : (am_pg z_M_told).2 20 = some (.ireturn, 21, 0, 0, 0, 0, 0, []) := (congrFun pm_M_told 20).trans rfl
theorem rl_M_told_21 : (am_pg z_M_told).2 21 = some (.iload_n 2, 22, 2, 0, 0, 0, 0, []) := (congrFun pm_M_told 21).trans rfl
theorem rl_M_told_22 : (am_pg z_M_told).2 22 = some (.bipush (7), 24, 0, 0, 0, 0, 7, []) := (congrFun pm_M_told 22).trans rfl
theorem rl_M_told_24 : (am_pg z_M_told).2 24 = some (.if_icmp .ge (10), 27, 34, 0, 0, 0, 0, []) := (congrFun pm_M_told 24).trans rfl
theorem rl_M_told_27 : (am_pg z_M_told).2 27 = some (.aload_n 0, 28, 0, 0, 0, 0, 0, []) := (congrFun pm_M_told 27).trans rfl
theorem rl_M_told_28 : (am_pg z_M_told).2 28 = some (.iload_n 1, 29, 1, 0, 0, 0, 0, []) := (congrFun pm_M_told 28).trans rfl
theorem rl_M_told_29 : (am_pg z_M_told).2 29 = some (.iload_n 2, 30, 2, 0, 0, 0, 0, []) := (congrFun pm_M_told 29).trans rfl
theorem rl_M_told_30 : (am_pg z_M_told).2 30 = some (.invokevirtual 146, 33, 92, 2, 9, 226, 0, []) := (congrFun pm_M_told 30).trans rfl
theorem rl_M_told_33 : (am_pg z_M_told).2 33 = some (.ireturn, 34, 0, 0, 0, 0, 0, []) := (congrFun pm_M_told 33).trans rfl
theorem rl_M_told_34 : (am_pg z_M_told).2 34 = some (.iload_n 2, 35, 2, 0, 0, 0, 0, []) := (congrFun pm_M_told 34).trans rfl
theorem rl_M_told_35 : (am_pg z_M_told).2 35 = some (.bipush (7), 37, 0, 0, 0, 0, 7, []) := (congrFun pm_M_told 35).trans rfl
theorem rl_M_told_37 : (am_pg z_M_told).2 37 = some (.if_icmp .ne (11), 40, 48, 0, 0, 0, 0, []) := (congrFun pm_M_told 37).trans rfl
theorem rl_M_told_40 : (am_pg z_M_told).2 40 = some (.aload_n 0, 41, 0, 0, 0, 0, 0, []) := (congrFun pm_M_told 40).trans rfl
theorem rl_M_told_41 : (am_pg z_M_told).2 41 = some (.iload_n 1, 42, 1, 0, 0, 0, 0, []) := (congrFun pm_M_told 41).trans rfl
theorem rl_M_told_42 : (am_pg z_M_told).2 42 = some (.bipush (8), 44, 0, 0, 0, 0, 8, []) := (congrFun pm_M_told 42).trans rfl
theorem rl_M_told_44 : (am_pg z_M_told).2 44 = some (.invokevirtual 146, 47, 92, 2, 9, 226, 0, []) := (congrFun pm_M_told 44).trans rfl
theorem rl_M_told_47 : (am_pg z_M_told).2 47 = some (.ireturn, 48, 0, 0, 0, 0, 0, []) := (congrFun pm_M_told 47).trans rfl
theorem rl_M_told_48 : (am_pg z_M_told).2 48 = some (.iload_n 2, 49, 2, 0, 0, 0, 0, []) := (congrFun pm_M_told 48).trans rfl
theorem rl_M_told_49 : (am_pg z_M_told).2 49 = some (.bipush (8), 51, 0, 0, 0, 0, 8, []) := (congrFun pm_M_told 49).trans rfl
theorem rl_M_told_51 : (am_pg z_M_told).2 51 = some (.isub, 52, 0, 0, 0, 0, 0, []) := (congrFun pm_M_told 51).trans rfl
theorem rl_M_told_52 : (am_pg z_M_told).2 52 = some (.aload_n 0, 53, 0, 0, 0, 0, 0, []) := (congrFun pm_M_told 52).trans rfl
theorem rl_M_told_53 : (am_pg z_M_told).2 53 = some (.iload_n 1, 54, 1, 0, 0, 0, 0, []) := (congrFun pm_M_told 53).trans rfl
theorem rl_M_told_54 : (am_pg z_M_told).2 54 = some (.bipush (8), 56, 0, 0, 0, 0, 8, []) := (congrFun pm_M_told 54).trans rfl
theorem rl_M_told_56 : (am_pg z_M_told).2 56 = some (.invokevirtual 146, 59, 92, 2, 9, 226, 0, []) := (congrFun pm_M_told 56).trans rfl
theorem rl_M_told_59 : (am_pg z_M_told).2 59 = some (.if_icmp .ge (18), 62, 77, 0, 0, 0, 0, []) := (congrFun pm_M_told 59).trans rfl
theorem rl_M_told_62 : (am_pg z_M_told).2 62 = some (.aload_n 0, 63, 0, 0, 0, 0, 0, []) := (congrFun pm_M_told 62).trans rfl
theorem rl_M_told_63 : (am_pg z_M_told).2 63 = some (.iload_n 1, 64, 1, 0, 0, 0, 0, []) := (congrFun pm_M_told 63).trans rfl
theorem rl_M_told_64 : (am_pg z_M_told).2 64 = some (.bipush (9), 66, 0, 0, 0, 0, 9, []) := (congrFun pm_M_told 64).trans rfl
theorem rl_M_told_66 : (am_pg z_M_told).2 66 = some (.iload_n 2, 67, 2, 0, 0, 0, 0, []) := (congrFun pm_M_told 66).trans rfl
theorem rl_M_told_67 : (am_pg z_M_told).2 67 = some (.iadd, 68, 0, 0, 0, 0, 0, []) := (congrFun pm_M_told 67).trans rfl
theorem rl_M_told_68 : (am_pg z_M_told).2 68 = some (.bipush (8), 70, 0, 0, 0, 0, 8, []) := (congrFun pm_M_told 68).trans rfl
theorem rl_M_told_70 : (am_pg z_M_told).2 70 = some (.isub, 71, 0, 0, 0, 0, 0, []) := (congrFun pm_M_told 70).trans rfl
theorem rl_M_told_71 : (am_pg z_M_told).2 71 = some (.invokevirtual 146, 74, 92, 2, 9, 226, 0, []) := (congrFun pm_M_told 71).trans rfl
theorem rl_M_told_74 : (am_pg z_M_told).2 74 = some (.goto (5), 77, 79, 0, 0, 0, 0, []) := (congrFun pm_M_told 74).trans rfl
theorem rl_M_told_77 : (am_pg z_M_told).2 77 = some (.bipush (-2), 79, 0, 0, 0, 0, -2, []) := (congrFun pm_M_told 77).trans rfl
theorem rl_M_told_79 : (am_pg z_M_told).2 79 = some (.ireturn, 80, 0, 0, 0, 0, 0, []) := (congrFun pm_M_told 79).trans rfl
theorem rl_M_yearOf_0 : (am_pg z_M_yearOf).2 0 = some (.iload_n 0, 1, 0, 0, 0, 0, 0, []) := (congrFun pm_M_yearOf 0).trans rfl
theorem rl_M_yearOf_1 : (am_pg z_M_yearOf).2 1 = some (.sipush (360), 4, 0, 0, 0, 0, 360, []) := (congrFun pm_M_yearOf 1).trans rfl
theorem rl_M_yearOf_4 : (am_pg z_M_yearOf).2 4 = some (.idiv, 5, 0, 0, 0, 0, 0, []) := (congrFun pm_M_yearOf 4).trans rfl
theorem rl_M_yearOf_5 : (am_pg z_M_yearOf).2 5 = some (.ireturn, 6, 0, 0, 0, 0, 0, []) := (congrFun pm_M_yearOf 5).trans rfl
theorem rl_M_rows_0 : (am_pg z_M_rows).2 0 = some (.iconst (0), 1, 0, 0, 0, 0, 0, []) := (congrFun pm_M_rows 0).trans rfl
theorem rl_M_rows_1 : (am_pg z_M_rows).2 1 = some (.istore 4, 3, 4, 0, 0, 0, 0, []) := (congrFun pm_M_rows 1).trans rfl
theorem rl_M_rows_3 : (am_pg z_M_rows).2 3 = some (.iconst (0), 4, 0, 0, 0, 0, 0, []) := (congrFun pm_M_rows 3).trans rfl
theorem rl_M_rows_4 : (am_pg z_M_rows).2 4 = some (.istore 5, 6, 5, 0, 0, 0, 0, []) := (congrFun pm_M_rows 4).trans rfl
theorem rl_M_rows_6 : (am_pg z_M_rows).2 6 = some (.iconst (0), 7, 0, 0, 0, 0, 0, []) := (congrFun pm_M_rows 6).trans rfl
theorem rl_M_rows_7 : (am_pg z_M_rows).2 7 = some (.istore 6, 9, 6, 0, 0, 0, 0, []) := (congrFun pm_M_rows 7).trans rfl
theorem rl_M_rows_9 : (am_pg z_M_rows).2 9 = some (.sipush (360), 12, 0, 0, 0, 0, 360, []) := (congrFun pm_M_rows 9).trans rfl
theorem rl_M_rows_12 : (am_pg z_M_rows).2 12 = some (.iload_n 2, 13, 2, 0, 0, 0, 0, []) := (congrFun pm_M_rows 12).trans rfl
theorem rl_M_rows_13 : (am_pg z_M_rows).2 13 = some (.imul, 14, 0, 0, 0, 0, 0, []) := (congrFun pm_M_rows 13).trans rfl
theorem rl_M_rows_14 : (am_pg z_M_rows).2 14 = some (.istore 7, 16, 7, 0, 0, 0, 0, []) := (congrFun pm_M_rows 14).trans rfl
theorem rl_M_rows_16 : (am_pg z_M_rows).2 16 = some (.iload 7, 18, 7, 0, 0, 0, 0, []) := (congrFun pm_M_rows 16).trans rfl
theorem rl_M_rows_18 : (am_pg z_M_rows).2 18 = some (.sipush (360), 21, 0, 0, 0, 0, 360, []) := (congrFun pm_M_rows 18).trans rfl
theorem rl_M_rows_21 : (am_pg z_M_rows).2 21 = some (.iload_n 2, 22, 2, 0, 0, 0, 0, []) := (congrFun pm_M_rows 21).trans rfl
theorem rl_M_rows_22 : (am_pg z_M_rows).2 22 = some (.imul, 23, 0, 0, 0, 0, 0, []) := (congrFun pm_M_rows 22).trans rfl
theorem rl_M_rows_23 : (am_pg z_M_rows).2 23 = some (.sipush (360), 26, 0, 0, 0, 0, 360, []) := (congrFun pm_M_rows 23).trans rfl
theorem rl_M_rows_26 : (am_pg z_M_rows).2 26 = some (.iadd, 27, 0, 0, 0, 0, 0, []) := (congrFun pm_M_rows 26).trans rfl
theorem rl_M_rows_27 : (am_pg z_M_rows).2 27 = some (.if_icmp .ge (55), 30, 82, 0, 0, 0, 0, []) := (congrFun pm_M_rows 27).trans rfl
theorem rl_M_rows_30 : (am_pg z_M_rows).2 30 = some (.aload_n 0, 31, 0, 0, 0, 0, 0, []) := (congrFun pm_M_rows 30).trans rfl
theorem rl_M_rows_31 : (am_pg z_M_rows).2 31 = some (.getfield 7, 34, 9, 0, 0, 76, 0, []) := (congrFun pm_M_rows 31).trans rfl
theorem rl_M_rows_34 : (am_pg z_M_rows).2 34 = some (.iload 7, 36, 7, 0, 0, 0, 0, []) := (congrFun pm_M_rows 34).trans rfl
theorem rl_M_rows_36 : (am_pg z_M_rows).2 36 = some (.iaload, 37, 0, 0, 0, 0, 0, []) := (congrFun pm_M_rows 36).trans rfl
theorem rl_M_rows_37 : (am_pg z_M_rows).2 37 = some (.iload_n 1, 38, 1, 0, 0, 0, 0, []) := (congrFun pm_M_rows 37).trans rfl
theorem rl_M_rows_38 : (am_pg z_M_rows).2 38 = some (.if_icmp .ne (10), 41, 48, 0, 0, 0, 0, []) := (congrFun pm_M_rows 38).trans rfl
theorem rl_M_rows_41 : (am_pg z_M_rows).2 41 = some (.iload 6, 43, 6, 0, 0, 0, 0, []) := (congrFun pm_M_rows 41).trans rfl
theorem rl_M_rows_43 : (am_pg z_M_rows).2 43 = some (.iconst (1), 44, 0, 0, 0, 0, 1, []) := (congrFun pm_M_rows 43).trans rfl
theorem rl_M_rows_44 : (am_pg z_M_rows).2 44 = some (.iadd, 45, 0, 0, 0, 0, 0, []) := (congrFun pm_M_rows 44).trans rfl
theorem rl_M_rows_45 : (am_pg z_M_rows).2 45 = some (.goto (4), 48, 49, 0, 0, 0, 0, []) := (congrFun pm_M_rows 45).trans rfl
theorem rl_M_rows_48 : (am_pg z_M_rows).2 48 = some (.iconst (0), 49, 0, 0, 0, 0, 0, []) := (congrFun pm_M_rows 48).trans rfl
theorem rl_M_rows_49 : (am_pg z_M_rows).2 49 = some (.istore 6, 51, 6, 0, 0, 0, 0, []) := (congrFun pm_M_rows 49).trans rfl
theorem rl_M_rows_51 : (am_pg z_M_rows).2 51 = some (.iload 4, 53, 4, 0, 0, 0, 0, []) := (congrFun pm_M_rows 51).trans rfl
theorem rl_M_rows_53 : (am_pg z_M_rows).2 53 = some (.iload 6, 55, 6, 0, 0, 0, 0, []) := (congrFun pm_M_rows 53).trans rfl
theorem rl_M_rows_55 : (am_pg z_M_rows).2 55 = some (.iconst (1), 56, 0, 0, 0, 0, 1, []) := (congrFun pm_M_rows 55).trans rfl
theorem rl_M_rows_56 : (am_pg z_M_rows).2 56 = some (.if_icmp .ne (7), 59, 63, 0, 0, 0, 0, []) := (congrFun pm_M_rows 56).trans rfl
theorem rl_M_rows_59 : (am_pg z_M_rows).2 59 = some (.iconst (1), 60, 0, 0, 0, 0, 1, []) := (congrFun pm_M_rows 59).trans rfl
theorem rl_M_rows_60 : (am_pg z_M_rows).2 60 = some (.goto (4), 63, 64, 0, 0, 0, 0, []) := (congrFun pm_M_rows 60).trans rfl
theorem rl_M_rows_63 : (am_pg z_M_rows).2 63 = some (.iconst (0), 64, 0, 0, 0, 0, 0, []) := (congrFun pm_M_rows 63).trans rfl
theorem rl_M_rows_64 : (am_pg z_M_rows).2 64 = some (.iadd, 65, 0, 0, 0, 0, 0, []) := (congrFun pm_M_rows 64).trans rfl
theorem rl_M_rows_65 : (am_pg z_M_rows).2 65 = some (.istore 4, 67, 4, 0, 0, 0, 0, []) := (congrFun pm_M_rows 65).trans rfl
theorem rl_M_rows_67 : (am_pg z_M_rows).2 67 = some (.iload 5, 69, 5, 0, 0, 0, 0, []) := (congrFun pm_M_rows 67).trans rfl
theorem rl_M_rows_69 : (am_pg z_M_rows).2 69 = some (.iload 6, 71, 6, 0, 0, 0, 0, []) := (congrFun pm_M_rows 69).trans rfl
theorem rl_M_rows_71 : (am_pg z_M_rows).2 71 = some (.invokestatic 197, 74, 90, 2, 0, 244, 0, []) := (congrFun pm_M_rows 71).trans rfl
theorem rl_M_rows_74 : (am_pg z_M_rows).2 74 = some (.istore 5, 76, 5, 0, 0, 0, 0, []) := (congrFun pm_M_rows 74).trans rfl
theorem rl_M_rows_76 : (am_pg z_M_rows).2 76 = some (.iinc 7 (1), 79, 7, 0, 0, 0, 1, []) := (congrFun pm_M_rows 76).trans rfl
theorem rl_M_rows_79 : (am_pg z_M_rows).2 79 = some (.goto (-63), 82, 16, 0, 0, 0, 0, []) := (congrFun pm_M_rows 79).trans rfl
theorem rl_M_rows_82 : (am_pg z_M_rows).2 82 = some (.iload_n 3, 83, 3, 0, 0, 0, 0, []) := (congrFun pm_M_rows 82).trans rfl
theorem rl_M_rows_83 : (am_pg z_M_rows).2 83 = some (.iconst (3), 84, 0, 0, 0, 0, 3, []) := (congrFun pm_M_rows 83).trans rfl
theorem rl_M_rows_84 : (am_pg z_M_rows).2 84 = some (.if_icmp .ne (8), 87, 92, 0, 0, 0, 0, []) := (congrFun pm_M_rows 84).trans rfl
theorem rl_M_rows_87 : (am_pg z_M_rows).2 87 = some (.iload 4, 89, 4, 0, 0, 0, 0, []) := (congrFun pm_M_rows 87).trans rfl
theorem rl_M_rows_89 : (am_pg z_M_rows).2 89 = some (.goto (5), 92, 94, 0, 0, 0, 0, []) := (congrFun pm_M_rows 89).trans rfl
theorem rl_M_rows_92 : (am_pg z_M_rows).2 92 = some (.iload 5, 94, 5, 0, 0, 0, 0, []) := (congrFun pm_M_rows 92).trans rfl
theorem rl_M_rows_94 : (am_pg z_M_rows).2 94 = some (.ireturn, 95, 0, 0, 0, 0, 0, []) := (congrFun pm_M_rows 94).trans rfl
theorem rl_M_daysIn_0 : (am_pg z_M_daysIn).2 0 = some (.iconst (0), 1, 0, 0, 0, 0, 0, []) := (congrFun pm_M_daysIn 0).trans rfl
theorem rl_M_daysIn_1 : (am_pg z_M_daysIn).2 1 = some (.istore 4, 3, 4, 0, 0, 0, 0, []) := (congrFun pm_M_daysIn 1).trans rfl
theorem rl_M_daysIn_3 : (am_pg z_M_daysIn).2 3 = some (.sipush (360), 6, 0, 0, 0, 0, 360, []) := (congrFun pm_M_daysIn 3).trans rfl
theorem rl_M_daysIn_6 : (am_pg z_M_daysIn).2 6 = some (.iload_n 2, 7, 2, 0, 0, 0, 0, []) := (congrFun pm_M_daysIn 6).trans rfl
theorem rl_M_daysIn_7 : (am_pg z_M_daysIn).2 7 = some (.imul, 8, 0, 0, 0, 0, 0, []) := (congrFun pm_M_daysIn 7).trans rfl
theorem rl_M_daysIn_8 : (am_pg z_M_daysIn).2 8 = some (.istore 5, 10, 5, 0, 0, 0, 0, []) := (congrFun pm_M_daysIn 8).trans rfl
theorem rl_M_daysIn_10 : (am_pg z_M_daysIn).2 10 = some (.iload 5, 12, 5, 0, 0, 0, 0, []) := (congrFun pm_M_daysIn 10).trans rfl
theorem rl_M_daysIn_12 : (am_pg z_M_daysIn).2 12 = some (.sipush (360), 15, 0, 0, 0, 0, 360, []) := (congrFun pm_M_daysIn 12).trans rfl
theorem rl_M_daysIn_15 : (am_pg z_M_daysIn).2 15 = some (.iload_n 2, 16, 2, 0, 0, 0, 0, []) := (congrFun pm_M_daysIn 15).trans rfl
theorem rl_M_daysIn_16 : (am_pg z_M_daysIn).2 16 = some (.imul, 17, 0, 0, 0, 0, 0, []) := (congrFun pm_M_daysIn 16).trans rfl
theorem rl_M_daysIn_17 : (am_pg z_M_daysIn).2 17 = some (.sipush (360), 20, 0, 0, 0, 0, 360, []) := (congrFun pm_M_daysIn 17).trans rfl
theorem rl_M_daysIn_20 : (am_pg z_M_daysIn).2 20 = some (.iadd, 21, 0, 0, 0, 0, 0, []) := (congrFun pm_M_daysIn 20).trans rfl
theorem rl_M_daysIn_21 : (am_pg z_M_daysIn).2 21 = some (.if_icmp .ge (93), 24, 114, 0, 0, 0, 0, []) := (congrFun pm_M_daysIn 21).trans rfl
theorem rl_M_daysIn_24 : (am_pg z_M_daysIn).2 24 = some (.iload_n 3, 25, 3, 0, 0, 0, 0, []) := (congrFun pm_M_daysIn 24).trans rfl
theorem rl_M_daysIn_25 : (am_pg z_M_daysIn).2 25 = some (.ifCond .ne (22), 28, 47, 0, 0, 0, 0, []) := (congrFun pm_M_daysIn 25).trans rfl
theorem rl_M_daysIn_28 : (am_pg z_M_daysIn).2 28 = some (.aload_n 0, 29, 0, 0, 0, 0, 0, []) := (congrFun pm_M_daysIn 28).trans rfl
theorem rl_M_daysIn_29 : (am_pg z_M_daysIn).2 29 = some (.getfield 7, 32, 9, 0, 0, 76, 0, []) := (congrFun pm_M_daysIn 29).trans rfl
theorem rl_M_daysIn_32 : (am_pg z_M_daysIn).2 32 = some (.iload 5, 34, 5, 0, 0, 0, 0, []) := (congrFun pm_M_daysIn 32).trans rfl
theorem rl_M_daysIn_34 : (am_pg z_M_daysIn).2 34 = some (.iaload, 35, 0, 0, 0, 0, 0, []) := (congrFun pm_M_daysIn 34).trans rfl
theorem rl_M_daysIn_35 : (am_pg z_M_daysIn).2 35 = some (.iload_n 1, 36, 1, 0, 0, 0, 0, []) := (congrFun pm_M_daysIn 35).trans rfl
theorem rl_M_daysIn_36 : (am_pg z_M_daysIn).2 36 = some (.if_icmp .ne (7), 39, 43, 0, 0, 0, 0, []) := (congrFun pm_M_daysIn 36).trans rfl
theorem rl_M_daysIn_39 : (am_pg z_M_daysIn).2 39 = some (.iconst (1), 40, 0, 0, 0, 0, 1, []) := (congrFun pm_M_daysIn 39).trans rfl
theorem rl_M_daysIn_40 : (am_pg z_M_daysIn).2 40 = some (.goto (51), 43, 91, 0, 0, 0, 0, []) := (congrFun pm_M_daysIn 40).trans rfl
theorem rl_M_daysIn_43 : (am_pg z_M_daysIn).2 43 = some (.iconst (0), 44, 0, 0, 0, 0, 0, []) := (congrFun pm_M_daysIn 43).trans rfl
theorem rl_M_daysIn_44 : (am_pg z_M_daysIn).2 44 = some (.goto (47), 47, 91, 0, 0, 0, 0, []) := (congrFun pm_M_daysIn 44).trans rfl
theorem rl_M_daysIn_47 : (am_pg z_M_daysIn).2 47 = some (.iload_n 3, 48, 3, 0, 0, 0, 0, []) := (congrFun pm_M_daysIn 47).trans rfl
theorem rl_M_daysIn_48 : (am_pg z_M_daysIn).2 48 = some (.iconst (1), 49, 0, 0, 0, 0, 1, []) := (congrFun pm_M_daysIn 48).trans rfl
theorem rl_M_daysIn_49 : (am_pg z_M_daysIn).2 49 = some (.if_icmp .ne (26), 52, 75, 0, 0, 0, 0, []) := (congrFun pm_M_daysIn 49).trans rfl
theorem rl_M_daysIn_52 : (am_pg z_M_daysIn).2 52 = some (.aload_n 0, 53, 0, 0, 0, 0, 0, []) := (congrFun pm_M_daysIn 52).trans rfl
theorem rl_M_daysIn_53 : (am_pg z_M_daysIn).2 53 = some (.getfield 13, 56, 9, 1, 0, 77, 0, []) := (congrFun pm_M_daysIn 53).trans rfl
theorem rl_M_daysIn_56 : (am_pg z_M_daysIn).2 56 = some (.iload 5, 58, 5, 0, 0, 0, 0, []) := (congrFun pm_M_daysIn 56).trans rfl
theorem rl_M_daysIn_58 : (am_pg z_M_daysIn).2 58 = some (.iaload, 59, 0, 0, 0, 0, 0, []) := (congrFun pm_M_daysIn 58).trans rfl
theorem rl_M_daysIn_59 : (am_pg z_M_daysIn).2 59 = some (.iload_n 1, 60, 1, 0, 0, 0, 0, []) := (congrFun pm_M_daysIn 59).trans rfl
theorem rl_M_daysIn_60 : (am_pg z_M_daysIn).2 60 = some (.ishr, 61, 0, 0, 0, 0, 0, []) := (congrFun pm_M_daysIn 60).trans rfl
theorem rl_M_daysIn_61 : (am_pg z_M_daysIn).2 61 = some (.iconst (1), 62, 0, 0, 0, 0, 1, []) := (congrFun pm_M_daysIn 61).trans rfl
theorem rl_M_daysIn_62 : (am_pg z_M_daysIn).2 62 = some (.iand, 63, 0, 0, 0, 0, 0, []) := (congrFun pm_M_daysIn 62).trans rfl
theorem rl_M_daysIn_63 : (am_pg z_M_daysIn).2 63 = some (.iconst (1), 64, 0, 0, 0, 0, 1, []) := (congrFun pm_M_daysIn 63).trans rfl
theorem rl_M_daysIn_64 : (am_pg z_M_daysIn).2 64 = some (.if_icmp .ne (7), 67, 71, 0, 0, 0, 0, []) := (congrFun pm_M_daysIn 64).trans rfl
theorem rl_M_daysIn_67 : (am_pg z_M_daysIn).2 67 = some (.iconst (1), 68, 0, 0, 0, 0, 1, []) := (congrFun pm_M_daysIn 67).trans rfl
theorem rl_M_daysIn_68 : (am_pg z_M_daysIn).2 68 = some (.goto (23), 71, 91, 0, 0, 0, 0, []) := (congrFun pm_M_daysIn 68).trans rfl
theorem rl_M_daysIn_71 : (am_pg z_M_daysIn).2 71 = some (.iconst (0), 72, 0, 0, 0, 0, 0, []) := (congrFun pm_M_daysIn 71).trans rfl
theorem rl_M_daysIn_72 : (am_pg z_M_daysIn).2 72 = some (.goto (19), 75, 91, 0, 0, 0, 0, []) := (congrFun pm_M_daysIn 72).trans rfl
theorem rl_M_daysIn_75 : (am_pg z_M_daysIn).2 75 = some (.aload_n 0, 76, 0, 0, 0, 0, 0, []) := (congrFun pm_M_daysIn 75).trans rfl
theorem rl_M_daysIn_76 : (am_pg z_M_daysIn).2 76 = some (.getfield 16, 79, 9, 2, 0, 78, 0, []) := (congrFun pm_M_daysIn 76).trans rfl
theorem rl_M_daysIn_79 : (am_pg z_M_daysIn).2 79 = some (.iload 5, 81, 5, 0, 0, 0, 0, []) := (congrFun pm_M_daysIn 79).trans rfl
theorem rl_M_daysIn_81 : (am_pg z_M_daysIn).2 81 = some (.iaload, 82, 0, 0, 0, 0, 0, []) := (congrFun pm_M_daysIn 81).trans rfl
theorem rl_M_daysIn_82 : (am_pg z_M_daysIn).2 82 = some (.iload_n 1, 83, 1, 0, 0, 0, 0, []) := (congrFun pm_M_daysIn 82).trans rfl
theorem rl_M_daysIn_83 : (am_pg z_M_daysIn).2 83 = some (.if_icmp .ne (7), 86, 90, 0, 0, 0, 0, []) := (congrFun pm_M_daysIn 83).trans rfl
theorem rl_M_daysIn_86 : (am_pg z_M_daysIn).2 86 = some (.iconst (1), 87, 0, 0, 0, 0, 1, []) := (congrFun pm_M_daysIn 86).trans rfl
theorem rl_M_daysIn_87 : (am_pg z_M_daysIn).2 87 = some (.goto (4), 90, 91, 0, 0, 0, 0, []) := (congrFun pm_M_daysIn 87).trans rfl
theorem rl_M_daysIn_90 : (am_pg z_M_daysIn).2 90 = some (.iconst (0), 91, 0, 0, 0, 0, 0, []) := (congrFun pm_M_daysIn 90).trans rfl
theorem rl_M_daysIn_91 : (am_pg z_M_daysIn).2 91 = some (.istore 6, 93, 6, 0, 0, 0, 0, []) := (congrFun pm_M_daysIn 91).trans rfl
theorem rl_M_daysIn_93 : (am_pg z_M_daysIn).2 93 = some (.iload 4, 95, 4, 0, 0, 0, 0, []) := (congrFun pm_M_daysIn 93).trans rfl
theorem rl_M_daysIn_95 : (am_pg z_M_daysIn).2 95 = some (.iload 6, 97, 6, 0, 0, 0, 0, []) := (congrFun pm_M_daysIn 95).trans rfl
theorem rl_M_daysIn_97 : (am_pg z_M_daysIn).2 97 = some (.ifCond .eq (7), 100, 104, 0, 0, 0, 0, []) := (congrFun pm_M_daysIn 97).trans rfl
theorem rl_M_daysIn_100 : (am_pg z_M_daysIn).2 100 = some (.iconst (1), 101, 0, 0, 0, 0, 1, []) := (congrFun pm_M_daysIn 100).trans rfl
theorem rl_M_daysIn_101 : (am_pg z_M_daysIn).2 101 = some (.goto (4), 104, 105, 0, 0, 0, 0, []) := (congrFun pm_M_daysIn 101).trans rfl
theorem rl_M_daysIn_104 : (am_pg z_M_daysIn).2 104 = some (.iconst (0), 105, 0, 0, 0, 0, 0, []) := (congrFun pm_M_daysIn 104).trans rfl
theorem rl_M_daysIn_105 : (am_pg z_M_daysIn).2 105 = some (.iadd, 106, 0, 0, 0, 0, 0, []) := (congrFun pm_M_daysIn 105).trans rfl
theorem rl_M_daysIn_106 : (am_pg z_M_daysIn).2 106 = some (.istore 4, 108, 4, 0, 0, 0, 0, []) := (congrFun pm_M_daysIn 106).trans rfl
theorem rl_M_daysIn_108 : (am_pg z_M_daysIn).2 108 = some (.iinc 5 (1), 111, 5, 0, 0, 0, 1, []) := (congrFun pm_M_daysIn 108).trans rfl
theorem rl_M_daysIn_111 : (am_pg z_M_daysIn).2 111 = some (.goto (-101), 114, 10, 0, 0, 0, 0, []) := (congrFun pm_M_daysIn 111).trans rfl
theorem rl_M_daysIn_114 : (am_pg z_M_daysIn).2 114 = some (.iload 4, 116, 4, 0, 0, 0, 0, []) := (congrFun pm_M_daysIn 114).trans rfl
theorem rl_M_daysIn_116 : (am_pg z_M_daysIn).2 116 = some (.ireturn, 117, 0, 0, 0, 0, 0, []) := (congrFun pm_M_daysIn 116).trans rfl
theorem rl_M_days_0 : (am_pg z_M_days).2 0 = some (.iload_n 1, 1, 1, 0, 0, 0, 0, []) := (congrFun pm_M_days 0).trans rfl
theorem rl_M_days_1 : (am_pg z_M_days).2 1 = some (.invokestatic 143, 4, 85, 1, 0, 223, 0, []) := (congrFun pm_M_days 1).trans rfl
theorem rl_M_days_4 : (am_pg z_M_days).2 4 = some (.ifCond .eq (22), 7, 26, 0, 0, 0, 0, []) := (congrFun pm_M_days 4).trans rfl
theorem rl_M_days_7 : (am_pg z_M_days).2 7 = some (.iload_n 2, 8, 2, 0, 0, 0, 0, []) := (congrFun pm_M_days 7).trans rfl
theorem rl_M_days_8 : (am_pg z_M_days).2 8 = some (.invokestatic 194, 11, 89, 1, 0, 243, 0, []) := (congrFun pm_M_days 8).trans rfl
theorem rl_M_days_11 : (am_pg z_M_days).2 11 = some (.ifCond .eq (15), 14, 26, 0, 0, 0, 0, []) := (congrFun pm_M_days 11).trans rfl
theorem rl_M_days_14 : (am_pg z_M_days).2 14 = some (.iload_n 3, 15, 3, 0, 0, 0, 0, []) := (congrFun pm_M_days 14).trans rfl
theorem rl_M_days_15 : (am_pg z_M_days).2 15 = some (.i2l, 16, 0, 0, 0, 0, 0, []) := (congrFun pm_M_days 15).trans rfl
theorem rl_M_days_16 : (am_pg z_M_days).2 16 = some (.lconst 0, 17, 0, 0, 0, 0, 0, []) := (congrFun pm_M_days 16).trans rfl
theorem rl_M_days_17 : (am_pg z_M_days).2 17 = some (.ldc2_w 189, 20, 0, 0, 0, 11, 4, []) := (congrFun pm_M_days 17).trans rfl
theorem rl_M_days_20 : (am_pg z_M_days).2 20 = some (.invokestatic 66, 23, 84, 3, 0, 210, 0, []) := (congrFun pm_M_days 20).trans rfl
theorem rl_M_days_23 : (am_pg z_M_days).2 23 = some (.ifCond .ne (5), 26, 28, 0, 0, 0, 0, []) := (congrFun pm_M_days 23).trans rfl
theorem rl_M_days_26 : (am_pg z_M_days).2 26 = some (.iconst (-1), 27, 0, 0, 0, 0, -1, []) := (congrFun pm_M_days 26).trans rfl
theorem rl_M_days_27 : (am_pg z_M_days).2 27 = some (.ireturn, 28, 0, 0, 0, 0, 0, []) := (congrFun pm_M_days 27).trans rfl
theorem rl_M_days_28 : (am_pg z_M_days).2 28 = some (.iload_n 3, 29, 3, 0, 0, 0, 0, []) := (congrFun pm_M_days 28).trans rfl
theorem rl_M_days_29 : (am_pg z_M_days).2 29 = some (.iconst (3), 30, 0, 0, 0, 0, 3, []) := (congrFun pm_M_days 29).trans rfl
theorem rl_M_days_30 : (am_pg z_M_days).2 30 = some (.if_icmp .ge (13), 33, 43, 0, 0, 0, 0, []) := (congrFun pm_M_days 30).trans rfl
theorem rl_M_days_33 : (am_pg z_M_days).2 33 = some (.aload_n 0, 34, 0, 0, 0, 0, 0, []) := (congrFun pm_M_days 33).trans rfl
theorem rl_M_days_34 : (am_pg z_M_days).2 34 = some (.iload_n 1, 35, 1, 0, 0, 0, 0, []) := (congrFun pm_M_days 34).trans rfl
theorem rl_M_days_35 : (am_pg z_M_days).2 35 = some (.iload_n 2, 36, 2, 0, 0, 0, 0, []) := (congrFun pm_M_days 35).trans rfl
theorem rl_M_days_36 : (am_pg z_M_days).2 36 = some (.iload_n 3, 37, 3, 0, 0, 0, 0, []) := (congrFun pm_M_days 36).trans rfl
theorem rl_M_days_37 : (am_pg z_M_days).2 37 = some (.invokevirtual 210, 40, 132, 3, 9, 252, 0, []) := (congrFun pm_M_days 37).trans rfl
theorem rl_M_days_40 : (am_pg z_M_days).2 40 = some (.goto (10), 43, 50, 0, 0, 0, 0, []) := (congrFun pm_M_days 40).trans rfl
theorem rl_M_days_43 : (am_pg z_M_days).2 43 = some (.aload_n 0, 44, 0, 0, 0, 0, 0, []) := (congrFun pm_M_days 43).trans rfl
theorem rl_M_days_44 : (am_pg z_M_days).2 44 = some (.iload_n 1, 45, 1, 0, 0, 0, 0, []) := (congrFun pm_M_days 44).trans rfl
theorem rl_M_days_45 : (am_pg z_M_days).2 45 = some (.iload_n 2, 46, 2, 0, 0, 0, 0, []) := (congrFun pm_M_days 45).trans rfl
theorem rl_M_days_46 : (am_pg z_M_days).2 46 = some (.iload_n 3, 47, 3, 0, 0, 0, 0, []) := (congrFun pm_M_days 46).trans rfl
theorem rl_M_days_47 : (am_pg z_M_days).2 47 = some (.invokevirtual 214, 50, 131, 3, 9, 253, 0, []) := (congrFun pm_M_days 47).trans rfl
theorem rl_M_days_50 : (am_pg z_M_days).2 50 = some (.ireturn, 51, 0, 0, 0, 0, 0, []) := (congrFun pm_M_days 50).trans rfl
theorem rl_M_between_0 : (am_pg z_M_between).2 0 = some (.iconst (0), 1, 0, 0, 0, 0, 0, []) := (congrFun pm_M_between 0).trans rfl
theorem rl_M_between_1 : (am_pg z_M_between).2 1 = some (.istore 4, 3, 4, 0, 0, 0, 0, []) := (congrFun pm_M_between 1).trans rfl
theorem rl_M_between_3 : (am_pg z_M_between).2 3 = some (.iconst (0), 4, 0, 0, 0, 0, 0, []) := (congrFun pm_M_between 3).trans rfl
theorem rl_M_between_4 : (am_pg z_M_between).2 4 = some (.iload_n 2, 5, 2, 0, 0, 0, 0, []) := (congrFun pm_M_between 4).trans rfl
theorem rl_M_between_5 : (am_pg z_M_between).2 5 = some (.invokestatic 197, 8, 90, 2, 0, 244, 0, []) := (congrFun pm_M_between 5).trans rfl
theorem rl_M_between_8 : (am_pg z_M_between).2 8 = some (.istore 5, 10, 5, 0, 0, 0, 0, []) := (congrFun pm_M_between 8).trans rfl
theorem rl_M_between_10 : (am_pg z_M_between).2 10 = some (.iload 5, 12, 5, 0, 0, 0, 0, []) := (congrFun pm_M_between 10).trans rfl
theorem rl_M_between_12 : (am_pg z_M_between).2 12 = some (.iload_n 3, 13, 3, 0, 0, 0, 0, []) := (congrFun pm_M_between 12).trans rfl
theorem rl_M_between_13 : (am_pg z_M_between).2 13 = some (.if_icmp .gt (30), 16, 43, 0, 0, 0, 0, []) := (congrFun pm_M_between 13).trans rfl
theorem rl_M_between_16 : (am_pg z_M_between).2 16 = some (.iload 4, 18, 4, 0, 0, 0, 0, []) := (congrFun pm_M_between 16).trans rfl
theorem rl_M_between_18 : (am_pg z_M_between).2 18 = some (.aload_n 0, 19, 0, 0, 0, 0, 0, []) := (congrFun pm_M_between 18).trans rfl
theorem rl_M_between_19 : (am_pg z_M_between).2 19 = some (.getfield 7, 22, 9, 0, 0, 76, 0, []) := (congrFun pm_M_between 19).trans rfl
theorem rl_M_between_22 : (am_pg z_M_between).2 22 = some (.iload 5, 24, 5, 0, 0, 0, 0, []) := (congrFun pm_M_between 22).trans rfl
theorem rl_M_between_24 : (am_pg z_M_between).2 24 = some (.iaload, 25, 0, 0, 0, 0, 0, []) := (congrFun pm_M_between 24).trans rfl
theorem rl_M_between_25 : (am_pg z_M_between).2 25 = some (.iload_n 1, 26, 1, 0, 0, 0, 0, []) := (congrFun pm_M_between 25).trans rfl
theorem rl_M_between_26 : (am_pg z_M_between).2 26 = some (.if_icmp .ne (7), 29, 33, 0, 0, 0, 0, []) := (congrFun pm_M_between 26).trans rfl
theorem rl_M_between_29 : (am_pg z_M_between).2 29 = some (.iconst (1), 30, 0, 0, 0, 0, 1, []) := (congrFun pm_M_between 29).trans rfl
theorem rl_M_between_30 : (am_pg z_M_between).2 30 = some (.goto (4), 33, 34, 0, 0, 0, 0, []) := (congrFun pm_M_between 30).trans rfl
theorem rl_M_between_33 : (am_pg z_M_between).2 33 = some (.iconst (0), 34, 0, 0, 0, 0, 0, []) := (congrFun pm_M_between 33).trans rfl
theorem rl_M_between_34 : (am_pg z_M_between).2 34 = some (.iadd, 35, 0, 0, 0, 0, 0, []) := (congrFun pm_M_between 34).trans rfl
theorem rl_M_between_35 : (am_pg z_M_between).2 35 = some (.istore 4, 37, 4, 0, 0, 0, 0, []) := (congrFun pm_M_between 35).trans rfl
theorem rl_M_between_37 : (am_pg z_M_between).2 37 = some (.iinc 5 (1), 40, 5, 0, 0, 0, 1, []) := (congrFun pm_M_between 37).trans rfl
theorem rl_M_between_40 : (am_pg z_M_between).2 40 = some (.goto (-30), 43, 10, 0, 0, 0, 0, []) := (congrFun pm_M_between 40).trans rfl
theorem rl_M_between_43 : (am_pg z_M_between).2 43 = some (.iload 4, 45, 4, 0, 0, 0, 0, []) := (congrFun pm_M_between 43).trans rfl
theorem rl_M_between_45 : (am_pg z_M_between).2 45 = some (.ireturn, 46, 0, 0, 0, 0, 0, []) := (congrFun pm_M_between 45).trans rfl
theorem rl_M_month_0 : (am_pg z_M_month).2 0 = some (.iload_n 1, 1, 1, 0, 0, 0, 0, []) := (congrFun pm_M_month 0).trans rfl
theorem rl_M_month_1 : (am_pg z_M_month).2 1 = some (.invokestatic 143, 4, 85, 1, 0, 223, 0, []) := (congrFun pm_M_month 1).trans rfl
theorem rl_M_month_4 : (am_pg z_M_month).2 4 = some (.ifCond .eq (34), 7, 38, 0, 0, 0, 0, []) := (congrFun pm_M_month 4).trans rfl
theorem rl_M_month_7 : (am_pg z_M_month).2 7 = some (.iload_n 2, 8, 2, 0, 0, 0, 0, []) := (congrFun pm_M_month 7).trans rfl
theorem rl_M_month_8 : (am_pg z_M_month).2 8 = some (.i2l, 9, 0, 0, 0, 0, 0, []) := (congrFun pm_M_month 8).trans rfl
theorem rl_M_month_9 : (am_pg z_M_month).2 9 = some (.lconst 0, 10, 0, 0, 0, 0, 0, []) := (congrFun pm_M_month 9).trans rfl
theorem rl_M_month_10 : (am_pg z_M_month).2 10 = some (.ldc2_w 217, 13, 0, 0, 0, 14, 35, []) := (congrFun pm_M_month 10).trans rfl
theorem rl_M_month_13 : (am_pg z_M_month).2 13 = some (.invokestatic 66, 16, 84, 3, 0, 210, 0, []) := (congrFun pm_M_month 13).trans rfl
theorem rl_M_month_16 : (am_pg z_M_month).2 16 = some (.ifCond .eq (22), 19, 38, 0, 0, 0, 0, []) := (congrFun pm_M_month 16).trans rfl
theorem rl_M_month_19 : (am_pg z_M_month).2 19 = some (.aload_n 0, 20, 0, 0, 0, 0, 0, []) := (congrFun pm_M_month 19).trans rfl
theorem rl_M_month_20 : (am_pg z_M_month).2 20 = some (.iload_n 1, 21, 1, 0, 0, 0, 0, []) := (congrFun pm_M_month 20).trans rfl
theorem rl_M_month_21 : (am_pg z_M_month).2 21 = some (.bipush (30), 23, 0, 0, 0, 0, 30, []) := (congrFun pm_M_month 21).trans rfl
theorem rl_M_month_23 : (am_pg z_M_month).2 23 = some (.iload_n 2, 24, 2, 0, 0, 0, 0, []) := (congrFun pm_M_month 23).trans rfl
theorem rl_M_month_24 : (am_pg z_M_month).2 24 = some (.imul, 25, 0, 0, 0, 0, 0, []) := (congrFun pm_M_month 24).trans rfl
theorem rl_M_month_25 : (am_pg z_M_month).2 25 = some (.bipush (30), 27, 0, 0, 0, 0, 30, []) := (congrFun pm_M_month 25).trans rfl
theorem rl_M_month_27 : (am_pg z_M_month).2 27 = some (.iload_n 2, 28, 2, 0, 0, 0, 0, []) := (congrFun pm_M_month 27).trans rfl
theorem rl_M_month_28 : (am_pg z_M_month).2 28 = some (.imul, 29, 0, 0, 0, 0, 0, []) := (congrFun pm_M_month 28).trans rfl
theorem rl_M_month_29 : (am_pg z_M_month).2 29 = some (.bipush (29), 31, 0, 0, 0, 0, 29, []) := (congrFun pm_M_month 29).trans rfl
theorem rl_M_month_31 : (am_pg z_M_month).2 31 = some (.iadd, 32, 0, 0, 0, 0, 0, []) := (congrFun pm_M_month 31).trans rfl
theorem rl_M_month_32 : (am_pg z_M_month).2 32 = some (.invokevirtual 219, 35, 134, 3, 9, 255, 0, []) := (congrFun pm_M_month 32).trans rfl
theorem rl_M_month_35 : (am_pg z_M_month).2 35 = some (.goto (4), 38, 39, 0, 0, 0, 0, []) := (congrFun pm_M_month 35).trans rfl
theorem rl_M_month_38 : (am_pg z_M_month).2 38 = some (.iconst (-1), 39, 0, 0, 0, 0, -1, []) := (congrFun pm_M_month 38).trans rfl
theorem rl_M_month_39 : (am_pg z_M_month).2 39 = some (.ireturn, 40, 0, 0, 0, 0, 0, []) := (congrFun pm_M_month 39).trans rfl
theorem rl_M_within_0 : (am_pg z_M_within).2 0 = some (.iload_n 1, 1, 1, 0, 0, 0, 0, []) := (congrFun pm_M_within 0).trans rfl
theorem rl_M_within_1 : (am_pg z_M_within).2 1 = some (.invokestatic 143, 4, 85, 1, 0, 223, 0, []) := (congrFun pm_M_within 1).trans rfl
theorem rl_M_within_4 : (am_pg z_M_within).2 4 = some (.ifCond .eq (36), 7, 40, 0, 0, 0, 0, []) := (congrFun pm_M_within 4).trans rfl
theorem rl_M_within_7 : (am_pg z_M_within).2 7 = some (.iload_n 2, 8, 2, 0, 0, 0, 0, []) := (congrFun pm_M_within 7).trans rfl
theorem rl_M_within_8 : (am_pg z_M_within).2 8 = some (.invokestatic 74, 11, 87, 1, 0, 221, 0, []) := (congrFun pm_M_within 8).trans rfl
theorem rl_M_within_11 : (am_pg z_M_within).2 11 = some (.ifCond .eq (29), 14, 40, 0, 0, 0, 0, []) := (congrFun pm_M_within 11).trans rfl
theorem rl_M_within_14 : (am_pg z_M_within).2 14 = some (.iload_n 3, 15, 3, 0, 0, 0, 0, []) := (congrFun pm_M_within 14).trans rfl
theorem rl_M_within_15 : (am_pg z_M_within).2 15 = some (.i2l, 16, 0, 0, 0, 0, 0, []) := (congrFun pm_M_within 15).trans rfl
theorem rl_M_within_16 : (am_pg z_M_within).2 16 = some (.lconst 1, 17, 0, 0, 0, 0, 1, []) := (congrFun pm_M_within 16).trans rfl
theorem rl_M_within_17 : (am_pg z_M_within).2 17 = some (.ldc2_w 222, 20, 0, 0, 0, 15, 1080, []) := (congrFun pm_M_within 17).trans rfl
theorem rl_M_within_20 : (am_pg z_M_within).2 20 = some (.invokestatic 66, 23, 84, 3, 0, 210, 0, []) := (congrFun pm_M_within 20).trans rfl
theorem rl_M_within_23 : (am_pg z_M_within).2 23 = some (.ifCond .eq (17), 26, 40, 0, 0, 0, 0, []) := (congrFun pm_M_within 23).trans rfl
theorem rl_M_within_26 : (am_pg z_M_within).2 26 = some (.aload_n 0, 27, 0, 0, 0, 0, 0, []) := (congrFun pm_M_within 26).trans rfl
theorem rl_M_within_27 : (am_pg z_M_within).2 27 = some (.iload_n 1, 28, 1, 0, 0, 0, 0, []) := (congrFun pm_M_within 27).trans rfl
theorem rl_M_within_28 : (am_pg z_M_within).2 28 = some (.iload_n 2, 29, 2, 0, 0, 0, 0, []) := (congrFun pm_M_within 28).trans rfl
theorem rl_M_within_29 : (am_pg z_M_within).2 29 = some (.iload_n 3, 30, 3, 0, 0, 0, 0, []) := (congrFun pm_M_within 29).trans rfl
theorem rl_M_within_30 : (am_pg z_M_within).2 30 = some (.isub, 31, 0, 0, 0, 0, 0, []) := (congrFun pm_M_within 30).trans rfl
theorem rl_M_within_31 : (am_pg z_M_within).2 31 = some (.iconst (1), 32, 0, 0, 0, 0, 1, []) := (congrFun pm_M_within 31).trans rfl
theorem rl_M_within_32 : (am_pg z_M_within).2 32 = some (.iadd, 33, 0, 0, 0, 0, 0, []) := (congrFun pm_M_within 32).trans rfl
theorem rl_M_within_33 : (am_pg z_M_within).2 33 = some (.iload_n 2, 34, 2, 0, 0, 0, 0, []) := (congrFun pm_M_within 33).trans rfl
theorem rl_M_within_34 : (am_pg z_M_within).2 34 = some (.invokevirtual 219, 37, 134, 3, 9, 255, 0, []) := (congrFun pm_M_within 34).trans rfl
theorem rl_M_within_37 : (am_pg z_M_within).2 37 = some (.goto (4), 40, 41, 0, 0, 0, 0, []) := (congrFun pm_M_within 37).trans rfl
theorem rl_M_within_40 : (am_pg z_M_within).2 40 = some (.iconst (-1), 41, 0, 0, 0, 0, -1, []) := (congrFun pm_M_within 40).trans rfl
theorem rl_M_within_41 : (am_pg z_M_within).2 41 = some (.ireturn, 42, 0, 0, 0, 0, 0, []) := (congrFun pm_M_within 41).trans rfl
theorem rl_M_laysLast_0 : (am_pg z_M_laysLast).2 0 = some (.iconst (0), 1, 0, 0, 0, 0, 0, []) := (congrFun pm_M_laysLast 0).trans rfl
theorem rl_M_laysLast_1 : (am_pg z_M_laysLast).2 1 = some (.istore_n 3, 2, 3, 0, 0, 0, 0, []) := (congrFun pm_M_laysLast 1).trans rfl
theorem rl_M_laysLast_2 : (am_pg z_M_laysLast).2 2 = some (.iconst (0), 3, 0, 0, 0, 0, 0, []) := (congrFun pm_M_laysLast 2).trans rfl
theorem rl_M_laysLast_3 : (am_pg z_M_laysLast).2 3 = some (.istore 4, 5, 4, 0, 0, 0, 0, []) := (congrFun pm_M_laysLast 3).trans rfl
theorem rl_M_laysLast_5 : (am_pg z_M_laysLast).2 5 = some (.iload 4, 7, 4, 0, 0, 0, 0, []) := (congrFun pm_M_laysLast 5).trans rfl
theorem rl_M_laysLast_7 : (am_pg z_M_laysLast).2 7 = some (.sipush (1080), 10, 0, 0, 0, 0, 1080, []) := (congrFun pm_M_laysLast 7).trans rfl
theorem rl_M_laysLast_10 : (am_pg z_M_laysLast).2 10 = some (.if_icmp .ge (61), 13, 71, 0, 0, 0, 0, []) := (congrFun pm_M_laysLast 10).trans rfl
theorem rl_M_laysLast_13 : (am_pg z_M_laysLast).2 13 = some (.iload_n 3, 14, 3, 0, 0, 0, 0, []) := (congrFun pm_M_laysLast 13).trans rfl
theorem rl_M_laysLast_14 : (am_pg z_M_laysLast).2 14 = some (.aload_n 0, 15, 0, 0, 0, 0, 0, []) := (congrFun pm_M_laysLast 14).trans rfl
theorem rl_M_laysLast_15 : (am_pg z_M_laysLast).2 15 = some (.getfield 7, 18, 9, 0, 0, 76, 0, []) := (congrFun pm_M_laysLast 15).trans rfl
theorem rl_M_laysLast_18 : (am_pg z_M_laysLast).2 18 = some (.iload 4, 20, 4, 0, 0, 0, 0, []) := (congrFun pm_M_laysLast 18).trans rfl
theorem rl_M_laysLast_20 : (am_pg z_M_laysLast).2 20 = some (.iaload, 21, 0, 0, 0, 0, 0, []) := (congrFun pm_M_laysLast 20).trans rfl
theorem rl_M_laysLast_21 : (am_pg z_M_laysLast).2 21 = some (.iload_n 1, 22, 1, 0, 0, 0, 0, []) := (congrFun pm_M_laysLast 21).trans rfl
theorem rl_M_laysLast_22 : (am_pg z_M_laysLast).2 22 = some (.if_icmp .ne (7), 25, 29, 0, 0, 0, 0, []) := (congrFun pm_M_laysLast 22).trans rfl
theorem rl_M_laysLast_25 : (am_pg z_M_laysLast).2 25 = some (.iconst (1), 26, 0, 0, 0, 0, 1, []) := (congrFun pm_M_laysLast 25).trans rfl
theorem rl_M_laysLast_26 : (am_pg z_M_laysLast).2 26 = some (.goto (4), 29, 30, 0, 0, 0, 0, []) := (congrFun pm_M_laysLast 26).trans rfl
theorem rl_M_laysLast_29 : (am_pg z_M_laysLast).2 29 = some (.iconst (0), 30, 0, 0, 0, 0, 0, []) := (congrFun pm_M_laysLast 29).trans rfl
theorem rl_M_laysLast_30 : (am_pg z_M_laysLast).2 30 = some (.iadd, 31, 0, 0, 0, 0, 0, []) := (congrFun pm_M_laysLast 30).trans rfl
theorem rl_M_laysLast_31 : (am_pg z_M_laysLast).2 31 = some (.iload 4, 33, 4, 0, 0, 0, 0, []) := (congrFun pm_M_laysLast 31).trans rfl
theorem rl_M_laysLast_33 : (am_pg z_M_laysLast).2 33 = some (.iload_n 2, 34, 2, 0, 0, 0, 0, []) := (congrFun pm_M_laysLast 33).trans rfl
theorem rl_M_laysLast_34 : (am_pg z_M_laysLast).2 34 = some (.if_icmp .lt (20), 37, 54, 0, 0, 0, 0, []) := (congrFun pm_M_laysLast 34).trans rfl
theorem rl_M_laysLast_37 : (am_pg z_M_laysLast).2 37 = some (.aload_n 0, 38, 0, 0, 0, 0, 0, []) := (congrFun pm_M_laysLast 37).trans rfl
theorem rl_M_laysLast_38 : (am_pg z_M_laysLast).2 38 = some (.getfield 7, 41, 9, 0, 0, 76, 0, []) := (congrFun pm_M_laysLast 38).trans rfl
theorem rl_M_laysLast_41 : (am_pg z_M_laysLast).2 41 = some (.iload 4, 43, 4, 0, 0, 0, 0, []) := (congrFun pm_M_laysLast 41).trans rfl
theorem rl_M_laysLast_43 : (am_pg z_M_laysLast).2 43 = some (.iload_n 2, 44, 2, 0, 0, 0, 0, []) := (congrFun pm_M_laysLast 43).trans rfl
theorem rl_M_laysLast_44 : (am_pg z_M_laysLast).2 44 = some (.isub, 45, 0, 0, 0, 0, 0, []) := (congrFun pm_M_laysLast 44).trans rfl
theorem rl_M_laysLast_45 : (am_pg z_M_laysLast).2 45 = some (.iaload, 46, 0, 0, 0, 0, 0, []) := (congrFun pm_M_laysLast 45).trans rfl
theorem rl_M_laysLast_46 : (am_pg z_M_laysLast).2 46 = some (.iload_n 1, 47, 1, 0, 0, 0, 0, []) := (congrFun pm_M_laysLast 46).trans rfl
theorem rl_M_laysLast_47 : (am_pg z_M_laysLast).2 47 = some (.if_icmp .ne (7), 50, 54, 0, 0, 0, 0, []) := (congrFun pm_M_laysLast 47).trans rfl
theorem rl_M_laysLast_50 : (am_pg z_M_laysLast).2 50 = some (.iconst (1), 51, 0, 0, 0, 0, 1, []) := (congrFun pm_M_laysLast 50).trans rfl
theorem rl_M_laysLast_51 : (am_pg z_M_laysLast).2 51 = some (.goto (4), 54, 55, 0, 0, 0, 0, []) := (congrFun pm_M_laysLast 51).trans rfl
theorem rl_M_laysLast_54 : (am_pg z_M_laysLast).2 54 = some (.iconst (0), 55, 0, 0, 0, 0, 0, []) := (congrFun pm_M_laysLast 54).trans rfl
theorem rl_M_laysLast_55 : (am_pg z_M_laysLast).2 55 = some (.isub, 56, 0, 0, 0, 0, 0, []) := (congrFun pm_M_laysLast 55).trans rfl
theorem rl_M_laysLast_56 : (am_pg z_M_laysLast).2 56 = some (.istore_n 3, 57, 3, 0, 0, 0, 0, []) := (congrFun pm_M_laysLast 56).trans rfl
theorem rl_M_laysLast_57 : (am_pg z_M_laysLast).2 57 = some (.aload_n 0, 58, 0, 0, 0, 0, 0, []) := (congrFun pm_M_laysLast 57).trans rfl
theorem rl_M_laysLast_58 : (am_pg z_M_laysLast).2 58 = some (.getfield 35, 61, 9, 18, 0, 94, 0, []) := (congrFun pm_M_laysLast 58).trans rfl
theorem rl_M_laysLast_61 : (am_pg z_M_laysLast).2 61 = some (.iload 4, 63, 4, 0, 0, 0, 0, []) := (congrFun pm_M_laysLast 61).trans rfl
theorem rl_M_laysLast_63 : (am_pg z_M_laysLast).2 63 = some (.iload_n 3, 64, 3, 0, 0, 0, 0, []) := (congrFun pm_M_laysLast 63).trans rfl
theorem rl_M_laysLast_64 : (am_pg z_M_laysLast).2 64 = some (.iastore, 65, 0, 0, 0, 0, 0, []) := (congrFun pm_M_laysLast 64).trans rfl
theorem rl_M_laysLast_65 : (am_pg z_M_laysLast).2 65 = some (.iinc 4 (1), 68, 4, 0, 0, 0, 1, []) := (congrFun pm_M_laysLast 65).trans rfl
theorem rl_M_laysLast_68 : (am_pg z_M_laysLast).2 68 = some (.goto (-63), 71, 5, 0, 0, 0, 0, []) := (congrFun pm_M_laysLast 68).trans rfl
theorem rl_M_laysLast_71 : (am_pg z_M_laysLast).2 71 = some (.return_, 72, 0, 0, 0, 0, 0, []) := (congrFun pm_M_laysLast 71).trans rfl
theorem rl_M_overstaysOn_0 : (am_pg z_M_overstaysOn).2 0 = some (.aload_n 0, 1, 0, 0, 0, 0, 0, []) := (congrFun pm_M_overstaysOn 0).trans rfl
theorem rl_M_overstaysOn_1 : (am_pg z_M_overstaysOn).2 1 = some (.getfield 7, 4, 9, 0, 0, 76, 0, []) := (congrFun pm_M_overstaysOn 1).trans rfl
theorem rl_M_overstaysOn_4 : (am_pg z_M_overstaysOn).2 4 = some (.iload_n 2, 5, 2, 0, 0, 0, 0, []) := (congrFun pm_M_overstaysOn 4).trans rfl
theorem rl_M_overstaysOn_5 : (am_pg z_M_overstaysOn).2 5 = some (.iaload, 6, 0, 0, 0, 0, 0, []) := (congrFun pm_M_overstaysOn 5).trans rfl
theorem rl_M_overstaysOn_6 : (am_pg z_M_overstaysOn).2 6 = some (.iload_n 1, 7, 1, 0, 0, 0, 0, []) := (congrFun pm_M_overstaysOn 6).trans rfl
theorem rl_M_overstaysOn_7 : (am_pg z_M_overstaysOn).2 7 = some (.if_icmp .ne (22), 10, 29, 0, 0, 0, 0, []) := (congrFun pm_M_overstaysOn 7).trans rfl
theorem rl_M_overstaysOn_10 : (am_pg z_M_overstaysOn).2 10 = some (.aload_n 0, 11, 0, 0, 0, 0, 0, []) := (congrFun pm_M_overstaysOn 10).trans rfl
theorem rl_M_overstaysOn_11 : (am_pg z_M_overstaysOn).2 11 = some (.getfield 35, 14, 9, 18, 0, 94, 0, []) := (congrFun pm_M_overstaysOn 11).trans rfl
theorem rl_M_overstaysOn_14 : (am_pg z_M_overstaysOn).2 14 = some (.iload_n 2, 15, 2, 0, 0, 0, 0, []) := (congrFun pm_M_overstaysOn 14).trans rfl
theorem rl_M_overstaysOn_15 : (am_pg z_M_overstaysOn).2 15 = some (.iaload, 16, 0, 0, 0, 0, 0, []) := (congrFun pm_M_overstaysOn 15).trans rfl
theorem rl_M_overstaysOn_16 : (am_pg z_M_overstaysOn).2 16 = some (.aload_n 0, 17, 0, 0, 0, 0, 0, []) := (congrFun pm_M_overstaysOn 16).trans rfl
theorem rl_M_overstaysOn_17 : (am_pg z_M_overstaysOn).2 17 = some (.iload_n 1, 18, 1, 0, 0, 0, 0, []) := (congrFun pm_M_overstaysOn 17).trans rfl
theorem rl_M_overstaysOn_18 : (am_pg z_M_overstaysOn).2 18 = some (.iconst (1), 19, 0, 0, 0, 0, 1, []) := (congrFun pm_M_overstaysOn 18).trans rfl
theorem rl_M_overstaysOn_19 : (am_pg z_M_overstaysOn).2 19 = some (.invokevirtual 146, 22, 92, 2, 9, 226, 0, []) := (congrFun pm_M_overstaysOn 19).trans rfl
theorem rl_M_overstaysOn_22 : (am_pg z_M_overstaysOn).2 22 = some (.if_icmp .le (7), 25, 29, 0, 0, 0, 0, []) := (congrFun pm_M_overstaysOn 22).trans rfl
theorem rl_M_overstaysOn_25 : (am_pg z_M_overstaysOn).2 25 = some (.iconst (1), 26, 0, 0, 0, 0, 1, []) := (congrFun pm_M_overstaysOn 25).trans rfl
theorem rl_M_overstaysOn_26 : (am_pg z_M_overstaysOn).2 26 = some (.goto (4), 29, 30, 0, 0, 0, 0, []) := (congrFun pm_M_overstaysOn 26).trans rfl
theorem rl_M_overstaysOn_29 : (am_pg z_M_overstaysOn).2 29 = some (.iconst (0), 30, 0, 0, 0, 0, 0, []) := (congrFun pm_M_overstaysOn 29).trans rfl
theorem rl_M_overstaysOn_30 : (am_pg z_M_overstaysOn).2 30 = some (.ireturn, 31, 0, 0, 1, 0, 0, []) := (congrFun pm_M_overstaysOn 30).trans rfl
theorem rl_M_overstayed_0 : (am_pg z_M_overstayed).2 0 = some (.iconst (0), 1, 0, 0, 0, 0, 0, []) := (congrFun pm_M_overstayed 0).trans rfl
theorem rl_M_overstayed_1 : (am_pg z_M_overstayed).2 1 = some (.istore 5, 3, 5, 0, 0, 0, 0, []) := (congrFun pm_M_overstayed 1).trans rfl
theorem rl_M_overstayed_3 : (am_pg z_M_overstayed).2 3 = some (.bipush (-2), 5, 0, 0, 0, 0, -2, []) := (congrFun pm_M_overstayed 3).trans rfl
theorem rl_M_overstayed_5 : (am_pg z_M_overstayed).2 5 = some (.istore 6, 7, 6, 0, 0, 0, 0, []) := (congrFun pm_M_overstayed 5).trans rfl
theorem rl_M_overstayed_7 : (am_pg z_M_overstayed).2 7 = some (.iconst (0), 8, 0, 0, 0, 0, 0, []) := (congrFun pm_M_overstayed 7).trans rfl
theorem rl_M_overstayed_8 : (am_pg z_M_overstayed).2 8 = some (.istore 7, 10, 7, 0, 0, 0, 0, []) := (congrFun pm_M_overstayed 8).trans rfl
theorem rl_M_overstayed_10 : (am_pg z_M_overstayed).2 10 = some (.aload_n 0, 11, 0, 0, 0, 0, 0, []) := (congrFun pm_M_overstayed 10).trans rfl
theorem rl_M_overstayed_11 : (am_pg z_M_overstayed).2 11 = some (.iload_n 1, 12, 1, 0, 0, 0, 0, []) := (congrFun pm_M_overstayed 11).trans rfl
theorem rl_M_overstayed_12 : (am_pg z_M_overstayed).2 12 = some (.iconst (0), 13, 0, 0, 0, 0, 0, []) := (congrFun pm_M_overstayed 12).trans rfl
theorem rl_M_overstayed_13 : (am_pg z_M_overstayed).2 13 = some (.invokevirtual 146, 16, 92, 2, 9, 226, 0, []) := (congrFun pm_M_overstayed 13).trans rfl
theorem rl_M_overstayed_16 : (am_pg z_M_overstayed).2 16 = some (.ifCond .le (83), 19, 99, 0, 0, 0, 0, []) := (congrFun pm_M_overstayed 16).trans rfl
theorem rl_M_overstayed_19 : (am_pg z_M_overstayed).2 19 = some (.aload_n 0, 20, 0, 0, 0, 0, 0, []) := (congrFun pm_M_overstayed 19).trans rfl
theorem rl_M_overstayed_20 : (am_pg z_M_overstayed).2 20 = some (.iload_n 1, 21, 1, 0, 0, 0, 0, []) := (congrFun pm_M_overstayed 20).trans rfl
theorem rl_M_overstayed_21 : (am_pg z_M_overstayed).2 21 = some (.aload_n 0, 22, 0, 0, 0, 0, 0, []) := (congrFun pm_M_overstayed 21).trans rfl
theorem rl_M_overstayed_22 : (am_pg z_M_overstayed).2 22 = some (.iload_n 1, 23, 1, 0, 0, 0, 0, []) := (congrFun pm_M_overstayed 22).trans rfl
theorem rl_M_overstayed_23 : (am_pg z_M_overstayed).2 23 = some (.iconst (0), 24, 0, 0, 0, 0, 0, []) := (congrFun pm_M_overstayed 23).trans rfl
theorem rl_M_overstayed_24 : (am_pg z_M_overstayed).2 24 = some (.invokevirtual 146, 27, 92, 2, 9, 226, 0, []) := (congrFun pm_M_overstayed 24).trans rfl
theorem rl_M_overstayed_27 : (am_pg z_M_overstayed).2 27 = some (.invokevirtual 224, 30, 137, 2, 9, 259, 0, []) := (congrFun pm_M_overstayed 27).trans rfl
theorem rl_M_overstayed_30 : (am_pg z_M_overstayed).2 30 = some (.iload_n 2, 31, 2, 0, 0, 0, 0, []) := (congrFun pm_M_overstayed 30).trans rfl
theorem rl_M_overstayed_31 : (am_pg z_M_overstayed).2 31 = some (.istore 8, 33, 8, 0, 0, 0, 0, []) := (congrFun pm_M_overstayed 31).trans rfl
theorem rl_M_overstayed_33 : (am_pg z_M_overstayed).2 33 = some (.iload 8, 35, 8, 0, 0, 0, 0, []) := (congrFun pm_M_overstayed 33).trans rfl
theorem rl_M_overstayed_35 : (am_pg z_M_overstayed).2 35 = some (.iload_n 3, 36, 3, 0, 0, 0, 0, []) := (congrFun pm_M_overstayed 35).trans rfl
theorem rl_M_overstayed_36 : (am_pg z_M_overstayed).2 36 = some (.if_icmp .gt (63), 39, 99, 0, 0, 0, 0, []) := (congrFun pm_M_overstayed 36).trans rfl
theorem rl_M_overstayed_39 : (am_pg z_M_overstayed).2 39 = some (.aload_n 0, 40, 0, 0, 0, 0, 0, []) := (congrFun pm_M_overstayed 39).trans rfl
theorem rl_M_overstayed_40 : (am_pg z_M_overstayed).2 40 = some (.iload_n 1, 41, 1, 0, 0, 0, 0, []) := (congrFun pm_M_overstayed 40).trans rfl
theorem rl_M_overstayed_41 : (am_pg z_M_overstayed).2 41 = some (.iload 8, 43, 8, 0, 0, 0, 0, []) := (congrFun pm_M_overstayed 41).trans rfl
theorem rl_M_overstayed_43 : (am_pg z_M_overstayed).2 43 = some (.invokevirtual 228, 46, 138, 2, 9, 260, 0, []) := (congrFun pm_M_overstayed 43).trans rfl
theorem rl_M_overstayed_46 : (am_pg z_M_overstayed).2 46 = some (.ifCond .ne (6), 49, 52, 0, 0, 0, 0, []) := (congrFun pm_M_overstayed 46).trans rfl
theorem rl_M_overstayed_49 : (am_pg z_M_overstayed).2 49 = some (.goto (44), 52, 93, 0, 0, 0, 0, []) := (congrFun pm_M_overstayed 49).trans rfl
theorem rl_M_overstayed_52 : (am_pg z_M_overstayed).2 52 = some (.iload 5, 54, 5, 0, 0, 0, 0, []) := (congrFun pm_M_overstayed 52).trans rfl
theorem rl_M_overstayed_54 : (am_pg z_M_overstayed).2 54 = some (.ifCond .ne (8), 57, 62, 0, 0, 0, 0, []) := (congrFun pm_M_overstayed 54).trans rfl
theorem rl_M_overstayed_57 : (am_pg z_M_overstayed).2 57 = some (.iload 8, 59, 8, 0, 0, 0, 0, []) := (congrFun pm_M_overstayed 57).trans rfl
theorem rl_M_overstayed_59 : (am_pg z_M_overstayed).2 59 = some (.goto (5), 62, 64, 0, 0, 0, 0, []) := (congrFun pm_M_overstayed 59).trans rfl
theorem rl_M_overstayed_62 : (am_pg z_M_overstayed).2 62 = some (.iload 6, 64, 6, 0, 0, 0, 0, []) := (congrFun pm_M_overstayed 62).trans rfl
theorem rl_M_overstayed_64 : (am_pg z_M_overstayed).2 64 = some (.istore 6, 66, 6, 0, 0, 0, 0, []) := (congrFun pm_M_overstayed 64).trans rfl
theorem rl_M_overstayed_66 : (am_pg z_M_overstayed).2 66 = some (.iload 5, 68, 5, 0, 0, 0, 0, []) := (congrFun pm_M_overstayed 66).trans rfl
theorem rl_M_overstayed_68 : (am_pg z_M_overstayed).2 68 = some (.iconst (1), 69, 0, 0, 0, 0, 1, []) := (congrFun pm_M_overstayed 68).trans rfl
theorem rl_M_overstayed_69 : (am_pg z_M_overstayed).2 69 = some (.iadd, 70, 0, 0, 0, 0, 0, []) := (congrFun pm_M_overstayed 69).trans rfl
theorem rl_M_overstayed_70 : (am_pg z_M_overstayed).2 70 = some (.istore 5, 72, 5, 0, 0, 0, 0, []) := (congrFun pm_M_overstayed 70).trans rfl
theorem rl_M_overstayed_72 : (am_pg z_M_overstayed).2 72 = some (.iload 7, 74, 7, 0, 0, 0, 0, []) := (congrFun pm_M_overstayed 72).trans rfl
theorem rl_M_overstayed_74 : (am_pg z_M_overstayed).2 74 = some (.aload_n 0, 75, 0, 0, 0, 0, 0, []) := (congrFun pm_M_overstayed 74).trans rfl
theorem rl_M_overstayed_75 : (am_pg z_M_overstayed).2 75 = some (.getfield 35, 78, 9, 18, 0, 94, 0, []) := (congrFun pm_M_overstayed 75).trans rfl
theorem rl_M_overstayed_78 : (am_pg z_M_overstayed).2 78 = some (.iload 8, 80, 8, 0, 0, 0, 0, []) := (congrFun pm_M_overstayed 78).trans rfl
theorem rl_M_overstayed_80 : (am_pg z_M_overstayed).2 80 = some (.iaload, 81, 0, 0, 0, 0, 0, []) := (congrFun pm_M_overstayed 80).trans rfl
theorem rl_M_overstayed_81 : (am_pg z_M_overstayed).2 81 = some (.aload_n 0, 82, 0, 0, 0, 0, 0, []) := (congrFun pm_M_overstayed 81).trans rfl
theorem rl_M_overstayed_82 : (am_pg z_M_overstayed).2 82 = some (.iload_n 1, 83, 1, 0, 0, 0, 0, []) := (congrFun pm_M_overstayed 82).trans rfl
theorem rl_M_overstayed_83 : (am_pg z_M_overstayed).2 83 = some (.iconst (1), 84, 0, 0, 0, 0, 1, []) := (congrFun pm_M_overstayed 83).trans rfl
theorem rl_M_overstayed_84 : (am_pg z_M_overstayed).2 84 = some (.invokevirtual 146, 87, 92, 2, 9, 226, 0, []) := (congrFun pm_M_overstayed 84).trans rfl
theorem rl_M_overstayed_87 : (am_pg z_M_overstayed).2 87 = some (.isub, 88, 0, 0, 0, 0, 0, []) := (congrFun pm_M_overstayed 87).trans rfl
theorem rl_M_overstayed_88 : (am_pg z_M_overstayed).2 88 = some (.invokestatic 197, 91, 90, 2, 0, 244, 0, []) := (congrFun pm_M_overstayed 88).trans rfl
theorem rl_M_overstayed_91 : (am_pg z_M_overstayed).2 91 = some (.istore 7, 93, 7, 0, 0, 0, 0, []) := (congrFun pm_M_overstayed 91).trans rfl
theorem rl_M_overstayed_93 : (am_pg z_M_overstayed).2 93 = some (.iinc 8 (1), 96, 8, 0, 0, 0, 1, []) := (congrFun pm_M_overstayed 93).trans rfl
theorem rl_M_overstayed_96 : (am_pg z_M_overstayed).2 96 = some (.goto (-63), 99, 33, 0, 0, 0, 0, []) := (congrFun pm_M_overstayed 96).trans rfl
theorem rl_M_overstayed_99 : (am_pg z_M_overstayed).2 99 = some (.iload 4, 101, 4, 0, 0, 0, 0, []) := (congrFun pm_M_overstayed 99).trans rfl
theorem rl_M_overstayed_101 : (am_pg z_M_overstayed).2 101 = some (.ifCond .ne (8), 104, 109, 0, 0, 0, 0, []) := (congrFun pm_M_overstayed 101).trans rfl
theorem rl_M_overstayed_104 : (am_pg z_M_overstayed).2 104 = some (.iload 5, 106, 5, 0, 0, 0, 0, []) := (congrFun pm_M_overstayed 104).trans rfl
theorem rl_M_overstayed_106 : (am_pg z_M_overstayed).2 106 = some (.goto (16), 109, 122, 0, 0, 0, 0, []) := (congrFun pm_M_overstayed 106).trans rfl
theorem rl_M_overstayed_109 : (am_pg z_M_overstayed).2 109 = some (.iload 4, 111, 4, 0, 0, 0, 0, []) := (congrFun pm_M_overstayed 109).trans rfl
theorem rl_M_overstayed_111 : (am_pg z_M_overstayed).2 111 = some (.iconst (1), 112, 0, 0, 0, 0, 1, []) := (congrFun pm_M_overstayed 111).trans rfl
theorem rl_M_overstayed_112 : (am_pg z_M_overstayed).2 112 = some (.if_icmp .ne (8), 115, 120, 0, 0, 0, 0, []) := (congrFun pm_M_overstayed 112).trans rfl
theorem rl_M_overstayed_115 : (am_pg z_M_overstayed).2 115 = some (.iload 6, 117, 6, 0, 0, 0, 0, []) := (congrFun pm_M_overstayed 115).trans rfl
theorem rl_M_overstayed_117 : (am_pg z_M_overstayed).2 117 = some (.goto (5), 120, 122, 0, 0, 0, 0, []) := (congrFun pm_M_overstayed 117).trans rfl
theorem rl_M_overstayed_120 : (am_pg z_M_overstayed).2 120 = some (.iload 7, 122, 7, 0, 0, 0, 0, []) := (congrFun pm_M_overstayed 120).trans rfl
theorem rl_M_overstayed_122 : (am_pg z_M_overstayed).2 122 = some (.ireturn, 123, 0, 0, 0, 0, 0, []) := (congrFun pm_M_overstayed 122).trans rfl
theorem rl_M_overstays_0 : (am_pg z_M_overstays).2 0 = some (.iload_n 1, 1, 1, 0, 0, 0, 0, []) := (congrFun pm_M_overstays 0).trans rfl
theorem rl_M_overstays_1 : (am_pg z_M_overstays).2 1 = some (.invokestatic 143, 4, 85, 1, 0, 223, 0, []) := (congrFun pm_M_overstays 1).trans rfl
theorem rl_M_overstays_4 : (am_pg z_M_overstays).2 4 = some (.ifCond .eq (36), 7, 40, 0, 0, 0, 0, []) := (congrFun pm_M_overstays 4).trans rfl
theorem rl_M_overstays_7 : (am_pg z_M_overstays).2 7 = some (.iload_n 2, 8, 2, 0, 0, 0, 0, []) := (congrFun pm_M_overstays 7).trans rfl
theorem rl_M_overstays_8 : (am_pg z_M_overstays).2 8 = some (.iload_n 3, 9, 3, 0, 0, 0, 0, []) := (congrFun pm_M_overstays 8).trans rfl
theorem rl_M_overstays_9 : (am_pg z_M_overstays).2 9 = some (.invokestatic 140, 12, 88, 2, 0, 220, 0, []) := (congrFun pm_M_overstays 9).trans rfl
theorem rl_M_overstays_12 : (am_pg z_M_overstays).2 12 = some (.ifCond .eq (28), 15, 40, 0, 0, 0, 0, []) := (congrFun pm_M_overstays 12).trans rfl
theorem rl_M_overstays_15 : (am_pg z_M_overstays).2 15 = some (.iload 4, 17, 4, 0, 0, 0, 0, []) := (congrFun pm_M_overstays 15).trans rfl
theorem rl_M_overstays_17 : (am_pg z_M_overstays).2 17 = some (.i2l, 18, 0, 0, 0, 0, 0, []) := (congrFun pm_M_overstays 17).trans rfl
theorem rl_M_overstays_18 : (am_pg z_M_overstays).2 18 = some (.lconst 0, 19, 0, 0, 0, 0, 0, []) := (congrFun pm_M_overstays 18).trans rfl
theorem rl_M_overstays_19 : (am_pg z_M_overstays).2 19 = some (.ldc2_w 78, 22, 0, 0, 0, 10, 2, []) := (congrFun pm_M_overstays 19).trans rfl
theorem rl_M_overstays_22 : (am_pg z_M_overstays).2 22 = some (.invokestatic 66, 25, 84, 3, 0, 210, 0, []) := (congrFun pm_M_overstays 22).trans rfl
theorem rl_M_overstays_25 : (am_pg z_M_overstays).2 25 = some (.ifCond .eq (15), 28, 40, 0, 0, 0, 0, []) := (congrFun pm_M_overstays 25).trans rfl
theorem rl_M_overstays_28 : (am_pg z_M_overstays).2 28 = some (.aload_n 0, 29, 0, 0, 0, 0, 0, []) := (congrFun pm_M_overstays 28).trans rfl
theorem rl_M_overstays_29 : (am_pg z_M_overstays).2 29 = some (.iload_n 1, 30, 1, 0, 0, 0, 0, []) := (congrFun pm_M_overstays 29).trans rfl
theorem rl_M_overstays_30 : (am_pg z_M_overstays).2 30 = some (.iload_n 2, 31, 2, 0, 0, 0, 0, []) := (congrFun pm_M_overstays 30).trans rfl
theorem rl_M_overstays_31 : (am_pg z_M_overstays).2 31 = some (.iload_n 3, 32, 3, 0, 0, 0, 0, []) := (congrFun pm_M_overstays 31).trans rfl
theorem rl_M_overstays_32 : (am_pg z_M_overstays).2 32 = some (.iload 4, 34, 4, 0, 0, 0, 0, []) := (congrFun pm_M_overstays 32).trans rfl
theorem rl_M_overstays_34 : (am_pg z_M_overstays).2 34 = some (.invokevirtual 231, 37, 139, 4, 9, 258, 0, []) := (congrFun pm_M_overstays 34).trans rfl
theorem rl_M_overstays_37 : (am_pg z_M_overstays).2 37 = some (.goto (4), 40, 41, 0, 0, 0, 0, []) := (congrFun pm_M_overstays 37).trans rfl
theorem rl_M_overstays_40 : (am_pg z_M_overstays).2 40 = some (.iconst (-1), 41, 0, 0, 0, 0, -1, []) := (congrFun pm_M_overstays 40).trans rfl
theorem rl_M_overstays_41 : (am_pg z_M_overstays).2 41 = some (.ireturn, 42, 0, 0, 0, 0, 0, []) := (congrFun pm_M_overstays 41).trans rfl
theorem rl_M_allOverstays_0 : (am_pg z_M_allOverstays).2 0 = some (.iconst (0), 1, 0, 0, 0, 0, 0, []) := (congrFun pm_M_allOverstays 0).trans rfl
theorem rl_M_allOverstays_1 : (am_pg z_M_allOverstays).2 1 = some (.istore_n 1, 2, 1, 0, 0, 0, 0, []) := (congrFun pm_M_allOverstays 1).trans rfl
theorem rl_M_allOverstays_2 : (am_pg z_M_allOverstays).2 2 = some (.iconst (0), 3, 0, 0, 0, 0, 0, []) := (congrFun pm_M_allOverstays 2).trans rfl
theorem rl_M_allOverstays_3 : (am_pg z_M_allOverstays).2 3 = some (.istore_n 2, 4, 2, 0, 0, 0, 0, []) := (congrFun pm_M_allOverstays 3).trans rfl
theorem rl_M_allOverstays_4 : (am_pg z_M_allOverstays).2 4 = some (.iload_n 2, 5, 2, 0, 0, 0, 0, []) := (congrFun pm_M_allOverstays 4).trans rfl
theorem rl_M_allOverstays_5 : (am_pg z_M_allOverstays).2 5 = some (.bipush (6), 7, 0, 0, 0, 0, 6, []) := (congrFun pm_M_allOverstays 5).trans rfl
theorem rl_M_allOverstays_7 : (am_pg z_M_allOverstays).2 7 = some (.if_icmp .ge (22), 10, 29, 0, 0, 0, 0, []) := (congrFun pm_M_allOverstays 7).trans rfl
theorem rl_M_allOverstays_10 : (am_pg z_M_allOverstays).2 10 = some (.iload_n 1, 11, 1, 0, 0, 0, 0, []) := (congrFun pm_M_allOverstays 10).trans rfl
theorem rl_M_allOverstays_11 : (am_pg z_M_allOverstays).2 11 = some (.aload_n 0, 12, 0, 0, 0, 0, 0, []) := (congrFun pm_M_allOverstays 11).trans rfl
theorem rl_M_allOverstays_12 : (am_pg z_M_allOverstays).2 12 = some (.iload_n 2, 13, 2, 0, 0, 0, 0, []) := (congrFun pm_M_allOverstays 12).trans rfl
theorem rl_M_allOverstays_13 : (am_pg z_M_allOverstays).2 13 = some (.iconst (0), 14, 0, 0, 0, 0, 0, []) := (congrFun pm_M_allOverstays 13).trans rfl
theorem rl_M_allOverstays_14 : (am_pg z_M_allOverstays).2 14 = some (.sipush (1079), 17, 0, 0, 0, 0, 1079, []) := (congrFun pm_M_allOverstays 14).trans rfl
theorem rl_M_allOverstays_17 : (am_pg z_M_allOverstays).2 17 = some (.iconst (0), 18, 0, 0, 0, 0, 0, []) := (congrFun pm_M_allOverstays 17).trans rfl
theorem rl_M_allOverstays_18 : (am_pg z_M_allOverstays).2 18 = some (.invokevirtual 231, 21, 139, 4, 9, 258, 0, []) := (congrFun pm_M_allOverstays 18).trans rfl
theorem rl_M_allOverstays_21 : (am_pg z_M_allOverstays).2 21 = some (.iadd, 22, 0, 0, 0, 0, 0, []) := (congrFun pm_M_allOverstays 21).trans rfl
theorem rl_M_allOverstays_22 : (am_pg z_M_allOverstays).2 22 = some (.istore_n 1, 23, 1, 0, 0, 0, 0, []) := (congrFun pm_M_allOverstays 22).trans rfl
theorem rl_M_allOverstays_23 : (am_pg z_M_allOverstays).2 23 = some (.iinc 2 (1), 26, 2, 0, 0, 0, 1, []) := (congrFun pm_M_allOverstays 23).trans rfl
theorem rl_M_allOverstays_26 : (am_pg z_M_allOverstays).2 26 = some (.goto (-22), 29, 4, 0, 0, 0, 0, []) := (congrFun pm_M_allOverstays 26).trans rfl
theorem rl_M_allOverstays_29 : (am_pg z_M_allOverstays).2 29 = some (.iload_n 1, 30, 1, 0, 0, 0, 0, []) := (congrFun pm_M_allOverstays 29).trans rfl
theorem rl_M_allOverstays_30 : (am_pg z_M_allOverstays).2 30 = some (.ireturn, 31, 0, 0, 0, 0, 0, []) := (congrFun pm_M_allOverstays 30).trans rfl
theorem rl_M_nth_0 : (am_pg z_M_nth).2 0 = some (.iload_n 1, 1, 1, 0, 0, 0, 0, []) := (congrFun pm_M_nth 0).trans rfl
theorem rl_M_nth_1 : (am_pg z_M_nth).2 1 = some (.invokestatic 143, 4, 85, 1, 0, 223, 0, []) := (congrFun pm_M_nth 1).trans rfl
theorem rl_M_nth_4 : (am_pg z_M_nth).2 4 = some (.ifCond .eq (19), 7, 23, 0, 0, 0, 0, []) := (congrFun pm_M_nth 4).trans rfl
theorem rl_M_nth_7 : (am_pg z_M_nth).2 7 = some (.iload_n 2, 8, 2, 0, 0, 0, 0, []) := (congrFun pm_M_nth 7).trans rfl
theorem rl_M_nth_8 : (am_pg z_M_nth).2 8 = some (.ifCond .lt (15), 11, 23, 0, 0, 0, 0, []) := (congrFun pm_M_nth 8).trans rfl
theorem rl_M_nth_11 : (am_pg z_M_nth).2 11 = some (.iload_n 3, 12, 3, 0, 0, 0, 0, []) := (congrFun pm_M_nth 11).trans rfl
theorem rl_M_nth_12 : (am_pg z_M_nth).2 12 = some (.i2l, 13, 0, 0, 0, 0, 0, []) := (congrFun pm_M_nth 12).trans rfl
theorem rl_M_nth_13 : (am_pg z_M_nth).2 13 = some (.lconst 0, 14, 0, 0, 0, 0, 0, []) := (congrFun pm_M_nth 13).trans rfl
theorem rl_M_nth_14 : (am_pg z_M_nth).2 14 = some (.ldc2_w 78, 17, 0, 0, 0, 10, 2, []) := (congrFun pm_M_nth 14).trans rfl
theorem rl_M_nth_17 : (am_pg z_M_nth).2 17 = some (.invokestatic 66, 20, 84, 3, 0, 210, 0, []) := (congrFun pm_M_nth 17).trans rfl
theorem rl_M_nth_20 : (am_pg z_M_nth).2 20 = some (.ifCond .ne (5), 23, 25, 0, 0, 0, 0, []) := (congrFun pm_M_nth 20).trans rfl
theorem rl_M_nth_23 : (am_pg z_M_nth).2 23 = some (.iconst (-1), 24, 0, 0, 0, 0, -1, []) := (congrFun pm_M_nth 23).trans rfl
theorem rl_M_nth_24 : (am_pg z_M_nth).2 24 = some (.ireturn, 25, 0, 0, 0, 0, 0, []) := (congrFun pm_M_nth 24).trans rfl
theorem rl_M_nth_25 : (am_pg z_M_nth).2 25 = some (.iload_n 2, 26, 2, 0, 0, 0, 0, []) := (congrFun pm_M_nth 25).trans rfl
theorem rl_M_nth_26 : (am_pg z_M_nth).2 26 = some (.istore 4, 28, 4, 0, 0, 0, 0, []) := (congrFun pm_M_nth 26).trans rfl
theorem rl_M_nth_28 : (am_pg z_M_nth).2 28 = some (.iconst (0), 29, 0, 0, 0, 0, 0, []) := (congrFun pm_M_nth 28).trans rfl
theorem rl_M_nth_29 : (am_pg z_M_nth).2 29 = some (.istore 5, 31, 5, 0, 0, 0, 0, []) := (congrFun pm_M_nth 29).trans rfl
theorem rl_M_nth_31 : (am_pg z_M_nth).2 31 = some (.iload 5, 33, 5, 0, 0, 0, 0, []) := (congrFun pm_M_nth 31).trans rfl
theorem rl_M_nth_33 : (am_pg z_M_nth).2 33 = some (.sipush (1080), 36, 0, 0, 0, 0, 1080, []) := (congrFun pm_M_nth 33).trans rfl
theorem rl_M_nth_36 : (am_pg z_M_nth).2 36 = some (.if_icmp .ge (78), 39, 114, 0, 0, 0, 0, []) := (congrFun pm_M_nth 36).trans rfl
theorem rl_M_nth_39 : (am_pg z_M_nth).2 39 = some (.aload_n 0, 40, 0, 0, 0, 0, 0, []) := (congrFun pm_M_nth 39).trans rfl
theorem rl_M_nth_40 : (am_pg z_M_nth).2 40 = some (.getfield 7, 43, 9, 0, 0, 76, 0, []) := (congrFun pm_M_nth 40).trans rfl
theorem rl_M_nth_43 : (am_pg z_M_nth).2 43 = some (.iload 5, 45, 5, 0, 0, 0, 0, []) := (congrFun pm_M_nth 43).trans rfl
theorem rl_M_nth_45 : (am_pg z_M_nth).2 45 = some (.iaload, 46, 0, 0, 0, 0, 0, []) := (congrFun pm_M_nth 45).trans rfl
theorem rl_M_nth_46 : (am_pg z_M_nth).2 46 = some (.iload_n 1, 47, 1, 0, 0, 0, 0, []) := (congrFun pm_M_nth 46).trans rfl
theorem rl_M_nth_47 : (am_pg z_M_nth).2 47 = some (.if_icmp .ne (61), 50, 108, 0, 0, 0, 0, []) := (congrFun pm_M_nth 47).trans rfl
theorem rl_M_nth_50 : (am_pg z_M_nth).2 50 = some (.aload_n 0, 51, 0, 0, 0, 0, 0, []) := (congrFun pm_M_nth 50).trans rfl
theorem rl_M_nth_51 : (am_pg z_M_nth).2 51 = some (.iload 5, 53, 5, 0, 0, 0, 0, []) := (congrFun pm_M_nth 51).trans rfl
theorem rl_M_nth_53 : (am_pg z_M_nth).2 53 = some (.invokevirtual 177, 56, 114, 1, 9, 232, 0, []) := (congrFun pm_M_nth 53).trans rfl
theorem rl_M_nth_56 : (am_pg z_M_nth).2 56 = some (.ifCond .ne (6), 59, 62, 0, 0, 0, 0, []) := (congrFun pm_M_nth 56).trans rfl
theorem rl_M_nth_59 : (am_pg z_M_nth).2 59 = some (.goto (49), 62, 108, 0, 0, 0, 0, []) := (congrFun pm_M_nth 59).trans rfl
theorem rl_M_nth_62 : (am_pg z_M_nth).2 62 = some (.iload 4, 64, 4, 0, 0, 0, 0, []) := (congrFun pm_M_nth 62).trans rfl
theorem rl_M_nth_64 : (am_pg z_M_nth).2 64 = some (.ifCond .ne (38), 67, 102, 0, 0, 0, 0, []) := (congrFun pm_M_nth 64).trans rfl
theorem rl_M_nth_67 : (am_pg z_M_nth).2 67 = some (.iload_n 3, 68, 3, 0, 0, 0, 0, []) := (congrFun pm_M_nth 67).trans rfl
theorem rl_M_nth_68 : (am_pg z_M_nth).2 68 = some (.ifCond .ne (8), 71, 76, 0, 0, 0, 0, []) := (congrFun pm_M_nth 68).trans rfl
theorem rl_M_nth_71 : (am_pg z_M_nth).2 71 = some (.iload 5, 73, 5, 0, 0, 0, 0, []) := (congrFun pm_M_nth 71).trans rfl
theorem rl_M_nth_73 : (am_pg z_M_nth).2 73 = some (.goto (28), 76, 101, 0, 0, 0, 0, []) := (congrFun pm_M_nth 73).trans rfl
theorem rl_M_nth_76 : (am_pg z_M_nth).2 76 = some (.iload_n 3, 77, 3, 0, 0, 0, 0, []) := (congrFun pm_M_nth 76).trans rfl
theorem rl_M_nth_77 : (am_pg z_M_nth).2 77 = some (.iconst (1), 78, 0, 0, 0, 0, 1, []) := (congrFun pm_M_nth 77).trans rfl
theorem rl_M_nth_78 : (am_pg z_M_nth).2 78 = some (.if_icmp .ne (12), 81, 90, 0, 0, 0, 0, []) := (congrFun pm_M_nth 78).trans rfl
theorem rl_M_nth_81 : (am_pg z_M_nth).2 81 = some (.aload_n 0, 82, 0, 0, 0, 0, 0, []) := (congrFun pm_M_nth 81).trans rfl
theorem rl_M_nth_82 : (am_pg z_M_nth).2 82 = some (.iload 5, 84, 5, 0, 0, 0, 0, []) := (congrFun pm_M_nth 82).trans rfl
theorem rl_M_nth_84 : (am_pg z_M_nth).2 84 = some (.invokevirtual 183, 87, 115, 1, 9, 235, 0, []) := (congrFun pm_M_nth 84).trans rfl
theorem rl_M_nth_87 : (am_pg z_M_nth).2 87 = some (.goto (14), 90, 101, 0, 0, 0, 0, []) := (congrFun pm_M_nth 87).trans rfl
theorem rl_M_nth_90 : (am_pg z_M_nth).2 90 = some (.aload_n 0, 91, 0, 0, 0, 0, 0, []) := (congrFun pm_M_nth 90).trans rfl
theorem rl_M_nth_91 : (am_pg z_M_nth).2 91 = some (.iload 5, 93, 5, 0, 0, 0, 0, []) := (congrFun pm_M_nth 91).trans rfl
theorem rl_M_nth_93 : (am_pg z_M_nth).2 93 = some (.invokevirtual 183, 96, 115, 1, 9, 235, 0, []) := (congrFun pm_M_nth 93).trans rfl
theorem rl_M_nth_96 : (am_pg z_M_nth).2 96 = some (.iload 5, 98, 5, 0, 0, 0, 0, []) := (congrFun pm_M_nth 96).trans rfl
theorem rl_M_nth_98 : (am_pg z_M_nth).2 98 = some (.isub, 99, 0, 0, 0, 0, 0, []) := (congrFun pm_M_nth 98).trans rfl
theorem rl_M_nth_99 : (am_pg z_M_nth).2 99 = some (.iconst (1), 100, 0, 0, 0, 0, 1, []) := (congrFun pm_M_nth 99).trans rfl
theorem rl_M_nth_100 : (am_pg z_M_nth).2 100 = some (.iadd, 101, 0, 0, 0, 0, 0, []) := (congrFun pm_M_nth 100).trans rfl
theorem rl_M_nth_101 : (am_pg z_M_nth).2 101 = some (.ireturn, 102, 0, 0, 0, 0, 0, []) := (congrFun pm_M_nth 101).trans rfl
theorem rl_M_nth_102 : (am_pg z_M_nth).2 102 = some (.iload 4, 104, 4, 0, 0, 0, 0, []) := (congrFun pm_M_nth 102).trans rfl
theorem rl_M_nth_104 : (am_pg z_M_nth).2 104 = some (.iconst (1), 105, 0, 0, 0, 0, 1, []) := (congrFun pm_M_nth 104).trans rfl
theorem rl_M_nth_105 : (am_pg z_M_nth).2 105 = some (.isub, 106, 0, 0, 0, 0, 0, []) := (congrFun pm_M_nth 105).trans rfl
theorem rl_M_nth_106 : (am_pg z_M_nth).2 106 = some (.istore 4, 108, 4, 0, 0, 0, 0, []) := (congrFun pm_M_nth 106).trans rfl
theorem rl_M_nth_108 : (am_pg z_M_nth).2 108 = some (.iinc 5 (1), 111, 5, 0, 0, 0, 1, []) := (congrFun pm_M_nth 108).trans rfl
theorem rl_M_nth_111 : (am_pg z_M_nth).2 111 = some (.goto (-80), 114, 31, 0, 0, 0, 0, []) := (congrFun pm_M_nth 111).trans rfl
theorem rl_M_nth_114 : (am_pg z_M_nth).2 114 = some (.bipush (-2), 116, 0, 0, 0, 0, -2, []) := (congrFun pm_M_nth 114).trans rfl
theorem rl_M_nth_116 : (am_pg z_M_nth).2 116 = some (.ireturn, 117, 0, 0, 0, 0, 0, []) := (congrFun pm_M_nth 116).trans rfl
theorem rl_M_away_0 : (am_pg z_M_away).2 0 = some (.iload_n 1, 1, 1, 0, 0, 0, 0, []) := (congrFun pm_M_away 0).trans rfl
theorem rl_M_away_1 : (am_pg z_M_away).2 1 = some (.invokestatic 143, 4, 85, 1, 0, 223, 0, []) := (congrFun pm_M_away 1).trans rfl
theorem rl_M_away_4 : (am_pg z_M_away).2 4 = some (.ifCond .eq (13), 7, 17, 0, 0, 0, 0, []) := (congrFun pm_M_away 4).trans rfl
theorem rl_M_away_7 : (am_pg z_M_away).2 7 = some (.iload_n 2, 8, 2, 0, 0, 0, 0, []) := (congrFun pm_M_away 7).trans rfl
theorem rl_M_away_8 : (am_pg z_M_away).2 8 = some (.i2l, 9, 0, 0, 0, 0, 0, []) := (congrFun pm_M_away 8).trans rfl
theorem rl_M_away_9 : (am_pg z_M_away).2 9 = some (.lconst 0, 10, 0, 0, 0, 0, 0, []) := (congrFun pm_M_away 9).trans rfl
theorem rl_M_away_10 : (am_pg z_M_away).2 10 = some (.lconst 1, 11, 0, 0, 0, 0, 1, []) := (congrFun pm_M_away 10).trans rfl
theorem rl_M_away_11 : (am_pg z_M_away).2 11 = some (.invokestatic 66, 14, 84, 3, 0, 210, 0, []) := (congrFun pm_M_away 11).trans rfl
theorem rl_M_away_14 : (am_pg z_M_away).2 14 = some (.ifCond .ne (5), 17, 19, 0, 0, 0, 0, []) := (congrFun pm_M_away 14).trans rfl
theorem rl_M_away_17 : (am_pg z_M_away).2 17 = some (.iconst (-1), 18, 0, 0, 0, 0, -1, []) := (congrFun pm_M_away 17).trans rfl
theorem rl_M_away_18 : (am_pg z_M_away).2 18 = some (.ireturn, 19, 0, 0, 0, 0, 0, []) := (congrFun pm_M_away 18).trans rfl
theorem rl_M_away_19 : (am_pg z_M_away).2 19 = some (.iconst (0), 20, 0, 0, 0, 0, 0, []) := (congrFun pm_M_away 19).trans rfl
theorem rl_M_away_20 : (am_pg z_M_away).2 20 = some (.istore_n 3, 21, 3, 0, 0, 0, 0, []) := (congrFun pm_M_away 20).trans rfl
theorem rl_M_away_21 : (am_pg z_M_away).2 21 = some (.bipush (-2), 23, 0, 0, 0, 0, -2, []) := (congrFun pm_M_away 21).trans rfl
theorem rl_M_away_23 : (am_pg z_M_away).2 23 = some (.istore 4, 25, 4, 0, 0, 0, 0, []) := (congrFun pm_M_away 23).trans rfl
theorem rl_M_away_25 : (am_pg z_M_away).2 25 = some (.iconst (0), 26, 0, 0, 0, 0, 0, []) := (congrFun pm_M_away 25).trans rfl
theorem rl_M_away_26 : (am_pg z_M_away).2 26 = some (.istore 5, 28, 5, 0, 0, 0, 0, []) := (congrFun pm_M_away 26).trans rfl
theorem rl_M_away_28 : (am_pg z_M_away).2 28 = some (.iconst (0), 29, 0, 0, 0, 0, 0, []) := (congrFun pm_M_away 28).trans rfl
theorem rl_M_away_29 : (am_pg z_M_away).2 29 = some (.istore 6, 31, 6, 0, 0, 0, 0, []) := (congrFun pm_M_away 29).trans rfl
theorem rl_M_away_31 : (am_pg z_M_away).2 31 = some (.iload 6, 33, 6, 0, 0, 0, 0, []) := (congrFun pm_M_away 31).trans rfl
theorem rl_M_away_33 : (am_pg z_M_away).2 33 = some (.sipush (1080), 36, 0, 0, 0, 0, 1080, []) := (congrFun pm_M_away 33).trans rfl
theorem rl_M_away_36 : (am_pg z_M_away).2 36 = some (.if_icmp .ge (51), 39, 87, 0, 0, 0, 0, []) := (congrFun pm_M_away 36).trans rfl
theorem rl_M_away_39 : (am_pg z_M_away).2 39 = some (.aload_n 0, 40, 0, 0, 0, 0, 0, []) := (congrFun pm_M_away 39).trans rfl
theorem rl_M_away_40 : (am_pg z_M_away).2 40 = some (.getfield 7, 43, 9, 0, 0, 76, 0, []) := (congrFun pm_M_away 40).trans rfl
theorem rl_M_away_43 : (am_pg z_M_away).2 43 = some (.iload 6, 45, 6, 0, 0, 0, 0, []) := (congrFun pm_M_away 43).trans rfl
theorem rl_M_away_45 : (am_pg z_M_away).2 45 = some (.iaload, 46, 0, 0, 0, 0, 0, []) := (congrFun pm_M_away 45).trans rfl
theorem rl_M_away_46 : (am_pg z_M_away).2 46 = some (.iload_n 1, 47, 1, 0, 0, 0, 0, []) := (congrFun pm_M_away 46).trans rfl
theorem rl_M_away_47 : (am_pg z_M_away).2 47 = some (.if_icmp .ne (7), 50, 54, 0, 0, 0, 0, []) := (congrFun pm_M_away 47).trans rfl
theorem rl_M_away_50 : (am_pg z_M_away).2 50 = some (.iconst (0), 51, 0, 0, 0, 0, 0, []) := (congrFun pm_M_away 50).trans rfl
theorem rl_M_away_51 : (am_pg z_M_away).2 51 = some (.goto (7), 54, 58, 0, 0, 0, 0, []) := (congrFun pm_M_away 51).trans rfl
theorem rl_M_away_54 : (am_pg z_M_away).2 54 = some (.iload 5, 56, 5, 0, 0, 0, 0, []) := (congrFun pm_M_away 54).trans rfl
theorem rl_M_away_56 : (am_pg z_M_away).2 56 = some (.iconst (1), 57, 0, 0, 0, 0, 1, []) := (congrFun pm_M_away 56).trans rfl
theorem rl_M_away_57 : (am_pg z_M_away).2 57 = some (.iadd, 58, 0, 0, 0, 0, 0, []) := (congrFun pm_M_away 57).trans rfl
theorem rl_M_away_58 : (am_pg z_M_away).2 58 = some (.istore 5, 60, 5, 0, 0, 0, 0, []) := (congrFun pm_M_away 58).trans rfl
theorem rl_M_away_60 : (am_pg z_M_away).2 60 = some (.iload 5, 62, 5, 0, 0, 0, 0, []) := (congrFun pm_M_away 60).trans rfl
theorem rl_M_away_62 : (am_pg z_M_away).2 62 = some (.iload_n 3, 63, 3, 0, 0, 0, 0, []) := (congrFun pm_M_away 62).trans rfl
theorem rl_M_away_63 : (am_pg z_M_away).2 63 = some (.if_icmp .gt (6), 66, 69, 0, 0, 0, 0, []) := (congrFun pm_M_away 63).trans rfl
theorem rl_M_away_66 : (am_pg z_M_away).2 66 = some (.goto (15), 69, 81, 0, 0, 0, 0, []) := (congrFun pm_M_away 66).trans rfl
theorem rl_M_away_69 : (am_pg z_M_away).2 69 = some (.iload 5, 71, 5, 0, 0, 0, 0, []) := (congrFun pm_M_away 69).trans rfl
theorem rl_M_away_71 : (am_pg z_M_away).2 71 = some (.istore_n 3, 72, 3, 0, 0, 0, 0, []) := (congrFun pm_M_away 71).trans rfl
theorem rl_M_away_72 : (am_pg z_M_away).2 72 = some (.iload 6, 74, 6, 0, 0, 0, 0, []) := (congrFun pm_M_away 72).trans rfl
theorem rl_M_away_74 : (am_pg z_M_away).2 74 = some (.iload 5, 76, 5, 0, 0, 0, 0, []) := (congrFun pm_M_away 74).trans rfl
theorem rl_M_away_76 : (am_pg z_M_away).2 76 = some (.isub, 77, 0, 0, 0, 0, 0, []) := (congrFun pm_M_away 76).trans rfl
theorem rl_M_away_77 : (am_pg z_M_away).2 77 = some (.iconst (1), 78, 0, 0, 0, 0, 1, []) := (congrFun pm_M_away 77).trans rfl
theorem rl_M_away_78 : (am_pg z_M_away).2 78 = some (.iadd, 79, 0, 0, 0, 0, 0, []) := (congrFun pm_M_away 78).trans rfl
theorem rl_M_away_79 : (am_pg z_M_away).2 79 = some (.istore 4, 81, 4, 0, 0, 0, 0, []) := (congrFun pm_M_away 79).trans rfl
theorem rl_M_away_81 : (am_pg z_M_away).2 81 = some (.iinc 6 (1), 84, 6, 0, 0, 0, 1, []) := (congrFun pm_M_away 81).trans rfl
theorem rl_M_away_84 : (am_pg z_M_away).2 84 = some (.goto (-53), 87, 31, 0, 0, 0, 0, []) := (congrFun pm_M_away 84).trans rfl
theorem rl_M_away_87 : (am_pg z_M_away).2 87 = some (.iload_n 2, 88, 2, 0, 0, 0, 0, []) := (congrFun pm_M_away 87).trans rfl
theorem rl_M_away_88 : (am_pg z_M_away).2 88 = some (.ifCond .ne (7), 91, 95, 0, 0, 0, 0, []) := (congrFun pm_M_away 88).trans rfl
theorem rl_M_away_91 : (am_pg z_M_away).2 91 = some (.iload_n 3, 92, 3, 0, 0, 0, 0, []) := (congrFun pm_M_away 91).trans rfl
theorem rl_M_away_92 : (am_pg z_M_away).2 92 = some (.goto (5), 95, 97, 0, 0, 0, 0, []) := (congrFun pm_M_away 92).trans rfl
theorem rl_M_away_95 : (am_pg z_M_away).2 95 = some (.iload 4, 97, 4, 0, 0, 0, 0, []) := (congrFun pm_M_away 95).trans rfl
theorem rl_M_away_97 : (am_pg z_M_away).2 97 = some (.ireturn, 98, 0, 0, 0, 0, 0, []) := (congrFun pm_M_away 97).trans rfl
theorem rl_M_travels_0 : (am_pg z_M_travels).2 0 = some (.iload_n 1, 1, 1, 0, 0, 0, 0, []) := (congrFun pm_M_travels 0).trans rfl
theorem rl_M_travels_1 : (am_pg z_M_travels).2 1 = some (.invokestatic 143, 4, 85, 1, 0, 223, 0, []) := (congrFun pm_M_travels 1).trans rfl
theorem rl_M_travels_4 : (am_pg z_M_travels).2 4 = some (.ifCond .eq (10), 7, 14, 0, 0, 0, 0, []) := (congrFun pm_M_travels 4).trans rfl
theorem rl_M_travels_7 : (am_pg z_M_travels).2 7 = some (.iload_n 2, 8, 2, 0, 0, 0, 0, []) := (congrFun pm_M_travels 7).trans rfl
theorem rl_M_travels_8 : (am_pg z_M_travels).2 8 = some (.invokestatic 194, 11, 89, 1, 0, 243, 0, []) := (congrFun pm_M_travels 8).trans rfl
theorem rl_M_travels_11 : (am_pg z_M_travels).2 11 = some (.ifCond .ne (5), 14, 16, 0, 0, 0, 0, []) := (congrFun pm_M_travels 11).trans rfl
theorem rl_M_travels_14 : (am_pg z_M_travels).2 14 = some (.iconst (-1), 15, 0, 0, 0, 0, -1, []) := (congrFun pm_M_travels 14).trans rfl
theorem rl_M_travels_15 : (am_pg z_M_travels).2 15 = some (.ireturn, 16, 0, 0, 0, 0, 0, []) := (congrFun pm_M_travels 15).trans rfl
theorem rl_M_travels_16 : (am_pg z_M_travels).2 16 = some (.iconst (0), 17, 0, 0, 0, 0, 0, []) := (congrFun pm_M_travels 16).trans rfl
theorem rl_M_travels_17 : (am_pg z_M_travels).2 17 = some (.istore_n 3, 18, 3, 0, 0, 0, 0, []) := (congrFun pm_M_travels 17).trans rfl
theorem rl_M_travels_18 : (am_pg z_M_travels).2 18 = some (.sipush (360), 21, 0, 0, 0, 0, 360, []) := (congrFun pm_M_travels 18).trans rfl
theorem rl_M_travels_21 : (am_pg z_M_travels).2 21 = some (.iload_n 2, 22, 2, 0, 0, 0, 0, []) := (congrFun pm_M_travels 21).trans rfl
theorem rl_M_travels_22 : (am_pg z_M_travels).2 22 = some (.imul, 23, 0, 0, 0, 0, 0, []) := (congrFun pm_M_travels 22).trans rfl
theorem rl_M_travels_23 : (am_pg z_M_travels).2 23 = some (.istore 4, 25, 4, 0, 0, 0, 0, []) := (congrFun pm_M_travels 23).trans rfl
theorem rl_M_travels_25 : (am_pg z_M_travels).2 25 = some (.iload 4, 27, 4, 0, 0, 0, 0, []) := (congrFun pm_M_travels 25).trans rfl
theorem rl_M_travels_27 : (am_pg z_M_travels).2 27 = some (.sipush (360), 30, 0, 0, 0, 0, 360, []) := (congrFun pm_M_travels 27).trans rfl
theorem rl_M_travels_30 : (am_pg z_M_travels).2 30 = some (.iload_n 2, 31, 2, 0, 0, 0, 0, []) := (congrFun pm_M_travels 30).trans rfl
theorem rl_M_travels_31 : (am_pg z_M_travels).2 31 = some (.imul, 32, 0, 0, 0, 0, 0, []) := (congrFun pm_M_travels 31).trans rfl
theorem rl_M_travels_32 : (am_pg z_M_travels).2 32 = some (.sipush (360), 35, 0, 0, 0, 0, 360, []) := (congrFun pm_M_travels 32).trans rfl
theorem rl_M_travels_35 : (am_pg z_M_travels).2 35 = some (.iadd, 36, 0, 0, 0, 0, 0, []) := (congrFun pm_M_travels 35).trans rfl
theorem rl_M_travels_36 : (am_pg z_M_travels).2 36 = some (.if_icmp .ge (93), 39, 129, 0, 0, 0, 0, []) := (congrFun pm_M_travels 36).trans rfl
theorem rl_M_travels_39 : (am_pg z_M_travels).2 39 = some (.iload 4, 41, 4, 0, 0, 0, 0, []) := (congrFun pm_M_travels 39).trans rfl
theorem rl_M_travels_41 : (am_pg z_M_travels).2 41 = some (.ifCond .le (20), 44, 61, 0, 0, 0, 0, []) := (congrFun pm_M_travels 41).trans rfl
theorem rl_M_travels_44 : (am_pg z_M_travels).2 44 = some (.aload_n 0, 45, 0, 0, 0, 0, 0, []) := (congrFun pm_M_travels 44).trans rfl
theorem rl_M_travels_45 : (am_pg z_M_travels).2 45 = some (.getfield 7, 48, 9, 0, 0, 76, 0, []) := (congrFun pm_M_travels 45).trans rfl
theorem rl_M_travels_48 : (am_pg z_M_travels).2 48 = some (.iload 4, 50, 4, 0, 0, 0, 0, []) := (congrFun pm_M_travels 48).trans rfl
theorem rl_M_travels_50 : (am_pg z_M_travels).2 50 = some (.iconst (1), 51, 0, 0, 0, 0, 1, []) := (congrFun pm_M_travels 50).trans rfl
theorem rl_M_travels_51 : (am_pg z_M_travels).2 51 = some (.isub, 52, 0, 0, 0, 0, 0, []) := (congrFun pm_M_travels 51).trans rfl
theorem rl_M_travels_52 : (am_pg z_M_travels).2 52 = some (.iaload, 53, 0, 0, 0, 0, 0, []) := (congrFun pm_M_travels 52).trans rfl
theorem rl_M_travels_53 : (am_pg z_M_travels).2 53 = some (.iload_n 1, 54, 1, 0, 0, 0, 0, []) := (congrFun pm_M_travels 53).trans rfl
theorem rl_M_travels_54 : (am_pg z_M_travels).2 54 = some (.if_icmp .eq (7), 57, 61, 0, 0, 0, 0, []) := (congrFun pm_M_travels 54).trans rfl
theorem rl_M_travels_57 : (am_pg z_M_travels).2 57 = some (.iconst (1), 58, 0, 0, 0, 0, 1, []) := (congrFun pm_M_travels 57).trans rfl
theorem rl_M_travels_58 : (am_pg z_M_travels).2 58 = some (.goto (4), 61, 62, 0, 0, 0, 0, []) := (congrFun pm_M_travels 58).trans rfl
theorem rl_M_travels_61 : (am_pg z_M_travels).2 61 = some (.iconst (0), 62, 0, 0, 0, 0, 0, []) := (congrFun pm_M_travels 61).trans rfl
theorem rl_M_travels_62 : (am_pg z_M_travels).2 62 = some (.istore 5, 64, 5, 0, 0, 0, 0, []) := (congrFun pm_M_travels 62).trans rfl
theorem rl_M_travels_64 : (am_pg z_M_travels).2 64 = some (.iload 4, 66, 4, 0, 0, 0, 0, []) := (congrFun pm_M_travels 64).trans rfl
theorem rl_M_travels_66 : (am_pg z_M_travels).2 66 = some (.iconst (1), 67, 0, 0, 0, 0, 1, []) := (congrFun pm_M_travels 66).trans rfl
theorem rl_M_travels_67 : (am_pg z_M_travels).2 67 = some (.iadd, 68, 0, 0, 0, 0, 0, []) := (congrFun pm_M_travels 67).trans rfl
theorem rl_M_travels_68 : (am_pg z_M_travels).2 68 = some (.sipush (1080), 71, 0, 0, 0, 0, 1080, []) := (congrFun pm_M_travels 68).trans rfl
theorem rl_M_travels_71 : (am_pg z_M_travels).2 71 = some (.if_icmp .ge (20), 74, 91, 0, 0, 0, 0, []) := (congrFun pm_M_travels 71).trans rfl
theorem rl_M_travels_74 : (am_pg z_M_travels).2 74 = some (.aload_n 0, 75, 0, 0, 0, 0, 0, []) := (congrFun pm_M_travels 74).trans rfl
theorem rl_M_travels_75 : (am_pg z_M_travels).2 75 = some (.getfield 7, 78, 9, 0, 0, 76, 0, []) := (congrFun pm_M_travels 75).trans rfl
theorem rl_M_travels_78 : (am_pg z_M_travels).2 78 = some (.iload 4, 80, 4, 0, 0, 0, 0, []) := (congrFun pm_M_travels 78).trans rfl
theorem rl_M_travels_80 : (am_pg z_M_travels).2 80 = some (.iconst (1), 81, 0, 0, 0, 0, 1, []) := (congrFun pm_M_travels 80).trans rfl
theorem rl_M_travels_81 : (am_pg z_M_travels).2 81 = some (.iadd, 82, 0, 0, 0, 0, 0, []) := (congrFun pm_M_travels 81).trans rfl
theorem rl_M_travels_82 : (am_pg z_M_travels).2 82 = some (.iaload, 83, 0, 0, 0, 0, 0, []) := (congrFun pm_M_travels 82).trans rfl
theorem rl_M_travels_83 : (am_pg z_M_travels).2 83 = some (.iload_n 1, 84, 1, 0, 0, 0, 0, []) := (congrFun pm_M_travels 83).trans rfl
theorem rl_M_travels_84 : (am_pg z_M_travels).2 84 = some (.if_icmp .eq (7), 87, 91, 0, 0, 0, 0, []) := (congrFun pm_M_travels 84).trans rfl
theorem rl_M_travels_87 : (am_pg z_M_travels).2 87 = some (.iconst (1), 88, 0, 0, 0, 0, 1, []) := (congrFun pm_M_travels 87).trans rfl
theorem rl_M_travels_88 : (am_pg z_M_travels).2 88 = some (.goto (4), 91, 92, 0, 0, 0, 0, []) := (congrFun pm_M_travels 88).trans rfl
theorem rl_M_travels_91 : (am_pg z_M_travels).2 91 = some (.iconst (0), 92, 0, 0, 0, 0, 0, []) := (congrFun pm_M_travels 91).trans rfl
theorem rl_M_travels_92 : (am_pg z_M_travels).2 92 = some (.istore 6, 94, 6, 0, 0, 0, 0, []) := (congrFun pm_M_travels 92).trans rfl
theorem rl_M_travels_94 : (am_pg z_M_travels).2 94 = some (.iload_n 3, 95, 3, 0, 0, 0, 0, []) := (congrFun pm_M_travels 94).trans rfl
theorem rl_M_travels_95 : (am_pg z_M_travels).2 95 = some (.aload_n 0, 96, 0, 0, 0, 0, 0, []) := (congrFun pm_M_travels 95).trans rfl
theorem rl_M_travels_96 : (am_pg z_M_travels).2 96 = some (.getfield 7, 99, 9, 0, 0, 76, 0, []) := (congrFun pm_M_travels 96).trans rfl
theorem rl_M_travels_99 : (am_pg z_M_travels).2 99 = some (.iload 4, 101, 4, 0, 0, 0, 0, []) := (congrFun pm_M_travels 99).trans rfl
theorem rl_M_travels_101 : (am_pg z_M_travels).2 101 = some (.iaload, 102, 0, 0, 0, 0, 0, []) := (congrFun pm_M_travels 101).trans rfl
theorem rl_M_travels_102 : (am_pg z_M_travels).2 102 = some (.iload_n 1, 103, 1, 0, 0, 0, 0, []) := (congrFun pm_M_travels 102).trans rfl
theorem rl_M_travels_103 : (am_pg z_M_travels).2 103 = some (.if_icmp .ne (17), 106, 120, 0, 0, 0, 0, []) := (congrFun pm_M_travels 103).trans rfl
theorem rl_M_travels_106 : (am_pg z_M_travels).2 106 = some (.iload 5, 108, 5, 0, 0, 0, 0, []) := (congrFun pm_M_travels 106).trans rfl
theorem rl_M_travels_108 : (am_pg z_M_travels).2 108 = some (.ifCond .ne (8), 111, 116, 0, 0, 0, 0, []) := (congrFun pm_M_travels 108).trans rfl
theorem rl_M_travels_111 : (am_pg z_M_travels).2 111 = some (.iload 6, 113, 6, 0, 0, 0, 0, []) := (congrFun pm_M_travels 111).trans rfl
theorem rl_M_travels_113 : (am_pg z_M_travels).2 113 = some (.ifCond .eq (7), 116, 120, 0, 0, 0, 0, []) := (congrFun pm_M_travels 113).trans rfl
theorem rl_M_travels_116 : (am_pg z_M_travels).2 116 = some (.iconst (1), 117, 0, 0, 0, 0, 1, []) := (congrFun pm_M_travels 116).trans rfl
theorem rl_M_travels_117 : (am_pg z_M_travels).2 117 = some (.goto (4), 120, 121, 0, 0, 0, 0, []) := (congrFun pm_M_travels 117).trans rfl
theorem rl_M_travels_120 : (am_pg z_M_travels).2 120 = some (.iconst (0), 121, 0, 0, 0, 0, 0, []) := (congrFun pm_M_travels 120).trans rfl
theorem rl_M_travels_121 : (am_pg z_M_travels).2 121 = some (.iadd, 122, 0, 0, 0, 0, 0, []) := (congrFun pm_M_travels 121).trans rfl
theorem rl_M_travels_122 : (am_pg z_M_travels).2 122 = some (.istore_n 3, 123, 3, 0, 0, 0, 0, []) := (congrFun pm_M_travels 122).trans rfl
theorem rl_M_travels_123 : (am_pg z_M_travels).2 123 = some (.iinc 4 (1), 126, 4, 0, 0, 0, 1, []) := (congrFun pm_M_travels 123).trans rfl
theorem rl_M_travels_126 : (am_pg z_M_travels).2 126 = some (.goto (-101), 129, 25, 0, 0, 0, 0, []) := (congrFun pm_M_travels 126).trans rfl
theorem rl_M_travels_129 : (am_pg z_M_travels).2 129 = some (.iload_n 3, 130, 3, 0, 0, 0, 0, []) := (congrFun pm_M_travels 129).trans rfl
theorem rl_M_travels_130 : (am_pg z_M_travels).2 130 = some (.ireturn, 131, 0, 0, 0, 0, 0, []) := (congrFun pm_M_travels 130).trans rfl
theorem rl_M_tight_0 : (am_pg z_M_tight).2 0 = some (.iload_n 1, 1, 1, 0, 0, 0, 0, []) := (congrFun pm_M_tight 0).trans rfl
theorem rl_M_tight_1 : (am_pg z_M_tight).2 1 = some (.invokestatic 143, 4, 85, 1, 0, 223, 0, []) := (congrFun pm_M_tight 1).trans rfl
theorem rl_M_tight_4 : (am_pg z_M_tight).2 4 = some (.ifCond .eq (25), 7, 29, 0, 0, 0, 0, []) := (congrFun pm_M_tight 4).trans rfl
theorem rl_M_tight_7 : (am_pg z_M_tight).2 7 = some (.iload_n 2, 8, 2, 0, 0, 0, 0, []) := (congrFun pm_M_tight 7).trans rfl
theorem rl_M_tight_8 : (am_pg z_M_tight).2 8 = some (.i2l, 9, 0, 0, 0, 0, 0, []) := (congrFun pm_M_tight 8).trans rfl
theorem rl_M_tight_9 : (am_pg z_M_tight).2 9 = some (.lconst 1, 10, 0, 0, 0, 0, 1, []) := (congrFun pm_M_tight 9).trans rfl
theorem rl_M_tight_10 : (am_pg z_M_tight).2 10 = some (.ldc2_w 222, 13, 0, 0, 0, 15, 1080, []) := (congrFun pm_M_tight 10).trans rfl
theorem rl_M_tight_13 : (am_pg z_M_tight).2 13 = some (.invokestatic 66, 16, 84, 3, 0, 210, 0, []) := (congrFun pm_M_tight 13).trans rfl
theorem rl_M_tight_16 : (am_pg z_M_tight).2 16 = some (.ifCond .eq (13), 19, 29, 0, 0, 0, 0, []) := (congrFun pm_M_tight 16).trans rfl
theorem rl_M_tight_19 : (am_pg z_M_tight).2 19 = some (.iload_n 3, 20, 3, 0, 0, 0, 0, []) := (congrFun pm_M_tight 19).trans rfl
theorem rl_M_tight_20 : (am_pg z_M_tight).2 20 = some (.i2l, 21, 0, 0, 0, 0, 0, []) := (congrFun pm_M_tight 20).trans rfl
theorem rl_M_tight_21 : (am_pg z_M_tight).2 21 = some (.lconst 0, 22, 0, 0, 0, 0, 0, []) := (congrFun pm_M_tight 21).trans rfl
theorem rl_M_tight_22 : (am_pg z_M_tight).2 22 = some (.lconst 1, 23, 0, 0, 0, 0, 1, []) := (congrFun pm_M_tight 22).trans rfl
theorem rl_M_tight_23 : (am_pg z_M_tight).2 23 = some (.invokestatic 66, 26, 84, 3, 0, 210, 0, []) := (congrFun pm_M_tight 23).trans rfl
theorem rl_M_tight_26 : (am_pg z_M_tight).2 26 = some (.ifCond .ne (5), 29, 31, 0, 0, 0, 0, []) := (congrFun pm_M_tight 26).trans rfl
theorem rl_M_tight_29 : (am_pg z_M_tight).2 29 = some (.iconst (-1), 30, 0, 0, 0, 0, -1, []) := (congrFun pm_M_tight 29).trans rfl
theorem rl_M_tight_30 : (am_pg z_M_tight).2 30 = some (.ireturn, 31, 0, 0, 0, 0, 0, []) := (congrFun pm_M_tight 30).trans rfl
theorem rl_M_tight_31 : (am_pg z_M_tight).2 31 = some (.aload_n 0, 32, 0, 0, 0, 0, 0, []) := (congrFun pm_M_tight 31).trans rfl
theorem rl_M_tight_32 : (am_pg z_M_tight).2 32 = some (.iload_n 1, 33, 1, 0, 0, 0, 0, []) := (congrFun pm_M_tight 32).trans rfl
theorem rl_M_tight_33 : (am_pg z_M_tight).2 33 = some (.iload_n 2, 34, 2, 0, 0, 0, 0, []) := (congrFun pm_M_tight 33).trans rfl
theorem rl_M_tight_34 : (am_pg z_M_tight).2 34 = some (.invokevirtual 224, 37, 137, 2, 9, 259, 0, []) := (congrFun pm_M_tight 34).trans rfl
theorem rl_M_tight_37 : (am_pg z_M_tight).2 37 = some (.iconst (0), 38, 0, 0, 0, 0, 0, []) := (congrFun pm_M_tight 37).trans rfl
theorem rl_M_tight_38 : (am_pg z_M_tight).2 38 = some (.istore 4, 40, 4, 0, 0, 0, 0, []) := (congrFun pm_M_tight 38).trans rfl
theorem rl_M_tight_40 : (am_pg z_M_tight).2 40 = some (.bipush (-2), 42, 0, 0, 0, 0, -2, []) := (congrFun pm_M_tight 40).trans rfl
theorem rl_M_tight_42 : (am_pg z_M_tight).2 42 = some (.istore 5, 44, 5, 0, 0, 0, 0, []) := (congrFun pm_M_tight 42).trans rfl
theorem rl_M_tight_44 : (am_pg z_M_tight).2 44 = some (.iconst (0), 45, 0, 0, 0, 0, 0, []) := (congrFun pm_M_tight 44).trans rfl
theorem rl_M_tight_45 : (am_pg z_M_tight).2 45 = some (.istore 6, 47, 6, 0, 0, 0, 0, []) := (congrFun pm_M_tight 45).trans rfl
theorem rl_M_tight_47 : (am_pg z_M_tight).2 47 = some (.iload 6, 49, 6, 0, 0, 0, 0, []) := (congrFun pm_M_tight 47).trans rfl
theorem rl_M_tight_49 : (am_pg z_M_tight).2 49 = some (.sipush (1080), 52, 0, 0, 0, 0, 1080, []) := (congrFun pm_M_tight 49).trans rfl
theorem rl_M_tight_52 : (am_pg z_M_tight).2 52 = some (.if_icmp .ge (37), 55, 89, 0, 0, 0, 0, []) := (congrFun pm_M_tight 52).trans rfl
theorem rl_M_tight_55 : (am_pg z_M_tight).2 55 = some (.aload_n 0, 56, 0, 0, 0, 0, 0, []) := (congrFun pm_M_tight 55).trans rfl
theorem rl_M_tight_56 : (am_pg z_M_tight).2 56 = some (.getfield 35, 59, 9, 18, 0, 94, 0, []) := (congrFun pm_M_tight 56).trans rfl
theorem rl_M_tight_59 : (am_pg z_M_tight).2 59 = some (.iload 6, 61, 6, 0, 0, 0, 0, []) := (congrFun pm_M_tight 59).trans rfl
theorem rl_M_tight_61 : (am_pg z_M_tight).2 61 = some (.iaload, 62, 0, 0, 0, 0, 0, []) := (congrFun pm_M_tight 61).trans rfl
theorem rl_M_tight_62 : (am_pg z_M_tight).2 62 = some (.iload 4, 64, 4, 0, 0, 0, 0, []) := (congrFun pm_M_tight 62).trans rfl
theorem rl_M_tight_64 : (am_pg z_M_tight).2 64 = some (.if_icmp .gt (6), 67, 70, 0, 0, 0, 0, []) := (congrFun pm_M_tight 64).trans rfl
theorem rl_M_tight_67 : (am_pg z_M_tight).2 67 = some (.goto (16), 70, 83, 0, 0, 0, 0, []) := (congrFun pm_M_tight 67).trans rfl
theorem rl_M_tight_70 : (am_pg z_M_tight).2 70 = some (.aload_n 0, 71, 0, 0, 0, 0, 0, []) := (congrFun pm_M_tight 70).trans rfl
theorem rl_M_tight_71 : (am_pg z_M_tight).2 71 = some (.getfield 35, 74, 9, 18, 0, 94, 0, []) := (congrFun pm_M_tight 71).trans rfl
theorem rl_M_tight_74 : (am_pg z_M_tight).2 74 = some (.iload 6, 76, 6, 0, 0, 0, 0, []) := (congrFun pm_M_tight 74).trans rfl
theorem rl_M_tight_76 : (am_pg z_M_tight).2 76 = some (.iaload, 77, 0, 0, 0, 0, 0, []) := (congrFun pm_M_tight 76).trans rfl
theorem rl_M_tight_77 : (am_pg z_M_tight).2 77 = some (.istore 4, 79, 4, 0, 0, 0, 0, []) := (congrFun pm_M_tight 77).trans rfl
theorem rl_M_tight_79 : (am_pg z_M_tight).2 79 = some (.iload 6, 81, 6, 0, 0, 0, 0, []) := (congrFun pm_M_tight 79).trans rfl
theorem rl_M_tight_81 : (am_pg z_M_tight).2 81 = some (.istore 5, 83, 5, 0, 0, 0, 0, []) := (congrFun pm_M_tight 81).trans rfl
theorem rl_M_tight_83 : (am_pg z_M_tight).2 83 = some (.iinc 6 (1), 86, 6, 0, 0, 0, 1, []) := (congrFun pm_M_tight 83).trans rfl
theorem rl_M_tight_86 : (am_pg z_M_tight).2 86 = some (.goto (-39), 89, 47, 0, 0, 0, 0, []) := (congrFun pm_M_tight 86).trans rfl
theorem rl_M_tight_89 : (am_pg z_M_tight).2 89 = some (.iload_n 3, 90, 3, 0, 0, 0, 0, []) := (congrFun pm_M_tight 89).trans rfl
theorem rl_M_tight_90 : (am_pg z_M_tight).2 90 = some (.ifCond .ne (8), 93, 98, 0, 0, 0, 0, []) := (congrFun pm_M_tight 90).trans rfl
theorem rl_M_tight_93 : (am_pg z_M_tight).2 93 = some (.iload 4, 95, 4, 0, 0, 0, 0, []) := (congrFun pm_M_tight 93).trans rfl
theorem rl_M_tight_95 : (am_pg z_M_tight).2 95 = some (.goto (5), 98, 100, 0, 0, 0, 0, []) := (congrFun pm_M_tight 95).trans rfl
theorem rl_M_tight_98 : (am_pg z_M_tight).2 98 = some (.iload 5, 100, 5, 0, 0, 0, 0, []) := (congrFun pm_M_tight 98).trans rfl
theorem rl_M_tight_100 : (am_pg z_M_tight).2 100 = some (.ireturn, 101, 0, 0, 0, 0, 0, []) := (congrFun pm_M_tight 100).trans rfl
theorem rl_M_rank_0 : (am_pg z_M_rank).2 0 = some (.iload_n 1, 1, 1, 0, 0, 0, 0, []) := (congrFun pm_M_rank 0).trans rfl
theorem rl_M_rank_1 : (am_pg z_M_rank).2 1 = some (.invokestatic 194, 4, 89, 1, 0, 243, 0, []) := (congrFun pm_M_rank 1).trans rfl
theorem rl_M_rank_4 : (am_pg z_M_rank).2 4 = some (.ifCond .eq (15), 7, 19, 0, 0, 0, 0, []) := (congrFun pm_M_rank 4).trans rfl
theorem rl_M_rank_7 : (am_pg z_M_rank).2 7 = some (.iload_n 2, 8, 2, 0, 0, 0, 0, []) := (congrFun pm_M_rank 7).trans rfl
theorem rl_M_rank_8 : (am_pg z_M_rank).2 8 = some (.i2l, 9, 0, 0, 0, 0, 0, []) := (congrFun pm_M_rank 8).trans rfl
theorem rl_M_rank_9 : (am_pg z_M_rank).2 9 = some (.lconst 0, 10, 0, 0, 0, 0, 0, []) := (congrFun pm_M_rank 9).trans rfl
theorem rl_M_rank_10 : (am_pg z_M_rank).2 10 = some (.ldc2_w 64, 13, 0, 0, 0, 7, 5, []) := (congrFun pm_M_rank 10).trans rfl
theorem rl_M_rank_13 : (am_pg z_M_rank).2 13 = some (.invokestatic 66, 16, 84, 3, 0, 210, 0, []) := (congrFun pm_M_rank 13).trans rfl
theorem rl_M_rank_16 : (am_pg z_M_rank).2 16 = some (.ifCond .ne (5), 19, 21, 0, 0, 0, 0, []) := (congrFun pm_M_rank 16).trans rfl
theorem rl_M_rank_19 : (am_pg z_M_rank).2 19 = some (.iconst (-1), 20, 0, 0, 0, 0, -1, []) := (congrFun pm_M_rank 19).trans rfl
theorem rl_M_rank_20 : (am_pg z_M_rank).2 20 = some (.ireturn, 21, 0, 0, 0, 0, 0, []) := (congrFun pm_M_rank 20).trans rfl
theorem rl_M_rank_21 : (am_pg z_M_rank).2 21 = some (.aload_n 0, 22, 0, 0, 0, 0, 0, []) := (congrFun pm_M_rank 21).trans rfl
theorem rl_M_rank_22 : (am_pg z_M_rank).2 22 = some (.invokevirtual 235, 25, 155, 0, 9, 266, 0, []) := (congrFun pm_M_rank 22).trans rfl
theorem rl_M_rank_25 : (am_pg z_M_rank).2 25 = some (.iconst (-1), 26, 0, 0, 0, 0, -1, []) := (congrFun pm_M_rank 25).trans rfl
theorem rl_M_rank_26 : (am_pg z_M_rank).2 26 = some (.istore_n 3, 27, 3, 0, 0, 0, 0, []) := (congrFun pm_M_rank 26).trans rfl
theorem rl_M_rank_27 : (am_pg z_M_rank).2 27 = some (.iconst (0), 28, 0, 0, 0, 0, 0, []) := (congrFun pm_M_rank 27).trans rfl
theorem rl_M_rank_28 : (am_pg z_M_rank).2 28 = some (.istore 4, 30, 4, 0, 0, 0, 0, []) := (congrFun pm_M_rank 28).trans rfl
theorem rl_M_rank_30 : (am_pg z_M_rank).2 30 = some (.iload 4, 32, 4, 0, 0, 0, 0, []) := (congrFun pm_M_rank 30).trans rfl
theorem rl_M_rank_32 : (am_pg z_M_rank).2 32 = some (.bipush (6), 34, 0, 0, 0, 0, 6, []) := (congrFun pm_M_rank 32).trans rfl
theorem rl_M_rank_34 : (am_pg z_M_rank).2 34 = some (.if_icmp .ge (96), 37, 130, 0, 0, 0, 0, []) := (congrFun pm_M_rank 34).trans rfl
theorem rl_M_rank_37 : (am_pg z_M_rank).2 37 = some (.iconst (0), 38, 0, 0, 0, 0, 0, []) := (congrFun pm_M_rank 37).trans rfl
theorem rl_M_rank_38 : (am_pg z_M_rank).2 38 = some (.istore 5, 40, 5, 0, 0, 0, 0, []) := (congrFun pm_M_rank 38).trans rfl
theorem rl_M_rank_40 : (am_pg z_M_rank).2 40 = some (.iconst (0), 41, 0, 0, 0, 0, 0, []) := (congrFun pm_M_rank 40).trans rfl
theorem rl_M_rank_41 : (am_pg z_M_rank).2 41 = some (.istore 6, 43, 6, 0, 0, 0, 0, []) := (congrFun pm_M_rank 41).trans rfl
theorem rl_M_rank_43 : (am_pg z_M_rank).2 43 = some (.iload 6, 45, 6, 0, 0, 0, 0, []) := (congrFun pm_M_rank 43).trans rfl
theorem rl_M_rank_45 : (am_pg z_M_rank).2 45 = some (.bipush (6), 47, 0, 0, 0, 0, 6, []) := (congrFun pm_M_rank 45).trans rfl
theorem rl_M_rank_47 : (am_pg z_M_rank).2 47 = some (.if_icmp .ge (64), 50, 111, 0, 0, 0, 0, []) := (congrFun pm_M_rank 47).trans rfl
theorem rl_M_rank_50 : (am_pg z_M_rank).2 50 = some (.iload 5, 52, 5, 0, 0, 0, 0, []) := (congrFun pm_M_rank 50).trans rfl
theorem rl_M_rank_52 : (am_pg z_M_rank).2 52 = some (.aload_n 0, 53, 0, 0, 0, 0, 0, []) := (congrFun pm_M_rank 52).trans rfl
theorem rl_M_rank_53 : (am_pg z_M_rank).2 53 = some (.iconst (0), 54, 0, 0, 0, 0, 0, []) := (congrFun pm_M_rank 53).trans rfl
theorem rl_M_rank_54 : (am_pg z_M_rank).2 54 = some (.iload 6, 56, 6, 0, 0, 0, 0, []) := (congrFun pm_M_rank 54).trans rfl
theorem rl_M_rank_56 : (am_pg z_M_rank).2 56 = some (.iload_n 1, 57, 1, 0, 0, 0, 0, []) := (congrFun pm_M_rank 56).trans rfl
theorem rl_M_rank_57 : (am_pg z_M_rank).2 57 = some (.invokevirtual 238, 60, 154, 3, 9, 268, 0, []) := (congrFun pm_M_rank 57).trans rfl
theorem rl_M_rank_60 : (am_pg z_M_rank).2 60 = some (.aload_n 0, 61, 0, 0, 0, 0, 0, []) := (congrFun pm_M_rank 60).trans rfl
theorem rl_M_rank_61 : (am_pg z_M_rank).2 61 = some (.iconst (0), 62, 0, 0, 0, 0, 0, []) := (congrFun pm_M_rank 61).trans rfl
theorem rl_M_rank_62 : (am_pg z_M_rank).2 62 = some (.iload 4, 64, 4, 0, 0, 0, 0, []) := (congrFun pm_M_rank 62).trans rfl
theorem rl_M_rank_64 : (am_pg z_M_rank).2 64 = some (.iload_n 1, 65, 1, 0, 0, 0, 0, []) := (congrFun pm_M_rank 64).trans rfl
theorem rl_M_rank_65 : (am_pg z_M_rank).2 65 = some (.invokevirtual 238, 68, 154, 3, 9, 268, 0, []) := (congrFun pm_M_rank 65).trans rfl
theorem rl_M_rank_68 : (am_pg z_M_rank).2 68 = some (.if_icmp .gt (29), 71, 97, 0, 0, 0, 0, []) := (congrFun pm_M_rank 68).trans rfl
theorem rl_M_rank_71 : (am_pg z_M_rank).2 71 = some (.iload 6, 73, 6, 0, 0, 0, 0, []) := (congrFun pm_M_rank 71).trans rfl
theorem rl_M_rank_73 : (am_pg z_M_rank).2 73 = some (.iload 4, 75, 4, 0, 0, 0, 0, []) := (congrFun pm_M_rank 73).trans rfl
theorem rl_M_rank_75 : (am_pg z_M_rank).2 75 = some (.if_icmp .ge (26), 78, 101, 0, 0, 0, 0, []) := (congrFun pm_M_rank 75).trans rfl
theorem rl_M_rank_78 : (am_pg z_M_rank).2 78 = some (.aload_n 0, 79, 0, 0, 0, 0, 0, []) := (congrFun pm_M_rank 78).trans rfl
theorem rl_M_rank_79 : (am_pg z_M_rank).2 79 = some (.iconst (0), 80, 0, 0, 0, 0, 0, []) := (congrFun pm_M_rank 79).trans rfl
theorem rl_M_rank_80 : (am_pg z_M_rank).2 80 = some (.iload 6, 82, 6, 0, 0, 0, 0, []) := (congrFun pm_M_rank 80).trans rfl
theorem rl_M_rank_82 : (am_pg z_M_rank).2 82 = some (.iload_n 1, 83, 1, 0, 0, 0, 0, []) := (congrFun pm_M_rank 82).trans rfl
theorem rl_M_rank_83 : (am_pg z_M_rank).2 83 = some (.invokevirtual 238, 86, 154, 3, 9, 268, 0, []) := (congrFun pm_M_rank 83).trans rfl
theorem rl_M_rank_86 : (am_pg z_M_rank).2 86 = some (.aload_n 0, 87, 0, 0, 0, 0, 0, []) := (congrFun pm_M_rank 86).trans rfl
theorem rl_M_rank_87 : (am_pg z_M_rank).2 87 = some (.iconst (0), 88, 0, 0, 0, 0, 0, []) := (congrFun pm_M_rank 87).trans rfl
theorem rl_M_rank_88 : (am_pg z_M_rank).2 88 = some (.iload 4, 90, 4, 0, 0, 0, 0, []) := (congrFun pm_M_rank 88).trans rfl
theorem rl_M_rank_90 : (am_pg z_M_rank).2 90 = some (.iload_n 1, 91, 1, 0, 0, 0, 0, []) := (congrFun pm_M_rank 90).trans rfl
theorem rl_M_rank_91 : (am_pg z_M_rank).2 91 = some (.invokevirtual 238, 94, 154, 3, 9, 268, 0, []) := (congrFun pm_M_rank 91).trans rfl
theorem rl_M_rank_94 : (am_pg z_M_rank).2 94 = some (.if_icmp .ne (7), 97, 101, 0, 0, 0, 0, []) := (congrFun pm_M_rank 94).trans rfl
theorem rl_M_rank_97 : (am_pg z_M_rank).2 97 = some (.iconst (1), 98, 0, 0, 0, 0, 1, []) := (congrFun pm_M_rank 97).trans rfl
theorem rl_M_rank_98 : (am_pg z_M_rank).2 98 = some (.goto (4), 101, 102, 0, 0, 0, 0, []) := (congrFun pm_M_rank 98).trans rfl
theorem rl_M_rank_101 : (am_pg z_M_rank).2 101 = some (.iconst (0), 102, 0, 0, 0, 0, 0, []) := (congrFun pm_M_rank 101).trans rfl
theorem rl_M_rank_102 : (am_pg z_M_rank).2 102 = some (.iadd, 103, 0, 0, 0, 0, 0, []) := (congrFun pm_M_rank 102).trans rfl
theorem rl_M_rank_103 : (am_pg z_M_rank).2 103 = some (.istore 5, 105, 5, 0, 0, 0, 0, []) := (congrFun pm_M_rank 103).trans rfl
theorem rl_M_rank_105 : (am_pg z_M_rank).2 105 = some (.iinc 6 (1), 108, 6, 0, 0, 0, 1, []) := (congrFun pm_M_rank 105).trans rfl
theorem rl_M_rank_108 : (am_pg z_M_rank).2 108 = some (.goto (-65), 111, 43, 0, 0, 0, 0, []) := (congrFun pm_M_rank 108).trans rfl
theorem rl_M_rank_111 : (am_pg z_M_rank).2 111 = some (.iload 5, 113, 5, 0, 0, 0, 0, []) := (congrFun pm_M_rank 111).trans rfl
theorem rl_M_rank_113 : (am_pg z_M_rank).2 113 = some (.iload_n 2, 114, 2, 0, 0, 0, 0, []) := (congrFun pm_M_rank 113).trans rfl
theorem rl_M_rank_114 : (am_pg z_M_rank).2 114 = some (.if_icmp .ne (8), 117, 122, 0, 0, 0, 0, []) := (congrFun pm_M_rank 114).trans rfl
theorem rl_M_rank_117 : (am_pg z_M_rank).2 117 = some (.iload 4, 119, 4, 0, 0, 0, 0, []) := (congrFun pm_M_rank 117).trans rfl
theorem rl_M_rank_119 : (am_pg z_M_rank).2 119 = some (.goto (4), 122, 123, 0, 0, 0, 0, []) := (congrFun pm_M_rank 119).trans rfl
theorem rl_M_rank_122 : (am_pg z_M_rank).2 122 = some (.iload_n 3, 123, 3, 0, 0, 0, 0, []) := (congrFun pm_M_rank 122).trans rfl
theorem rl_M_rank_123 : (am_pg z_M_rank).2 123 = some (.istore_n 3, 124, 3, 0, 0, 0, 0, []) := (congrFun pm_M_rank 123).trans rfl
theorem rl_M_rank_124 : (am_pg z_M_rank).2 124 = some (.iinc 4 (1), 127, 4, 0, 0, 0, 1, []) := (congrFun pm_M_rank 124).trans rfl
theorem rl_M_rank_127 : (am_pg z_M_rank).2 127 = some (.goto (-97), 130, 30, 0, 0, 0, 0, []) := (congrFun pm_M_rank 127).trans rfl
theorem rl_M_rank_130 : (am_pg z_M_rank).2 130 = some (.iload_n 3, 131, 3, 0, 0, 0, 0, []) := (congrFun pm_M_rank 130).trans rfl
theorem rl_M_rank_131 : (am_pg z_M_rank).2 131 = some (.ireturn, 132, 0, 0, 0, 0, 0, []) := (congrFun pm_M_rank 131).trans rfl
theorem rl_M_laysAside_0 : (am_pg z_M_laysAside).2 0 = some (.iconst (0), 1, 0, 0, 0, 0, 0, []) := (congrFun pm_M_laysAside 0).trans rfl
theorem rl_M_laysAside_1 : (am_pg z_M_laysAside).2 1 = some (.istore_n 1, 2, 1, 0, 0, 0, 0, []) := (congrFun pm_M_laysAside 1).trans rfl
theorem rl_M_laysAside_2 : (am_pg z_M_laysAside).2 2 = some (.iload_n 1, 3, 1, 0, 0, 0, 0, []) := (congrFun pm_M_laysAside 2).trans rfl
theorem rl_M_laysAside_3 : (am_pg z_M_laysAside).2 3 = some (.sipush (1080), 6, 0, 0, 0, 0, 1080, []) := (congrFun pm_M_laysAside 3).trans rfl
theorem rl_M_laysAside_6 : (am_pg z_M_laysAside).2 6 = some (.if_icmp .ge (21), 9, 27, 0, 0, 0, 0, []) := (congrFun pm_M_laysAside 6).trans rfl
theorem rl_M_laysAside_9 : (am_pg z_M_laysAside).2 9 = some (.aload_n 0, 10, 0, 0, 0, 0, 0, []) := (congrFun pm_M_laysAside 9).trans rfl
theorem rl_M_laysAside_10 : (am_pg z_M_laysAside).2 10 = some (.getfield 38, 13, 9, 19, 0, 95, 0, []) := (congrFun pm_M_laysAside 10).trans rfl
theorem rl_M_laysAside_13 : (am_pg z_M_laysAside).2 13 = some (.iload_n 1, 14, 1, 0, 0, 0, 0, []) := (congrFun pm_M_laysAside 13).trans rfl
theorem rl_M_laysAside_14 : (am_pg z_M_laysAside).2 14 = some (.aload_n 0, 15, 0, 0, 0, 0, 0, []) := (congrFun pm_M_laysAside 14).trans rfl
theorem rl_M_laysAside_15 : (am_pg z_M_laysAside).2 15 = some (.getfield 7, 18, 9, 0, 0, 76, 0, []) := (congrFun pm_M_laysAside 15).trans rfl
theorem rl_M_laysAside_18 : (am_pg z_M_laysAside).2 18 = some (.iload_n 1, 19, 1, 0, 0, 0, 0, []) := (congrFun pm_M_laysAside 18).trans rfl
theorem rl_M_laysAside_19 : (am_pg z_M_laysAside).2 19 = some (.iaload, 20, 0, 0, 0, 0, 0, []) := (congrFun pm_M_laysAside 19).trans rfl
theorem rl_M_laysAside_20 : (am_pg z_M_laysAside).2 20 = some (.iastore, 21, 0, 0, 0, 0, 0, []) := (congrFun pm_M_laysAside 20).trans rfl
theorem rl_M_laysAside_21 : (am_pg z_M_laysAside).2 21 = some (.iinc 1 (1), 24, 1, 0, 0, 0, 1, []) := (congrFun pm_M_laysAside 21).trans rfl
theorem rl_M_laysAside_24 : (am_pg z_M_laysAside).2 24 = some (.goto (-22), 27, 2, 0, 0, 0, 0, []) := (congrFun pm_M_laysAside 24).trans rfl
theorem rl_M_laysAside_27 : (am_pg z_M_laysAside).2 27 = some (.return_, 28, 0, 0, 0, 0, 0, []) := (congrFun pm_M_laysAside 27).trans rfl
theorem rl_M_takesAside_0 : (am_pg z_M_takesAside).2 0 = some (.iconst (0), 1, 0, 0, 0, 0, 0, []) := (congrFun pm_M_takesAside 0).trans rfl
theorem rl_M_takesAside_1 : (am_pg z_M_takesAside).2 1 = some (.istore_n 1, 2, 1, 0, 0, 0, 0, []) := (congrFun pm_M_takesAside 1).trans rfl
theorem rl_M_takesAside_2 : (am_pg z_M_takesAside).2 2 = some (.iload_n 1, 3, 1, 0, 0, 0, 0, []) := (congrFun pm_M_takesAside 2).trans rfl
theorem rl_M_takesAside_3 : (am_pg z_M_takesAside).2 3 = some (.sipush (1080), 6, 0, 0, 0, 0, 1080, []) := (congrFun pm_M_takesAside 3).trans rfl
theorem rl_M_takesAside_6 : (am_pg z_M_takesAside).2 6 = some (.if_icmp .ge (21), 9, 27, 0, 0, 0, 0, []) := (congrFun pm_M_takesAside 6).trans rfl
theorem rl_M_takesAside_9 : (am_pg z_M_takesAside).2 9 = some (.aload_n 0, 10, 0, 0, 0, 0, 0, []) := (congrFun pm_M_takesAside 9).trans rfl
theorem rl_M_takesAside_10 : (am_pg z_M_takesAside).2 10 = some (.getfield 7, 13, 9, 0, 0, 76, 0, []) := (congrFun pm_M_takesAside 10).trans rfl
theorem rl_M_takesAside_13 : (am_pg z_M_takesAside).2 13 = some (.iload_n 1, 14, 1, 0, 0, 0, 0, []) := (congrFun pm_M_takesAside 13).trans rfl
theorem rl_M_takesAside_14 : (am_pg z_M_takesAside).2 14 = some (.aload_n 0, 15, 0, 0, 0, 0, 0, []) := (congrFun pm_M_takesAside 14).trans rfl
theorem rl_M_takesAside_15 : (am_pg z_M_takesAside).2 15 = some (.getfield 38, 18, 9, 19, 0, 95, 0, []) := (congrFun pm_M_takesAside 15).trans rfl
theorem rl_M_takesAside_18 : (am_pg z_M_takesAside).2 18 = some (.iload_n 1, 19, 1, 0, 0, 0, 0, []) := (congrFun pm_M_takesAside 18).trans rfl
theorem rl_M_takesAside_19 : (am_pg z_M_takesAside).2 19 = some (.iaload, 20, 0, 0, 0, 0, 0, []) := (congrFun pm_M_takesAside 19).trans rfl
theorem rl_M_takesAside_20 : (am_pg z_M_takesAside).2 20 = some (.iastore, 21, 0, 0, 0, 0, 0, []) := (congrFun pm_M_takesAside 20).trans rfl
theorem rl_M_takesAside_21 : (am_pg z_M_takesAside).2 21 = some (.iinc 1 (1), 24, 1, 0, 0, 0, 1, []) := (congrFun pm_M_takesAside 21).trans rfl
theorem rl_M_takesAside_24 : (am_pg z_M_takesAside).2 24 = some (.goto (-22), 27, 2, 0, 0, 0, 0, []) := (congrFun pm_M_takesAside 24).trans rfl
theorem rl_M_takesAside_27 : (am_pg z_M_takesAside).2 27 = some (.return_, 28, 0, 0, 0, 0, 0, []) := (congrFun pm_M_takesAside 27).trans rfl
theorem rl_M_slide_0 : (am_pg z_M_slide).2 0 = some (.iload_n 1, 1, 1, 0, 0, 0, 0, []) := (congrFun pm_M_slide 0).trans rfl
theorem rl_M_slide_1 : (am_pg z_M_slide).2 1 = some (.iload_n 2, 2, 2, 0, 0, 0, 0, []) := (congrFun pm_M_slide 1).trans rfl
theorem rl_M_slide_2 : (am_pg z_M_slide).2 2 = some (.invokestatic 140, 5, 88, 2, 0, 220, 0, []) := (congrFun pm_M_slide 2).trans rfl
theorem rl_M_slide_5 : (am_pg z_M_slide).2 5 = some (.ifCond .eq (33), 8, 38, 0, 0, 0, 0, []) := (congrFun pm_M_slide 5).trans rfl
theorem rl_M_slide_8 : (am_pg z_M_slide).2 8 = some (.iload_n 1, 9, 1, 0, 0, 0, 0, []) := (congrFun pm_M_slide 8).trans rfl
theorem rl_M_slide_9 : (am_pg z_M_slide).2 9 = some (.i2l, 10, 0, 0, 0, 0, 0, []) := (congrFun pm_M_slide 9).trans rfl
theorem rl_M_slide_10 : (am_pg z_M_slide).2 10 = some (.iload_n 3, 11, 3, 0, 0, 0, 0, []) := (congrFun pm_M_slide 10).trans rfl
theorem rl_M_slide_11 : (am_pg z_M_slide).2 11 = some (.i2l, 12, 0, 0, 0, 0, 0, []) := (congrFun pm_M_slide 11).trans rfl
theorem rl_M_slide_12 : (am_pg z_M_slide).2 12 = some (.ladd, 13, 0, 0, 0, 0, 0, []) := (congrFun pm_M_slide 12).trans rfl
theorem rl_M_slide_13 : (am_pg z_M_slide).2 13 = some (.lconst 0, 14, 0, 0, 0, 0, 0, []) := (congrFun pm_M_slide 13).trans rfl
theorem rl_M_slide_14 : (am_pg z_M_slide).2 14 = some (.ldc2_w 72, 17, 0, 0, 0, 5, 1079, []) := (congrFun pm_M_slide 14).trans rfl
theorem rl_M_slide_17 : (am_pg z_M_slide).2 17 = some (.invokestatic 66, 20, 84, 3, 0, 210, 0, []) := (congrFun pm_M_slide 17).trans rfl
theorem rl_M_slide_20 : (am_pg z_M_slide).2 20 = some (.ifCond .eq (18), 23, 38, 0, 0, 0, 0, []) := (congrFun pm_M_slide 20).trans rfl
theorem rl_M_slide_23 : (am_pg z_M_slide).2 23 = some (.iload_n 2, 24, 2, 0, 0, 0, 0, []) := (congrFun pm_M_slide 23).trans rfl
theorem rl_M_slide_24 : (am_pg z_M_slide).2 24 = some (.i2l, 25, 0, 0, 0, 0, 0, []) := (congrFun pm_M_slide 24).trans rfl
theorem rl_M_slide_25 : (am_pg z_M_slide).2 25 = some (.iload_n 3, 26, 3, 0, 0, 0, 0, []) := (congrFun pm_M_slide 25).trans rfl
theorem rl_M_slide_26 : (am_pg z_M_slide).2 26 = some (.i2l, 27, 0, 0, 0, 0, 0, []) := (congrFun pm_M_slide 26).trans rfl
theorem rl_M_slide_27 : (am_pg z_M_slide).2 27 = some (.ladd, 28, 0, 0, 0, 0, 0, []) := (congrFun pm_M_slide 27).trans rfl
theorem rl_M_slide_28 : (am_pg z_M_slide).2 28 = some (.lconst 0, 29, 0, 0, 0, 0, 0, []) := (congrFun pm_M_slide 28).trans rfl
theorem rl_M_slide_29 : (am_pg z_M_slide).2 29 = some (.ldc2_w 72, 32, 0, 0, 0, 5, 1079, []) := (congrFun pm_M_slide 29).trans rfl
theorem rl_M_slide_32 : (am_pg z_M_slide).2 32 = some (.invokestatic 66, 35, 84, 3, 0, 210, 0, []) := (congrFun pm_M_slide 32).trans rfl
theorem rl_M_slide_35 : (am_pg z_M_slide).2 35 = some (.ifCond .ne (5), 38, 40, 0, 0, 0, 0, []) := (congrFun pm_M_slide 35).trans rfl
theorem rl_M_slide_38 : (am_pg z_M_slide).2 38 = some (.iconst (-1), 39, 0, 0, 0, 0, -1, []) := (congrFun pm_M_slide 38).trans rfl
theorem rl_M_slide_39 : (am_pg z_M_slide).2 39 = some (.ireturn, 40, 0, 0, 0, 0, 0, []) := (congrFun pm_M_slide 39).trans rfl
theorem rl_M_slide_40 : (am_pg z_M_slide).2 40 = some (.aload_n 0, 41, 0, 0, 0, 0, 0, []) := (congrFun pm_M_slide 40).trans rfl
theorem rl_M_slide_41 : (am_pg z_M_slide).2 41 = some (.invokevirtual 241, 44, 147, 0, 9, 270, 0, []) := (congrFun pm_M_slide 41).trans rfl
theorem rl_M_slide_44 : (am_pg z_M_slide).2 44 = some (.iload_n 1, 45, 1, 0, 0, 0, 0, []) := (congrFun pm_M_slide 44).trans rfl
theorem rl_M_slide_45 : (am_pg z_M_slide).2 45 = some (.istore 4, 47, 4, 0, 0, 0, 0, []) := (congrFun pm_M_slide 45).trans rfl
theorem rl_M_slide_47 : (am_pg z_M_slide).2 47 = some (.iload 4, 49, 4, 0, 0, 0, 0, []) := (congrFun pm_M_slide 47).trans rfl
theorem rl_M_slide_49 : (am_pg z_M_slide).2 49 = some (.iload_n 2, 50, 2, 0, 0, 0, 0, []) := (congrFun pm_M_slide 49).trans rfl
theorem rl_M_slide_50 : (am_pg z_M_slide).2 50 = some (.if_icmp .gt (17), 53, 67, 0, 0, 0, 0, []) := (congrFun pm_M_slide 50).trans rfl
theorem rl_M_slide_53 : (am_pg z_M_slide).2 53 = some (.aload_n 0, 54, 0, 0, 0, 0, 0, []) := (congrFun pm_M_slide 53).trans rfl
theorem rl_M_slide_54 : (am_pg z_M_slide).2 54 = some (.getfield 7, 57, 9, 0, 0, 76, 0, []) := (congrFun pm_M_slide 54).trans rfl
theorem rl_M_slide_57 : (am_pg z_M_slide).2 57 = some (.iload 4, 59, 4, 0, 0, 0, 0, []) := (congrFun pm_M_slide 57).trans rfl
theorem rl_M_slide_59 : (am_pg z_M_slide).2 59 = some (.iconst (-1), 60, 0, 0, 0, 0, -1, []) := (congrFun pm_M_slide 59).trans rfl
theorem rl_M_slide_60 : (am_pg z_M_slide).2 60 = some (.iastore, 61, 0, 0, 0, 0, 0, []) := (congrFun pm_M_slide 60).trans rfl
theorem rl_M_slide_61 : (am_pg z_M_slide).2 61 = some (.iinc 4 (1), 64, 4, 0, 0, 0, 1, []) := (congrFun pm_M_slide 61).trans rfl
theorem rl_M_slide_64 : (am_pg z_M_slide).2 64 = some (.goto (-17), 67, 47, 0, 0, 0, 0, []) := (congrFun pm_M_slide 64).trans rfl
theorem rl_M_slide_67 : (am_pg z_M_slide).2 67 = some (.iload_n 1, 68, 1, 0, 0, 0, 0, []) := (congrFun pm_M_slide 67).trans rfl
theorem rl_M_slide_68 : (am_pg z_M_slide).2 68 = some (.istore 4, 70, 4, 0, 0, 0, 0, []) := (congrFun pm_M_slide 68).trans rfl
theorem rl_M_slide_70 : (am_pg z_M_slide).2 70 = some (.iload 4, 72, 4, 0, 0, 0, 0, []) := (congrFun pm_M_slide 70).trans rfl
theorem rl_M_slide_72 : (am_pg z_M_slide).2 72 = some (.iload_n 2, 73, 2, 0, 0, 0, 0, []) := (congrFun pm_M_slide 72).trans rfl
theorem rl_M_slide_73 : (am_pg z_M_slide).2 73 = some (.if_icmp .gt (25), 76, 98, 0, 0, 0, 0, []) := (congrFun pm_M_slide 73).trans rfl
theorem rl_M_slide_76 : (am_pg z_M_slide).2 76 = some (.aload_n 0, 77, 0, 0, 0, 0, 0, []) := (congrFun pm_M_slide 76).trans rfl
theorem rl_M_slide_77 : (am_pg z_M_slide).2 77 = some (.getfield 7, 80, 9, 0, 0, 76, 0, []) := (congrFun pm_M_slide 77).trans rfl
theorem rl_M_slide_80 : (am_pg z_M_slide).2 80 = some (.iload 4, 82, 4, 0, 0, 0, 0, []) := (congrFun pm_M_slide 80).trans rfl
theorem rl_M_slide_82 : (am_pg z_M_slide).2 82 = some (.iload_n 3, 83, 3, 0, 0, 0, 0, []) := (congrFun pm_M_slide 82).trans rfl
theorem rl_M_slide_83 : (am_pg z_M_slide).2 83 = some (.iadd, 84, 0, 0, 0, 0, 0, []) := (congrFun pm_M_slide 83).trans rfl
theorem rl_M_slide_84 : (am_pg z_M_slide).2 84 = some (.aload_n 0, 85, 0, 0, 0, 0, 0, []) := (congrFun pm_M_slide 84).trans rfl
theorem rl_M_slide_85 : (am_pg z_M_slide).2 85 = some (.getfield 38, 88, 9, 19, 0, 95, 0, []) := (congrFun pm_M_slide 85).trans rfl
theorem rl_M_slide_88 : (am_pg z_M_slide).2 88 = some (.iload 4, 90, 4, 0, 0, 0, 0, []) := (congrFun pm_M_slide 88).trans rfl
theorem rl_M_slide_90 : (am_pg z_M_slide).2 90 = some (.iaload, 91, 0, 0, 0, 0, 0, []) := (congrFun pm_M_slide 90).trans rfl
theorem rl_M_slide_91 : (am_pg z_M_slide).2 91 = some (.iastore, 92, 0, 0, 0, 0, 0, []) := (congrFun pm_M_slide 91).trans rfl
theorem rl_M_slide_92 : (am_pg z_M_slide).2 92 = some (.iinc 4 (1), 95, 4, 0, 0, 0, 1, []) := (congrFun pm_M_slide 92).trans rfl
theorem rl_M_slide_95 : (am_pg z_M_slide).2 95 = some (.goto (-25), 98, 70, 0, 0, 0, 0, []) := (congrFun pm_M_slide 95).trans rfl
theorem rl_M_slide_98 : (am_pg z_M_slide).2 98 = some (.iconst (0), 99, 0, 0, 0, 0, 0, []) := (congrFun pm_M_slide 98).trans rfl
theorem rl_M_slide_99 : (am_pg z_M_slide).2 99 = some (.istore 4, 101, 4, 0, 0, 0, 0, []) := (congrFun pm_M_slide 99).trans rfl
theorem rl_M_slide_101 : (am_pg z_M_slide).2 101 = some (.iconst (0), 102, 0, 0, 0, 0, 0, []) := (congrFun pm_M_slide 101).trans rfl
theorem rl_M_slide_102 : (am_pg z_M_slide).2 102 = some (.istore 5, 104, 5, 0, 0, 0, 0, []) := (congrFun pm_M_slide 102).trans rfl
theorem rl_M_slide_104 : (am_pg z_M_slide).2 104 = some (.iload 5, 106, 5, 0, 0, 0, 0, []) := (congrFun pm_M_slide 104).trans rfl
theorem rl_M_slide_106 : (am_pg z_M_slide).2 106 = some (.sipush (1080), 109, 0, 0, 0, 0, 1080, []) := (congrFun pm_M_slide 106).trans rfl
theorem rl_M_slide_109 : (am_pg z_M_slide).2 109 = some (.if_icmp .ge (36), 112, 145, 0, 0, 0, 0, []) := (congrFun pm_M_slide 109).trans rfl
theorem rl_M_slide_112 : (am_pg z_M_slide).2 112 = some (.iload 4, 114, 4, 0, 0, 0, 0, []) := (congrFun pm_M_slide 112).trans rfl
theorem rl_M_slide_114 : (am_pg z_M_slide).2 114 = some (.aload_n 0, 115, 0, 0, 0, 0, 0, []) := (congrFun pm_M_slide 114).trans rfl
theorem rl_M_slide_115 : (am_pg z_M_slide).2 115 = some (.getfield 7, 118, 9, 0, 0, 76, 0, []) := (congrFun pm_M_slide 115).trans rfl
theorem rl_M_slide_118 : (am_pg z_M_slide).2 118 = some (.iload 5, 120, 5, 0, 0, 0, 0, []) := (congrFun pm_M_slide 118).trans rfl
theorem rl_M_slide_120 : (am_pg z_M_slide).2 120 = some (.iaload, 121, 0, 0, 0, 0, 0, []) := (congrFun pm_M_slide 120).trans rfl
theorem rl_M_slide_121 : (am_pg z_M_slide).2 121 = some (.aload_n 0, 122, 0, 0, 0, 0, 0, []) := (congrFun pm_M_slide 121).trans rfl
theorem rl_M_slide_122 : (am_pg z_M_slide).2 122 = some (.getfield 38, 125, 9, 19, 0, 95, 0, []) := (congrFun pm_M_slide 122).trans rfl
theorem rl_M_slide_125 : (am_pg z_M_slide).2 125 = some (.iload 5, 127, 5, 0, 0, 0, 0, []) := (congrFun pm_M_slide 125).trans rfl
theorem rl_M_slide_127 : (am_pg z_M_slide).2 127 = some (.iaload, 128, 0, 0, 0, 0, 0, []) := (congrFun pm_M_slide 127).trans rfl
theorem rl_M_slide_128 : (am_pg z_M_slide).2 128 = some (.if_icmp .ne (7), 131, 135, 0, 0, 0, 0, []) := (congrFun pm_M_slide 128).trans rfl
theorem rl_M_slide_131 : (am_pg z_M_slide).2 131 = some (.iconst (0), 132, 0, 0, 0, 0, 0, []) := (congrFun pm_M_slide 131).trans rfl
theorem rl_M_slide_132 : (am_pg z_M_slide).2 132 = some (.goto (4), 135, 136, 0, 0, 0, 0, []) := (congrFun pm_M_slide 132).trans rfl
theorem rl_M_slide_135 : (am_pg z_M_slide).2 135 = some (.iconst (1), 136, 0, 0, 0, 0, 1, []) := (congrFun pm_M_slide 135).trans rfl
theorem rl_M_slide_136 : (am_pg z_M_slide).2 136 = some (.iadd, 137, 0, 0, 0, 0, 0, []) := (congrFun pm_M_slide 136).trans rfl
theorem rl_M_slide_137 : (am_pg z_M_slide).2 137 = some (.istore 4, 139, 4, 0, 0, 0, 0, []) := (congrFun pm_M_slide 137).trans rfl
theorem rl_M_slide_139 : (am_pg z_M_slide).2 139 = some (.iinc 5 (1), 142, 5, 0, 0, 0, 1, []) := (congrFun pm_M_slide 139).trans rfl
theorem rl_M_slide_142 : (am_pg z_M_slide).2 142 = some (.goto (-38), 145, 104, 0, 0, 0, 0, []) := (congrFun pm_M_slide 142).trans rfl
theorem rl_M_slide_145 : (am_pg z_M_slide).2 145 = some (.iload 4, 147, 4, 0, 0, 0, 0, []) := (congrFun pm_M_slide 145).trans rfl
theorem rl_M_slide_147 : (am_pg z_M_slide).2 147 = some (.ireturn, 148, 0, 0, 0, 0, 0, []) := (congrFun pm_M_slide 147).trans rfl
theorem rl_M_allStays_0 : (am_pg z_M_allStays).2 0 = some (.iconst (0), 1, 0, 0, 0, 0, 0, []) := (congrFun pm_M_allStays 0).trans rfl
theorem rl_M_allStays_1 : (am_pg z_M_allStays).2 1 = some (.istore_n 1, 2, 1, 0, 0, 0, 0, []) := (congrFun pm_M_allStays 1).trans rfl
theorem rl_M_allStays_2 : (am_pg z_M_allStays).2 2 = some (.iconst (0), 3, 0, 0, 0, 0, 0, []) := (congrFun pm_M_allStays 2).trans rfl
theorem rl_M_allStays_3 : (am_pg z_M_allStays).2 3 = some (.istore_n 2, 4, 2, 0, 0, 0, 0, []) := (congrFun pm_M_allStays 3).trans rfl
theorem rl_M_allStays_4 : (am_pg z_M_allStays).2 4 = some (.iload_n 2, 5, 2, 0, 0, 0, 0, []) := (congrFun pm_M_allStays 4).trans rfl
theorem rl_M_allStays_5 : (am_pg z_M_allStays).2 5 = some (.sipush (1080), 8, 0, 0, 0, 0, 1080, []) := (congrFun pm_M_allStays 5).trans rfl
theorem rl_M_allStays_8 : (am_pg z_M_allStays).2 8 = some (.if_icmp .ge (25), 11, 33, 0, 0, 0, 0, []) := (congrFun pm_M_allStays 8).trans rfl
theorem rl_M_allStays_11 : (am_pg z_M_allStays).2 11 = some (.iload_n 1, 12, 1, 0, 0, 0, 0, []) := (congrFun pm_M_allStays 11).trans rfl
theorem rl_M_allStays_12 : (am_pg z_M_allStays).2 12 = some (.aload_n 0, 13, 0, 0, 0, 0, 0, []) := (congrFun pm_M_allStays 12).trans rfl
theorem rl_M_allStays_13 : (am_pg z_M_allStays).2 13 = some (.iload_n 2, 14, 2, 0, 0, 0, 0, []) := (congrFun pm_M_allStays 13).trans rfl
theorem rl_M_allStays_14 : (am_pg z_M_allStays).2 14 = some (.invokevirtual 177, 17, 114, 1, 9, 232, 0, []) := (congrFun pm_M_allStays 14).trans rfl
theorem rl_M_allStays_17 : (am_pg z_M_allStays).2 17 = some (.ifCond .eq (7), 20, 24, 0, 0, 0, 0, []) := (congrFun pm_M_allStays 17).trans rfl
theorem rl_M_allStays_20 : (am_pg z_M_allStays).2 20 = some (.iconst (1), 21, 0, 0, 0, 0, 1, []) := (congrFun pm_M_allStays 20).trans rfl
theorem rl_M_allStays_21 : (am_pg z_M_allStays).2 21 = some (.goto (4), 24, 25, 0, 0, 0, 0, []) := (congrFun pm_M_allStays 21).trans rfl
theorem rl_M_allStays_24 : (am_pg z_M_allStays).2 24 = some (.iconst (0), 25, 0, 0, 0, 0, 0, []) := (congrFun pm_M_allStays 24).trans rfl
theorem rl_M_allStays_25 : (am_pg z_M_allStays).2 25 = some (.iadd, 26, 0, 0, 0, 0, 0, []) := (congrFun pm_M_allStays 25).trans rfl
theorem rl_M_allStays_26 : (am_pg z_M_allStays).2 26 = some (.istore_n 1, 27, 1, 0, 0, 0, 0, []) := (congrFun pm_M_allStays 26).trans rfl
theorem rl_M_allStays_27 : (am_pg z_M_allStays).2 27 = some (.iinc 2 (1), 30, 2, 0, 0, 0, 1, []) := (congrFun pm_M_allStays 27).trans rfl
theorem rl_M_allStays_30 : (am_pg z_M_allStays).2 30 = some (.goto (-26), 33, 4, 0, 0, 0, 0, []) := (congrFun pm_M_allStays 30).trans rfl
theorem rl_M_allStays_33 : (am_pg z_M_allStays).2 33 = some (.iload_n 1, 34, 1, 0, 0, 0, 0, []) := (congrFun pm_M_allStays 33).trans rfl
theorem rl_M_allStays_34 : (am_pg z_M_allStays).2 34 = some (.ireturn, 35, 0, 0, 0, 0, 0, []) := (congrFun pm_M_allStays 34).trans rfl
theorem rl_M_partner_0 : (am_pg z_M_partner).2 0 = some (.iconst (0), 1, 0, 0, 0, 0, 0, []) := (congrFun pm_M_partner 0).trans rfl
theorem rl_M_partner_1 : (am_pg z_M_partner).2 1 = some (.istore_n 1, 2, 1, 0, 0, 0, 0, []) := (congrFun pm_M_partner 1).trans rfl
theorem rl_M_partner_2 : (am_pg z_M_partner).2 2 = some (.iload_n 1, 3, 1, 0, 0, 0, 0, []) := (congrFun pm_M_partner 2).trans rfl
theorem rl_M_partner_3 : (am_pg z_M_partner).2 3 = some (.sipush (1080), 6, 0, 0, 0, 0, 1080, []) := (congrFun pm_M_partner 3).trans rfl
theorem rl_M_partner_6 : (am_pg z_M_partner).2 6 = some (.if_icmp .ge (21), 9, 27, 0, 0, 0, 0, []) := (congrFun pm_M_partner 6).trans rfl
theorem rl_M_partner_9 : (am_pg z_M_partner).2 9 = some (.aload_n 0, 10, 0, 0, 0, 0, 0, []) := (congrFun pm_M_partner 9).trans rfl
theorem rl_M_partner_10 : (am_pg z_M_partner).2 10 = some (.getfield 19, 13, 9, 3, 0, 79, 0, []) := (congrFun pm_M_partner 10).trans rfl
theorem rl_M_partner_13 : (am_pg z_M_partner).2 13 = some (.iload_n 1, 14, 1, 0, 0, 0, 0, []) := (congrFun pm_M_partner 13).trans rfl
theorem rl_M_partner_14 : (am_pg z_M_partner).2 14 = some (.aload_n 0, 15, 0, 0, 0, 0, 0, []) := (congrFun pm_M_partner 14).trans rfl
theorem rl_M_partner_15 : (am_pg z_M_partner).2 15 = some (.getfield 7, 18, 9, 0, 0, 76, 0, []) := (congrFun pm_M_partner 15).trans rfl
theorem rl_M_partner_18 : (am_pg z_M_partner).2 18 = some (.iload_n 1, 19, 1, 0, 0, 0, 0, []) := (congrFun pm_M_partner 18).trans rfl
theorem rl_M_partner_19 : (am_pg z_M_partner).2 19 = some (.iaload, 20, 0, 0, 0, 0, 0, []) := (congrFun pm_M_partner 19).trans rfl
theorem rl_M_partner_20 : (am_pg z_M_partner).2 20 = some (.iastore, 21, 0, 0, 0, 0, 0, []) := (congrFun pm_M_partner 20).trans rfl
theorem rl_M_partner_21 : (am_pg z_M_partner).2 21 = some (.iinc 1 (1), 24, 1, 0, 0, 0, 1, []) := (congrFun pm_M_partner 21).trans rfl
theorem rl_M_partner_24 : (am_pg z_M_partner).2 24 = some (.goto (-22), 27, 2, 0, 0, 0, 0, []) := (congrFun pm_M_partner 24).trans rfl
theorem rl_M_partner_27 : (am_pg z_M_partner).2 27 = some (.aload_n 0, 28, 0, 0, 0, 0, 0, []) := (congrFun pm_M_partner 27).trans rfl
theorem rl_M_partner_28 : (am_pg z_M_partner).2 28 = some (.iconst (1), 29, 0, 0, 0, 0, 1, []) := (congrFun pm_M_partner 28).trans rfl
theorem rl_M_partner_29 : (am_pg z_M_partner).2 29 = some (.putfield 244, 32, 9, 5, 1, 81, 0, []) := (congrFun pm_M_partner 29).trans rfl
theorem rl_M_partner_32 : (am_pg z_M_partner).2 32 = some (.aload_n 0, 33, 0, 0, 0, 0, 0, []) := (congrFun pm_M_partner 32).trans rfl
theorem rl_M_partner_33 : (am_pg z_M_partner).2 33 = some (.invokevirtual 248, 36, 150, 0, 9, 272, 0, []) := (congrFun pm_M_partner 33).trans rfl
theorem rl_M_partner_36 : (am_pg z_M_partner).2 36 = some (.ireturn, 37, 0, 0, 0, 0, 0, []) := (congrFun pm_M_partner 36).trans rfl
theorem rl_M_together_0 : (am_pg z_M_together).2 0 = some (.iload_n 1, 1, 1, 0, 0, 0, 0, []) := (congrFun pm_M_together 0).trans rfl
theorem rl_M_together_1 : (am_pg z_M_together).2 1 = some (.invokestatic 194, 4, 89, 1, 0, 243, 0, []) := (congrFun pm_M_together 1).trans rfl
theorem rl_M_together_4 : (am_pg z_M_together).2 4 = some (.ifCond .eq (15), 7, 19, 0, 0, 0, 0, []) := (congrFun pm_M_together 4).trans rfl
theorem rl_M_together_7 : (am_pg z_M_together).2 7 = some (.iload_n 2, 8, 2, 0, 0, 0, 0, []) := (congrFun pm_M_together 7).trans rfl
theorem rl_M_together_8 : (am_pg z_M_together).2 8 = some (.i2l, 9, 0, 0, 0, 0, 0, []) := (congrFun pm_M_together 8).trans rfl
theorem rl_M_together_9 : (am_pg z_M_together).2 9 = some (.lconst 0, 10, 0, 0, 0, 0, 0, []) := (congrFun pm_M_together 9).trans rfl
theorem rl_M_together_10 : (am_pg z_M_together).2 10 = some (.ldc2_w 251, 13, 0, 0, 0, 16, 3, []) := (congrFun pm_M_together 10).trans rfl
theorem rl_M_together_13 : (am_pg z_M_together).2 13 = some (.invokestatic 66, 16, 84, 3, 0, 210, 0, []) := (congrFun pm_M_together 13).trans rfl
theorem rl_M_together_16 : (am_pg z_M_together).2 16 = some (.ifCond .ne (5), 19, 21, 0, 0, 0, 0, []) := (congrFun pm_M_together 16).trans rfl
theorem rl_M_together_19 : (am_pg z_M_together).2 19 = some (.iconst (-1), 20, 0, 0, 0, 0, -1, []) := (congrFun pm_M_together 19).trans rfl
theorem rl_M_together_20 : (am_pg z_M_together).2 20 = some (.ireturn, 21, 0, 0, 0, 0, 0, []) := (congrFun pm_M_together 20).trans rfl
theorem rl_M_together_21 : (am_pg z_M_together).2 21 = some (.aload_n 0, 22, 0, 0, 0, 0, 0, []) := (congrFun pm_M_together 21).trans rfl
theorem rl_M_together_22 : (am_pg z_M_together).2 22 = some (.getfield 244, 25, 9, 5, 0, 81, 0, []) := (congrFun pm_M_together 22).trans rfl
theorem rl_M_together_25 : (am_pg z_M_together).2 25 = some (.ifCond .ne (6), 28, 31, 0, 0, 0, 0, []) := (congrFun pm_M_together 25).trans rfl
theorem rl_M_together_28 : (am_pg z_M_together).2 28 = some (.bipush (-2), 30, 0, 0, 0, 0, -2, []) := (congrFun pm_M_together 28).trans rfl
theorem rl_M_together_30 : (am_pg z_M_together).2 30 = some (.ireturn, 31, 0, 0, 0, 0, 0, []) := (congrFun pm_M_together 30).trans rfl
theorem rl_M_together_31 : (am_pg z_M_together).2 31 = some (.iconst (0), 32, 0, 0, 0, 0, 0, []) := (congrFun pm_M_together 31).trans rfl
theorem rl_M_together_32 : (am_pg z_M_together).2 32 = some (.istore_n 3, 33, 3, 0, 0, 0, 0, []) := (congrFun pm_M_together 32).trans rfl
theorem rl_M_together_33 : (am_pg z_M_together).2 33 = some (.iconst (0), 34, 0, 0, 0, 0, 0, []) := (congrFun pm_M_together 33).trans rfl
theorem rl_M_together_34 : (am_pg z_M_together).2 34 = some (.istore 4, 36, 4, 0, 0, 0, 0, []) := (congrFun pm_M_together 34).trans rfl
theorem rl_M_together_36 : (am_pg z_M_together).2 36 = some (.iconst (0), 37, 0, 0, 0, 0, 0, []) := (congrFun pm_M_together 36).trans rfl
theorem rl_M_together_37 : (am_pg z_M_together).2 37 = some (.istore 5, 39, 5, 0, 0, 0, 0, []) := (congrFun pm_M_together 37).trans rfl
theorem rl_M_together_39 : (am_pg z_M_together).2 39 = some (.iconst (0), 40, 0, 0, 0, 0, 0, []) := (congrFun pm_M_together 39).trans rfl
theorem rl_M_together_40 : (am_pg z_M_together).2 40 = some (.istore 6, 42, 6, 0, 0, 0, 0, []) := (congrFun pm_M_together 40).trans rfl
theorem rl_M_together_42 : (am_pg z_M_together).2 42 = some (.sipush (360), 45, 0, 0, 0, 0, 360, []) := (congrFun pm_M_together 42).trans rfl
theorem rl_M_together_45 : (am_pg z_M_together).2 45 = some (.iload_n 1, 46, 1, 0, 0, 0, 0, []) := (congrFun pm_M_together 45).trans rfl
theorem rl_M_together_46 : (am_pg z_M_together).2 46 = some (.imul, 47, 0, 0, 0, 0, 0, []) := (congrFun pm_M_together 46).trans rfl
theorem rl_M_together_47 : (am_pg z_M_together).2 47 = some (.istore 7, 49, 7, 0, 0, 0, 0, []) := (congrFun pm_M_together 47).trans rfl
theorem rl_M_together_49 : (am_pg z_M_together).2 49 = some (.iload 7, 51, 7, 0, 0, 0, 0, []) := (congrFun pm_M_together 49).trans rfl
theorem rl_M_together_51 : (am_pg z_M_together).2 51 = some (.sipush (360), 54, 0, 0, 0, 0, 360, []) := (congrFun pm_M_together 51).trans rfl
theorem rl_M_together_54 : (am_pg z_M_together).2 54 = some (.iload_n 1, 55, 1, 0, 0, 0, 0, []) := (congrFun pm_M_together 54).trans rfl
theorem rl_M_together_55 : (am_pg z_M_together).2 55 = some (.imul, 56, 0, 0, 0, 0, 0, []) := (congrFun pm_M_together 55).trans rfl
theorem rl_M_together_56 : (am_pg z_M_together).2 56 = some (.sipush (360), 59, 0, 0, 0, 0, 360, []) := (congrFun pm_M_together 56).trans rfl
theorem rl_M_together_59 : (am_pg z_M_together).2 59 = some (.iadd, 60, 0, 0, 0, 0, 0, []) := (congrFun pm_M_together 59).trans rfl
theorem rl_M_together_60 : (am_pg z_M_together).2 60 = some (.if_icmp .ge (105), 63, 165, 0, 0, 0, 0, []) := (congrFun pm_M_together 60).trans rfl
theorem rl_M_together_63 : (am_pg z_M_together).2 63 = some (.aload_n 0, 64, 0, 0, 0, 0, 0, []) := (congrFun pm_M_together 63).trans rfl
theorem rl_M_together_64 : (am_pg z_M_together).2 64 = some (.getfield 7, 67, 9, 0, 0, 76, 0, []) := (congrFun pm_M_together 64).trans rfl
theorem rl_M_together_67 : (am_pg z_M_together).2 67 = some (.iload 7, 69, 7, 0, 0, 0, 0, []) := (congrFun pm_M_together 67).trans rfl
theorem rl_M_together_69 : (am_pg z_M_together).2 69 = some (.iaload, 70, 0, 0, 0, 0, 0, []) := (congrFun pm_M_together 69).trans rfl
theorem rl_M_together_70 : (am_pg z_M_together).2 70 = some (.iconst (-1), 71, 0, 0, 0, 0, -1, []) := (congrFun pm_M_together 70).trans rfl
theorem rl_M_together_71 : (am_pg z_M_together).2 71 = some (.if_icmp .eq (24), 74, 95, 0, 0, 0, 0, []) := (congrFun pm_M_together 71).trans rfl
theorem rl_M_together_74 : (am_pg z_M_together).2 74 = some (.aload_n 0, 75, 0, 0, 0, 0, 0, []) := (congrFun pm_M_together 74).trans rfl
theorem rl_M_together_75 : (am_pg z_M_together).2 75 = some (.getfield 7, 78, 9, 0, 0, 76, 0, []) := (congrFun pm_M_together 75).trans rfl
theorem rl_M_together_78 : (am_pg z_M_together).2 78 = some (.iload 7, 80, 7, 0, 0, 0, 0, []) := (congrFun pm_M_together 78).trans rfl
theorem rl_M_together_80 : (am_pg z_M_together).2 80 = some (.iaload, 81, 0, 0, 0, 0, 0, []) := (congrFun pm_M_together 80).trans rfl
theorem rl_M_together_81 : (am_pg z_M_together).2 81 = some (.aload_n 0, 82, 0, 0, 0, 0, 0, []) := (congrFun pm_M_together 81).trans rfl
theorem rl_M_together_82 : (am_pg z_M_together).2 82 = some (.getfield 19, 85, 9, 3, 0, 79, 0, []) := (congrFun pm_M_together 82).trans rfl
theorem rl_M_together_85 : (am_pg z_M_together).2 85 = some (.iload 7, 87, 7, 0, 0, 0, 0, []) := (congrFun pm_M_together 85).trans rfl
theorem rl_M_together_87 : (am_pg z_M_together).2 87 = some (.iaload, 88, 0, 0, 0, 0, 0, []) := (congrFun pm_M_together 87).trans rfl
theorem rl_M_together_88 : (am_pg z_M_together).2 88 = some (.if_icmp .ne (7), 91, 95, 0, 0, 0, 0, []) := (congrFun pm_M_together 88).trans rfl
theorem rl_M_together_91 : (am_pg z_M_together).2 91 = some (.iconst (1), 92, 0, 0, 0, 0, 1, []) := (congrFun pm_M_together 91).trans rfl
theorem rl_M_together_92 : (am_pg z_M_together).2 92 = some (.goto (4), 95, 96, 0, 0, 0, 0, []) := (congrFun pm_M_together 92).trans rfl
theorem rl_M_together_95 : (am_pg z_M_together).2 95 = some (.iconst (0), 96, 0, 0, 0, 0, 0, []) := (congrFun pm_M_together 95).trans rfl
theorem rl_M_together_96 : (am_pg z_M_together).2 96 = some (.istore 8, 98, 8, 0, 0, 0, 0, []) := (congrFun pm_M_together 96).trans rfl
theorem rl_M_together_98 : (am_pg z_M_together).2 98 = some (.iload 8, 100, 8, 0, 0, 0, 0, []) := (congrFun pm_M_together 98).trans rfl
theorem rl_M_together_100 : (am_pg z_M_together).2 100 = some (.ifCond .eq (10), 103, 110, 0, 0, 0, 0, []) := (congrFun pm_M_together 100).trans rfl
theorem rl_M_together_103 : (am_pg z_M_together).2 103 = some (.iload 5, 105, 5, 0, 0, 0, 0, []) := (congrFun pm_M_together 103).trans rfl
theorem rl_M_together_105 : (am_pg z_M_together).2 105 = some (.iconst (1), 106, 0, 0, 0, 0, 1, []) := (congrFun pm_M_together 105).trans rfl
theorem rl_M_together_106 : (am_pg z_M_together).2 106 = some (.iadd, 107, 0, 0, 0, 0, 0, []) := (congrFun pm_M_together 106).trans rfl
theorem rl_M_together_107 : (am_pg z_M_together).2 107 = some (.goto (4), 110, 111, 0, 0, 0, 0, []) := (congrFun pm_M_together 107).trans rfl
theorem rl_M_together_110 : (am_pg z_M_together).2 110 = some (.iconst (0), 111, 0, 0, 0, 0, 0, []) := (congrFun pm_M_together 110).trans rfl
theorem rl_M_together_111 : (am_pg z_M_together).2 111 = some (.istore 5, 113, 5, 0, 0, 0, 0, []) := (congrFun pm_M_together 111).trans rfl
theorem rl_M_together_113 : (am_pg z_M_together).2 113 = some (.iload_n 3, 114, 3, 0, 0, 0, 0, []) := (congrFun pm_M_together 113).trans rfl
theorem rl_M_together_114 : (am_pg z_M_together).2 114 = some (.iload 8, 116, 8, 0, 0, 0, 0, []) := (congrFun pm_M_together 114).trans rfl
theorem rl_M_together_116 : (am_pg z_M_together).2 116 = some (.ifCond .eq (7), 119, 123, 0, 0, 0, 0, []) := (congrFun pm_M_together 116).trans rfl
theorem rl_M_together_119 : (am_pg z_M_together).2 119 = some (.iconst (1), 120, 0, 0, 0, 0, 1, []) := (congrFun pm_M_together 119).trans rfl
theorem rl_M_together_120 : (am_pg z_M_together).2 120 = some (.goto (4), 123, 124, 0, 0, 0, 0, []) := (congrFun pm_M_together 120).trans rfl
theorem rl_M_together_123 : (am_pg z_M_together).2 123 = some (.iconst (0), 124, 0, 0, 0, 0, 0, []) := (congrFun pm_M_together 123).trans rfl
theorem rl_M_together_124 : (am_pg z_M_together).2 124 = some (.iadd, 125, 0, 0, 0, 0, 0, []) := (congrFun pm_M_together 124).trans rfl
theorem rl_M_together_125 : (am_pg z_M_together).2 125 = some (.istore_n 3, 126, 3, 0, 0, 0, 0, []) := (congrFun pm_M_together 125).trans rfl
theorem rl_M_together_126 : (am_pg z_M_together).2 126 = some (.iload 4, 128, 4, 0, 0, 0, 0, []) := (congrFun pm_M_together 126).trans rfl
theorem rl_M_together_128 : (am_pg z_M_together).2 128 = some (.iload 5, 130, 5, 0, 0, 0, 0, []) := (congrFun pm_M_together 128).trans rfl
theorem rl_M_together_130 : (am_pg z_M_together).2 130 = some (.invokestatic 197, 133, 90, 2, 0, 244, 0, []) := (congrFun pm_M_together 130).trans rfl
theorem rl_M_together_133 : (am_pg z_M_together).2 133 = some (.istore 4, 135, 4, 0, 0, 0, 0, []) := (congrFun pm_M_together 133).trans rfl
theorem rl_M_together_135 : (am_pg z_M_together).2 135 = some (.iload 8, 137, 8, 0, 0, 0, 0, []) := (congrFun pm_M_together 135).trans rfl
theorem rl_M_together_137 : (am_pg z_M_together).2 137 = some (.ifCond .eq (18), 140, 155, 0, 0, 0, 0, []) := (congrFun pm_M_together 137).trans rfl
theorem rl_M_together_140 : (am_pg z_M_together).2 140 = some (.iload 6, 142, 6, 0, 0, 0, 0, []) := (congrFun pm_M_together 140).trans rfl
theorem rl_M_together_142 : (am_pg z_M_together).2 142 = some (.iconst (1), 143, 0, 0, 0, 0, 1, []) := (congrFun pm_M_together 142).trans rfl
theorem rl_M_together_143 : (am_pg z_M_together).2 143 = some (.aload_n 0, 144, 0, 0, 0, 0, 0, []) := (congrFun pm_M_together 143).trans rfl
theorem rl_M_together_144 : (am_pg z_M_together).2 144 = some (.getfield 7, 147, 9, 0, 0, 76, 0, []) := (congrFun pm_M_together 144).trans rfl
theorem rl_M_together_147 : (am_pg z_M_together).2 147 = some (.iload 7, 149, 7, 0, 0, 0, 0, []) := (congrFun pm_M_together 147).trans rfl
theorem rl_M_together_149 : (am_pg z_M_together).2 149 = some (.iaload, 150, 0, 0, 0, 0, 0, []) := (congrFun pm_M_together 149).trans rfl
theorem rl_M_together_150 : (am_pg z_M_together).2 150 = some (.ishl, 151, 0, 0, 0, 0, 0, []) := (congrFun pm_M_together 150).trans rfl
theorem rl_M_together_151 : (am_pg z_M_together).2 151 = some (.ior, 152, 0, 0, 0, 0, 0, []) := (congrFun pm_M_together 151).trans rfl
theorem rl_M_together_152 : (am_pg z_M_together).2 152 = some (.goto (5), 155, 157, 0, 0, 0, 0, []) := (congrFun pm_M_together 152).trans rfl
theorem rl_M_together_155 : (am_pg z_M_together).2 155 = some (.iload 6, 157, 6, 0, 0, 0, 0, []) := (congrFun pm_M_together 155).trans rfl
theorem rl_M_together_157 : (am_pg z_M_together).2 157 = some (.istore 6, 159, 6, 0, 0, 0, 0, []) := (congrFun pm_M_together 157).trans rfl
theorem rl_M_together_159 : (am_pg z_M_together).2 159 = some (.iinc 7 (1), 162, 7, 0, 0, 0, 1, []) := (congrFun pm_M_together 159).trans rfl
theorem rl_M_together_162 : (am_pg z_M_together).2 162 = some (.goto (-113), 165, 49, 0, 0, 0, 0, []) := (congrFun pm_M_together 162).trans rfl
theorem rl_M_together_165 : (am_pg z_M_together).2 165 = some (.iload_n 2, 166, 2, 0, 0, 0, 0, []) := (congrFun pm_M_together 165).trans rfl
theorem rl_M_together_166 : (am_pg z_M_together).2 166 = some (.ifCond .ne (7), 169, 173, 0, 0, 0, 0, []) := (congrFun pm_M_together 166).trans rfl
theorem rl_M_together_169 : (am_pg z_M_together).2 169 = some (.iload_n 3, 170, 3, 0, 0, 0, 0, []) := (congrFun pm_M_together 169).trans rfl
theorem rl_M_together_170 : (am_pg z_M_together).2 170 = some (.goto (28), 173, 198, 0, 0, 0, 0, []) := (congrFun pm_M_together 170).trans rfl
theorem rl_M_together_173 : (am_pg z_M_together).2 173 = some (.iload_n 2, 174, 2, 0, 0, 0, 0, []) := (congrFun pm_M_together 173).trans rfl
theorem rl_M_together_174 : (am_pg z_M_together).2 174 = some (.iconst (1), 175, 0, 0, 0, 0, 1, []) := (congrFun pm_M_together 174).trans rfl
theorem rl_M_together_175 : (am_pg z_M_together).2 175 = some (.if_icmp .ne (8), 178, 183, 0, 0, 0, 0, []) := (congrFun pm_M_together 175).trans rfl
theorem rl_M_together_178 : (am_pg z_M_together).2 178 = some (.iload 4, 180, 4, 0, 0, 0, 0, []) := (congrFun pm_M_together 178).trans rfl
theorem rl_M_together_180 : (am_pg z_M_together).2 180 = some (.goto (18), 183, 198, 0, 0, 0, 0, []) := (congrFun pm_M_together 180).trans rfl
theorem rl_M_together_183 : (am_pg z_M_together).2 183 = some (.iload_n 2, 184, 2, 0, 0, 0, 0, []) := (congrFun pm_M_together 183).trans rfl
theorem rl_M_together_184 : (am_pg z_M_together).2 184 = some (.iconst (2), 185, 0, 0, 0, 0, 2, []) := (congrFun pm_M_together 184).trans rfl
theorem rl_M_together_185 : (am_pg z_M_together).2 185 = some (.if_icmp .ne (8), 188, 193, 0, 0, 0, 0, []) := (congrFun pm_M_together 185).trans rfl
theorem rl_M_together_188 : (am_pg z_M_together).2 188 = some (.iload 6, 190, 6, 0, 0, 0, 0, []) := (congrFun pm_M_together 188).trans rfl
theorem rl_M_together_190 : (am_pg z_M_together).2 190 = some (.goto (8), 193, 198, 0, 0, 0, 0, []) := (congrFun pm_M_together 190).trans rfl
theorem rl_M_together_193 : (am_pg z_M_together).2 193 = some (.sipush (360), 196, 0, 0, 0, 0, 360, []) := (congrFun pm_M_together 193).trans rfl
theorem rl_M_together_196 : (am_pg z_M_together).2 196 = some (.iload_n 3, 197, 3, 0, 0, 0, 0, []) := (congrFun pm_M_together 196).trans rfl
theorem rl_M_together_197 : (am_pg z_M_together).2 197 = some (.isub, 198, 0, 0, 0, 0, 0, []) := (congrFun pm_M_together 197).trans rfl
theorem rl_M_together_198 : (am_pg z_M_together).2 198 = some (.ireturn, 199, 0, 0, 0, 0, 0, []) := (congrFun pm_M_together 198).trans rfl
theorem rl_M_countAt_0 : (am_pg z_M_countAt).2 0 = some (.bipush (18), 2, 0, 0, 0, 0, 18, []) := (congrFun pm_M_countAt 0).trans rfl
theorem rl_M_countAt_2 : (am_pg z_M_countAt).2 2 = some (.iload_n 0, 3, 0, 0, 0, 0, 0, []) := (congrFun pm_M_countAt 2).trans rfl
theorem rl_M_countAt_3 : (am_pg z_M_countAt).2 3 = some (.imul, 4, 0, 0, 0, 0, 0, []) := (congrFun pm_M_countAt 3).trans rfl
theorem rl_M_countAt_4 : (am_pg z_M_countAt).2 4 = some (.iconst (3), 5, 0, 0, 0, 0, 3, []) := (congrFun pm_M_countAt 4).trans rfl
theorem rl_M_countAt_5 : (am_pg z_M_countAt).2 5 = some (.iload_n 1, 6, 1, 0, 0, 0, 0, []) := (congrFun pm_M_countAt 5).trans rfl
theorem rl_M_countAt_6 : (am_pg z_M_countAt).2 6 = some (.imul, 7, 0, 0, 0, 0, 0, []) := (congrFun pm_M_countAt 6).trans rfl
theorem rl_M_countAt_7 : (am_pg z_M_countAt).2 7 = some (.iadd, 8, 0, 0, 0, 0, 0, []) := (congrFun pm_M_countAt 7).trans rfl
theorem rl_M_countAt_8 : (am_pg z_M_countAt).2 8 = some (.iload_n 2, 9, 2, 0, 0, 0, 0, []) := (congrFun pm_M_countAt 8).trans rfl
theorem rl_M_countAt_9 : (am_pg z_M_countAt).2 9 = some (.iadd, 10, 0, 0, 0, 0, 0, []) := (congrFun pm_M_countAt 9).trans rfl
theorem rl_M_countAt_10 : (am_pg z_M_countAt).2 10 = some (.ireturn, 11, 0, 0, 0, 0, 0, []) := (congrFun pm_M_countAt 10).trans rfl
theorem rl_M_counted_0 : (am_pg z_M_counted).2 0 = some (.aload_n 0, 1, 0, 0, 0, 0, 0, []) := (congrFun pm_M_counted 0).trans rfl
theorem rl_M_counted_1 : (am_pg z_M_counted).2 1 = some (.getfield 41, 4, 9, 20, 0, 96, 0, []) := (congrFun pm_M_counted 1).trans rfl
theorem rl_M_counted_4 : (am_pg z_M_counted).2 4 = some (.iload_n 1, 5, 1, 0, 0, 0, 0, []) := (congrFun pm_M_counted 4).trans rfl
theorem rl_M_counted_5 : (am_pg z_M_counted).2 5 = some (.iload_n 2, 6, 2, 0, 0, 0, 0, []) := (congrFun pm_M_counted 5).trans rfl
theorem rl_M_counted_6 : (am_pg z_M_counted).2 6 = some (.iload_n 3, 7, 3, 0, 0, 0, 0, []) := (congrFun pm_M_counted 6).trans rfl
theorem rl_M_counted_7 : (am_pg z_M_counted).2 7 = some (.invokestatic 253, 10, 153, 3, 0, 267, 0, []) := (congrFun pm_M_counted 7).trans rfl
theorem rl_M_counted_10 : (am_pg z_M_counted).2 10 = some (.iaload, 11, 0, 0, 0, 0, 0, []) := (congrFun pm_M_counted 10).trans rfl
theorem rl_M_counted_11 : (am_pg z_M_counted).2 11 = some (.ireturn, 12, 0, 0, 0, 0, 0, []) := (congrFun pm_M_counted 11).trans rfl
theorem rl_M_laysCounts_0 : (am_pg z_M_laysCounts).2 0 = some (.iconst (0), 1, 0, 0, 0, 0, 0, []) := (congrFun pm_M_laysCounts 0).trans rfl
theorem rl_M_laysCounts_1 : (am_pg z_M_laysCounts).2 1 = some (.istore_n 1, 2, 1, 0, 0, 0, 0, []) := (congrFun pm_M_laysCounts 1).trans rfl
theorem rl_M_laysCounts_2 : (am_pg z_M_laysCounts).2 2 = some (.iload_n 1, 3, 1, 0, 0, 0, 0, []) := (congrFun pm_M_laysCounts 2).trans rfl
theorem rl_M_laysCounts_3 : (am_pg z_M_laysCounts).2 3 = some (.bipush (6), 5, 0, 0, 0, 0, 6, []) := (congrFun pm_M_laysCounts 3).trans rfl
theorem rl_M_laysCounts_5 : (am_pg z_M_laysCounts).2 5 = some (.if_icmp .ge (53), 8, 58, 0, 0, 0, 0, []) := (congrFun pm_M_laysCounts 5).trans rfl
theorem rl_M_laysCounts_8 : (am_pg z_M_laysCounts).2 8 = some (.iconst (0), 9, 0, 0, 0, 0, 0, []) := (congrFun pm_M_laysCounts 8).trans rfl
theorem rl_M_laysCounts_9 : (am_pg z_M_laysCounts).2 9 = some (.istore_n 2, 10, 2, 0, 0, 0, 0, []) := (congrFun pm_M_laysCounts 9).trans rfl
theorem rl_M_laysCounts_10 : (am_pg z_M_laysCounts).2 10 = some (.iload_n 2, 11, 2, 0, 0, 0, 0, []) := (congrFun pm_M_laysCounts 10).trans rfl
theorem rl_M_laysCounts_11 : (am_pg z_M_laysCounts).2 11 = some (.iconst (3), 12, 0, 0, 0, 0, 3, []) := (congrFun pm_M_laysCounts 11).trans rfl
theorem rl_M_laysCounts_12 : (am_pg z_M_laysCounts).2 12 = some (.if_icmp .ge (40), 15, 52, 0, 0, 0, 0, []) := (congrFun pm_M_laysCounts 12).trans rfl
theorem rl_M_laysCounts_15 : (am_pg z_M_laysCounts).2 15 = some (.iconst (0), 16, 0, 0, 0, 0, 0, []) := (congrFun pm_M_laysCounts 15).trans rfl
theorem rl_M_laysCounts_16 : (am_pg z_M_laysCounts).2 16 = some (.istore_n 3, 17, 3, 0, 0, 0, 0, []) := (congrFun pm_M_laysCounts 16).trans rfl
theorem rl_M_laysCounts_17 : (am_pg z_M_laysCounts).2 17 = some (.iload_n 3, 18, 3, 0, 0, 0, 0, []) := (congrFun pm_M_laysCounts 17).trans rfl
theorem rl_M_laysCounts_18 : (am_pg z_M_laysCounts).2 18 = some (.iconst (3), 19, 0, 0, 0, 0, 3, []) := (congrFun pm_M_laysCounts 18).trans rfl
theorem rl_M_laysCounts_19 : (am_pg z_M_laysCounts).2 19 = some (.if_icmp .ge (27), 22, 46, 0, 0, 0, 0, []) := (congrFun pm_M_laysCounts 19).trans rfl
theorem rl_M_laysCounts_22 : (am_pg z_M_laysCounts).2 22 = some (.aload_n 0, 23, 0, 0, 0, 0, 0, []) := (congrFun pm_M_laysCounts 22).trans rfl
theorem rl_M_laysCounts_23 : (am_pg z_M_laysCounts).2 23 = some (.getfield 41, 26, 9, 20, 0, 96, 0, []) := (congrFun pm_M_laysCounts 23).trans rfl
theorem rl_M_laysCounts_26 : (am_pg z_M_laysCounts).2 26 = some (.iload_n 3, 27, 3, 0, 0, 0, 0, []) := (congrFun pm_M_laysCounts 26).trans rfl
theorem rl_M_laysCounts_27 : (am_pg z_M_laysCounts).2 27 = some (.iload_n 1, 28, 1, 0, 0, 0, 0, []) := (congrFun pm_M_laysCounts 27).trans rfl
theorem rl_M_laysCounts_28 : (am_pg z_M_laysCounts).2 28 = some (.iload_n 2, 29, 2, 0, 0, 0, 0, []) := (congrFun pm_M_laysCounts 28).trans rfl
theorem rl_M_laysCounts_29 : (am_pg z_M_laysCounts).2 29 = some (.invokestatic 253, 32, 153, 3, 0, 267, 0, []) := (congrFun pm_M_laysCounts 29).trans rfl
theorem rl_M_laysCounts_32 : (am_pg z_M_laysCounts).2 32 = some (.aload_n 0, 33, 0, 0, 0, 0, 0, []) := (congrFun pm_M_laysCounts 32).trans rfl
theorem rl_M_laysCounts_33 : (am_pg z_M_laysCounts).2 33 = some (.iload_n 1, 34, 1, 0, 0, 0, 0, []) := (congrFun pm_M_laysCounts 33).trans rfl
theorem rl_M_laysCounts_34 : (am_pg z_M_laysCounts).2 34 = some (.iload_n 2, 35, 2, 0, 0, 0, 0, []) := (congrFun pm_M_laysCounts 34).trans rfl
theorem rl_M_laysCounts_35 : (am_pg z_M_laysCounts).2 35 = some (.iload_n 3, 36, 3, 0, 0, 0, 0, []) := (congrFun pm_M_laysCounts 35).trans rfl
theorem rl_M_laysCounts_36 : (am_pg z_M_laysCounts).2 36 = some (.invokevirtual 210, 39, 132, 3, 9, 252, 0, []) := (congrFun pm_M_laysCounts 36).trans rfl
theorem rl_M_laysCounts_39 : (am_pg z_M_laysCounts).2 39 = some (.iastore, 40, 0, 0, 0, 0, 0, []) := (congrFun pm_M_laysCounts 39).trans rfl
theorem rl_M_laysCounts_40 : (am_pg z_M_laysCounts).2 40 = some (.iinc 3 (1), 43, 3, 0, 0, 0, 1, []) := (congrFun pm_M_laysCounts 40).trans rfl
theorem rl_M_laysCounts_43 : (am_pg z_M_laysCounts).2 43 = some (.goto (-26), 46, 17, 0, 0, 0, 0, []) := (congrFun pm_M_laysCounts 43).trans rfl
theorem rl_M_laysCounts_46 : (am_pg z_M_laysCounts).2 46 = some (.iinc 2 (1), 49, 2, 0, 0, 0, 1, []) := (congrFun pm_M_laysCounts 46).trans rfl
theorem rl_M_laysCounts_49 : (am_pg z_M_laysCounts).2 49 = some (.goto (-39), 52, 10, 0, 0, 0, 0, []) := (congrFun pm_M_laysCounts 49).trans rfl
theorem rl_M_laysCounts_52 : (am_pg z_M_laysCounts).2 52 = some (.iinc 1 (1), 55, 1, 0, 0, 0, 1, []) := (congrFun pm_M_laysCounts 52).trans rfl
theorem rl_M_laysCounts_55 : (am_pg z_M_laysCounts).2 55 = some (.goto (-53), 58, 2, 0, 0, 0, 0, []) := (congrFun pm_M_laysCounts 55).trans rfl
theorem rl_M_laysCounts_58 : (am_pg z_M_laysCounts).2 58 = some (.return_, 59, 0, 0, 0, 0, 0, []) := (congrFun pm_M_laysCounts 58).trans rfl
theorem rl_M_adds_0 : (am_pg z_M_adds).2 0 = some (.iload_n 1, 1, 1, 0, 0, 0, 0, []) := (congrFun pm_M_adds 0).trans rfl
theorem rl_M_adds_1 : (am_pg z_M_adds).2 1 = some (.iconst (-1), 2, 0, 0, 0, 0, -1, []) := (congrFun pm_M_adds 1).trans rfl
theorem rl_M_adds_2 : (am_pg z_M_adds).2 2 = some (.if_icmp .eq (27), 5, 29, 0, 0, 0, 0, []) := (congrFun pm_M_adds 2).trans rfl
theorem rl_M_adds_5 : (am_pg z_M_adds).2 5 = some (.aload_n 0, 6, 0, 0, 0, 0, 0, []) := (congrFun pm_M_adds 5).trans rfl
theorem rl_M_adds_6 : (am_pg z_M_adds).2 6 = some (.getfield 41, 9, 9, 20, 0, 96, 0, []) := (congrFun pm_M_adds 6).trans rfl
theorem rl_M_adds_9 : (am_pg z_M_adds).2 9 = some (.iconst (0), 10, 0, 0, 0, 0, 0, []) := (congrFun pm_M_adds 9).trans rfl
theorem rl_M_adds_10 : (am_pg z_M_adds).2 10 = some (.iload_n 1, 11, 1, 0, 0, 0, 0, []) := (congrFun pm_M_adds 10).trans rfl
theorem rl_M_adds_11 : (am_pg z_M_adds).2 11 = some (.iload_n 2, 12, 2, 0, 0, 0, 0, []) := (congrFun pm_M_adds 11).trans rfl
theorem rl_M_adds_12 : (am_pg z_M_adds).2 12 = some (.invokestatic 253, 15, 153, 3, 0, 267, 0, []) := (congrFun pm_M_adds 12).trans rfl
theorem rl_M_adds_15 : (am_pg z_M_adds).2 15 = some (.aload_n 0, 16, 0, 0, 0, 0, 0, []) := (congrFun pm_M_adds 15).trans rfl
theorem rl_M_adds_16 : (am_pg z_M_adds).2 16 = some (.getfield 41, 19, 9, 20, 0, 96, 0, []) := (congrFun pm_M_adds 16).trans rfl
theorem rl_M_adds_19 : (am_pg z_M_adds).2 19 = some (.iconst (0), 20, 0, 0, 0, 0, 0, []) := (congrFun pm_M_adds 19).trans rfl
theorem rl_M_adds_20 : (am_pg z_M_adds).2 20 = some (.iload_n 1, 21, 1, 0, 0, 0, 0, []) := (congrFun pm_M_adds 20).trans rfl
theorem rl_M_adds_21 : (am_pg z_M_adds).2 21 = some (.iload_n 2, 22, 2, 0, 0, 0, 0, []) := (congrFun pm_M_adds 21).trans rfl
theorem rl_M_adds_22 : (am_pg z_M_adds).2 22 = some (.invokestatic 253, 25, 153, 3, 0, 267, 0, []) := (congrFun pm_M_adds 22).trans rfl
theorem rl_M_adds_25 : (am_pg z_M_adds).2 25 = some (.iaload, 26, 0, 0, 0, 0, 0, []) := (congrFun pm_M_adds 25).trans rfl
theorem rl_M_adds_26 : (am_pg z_M_adds).2 26 = some (.iload_n 3, 27, 3, 0, 0, 0, 0, []) := (congrFun pm_M_adds 26).trans rfl
theorem rl_M_adds_27 : (am_pg z_M_adds).2 27 = some (.iadd, 28, 0, 0, 0, 0, 0, []) := (congrFun pm_M_adds 27).trans rfl
theorem rl_M_adds_28 : (am_pg z_M_adds).2 28 = some (.iastore, 29, 0, 0, 0, 0, 0, []) := (congrFun pm_M_adds 28).trans rfl
theorem rl_M_adds_29 : (am_pg z_M_adds).2 29 = some (.return_, 30, 0, 0, 0, 0, 0, []) := (congrFun pm_M_adds 29).trans rfl
theorem rl_M_sixfold_0 : (am_pg z_M_sixfold).2 0 = some (.bipush (6), 2, 0, 0, 0, 0, 6, []) := (congrFun pm_M_sixfold 0).trans rfl
theorem rl_M_sixfold_2 : (am_pg z_M_sixfold).2 2 = some (.aload_n 0, 3, 0, 0, 0, 0, 0, []) := (congrFun pm_M_sixfold 2).trans rfl
theorem rl_M_sixfold_3 : (am_pg z_M_sixfold).2 3 = some (.iconst (0), 4, 0, 0, 0, 0, 0, []) := (congrFun pm_M_sixfold 3).trans rfl
theorem rl_M_sixfold_4 : (am_pg z_M_sixfold).2 4 = some (.iload_n 1, 5, 1, 0, 0, 0, 0, []) := (congrFun pm_M_sixfold 4).trans rfl
theorem rl_M_sixfold_5 : (am_pg z_M_sixfold).2 5 = some (.iload_n 2, 6, 2, 0, 0, 0, 0, []) := (congrFun pm_M_sixfold 5).trans rfl
