theorem rl_M_sixfold_6 : (am_pg z_M_sixfold).2 6 = some (.invokevirtual 238, 9, 154, 3, 9, 268, 0, []) := (congrFun pm_M_sixfold 6).trans rfl
theorem rl_M_sixfold_9 : (am_pg z_M_sixfold).2 9 = some (.imul, 10, 0, 0, 0, 0, 0, []) := (congrFun pm_M_sixfold 9).trans rfl
theorem rl_M_sixfold_10 : (am_pg z_M_sixfold).2 10 = some (.istore_n 3, 11, 3, 0, 0, 0, 0, []) := (congrFun pm_M_sixfold 10).trans rfl
theorem rl_M_sixfold_11 : (am_pg z_M_sixfold).2 11 = some (.iload_n 2, 12, 2, 0, 0, 0, 0, []) := (congrFun pm_M_sixfold 11).trans rfl
theorem rl_M_sixfold_12 : (am_pg z_M_sixfold).2 12 = some (.ifCond .le (17), 15, 29, 0, 0, 0, 0, []) := (congrFun pm_M_sixfold 12).trans rfl
theorem rl_M_sixfold_15 : (am_pg z_M_sixfold).2 15 = some (.iload_n 3, 16, 3, 0, 0, 0, 0, []) := (congrFun pm_M_sixfold 15).trans rfl
theorem rl_M_sixfold_16 : (am_pg z_M_sixfold).2 16 = some (.iconst (2), 17, 0, 0, 0, 0, 2, []) := (congrFun pm_M_sixfold 16).trans rfl
theorem rl_M_sixfold_17 : (am_pg z_M_sixfold).2 17 = some (.aload_n 0, 18, 0, 0, 0, 0, 0, []) := (congrFun pm_M_sixfold 17).trans rfl
theorem rl_M_sixfold_18 : (am_pg z_M_sixfold).2 18 = some (.iconst (0), 19, 0, 0, 0, 0, 0, []) := (congrFun pm_M_sixfold 18).trans rfl
theorem rl_M_sixfold_19 : (am_pg z_M_sixfold).2 19 = some (.iload_n 1, 20, 1, 0, 0, 0, 0, []) := (congrFun pm_M_sixfold 19).trans rfl
theorem rl_M_sixfold_20 : (am_pg z_M_sixfold).2 20 = some (.iload_n 2, 21, 2, 0, 0, 0, 0, []) := (congrFun pm_M_sixfold 20).trans rfl
theorem rl_M_sixfold_21 : (am_pg z_M_sixfold).2 21 = some (.iconst (1), 22, 0, 0, 0, 0, 1, []) := (congrFun pm_M_sixfold 21).trans rfl
theorem rl_M_sixfold_22 : (am_pg z_M_sixfold).2 22 = some (.isub, 23, 0, 0, 0, 0, 0, []) := (congrFun pm_M_sixfold 22).trans rfl
theorem rl_M_sixfold_23 : (am_pg z_M_sixfold).2 23 = some (.invokevirtual 238, 26, 154, 3, 9, 268, 0, []) := (congrFun pm_M_sixfold 23).trans rfl
theorem rl_M_sixfold_26 : (am_pg z_M_sixfold).2 26 = some (.imul, 27, 0, 0, 0, 0, 0, []) := (congrFun pm_M_sixfold 26).trans rfl
theorem rl_M_sixfold_27 : (am_pg z_M_sixfold).2 27 = some (.iadd, 28, 0, 0, 0, 0, 0, []) := (congrFun pm_M_sixfold 27).trans rfl
theorem rl_M_sixfold_28 : (am_pg z_M_sixfold).2 28 = some (.istore_n 3, 29, 3, 0, 0, 0, 0, []) := (congrFun pm_M_sixfold 28).trans rfl
theorem rl_M_sixfold_29 : (am_pg z_M_sixfold).2 29 = some (.iload_n 2, 30, 2, 0, 0, 0, 0, []) := (congrFun pm_M_sixfold 29).trans rfl
theorem rl_M_sixfold_30 : (am_pg z_M_sixfold).2 30 = some (.iconst (1), 31, 0, 0, 0, 0, 1, []) := (congrFun pm_M_sixfold 30).trans rfl
theorem rl_M_sixfold_31 : (am_pg z_M_sixfold).2 31 = some (.if_icmp .le (17), 34, 48, 0, 0, 0, 0, []) := (congrFun pm_M_sixfold 31).trans rfl
theorem rl_M_sixfold_34 : (am_pg z_M_sixfold).2 34 = some (.iload_n 3, 35, 3, 0, 0, 0, 0, []) := (congrFun pm_M_sixfold 34).trans rfl
theorem rl_M_sixfold_35 : (am_pg z_M_sixfold).2 35 = some (.aload_n 0, 36, 0, 0, 0, 0, 0, []) := (congrFun pm_M_sixfold 35).trans rfl
theorem rl_M_sixfold_36 : (am_pg z_M_sixfold).2 36 = some (.iconst (0), 37, 0, 0, 0, 0, 0, []) := (congrFun pm_M_sixfold 36).trans rfl
theorem rl_M_sixfold_37 : (am_pg z_M_sixfold).2 37 = some (.iload_n 1, 38, 1, 0, 0, 0, 0, []) := (congrFun pm_M_sixfold 37).trans rfl
theorem rl_M_sixfold_38 : (am_pg z_M_sixfold).2 38 = some (.iload_n 2, 39, 2, 0, 0, 0, 0, []) := (congrFun pm_M_sixfold 38).trans rfl
theorem rl_M_sixfold_39 : (am_pg z_M_sixfold).2 39 = some (.iconst (2), 40, 0, 0, 0, 0, 2, []) := (congrFun pm_M_sixfold 39).trans rfl
theorem rl_M_sixfold_40 : (am_pg z_M_sixfold).2 40 = some (.isub, 41, 0, 0, 0, 0, 0, []) := (congrFun pm_M_sixfold 40).trans rfl
theorem rl_M_sixfold_41 : (am_pg z_M_sixfold).2 41 = some (.invokevirtual 238, 44, 154, 3, 9, 268, 0, []) := (congrFun pm_M_sixfold 41).trans rfl
theorem rl_M_sixfold_44 : (am_pg z_M_sixfold).2 44 = some (.iadd, 45, 0, 0, 0, 0, 0, []) := (congrFun pm_M_sixfold 44).trans rfl
theorem rl_M_sixfold_45 : (am_pg z_M_sixfold).2 45 = some (.goto (4), 48, 49, 0, 0, 0, 0, []) := (congrFun pm_M_sixfold 45).trans rfl
theorem rl_M_sixfold_48 : (am_pg z_M_sixfold).2 48 = some (.iload_n 3, 49, 3, 0, 0, 0, 0, []) := (congrFun pm_M_sixfold 48).trans rfl
theorem rl_M_sixfold_49 : (am_pg z_M_sixfold).2 49 = some (.ireturn, 50, 0, 0, 0, 0, 0, []) := (congrFun pm_M_sixfold 49).trans rfl
theorem rl_M_mostBy_0 : (am_pg z_M_mostBy).2 0 = some (.aload_n 0, 1, 0, 0, 0, 0, 0, []) := (congrFun pm_M_mostBy 0).trans rfl
theorem rl_M_mostBy_1 : (am_pg z_M_mostBy).2 1 = some (.iconst (0), 2, 0, 0, 0, 0, 0, []) := (congrFun pm_M_mostBy 1).trans rfl
theorem rl_M_mostBy_2 : (am_pg z_M_mostBy).2 2 = some (.iload_n 1, 3, 1, 0, 0, 0, 0, []) := (congrFun pm_M_mostBy 2).trans rfl
theorem rl_M_mostBy_3 : (am_pg z_M_mostBy).2 3 = some (.iload_n 3, 4, 3, 0, 0, 0, 0, []) := (congrFun pm_M_mostBy 3).trans rfl
theorem rl_M_mostBy_4 : (am_pg z_M_mostBy).2 4 = some (.invokevirtual 238, 7, 154, 3, 9, 268, 0, []) := (congrFun pm_M_mostBy 4).trans rfl
theorem rl_M_mostBy_7 : (am_pg z_M_mostBy).2 7 = some (.istore 4, 9, 4, 0, 0, 0, 0, []) := (congrFun pm_M_mostBy 7).trans rfl
theorem rl_M_mostBy_9 : (am_pg z_M_mostBy).2 9 = some (.iload_n 2, 10, 2, 0, 0, 0, 0, []) := (congrFun pm_M_mostBy 9).trans rfl
theorem rl_M_mostBy_10 : (am_pg z_M_mostBy).2 10 = some (.ifCond .ne (6), 13, 16, 0, 0, 0, 0, []) := (congrFun pm_M_mostBy 10).trans rfl
theorem rl_M_mostBy_13 : (am_pg z_M_mostBy).2 13 = some (.iload 4, 15, 4, 0, 0, 0, 0, []) := (congrFun pm_M_mostBy 13).trans rfl
theorem rl_M_mostBy_15 : (am_pg z_M_mostBy).2 15 = some (.ireturn, 16, 0, 0, 0, 0, 0, []) := (congrFun pm_M_mostBy 15).trans rfl
theorem rl_M_mostBy_16 : (am_pg z_M_mostBy).2 16 = some (.iload_n 2, 17, 2, 0, 0, 0, 0, []) := (congrFun pm_M_mostBy 16).trans rfl
theorem rl_M_mostBy_17 : (am_pg z_M_mostBy).2 17 = some (.iconst (1), 18, 0, 0, 0, 0, 1, []) := (congrFun pm_M_mostBy 17).trans rfl
theorem rl_M_mostBy_18 : (am_pg z_M_mostBy).2 18 = some (.if_icmp .ne (30), 21, 48, 0, 0, 0, 0, []) := (congrFun pm_M_mostBy 18).trans rfl
theorem rl_M_mostBy_21 : (am_pg z_M_mostBy).2 21 = some (.iload 4, 23, 4, 0, 0, 0, 0, []) := (congrFun pm_M_mostBy 21).trans rfl
theorem rl_M_mostBy_23 : (am_pg z_M_mostBy).2 23 = some (.bipush (31), 25, 0, 0, 0, 0, 31, []) := (congrFun pm_M_mostBy 23).trans rfl
theorem rl_M_mostBy_25 : (am_pg z_M_mostBy).2 25 = some (.if_icmp .ge (7), 28, 32, 0, 0, 0, 0, []) := (congrFun pm_M_mostBy 25).trans rfl
theorem rl_M_mostBy_28 : (am_pg z_M_mostBy).2 28 = some (.iconst (0), 29, 0, 0, 0, 0, 0, []) := (congrFun pm_M_mostBy 28).trans rfl
theorem rl_M_mostBy_29 : (am_pg z_M_mostBy).2 29 = some (.goto (18), 32, 47, 0, 0, 0, 0, []) := (congrFun pm_M_mostBy 29).trans rfl
theorem rl_M_mostBy_32 : (am_pg z_M_mostBy).2 32 = some (.sipush (360), 35, 0, 0, 0, 0, 360, []) := (congrFun pm_M_mostBy 32).trans rfl
theorem rl_M_mostBy_35 : (am_pg z_M_mostBy).2 35 = some (.aload_n 0, 36, 0, 0, 0, 0, 0, []) := (congrFun pm_M_mostBy 35).trans rfl
theorem rl_M_mostBy_36 : (am_pg z_M_mostBy).2 36 = some (.iload_n 1, 37, 1, 0, 0, 0, 0, []) := (congrFun pm_M_mostBy 36).trans rfl
theorem rl_M_mostBy_37 : (am_pg z_M_mostBy).2 37 = some (.iload_n 3, 38, 3, 0, 0, 0, 0, []) := (congrFun pm_M_mostBy 37).trans rfl
theorem rl_M_mostBy_38 : (am_pg z_M_mostBy).2 38 = some (.invokevirtual 256, 41, 157, 2, 9, 276, 0, []) := (congrFun pm_M_mostBy 38).trans rfl
theorem rl_M_mostBy_41 : (am_pg z_M_mostBy).2 41 = some (.bipush (6), 43, 0, 0, 0, 0, 6, []) := (congrFun pm_M_mostBy 41).trans rfl
theorem rl_M_mostBy_43 : (am_pg z_M_mostBy).2 43 = some (.idiv, 44, 0, 0, 0, 0, 0, []) := (congrFun pm_M_mostBy 43).trans rfl
theorem rl_M_mostBy_44 : (am_pg z_M_mostBy).2 44 = some (.invokestatic 162, 47, 91, 2, 0, 229, 0, []) := (congrFun pm_M_mostBy 44).trans rfl
theorem rl_M_mostBy_47 : (am_pg z_M_mostBy).2 47 = some (.ireturn, 48, 0, 0, 0, 0, 0, []) := (congrFun pm_M_mostBy 47).trans rfl
theorem rl_M_mostBy_48 : (am_pg z_M_mostBy).2 48 = some (.iload 4, 50, 4, 0, 0, 0, 0, []) := (congrFun pm_M_mostBy 48).trans rfl
theorem rl_M_mostBy_50 : (am_pg z_M_mostBy).2 50 = some (.iconst (1), 51, 0, 0, 0, 0, 1, []) := (congrFun pm_M_mostBy 50).trans rfl
theorem rl_M_mostBy_51 : (am_pg z_M_mostBy).2 51 = some (.if_icmp .ge (7), 54, 58, 0, 0, 0, 0, []) := (congrFun pm_M_mostBy 51).trans rfl
theorem rl_M_mostBy_54 : (am_pg z_M_mostBy).2 54 = some (.iconst (0), 55, 0, 0, 0, 0, 0, []) := (congrFun pm_M_mostBy 54).trans rfl
theorem rl_M_mostBy_55 : (am_pg z_M_mostBy).2 55 = some (.goto (10), 58, 65, 0, 0, 0, 0, []) := (congrFun pm_M_mostBy 55).trans rfl
theorem rl_M_mostBy_58 : (am_pg z_M_mostBy).2 58 = some (.aload_n 0, 59, 0, 0, 0, 0, 0, []) := (congrFun pm_M_mostBy 58).trans rfl
theorem rl_M_mostBy_59 : (am_pg z_M_mostBy).2 59 = some (.iconst (1), 60, 0, 0, 0, 0, 1, []) := (congrFun pm_M_mostBy 59).trans rfl
theorem rl_M_mostBy_60 : (am_pg z_M_mostBy).2 60 = some (.iload_n 1, 61, 1, 0, 0, 0, 0, []) := (congrFun pm_M_mostBy 60).trans rfl
theorem rl_M_mostBy_61 : (am_pg z_M_mostBy).2 61 = some (.iload_n 3, 62, 3, 0, 0, 0, 0, []) := (congrFun pm_M_mostBy 61).trans rfl
theorem rl_M_mostBy_62 : (am_pg z_M_mostBy).2 62 = some (.invokevirtual 238, 65, 154, 3, 9, 268, 0, []) := (congrFun pm_M_mostBy 62).trans rfl
theorem rl_M_mostBy_65 : (am_pg z_M_mostBy).2 65 = some (.ireturn, 66, 0, 0, 0, 0, 0, []) := (congrFun pm_M_mostBy 65).trans rfl
theorem rl_M_most_0 : (am_pg z_M_most).2 0 = some (.iload_n 1, 1, 1, 0, 0, 0, 0, []) := (congrFun pm_M_most 0).trans rfl
theorem rl_M_most_1 : (am_pg z_M_most).2 1 = some (.invokestatic 143, 4, 85, 1, 0, 223, 0, []) := (congrFun pm_M_most 1).trans rfl
theorem rl_M_most_4 : (am_pg z_M_most).2 4 = some (.ifCond .eq (22), 7, 26, 0, 0, 0, 0, []) := (congrFun pm_M_most 4).trans rfl
theorem rl_M_most_7 : (am_pg z_M_most).2 7 = some (.iload_n 2, 8, 2, 0, 0, 0, 0, []) := (congrFun pm_M_most 7).trans rfl
theorem rl_M_most_8 : (am_pg z_M_most).2 8 = some (.i2l, 9, 0, 0, 0, 0, 0, []) := (congrFun pm_M_most 8).trans rfl
theorem rl_M_most_9 : (am_pg z_M_most).2 9 = some (.lconst 0, 10, 0, 0, 0, 0, 0, []) := (congrFun pm_M_most 9).trans rfl
theorem rl_M_most_10 : (am_pg z_M_most).2 10 = some (.ldc2_w 78, 13, 0, 0, 0, 10, 2, []) := (congrFun pm_M_most 10).trans rfl
theorem rl_M_most_13 : (am_pg z_M_most).2 13 = some (.invokestatic 66, 16, 84, 3, 0, 210, 0, []) := (congrFun pm_M_most 13).trans rfl
theorem rl_M_most_16 : (am_pg z_M_most).2 16 = some (.ifCond .eq (10), 19, 26, 0, 0, 0, 0, []) := (congrFun pm_M_most 16).trans rfl
theorem rl_M_most_19 : (am_pg z_M_most).2 19 = some (.iload_n 3, 20, 3, 0, 0, 0, 0, []) := (congrFun pm_M_most 19).trans rfl
theorem rl_M_most_20 : (am_pg z_M_most).2 20 = some (.invokestatic 194, 23, 89, 1, 0, 243, 0, []) := (congrFun pm_M_most 20).trans rfl
theorem rl_M_most_23 : (am_pg z_M_most).2 23 = some (.ifCond .ne (5), 26, 28, 0, 0, 0, 0, []) := (congrFun pm_M_most 23).trans rfl
theorem rl_M_most_26 : (am_pg z_M_most).2 26 = some (.iconst (-1), 27, 0, 0, 0, 0, -1, []) := (congrFun pm_M_most 26).trans rfl
theorem rl_M_most_27 : (am_pg z_M_most).2 27 = some (.ireturn, 28, 0, 0, 0, 0, 0, []) := (congrFun pm_M_most 27).trans rfl
theorem rl_M_most_28 : (am_pg z_M_most).2 28 = some (.aload_n 0, 29, 0, 0, 0, 0, 0, []) := (congrFun pm_M_most 28).trans rfl
theorem rl_M_most_29 : (am_pg z_M_most).2 29 = some (.invokevirtual 235, 32, 155, 0, 9, 266, 0, []) := (congrFun pm_M_most 29).trans rfl
theorem rl_M_most_32 : (am_pg z_M_most).2 32 = some (.aload_n 0, 33, 0, 0, 0, 0, 0, []) := (congrFun pm_M_most 32).trans rfl
theorem rl_M_most_33 : (am_pg z_M_most).2 33 = some (.iload_n 1, 34, 1, 0, 0, 0, 0, []) := (congrFun pm_M_most 33).trans rfl
theorem rl_M_most_34 : (am_pg z_M_most).2 34 = some (.iload_n 2, 35, 2, 0, 0, 0, 0, []) := (congrFun pm_M_most 34).trans rfl
theorem rl_M_most_35 : (am_pg z_M_most).2 35 = some (.iload_n 3, 36, 3, 0, 0, 0, 0, []) := (congrFun pm_M_most 35).trans rfl
theorem rl_M_most_36 : (am_pg z_M_most).2 36 = some (.invokevirtual 259, 39, 158, 3, 9, 275, 0, []) := (congrFun pm_M_most 36).trans rfl
theorem rl_M_most_39 : (am_pg z_M_most).2 39 = some (.ireturn, 40, 0, 0, 0, 0, 0, []) := (congrFun pm_M_most 39).trans rfl
theorem rl_M_holding_0 : (am_pg z_M_holding).2 0 = some (.iconst (0), 1, 0, 0, 0, 0, 0, []) := (congrFun pm_M_holding 0).trans rfl
theorem rl_M_holding_1 : (am_pg z_M_holding).2 1 = some (.istore_n 3, 2, 3, 0, 0, 0, 0, []) := (congrFun pm_M_holding 1).trans rfl
theorem rl_M_holding_2 : (am_pg z_M_holding).2 2 = some (.iconst (0), 3, 0, 0, 0, 0, 0, []) := (congrFun pm_M_holding 2).trans rfl
theorem rl_M_holding_3 : (am_pg z_M_holding).2 3 = some (.istore 4, 5, 4, 0, 0, 0, 0, []) := (congrFun pm_M_holding 3).trans rfl
theorem rl_M_holding_5 : (am_pg z_M_holding).2 5 = some (.iload 4, 7, 4, 0, 0, 0, 0, []) := (congrFun pm_M_holding 5).trans rfl
theorem rl_M_holding_7 : (am_pg z_M_holding).2 7 = some (.iconst (3), 8, 0, 0, 0, 0, 3, []) := (congrFun pm_M_holding 7).trans rfl
theorem rl_M_holding_8 : (am_pg z_M_holding).2 8 = some (.if_icmp .ge (96), 11, 104, 0, 0, 0, 0, []) := (congrFun pm_M_holding 8).trans rfl
theorem rl_M_holding_11 : (am_pg z_M_holding).2 11 = some (.aload_n 0, 12, 0, 0, 0, 0, 0, []) := (congrFun pm_M_holding 11).trans rfl
theorem rl_M_holding_12 : (am_pg z_M_holding).2 12 = some (.iload_n 1, 13, 1, 0, 0, 0, 0, []) := (congrFun pm_M_holding 12).trans rfl
theorem rl_M_holding_13 : (am_pg z_M_holding).2 13 = some (.iconst (2), 14, 0, 0, 0, 0, 2, []) := (congrFun pm_M_holding 13).trans rfl
theorem rl_M_holding_14 : (am_pg z_M_holding).2 14 = some (.iload 4, 16, 4, 0, 0, 0, 0, []) := (congrFun pm_M_holding 14).trans rfl
theorem rl_M_holding_16 : (am_pg z_M_holding).2 16 = some (.iadd, 17, 0, 0, 0, 0, 0, []) := (congrFun pm_M_holding 16).trans rfl
theorem rl_M_holding_17 : (am_pg z_M_holding).2 17 = some (.invokevirtual 146, 20, 92, 2, 9, 226, 0, []) := (congrFun pm_M_holding 17).trans rfl
theorem rl_M_holding_20 : (am_pg z_M_holding).2 20 = some (.istore 5, 22, 5, 0, 0, 0, 0, []) := (congrFun pm_M_holding 20).trans rfl
theorem rl_M_holding_22 : (am_pg z_M_holding).2 22 = some (.iload 5, 24, 5, 0, 0, 0, 0, []) := (congrFun pm_M_holding 22).trans rfl
theorem rl_M_holding_24 : (am_pg z_M_holding).2 24 = some (.ifCond .le (55), 27, 79, 0, 0, 0, 0, []) := (congrFun pm_M_holding 24).trans rfl
theorem rl_M_holding_27 : (am_pg z_M_holding).2 27 = some (.iload 4, 29, 4, 0, 0, 0, 0, []) := (congrFun pm_M_holding 27).trans rfl
theorem rl_M_holding_29 : (am_pg z_M_holding).2 29 = some (.iconst (1), 30, 0, 0, 0, 0, 1, []) := (congrFun pm_M_holding 29).trans rfl
theorem rl_M_holding_30 : (am_pg z_M_holding).2 30 = some (.if_icmp .ne (32), 33, 62, 0, 0, 0, 0, []) := (congrFun pm_M_holding 30).trans rfl
theorem rl_M_holding_33 : (am_pg z_M_holding).2 33 = some (.aload_n 0, 34, 0, 0, 0, 0, 0, []) := (congrFun pm_M_holding 33).trans rfl
theorem rl_M_holding_34 : (am_pg z_M_holding).2 34 = some (.iconst (0), 35, 0, 0, 0, 0, 0, []) := (congrFun pm_M_holding 34).trans rfl
theorem rl_M_holding_35 : (am_pg z_M_holding).2 35 = some (.iload_n 1, 36, 1, 0, 0, 0, 0, []) := (congrFun pm_M_holding 35).trans rfl
theorem rl_M_holding_36 : (am_pg z_M_holding).2 36 = some (.iload_n 2, 37, 2, 0, 0, 0, 0, []) := (congrFun pm_M_holding 36).trans rfl
theorem rl_M_holding_37 : (am_pg z_M_holding).2 37 = some (.invokevirtual 238, 40, 154, 3, 9, 268, 0, []) := (congrFun pm_M_holding 37).trans rfl
theorem rl_M_holding_40 : (am_pg z_M_holding).2 40 = some (.bipush (30), 42, 0, 0, 0, 0, 30, []) := (congrFun pm_M_holding 40).trans rfl
theorem rl_M_holding_42 : (am_pg z_M_holding).2 42 = some (.if_icmp .le (37), 45, 79, 0, 0, 0, 0, []) := (congrFun pm_M_holding 42).trans rfl
theorem rl_M_holding_45 : (am_pg z_M_holding).2 45 = some (.aload_n 0, 46, 0, 0, 0, 0, 0, []) := (congrFun pm_M_holding 45).trans rfl
theorem rl_M_holding_46 : (am_pg z_M_holding).2 46 = some (.iload_n 1, 47, 1, 0, 0, 0, 0, []) := (congrFun pm_M_holding 46).trans rfl
theorem rl_M_holding_47 : (am_pg z_M_holding).2 47 = some (.iload_n 2, 48, 2, 0, 0, 0, 0, []) := (congrFun pm_M_holding 47).trans rfl
theorem rl_M_holding_48 : (am_pg z_M_holding).2 48 = some (.invokevirtual 256, 51, 157, 2, 9, 276, 0, []) := (congrFun pm_M_holding 48).trans rfl
theorem rl_M_holding_51 : (am_pg z_M_holding).2 51 = some (.bipush (6), 53, 0, 0, 0, 0, 6, []) := (congrFun pm_M_holding 51).trans rfl
theorem rl_M_holding_53 : (am_pg z_M_holding).2 53 = some (.iload 5, 55, 5, 0, 0, 0, 0, []) := (congrFun pm_M_holding 53).trans rfl
theorem rl_M_holding_55 : (am_pg z_M_holding).2 55 = some (.imul, 56, 0, 0, 0, 0, 0, []) := (congrFun pm_M_holding 55).trans rfl
theorem rl_M_holding_56 : (am_pg z_M_holding).2 56 = some (.if_icmp .lt (23), 59, 79, 0, 0, 0, 0, []) := (congrFun pm_M_holding 56).trans rfl
theorem rl_M_holding_59 : (am_pg z_M_holding).2 59 = some (.goto (16), 62, 75, 0, 0, 0, 0, []) := (congrFun pm_M_holding 59).trans rfl
theorem rl_M_holding_62 : (am_pg z_M_holding).2 62 = some (.aload_n 0, 63, 0, 0, 0, 0, 0, []) := (congrFun pm_M_holding 62).trans rfl
theorem rl_M_holding_63 : (am_pg z_M_holding).2 63 = some (.iload_n 1, 64, 1, 0, 0, 0, 0, []) := (congrFun pm_M_holding 63).trans rfl
theorem rl_M_holding_64 : (am_pg z_M_holding).2 64 = some (.iload 4, 66, 4, 0, 0, 0, 0, []) := (congrFun pm_M_holding 64).trans rfl
theorem rl_M_holding_66 : (am_pg z_M_holding).2 66 = some (.iload_n 2, 67, 2, 0, 0, 0, 0, []) := (congrFun pm_M_holding 66).trans rfl
theorem rl_M_holding_67 : (am_pg z_M_holding).2 67 = some (.invokevirtual 259, 70, 158, 3, 9, 275, 0, []) := (congrFun pm_M_holding 67).trans rfl
theorem rl_M_holding_70 : (am_pg z_M_holding).2 70 = some (.iload 5, 72, 5, 0, 0, 0, 0, []) := (congrFun pm_M_holding 70).trans rfl
theorem rl_M_holding_72 : (am_pg z_M_holding).2 72 = some (.if_icmp .lt (7), 75, 79, 0, 0, 0, 0, []) := (congrFun pm_M_holding 72).trans rfl
theorem rl_M_holding_75 : (am_pg z_M_holding).2 75 = some (.iconst (1), 76, 0, 0, 0, 0, 1, []) := (congrFun pm_M_holding 75).trans rfl
theorem rl_M_holding_76 : (am_pg z_M_holding).2 76 = some (.goto (4), 79, 80, 0, 0, 0, 0, []) := (congrFun pm_M_holding 76).trans rfl
theorem rl_M_holding_79 : (am_pg z_M_holding).2 79 = some (.iconst (0), 80, 0, 0, 0, 0, 0, []) := (congrFun pm_M_holding 79).trans rfl
theorem rl_M_holding_80 : (am_pg z_M_holding).2 80 = some (.istore 6, 82, 6, 0, 0, 0, 0, []) := (congrFun pm_M_holding 80).trans rfl
theorem rl_M_holding_82 : (am_pg z_M_holding).2 82 = some (.iload 6, 84, 6, 0, 0, 0, 0, []) := (congrFun pm_M_holding 82).trans rfl
theorem rl_M_holding_84 : (am_pg z_M_holding).2 84 = some (.ifCond .eq (12), 87, 96, 0, 0, 0, 0, []) := (congrFun pm_M_holding 84).trans rfl
theorem rl_M_holding_87 : (am_pg z_M_holding).2 87 = some (.iload_n 3, 88, 3, 0, 0, 0, 0, []) := (congrFun pm_M_holding 87).trans rfl
theorem rl_M_holding_88 : (am_pg z_M_holding).2 88 = some (.iconst (1), 89, 0, 0, 0, 0, 1, []) := (congrFun pm_M_holding 88).trans rfl
theorem rl_M_holding_89 : (am_pg z_M_holding).2 89 = some (.iload 4, 91, 4, 0, 0, 0, 0, []) := (congrFun pm_M_holding 89).trans rfl
theorem rl_M_holding_91 : (am_pg z_M_holding).2 91 = some (.ishl, 92, 0, 0, 0, 0, 0, []) := (congrFun pm_M_holding 91).trans rfl
theorem rl_M_holding_92 : (am_pg z_M_holding).2 92 = some (.ior, 93, 0, 0, 0, 0, 0, []) := (congrFun pm_M_holding 92).trans rfl
theorem rl_M_holding_93 : (am_pg z_M_holding).2 93 = some (.goto (4), 96, 97, 0, 0, 0, 0, []) := (congrFun pm_M_holding 93).trans rfl
theorem rl_M_holding_96 : (am_pg z_M_holding).2 96 = some (.iload_n 3, 97, 3, 0, 0, 0, 0, []) := (congrFun pm_M_holding 96).trans rfl
theorem rl_M_holding_97 : (am_pg z_M_holding).2 97 = some (.istore_n 3, 98, 3, 0, 0, 0, 0, []) := (congrFun pm_M_holding 97).trans rfl
theorem rl_M_holding_98 : (am_pg z_M_holding).2 98 = some (.iinc 4 (1), 101, 4, 0, 0, 0, 1, []) := (congrFun pm_M_holding 98).trans rfl
theorem rl_M_holding_101 : (am_pg z_M_holding).2 101 = some (.goto (-96), 104, 5, 0, 0, 0, 0, []) := (congrFun pm_M_holding 101).trans rfl
theorem rl_M_holding_104 : (am_pg z_M_holding).2 104 = some (.iload_n 3, 105, 3, 0, 0, 0, 0, []) := (congrFun pm_M_holding 104).trans rfl
theorem rl_M_holding_105 : (am_pg z_M_holding).2 105 = some (.ireturn, 106, 0, 0, 0, 0, 0, []) := (congrFun pm_M_holding 105).trans rfl
theorem rl_M_claiming_0 : (am_pg z_M_claiming).2 0 = some (.iconst (0), 1, 0, 0, 0, 0, 0, []) := (congrFun pm_M_claiming 0).trans rfl
theorem rl_M_claiming_1 : (am_pg z_M_claiming).2 1 = some (.istore_n 2, 2, 2, 0, 0, 0, 0, []) := (congrFun pm_M_claiming 1).trans rfl
theorem rl_M_claiming_2 : (am_pg z_M_claiming).2 2 = some (.iconst (0), 3, 0, 0, 0, 0, 0, []) := (congrFun pm_M_claiming 2).trans rfl
theorem rl_M_claiming_3 : (am_pg z_M_claiming).2 3 = some (.istore_n 3, 4, 3, 0, 0, 0, 0, []) := (congrFun pm_M_claiming 3).trans rfl
theorem rl_M_claiming_4 : (am_pg z_M_claiming).2 4 = some (.iload_n 3, 5, 3, 0, 0, 0, 0, []) := (congrFun pm_M_claiming 4).trans rfl
theorem rl_M_claiming_5 : (am_pg z_M_claiming).2 5 = some (.bipush (6), 7, 0, 0, 0, 0, 6, []) := (congrFun pm_M_claiming 5).trans rfl
theorem rl_M_claiming_7 : (am_pg z_M_claiming).2 7 = some (.if_icmp .ge (28), 10, 35, 0, 0, 0, 0, []) := (congrFun pm_M_claiming 7).trans rfl
theorem rl_M_claiming_10 : (am_pg z_M_claiming).2 10 = some (.aload_n 0, 11, 0, 0, 0, 0, 0, []) := (congrFun pm_M_claiming 10).trans rfl
theorem rl_M_claiming_11 : (am_pg z_M_claiming).2 11 = some (.iload_n 3, 12, 3, 0, 0, 0, 0, []) := (congrFun pm_M_claiming 11).trans rfl
theorem rl_M_claiming_12 : (am_pg z_M_claiming).2 12 = some (.iload_n 1, 13, 1, 0, 0, 0, 0, []) := (congrFun pm_M_claiming 12).trans rfl
theorem rl_M_claiming_13 : (am_pg z_M_claiming).2 13 = some (.invokevirtual 262, 16, 160, 2, 9, 279, 0, []) := (congrFun pm_M_claiming 13).trans rfl
theorem rl_M_claiming_16 : (am_pg z_M_claiming).2 16 = some (.ifCond .eq (11), 19, 27, 0, 0, 0, 0, []) := (congrFun pm_M_claiming 16).trans rfl
theorem rl_M_claiming_19 : (am_pg z_M_claiming).2 19 = some (.iload_n 2, 20, 2, 0, 0, 0, 0, []) := (congrFun pm_M_claiming 19).trans rfl
theorem rl_M_claiming_20 : (am_pg z_M_claiming).2 20 = some (.iconst (1), 21, 0, 0, 0, 0, 1, []) := (congrFun pm_M_claiming 20).trans rfl
theorem rl_M_claiming_21 : (am_pg z_M_claiming).2 21 = some (.iload_n 3, 22, 3, 0, 0, 0, 0, []) := (congrFun pm_M_claiming 21).trans rfl
theorem rl_M_claiming_22 : (am_pg z_M_claiming).2 22 = some (.ishl, 23, 0, 0, 0, 0, 0, []) := (congrFun pm_M_claiming 22).trans rfl
theorem rl_M_claiming_23 : (am_pg z_M_claiming).2 23 = some (.ior, 24, 0, 0, 0, 0, 0, []) := (congrFun pm_M_claiming 23).trans rfl
theorem rl_M_claiming_24 : (am_pg z_M_claiming).2 24 = some (.goto (4), 27, 28, 0, 0, 0, 0, []) := (congrFun pm_M_claiming 24).trans rfl
theorem rl_M_claiming_27 : (am_pg z_M_claiming).2 27 = some (.iload_n 2, 28, 2, 0, 0, 0, 0, []) := (congrFun pm_M_claiming 27).trans rfl
theorem rl_M_claiming_28 : (am_pg z_M_claiming).2 28 = some (.istore_n 2, 29, 2, 0, 0, 0, 0, []) := (congrFun pm_M_claiming 28).trans rfl
theorem rl_M_claiming_29 : (am_pg z_M_claiming).2 29 = some (.iinc 3 (1), 32, 3, 0, 0, 0, 1, []) := (congrFun pm_M_claiming 29).trans rfl
theorem rl_M_claiming_32 : (am_pg z_M_claiming).2 32 = some (.goto (-28), 35, 4, 0, 0, 0, 0, []) := (congrFun pm_M_claiming 32).trans rfl
theorem rl_M_claiming_35 : (am_pg z_M_claiming).2 35 = some (.iload_n 2, 36, 2, 0, 0, 0, 0, []) := (congrFun pm_M_claiming 35).trans rfl
theorem rl_M_claiming_36 : (am_pg z_M_claiming).2 36 = some (.ireturn, 37, 0, 0, 0, 0, 0, []) := (congrFun pm_M_claiming 36).trans rfl
theorem rl_M_claims_0 : (am_pg z_M_claims).2 0 = some (.iload_n 1, 1, 1, 0, 0, 0, 0, []) := (congrFun pm_M_claims 0).trans rfl
theorem rl_M_claims_1 : (am_pg z_M_claims).2 1 = some (.invokestatic 194, 4, 89, 1, 0, 243, 0, []) := (congrFun pm_M_claims 1).trans rfl
theorem rl_M_claims_4 : (am_pg z_M_claims).2 4 = some (.ifCond .ne (5), 7, 9, 0, 0, 0, 0, []) := (congrFun pm_M_claims 4).trans rfl
theorem rl_M_claims_7 : (am_pg z_M_claims).2 7 = some (.iconst (-1), 8, 0, 0, 0, 0, -1, []) := (congrFun pm_M_claims 7).trans rfl
theorem rl_M_claims_8 : (am_pg z_M_claims).2 8 = some (.ireturn, 9, 0, 0, 0, 0, 0, []) := (congrFun pm_M_claims 8).trans rfl
theorem rl_M_claims_9 : (am_pg z_M_claims).2 9 = some (.aload_n 0, 10, 0, 0, 0, 0, 0, []) := (congrFun pm_M_claims 9).trans rfl
theorem rl_M_claims_10 : (am_pg z_M_claims).2 10 = some (.invokevirtual 235, 13, 155, 0, 9, 266, 0, []) := (congrFun pm_M_claims 10).trans rfl
theorem rl_M_claims_13 : (am_pg z_M_claims).2 13 = some (.aload_n 0, 14, 0, 0, 0, 0, 0, []) := (congrFun pm_M_claims 13).trans rfl
theorem rl_M_claims_14 : (am_pg z_M_claims).2 14 = some (.iload_n 1, 15, 1, 0, 0, 0, 0, []) := (congrFun pm_M_claims 14).trans rfl
theorem rl_M_claims_15 : (am_pg z_M_claims).2 15 = some (.invokevirtual 265, 18, 161, 1, 9, 278, 0, []) := (congrFun pm_M_claims 15).trans rfl
theorem rl_M_claims_18 : (am_pg z_M_claims).2 18 = some (.ireturn, 19, 0, 0, 0, 0, 0, []) := (congrFun pm_M_claims 18).trans rfl
theorem rl_M_holds_0 : (am_pg z_M_holds).2 0 = some (.iload_n 1, 1, 1, 0, 0, 0, 0, []) := (congrFun pm_M_holds 0).trans rfl
theorem rl_M_holds_1 : (am_pg z_M_holds).2 1 = some (.invokestatic 143, 4, 85, 1, 0, 223, 0, []) := (congrFun pm_M_holds 1).trans rfl
theorem rl_M_holds_4 : (am_pg z_M_holds).2 4 = some (.ifCond .eq (10), 7, 14, 0, 0, 0, 0, []) := (congrFun pm_M_holds 4).trans rfl
theorem rl_M_holds_7 : (am_pg z_M_holds).2 7 = some (.iload_n 2, 8, 2, 0, 0, 0, 0, []) := (congrFun pm_M_holds 7).trans rfl
theorem rl_M_holds_8 : (am_pg z_M_holds).2 8 = some (.invokestatic 194, 11, 89, 1, 0, 243, 0, []) := (congrFun pm_M_holds 8).trans rfl
theorem rl_M_holds_11 : (am_pg z_M_holds).2 11 = some (.ifCond .ne (5), 14, 16, 0, 0, 0, 0, []) := (congrFun pm_M_holds 11).trans rfl
theorem rl_M_holds_14 : (am_pg z_M_holds).2 14 = some (.iconst (-1), 15, 0, 0, 0, 0, -1, []) := (congrFun pm_M_holds 14).trans rfl
theorem rl_M_holds_15 : (am_pg z_M_holds).2 15 = some (.ireturn, 16, 0, 0, 0, 0, 0, []) := (congrFun pm_M_holds 15).trans rfl
theorem rl_M_holds_16 : (am_pg z_M_holds).2 16 = some (.aload_n 0, 17, 0, 0, 0, 0, 0, []) := (congrFun pm_M_holds 16).trans rfl
theorem rl_M_holds_17 : (am_pg z_M_holds).2 17 = some (.invokevirtual 235, 20, 155, 0, 9, 266, 0, []) := (congrFun pm_M_holds 17).trans rfl
theorem rl_M_holds_20 : (am_pg z_M_holds).2 20 = some (.aload_n 0, 21, 0, 0, 0, 0, 0, []) := (congrFun pm_M_holds 20).trans rfl
theorem rl_M_holds_21 : (am_pg z_M_holds).2 21 = some (.iload_n 1, 22, 1, 0, 0, 0, 0, []) := (congrFun pm_M_holds 21).trans rfl
theorem rl_M_holds_22 : (am_pg z_M_holds).2 22 = some (.iload_n 2, 23, 2, 0, 0, 0, 0, []) := (congrFun pm_M_holds 22).trans rfl
theorem rl_M_holds_23 : (am_pg z_M_holds).2 23 = some (.invokevirtual 262, 26, 160, 2, 9, 279, 0, []) := (congrFun pm_M_holds 23).trans rfl
theorem rl_M_holds_26 : (am_pg z_M_holds).2 26 = some (.ireturn, 27, 0, 0, 0, 0, 0, []) := (congrFun pm_M_holds 26).trans rfl
theorem rl_M_tells_0 : (am_pg z_M_tells).2 0 = some (.iload_n 1, 1, 1, 0, 0, 0, 0, []) := (congrFun pm_M_tells 0).trans rfl
theorem rl_M_tells_1 : (am_pg z_M_tells).2 1 = some (.iconst (3), 2, 0, 0, 0, 0, 3, []) := (congrFun pm_M_tells 1).trans rfl
theorem rl_M_tells_2 : (am_pg z_M_tells).2 2 = some (.if_icmp .ne (13), 5, 15, 0, 0, 0, 0, []) := (congrFun pm_M_tells 2).trans rfl
theorem rl_M_tells_5 : (am_pg z_M_tells).2 5 = some (.aload_n 0, 6, 0, 0, 0, 0, 0, []) := (congrFun pm_M_tells 5).trans rfl
theorem rl_M_tells_6 : (am_pg z_M_tells).2 6 = some (.iload_n 2, 7, 2, 0, 0, 0, 0, []) := (congrFun pm_M_tells 6).trans rfl
theorem rl_M_tells_7 : (am_pg z_M_tells).2 7 = some (.bipush (6), 9, 0, 0, 0, 0, 6, []) := (congrFun pm_M_tells 7).trans rfl
theorem rl_M_tells_9 : (am_pg z_M_tells).2 9 = some (.invokevirtual 146, 12, 92, 2, 9, 226, 0, []) := (congrFun pm_M_tells 9).trans rfl
theorem rl_M_tells_12 : (am_pg z_M_tells).2 12 = some (.goto (28), 15, 40, 0, 0, 0, 0, []) := (congrFun pm_M_tells 12).trans rfl
theorem rl_M_tells_15 : (am_pg z_M_tells).2 15 = some (.aload_n 0, 16, 0, 0, 0, 0, 0, []) := (congrFun pm_M_tells 15).trans rfl
theorem rl_M_tells_16 : (am_pg z_M_tells).2 16 = some (.iload_n 1, 17, 1, 0, 0, 0, 0, []) := (congrFun pm_M_tells 16).trans rfl
theorem rl_M_tells_17 : (am_pg z_M_tells).2 17 = some (.ifCond .ne (7), 20, 24, 0, 0, 0, 0, []) := (congrFun pm_M_tells 17).trans rfl
theorem rl_M_tells_20 : (am_pg z_M_tells).2 20 = some (.iconst (1), 21, 0, 0, 0, 0, 1, []) := (congrFun pm_M_tells 20).trans rfl
theorem rl_M_tells_21 : (am_pg z_M_tells).2 21 = some (.goto (13), 24, 34, 0, 0, 0, 0, []) := (congrFun pm_M_tells 21).trans rfl
theorem rl_M_tells_24 : (am_pg z_M_tells).2 24 = some (.iload_n 1, 25, 1, 0, 0, 0, 0, []) := (congrFun pm_M_tells 24).trans rfl
theorem rl_M_tells_25 : (am_pg z_M_tells).2 25 = some (.iconst (1), 26, 0, 0, 0, 0, 1, []) := (congrFun pm_M_tells 25).trans rfl
theorem rl_M_tells_26 : (am_pg z_M_tells).2 26 = some (.if_icmp .ne (7), 29, 33, 0, 0, 0, 0, []) := (congrFun pm_M_tells 26).trans rfl
theorem rl_M_tells_29 : (am_pg z_M_tells).2 29 = some (.iconst (2), 30, 0, 0, 0, 0, 2, []) := (congrFun pm_M_tells 29).trans rfl
theorem rl_M_tells_30 : (am_pg z_M_tells).2 30 = some (.goto (4), 33, 34, 0, 0, 0, 0, []) := (congrFun pm_M_tells 30).trans rfl
theorem rl_M_tells_33 : (am_pg z_M_tells).2 33 = some (.iconst (0), 34, 0, 0, 0, 0, 0, []) := (congrFun pm_M_tells 33).trans rfl
theorem rl_M_tells_34 : (am_pg z_M_tells).2 34 = some (.iload_n 2, 35, 2, 0, 0, 0, 0, []) := (congrFun pm_M_tells 34).trans rfl
theorem rl_M_tells_35 : (am_pg z_M_tells).2 35 = some (.iload 4, 37, 4, 0, 0, 0, 0, []) := (congrFun pm_M_tells 35).trans rfl
theorem rl_M_tells_37 : (am_pg z_M_tells).2 37 = some (.invokevirtual 238, 40, 154, 3, 9, 268, 0, []) := (congrFun pm_M_tells 37).trans rfl
theorem rl_M_tells_40 : (am_pg z_M_tells).2 40 = some (.istore 5, 42, 5, 0, 0, 0, 0, []) := (congrFun pm_M_tells 40).trans rfl
theorem rl_M_tells_42 : (am_pg z_M_tells).2 42 = some (.iload_n 1, 43, 1, 0, 0, 0, 0, []) := (congrFun pm_M_tells 42).trans rfl
theorem rl_M_tells_43 : (am_pg z_M_tells).2 43 = some (.iconst (3), 44, 0, 0, 0, 0, 3, []) := (congrFun pm_M_tells 43).trans rfl
theorem rl_M_tells_44 : (am_pg z_M_tells).2 44 = some (.if_icmp .ne (13), 47, 57, 0, 0, 0, 0, []) := (congrFun pm_M_tells 44).trans rfl
theorem rl_M_tells_47 : (am_pg z_M_tells).2 47 = some (.aload_n 0, 48, 0, 0, 0, 0, 0, []) := (congrFun pm_M_tells 47).trans rfl
theorem rl_M_tells_48 : (am_pg z_M_tells).2 48 = some (.iload_n 3, 49, 3, 0, 0, 0, 0, []) := (congrFun pm_M_tells 48).trans rfl
theorem rl_M_tells_49 : (am_pg z_M_tells).2 49 = some (.bipush (6), 51, 0, 0, 0, 0, 6, []) := (congrFun pm_M_tells 49).trans rfl
theorem rl_M_tells_51 : (am_pg z_M_tells).2 51 = some (.invokevirtual 146, 54, 92, 2, 9, 226, 0, []) := (congrFun pm_M_tells 51).trans rfl
theorem rl_M_tells_54 : (am_pg z_M_tells).2 54 = some (.goto (28), 57, 82, 0, 0, 0, 0, []) := (congrFun pm_M_tells 54).trans rfl
theorem rl_M_tells_57 : (am_pg z_M_tells).2 57 = some (.aload_n 0, 58, 0, 0, 0, 0, 0, []) := (congrFun pm_M_tells 57).trans rfl
theorem rl_M_tells_58 : (am_pg z_M_tells).2 58 = some (.iload_n 1, 59, 1, 0, 0, 0, 0, []) := (congrFun pm_M_tells 58).trans rfl
theorem rl_M_tells_59 : (am_pg z_M_tells).2 59 = some (.ifCond .ne (7), 62, 66, 0, 0, 0, 0, []) := (congrFun pm_M_tells 59).trans rfl
theorem rl_M_tells_62 : (am_pg z_M_tells).2 62 = some (.iconst (1), 63, 0, 0, 0, 0, 1, []) := (congrFun pm_M_tells 62).trans rfl
theorem rl_M_tells_63 : (am_pg z_M_tells).2 63 = some (.goto (13), 66, 76, 0, 0, 0, 0, []) := (congrFun pm_M_tells 63).trans rfl
theorem rl_M_tells_66 : (am_pg z_M_tells).2 66 = some (.iload_n 1, 67, 1, 0, 0, 0, 0, []) := (congrFun pm_M_tells 66).trans rfl
theorem rl_M_tells_67 : (am_pg z_M_tells).2 67 = some (.iconst (1), 68, 0, 0, 0, 0, 1, []) := (congrFun pm_M_tells 67).trans rfl
theorem rl_M_tells_68 : (am_pg z_M_tells).2 68 = some (.if_icmp .ne (7), 71, 75, 0, 0, 0, 0, []) := (congrFun pm_M_tells 68).trans rfl
theorem rl_M_tells_71 : (am_pg z_M_tells).2 71 = some (.iconst (2), 72, 0, 0, 0, 0, 2, []) := (congrFun pm_M_tells 71).trans rfl
theorem rl_M_tells_72 : (am_pg z_M_tells).2 72 = some (.goto (4), 75, 76, 0, 0, 0, 0, []) := (congrFun pm_M_tells 72).trans rfl
theorem rl_M_tells_75 : (am_pg z_M_tells).2 75 = some (.iconst (0), 76, 0, 0, 0, 0, 0, []) := (congrFun pm_M_tells 75).trans rfl
theorem rl_M_tells_76 : (am_pg z_M_tells).2 76 = some (.iload_n 3, 77, 3, 0, 0, 0, 0, []) := (congrFun pm_M_tells 76).trans rfl
theorem rl_M_tells_77 : (am_pg z_M_tells).2 77 = some (.iload 4, 79, 4, 0, 0, 0, 0, []) := (congrFun pm_M_tells 77).trans rfl
theorem rl_M_tells_79 : (am_pg z_M_tells).2 79 = some (.invokevirtual 238, 82, 154, 3, 9, 268, 0, []) := (congrFun pm_M_tells 79).trans rfl
theorem rl_M_tells_82 : (am_pg z_M_tells).2 82 = some (.istore 6, 84, 6, 0, 0, 0, 0, []) := (congrFun pm_M_tells 82).trans rfl
theorem rl_M_tells_84 : (am_pg z_M_tells).2 84 = some (.iload 5, 86, 5, 0, 0, 0, 0, []) := (congrFun pm_M_tells 84).trans rfl
theorem rl_M_tells_86 : (am_pg z_M_tells).2 86 = some (.iload 6, 88, 6, 0, 0, 0, 0, []) := (congrFun pm_M_tells 86).trans rfl
theorem rl_M_tells_88 : (am_pg z_M_tells).2 88 = some (.if_icmp .le (7), 91, 95, 0, 0, 0, 0, []) := (congrFun pm_M_tells 88).trans rfl
theorem rl_M_tells_91 : (am_pg z_M_tells).2 91 = some (.iload_n 2, 92, 2, 0, 0, 0, 0, []) := (congrFun pm_M_tells 91).trans rfl
theorem rl_M_tells_92 : (am_pg z_M_tells).2 92 = some (.goto (15), 95, 107, 0, 0, 0, 0, []) := (congrFun pm_M_tells 92).trans rfl
theorem rl_M_tells_95 : (am_pg z_M_tells).2 95 = some (.iload 5, 97, 5, 0, 0, 0, 0, []) := (congrFun pm_M_tells 95).trans rfl
theorem rl_M_tells_97 : (am_pg z_M_tells).2 97 = some (.iload 6, 99, 6, 0, 0, 0, 0, []) := (congrFun pm_M_tells 97).trans rfl
theorem rl_M_tells_99 : (am_pg z_M_tells).2 99 = some (.if_icmp .ge (7), 102, 106, 0, 0, 0, 0, []) := (congrFun pm_M_tells 99).trans rfl
theorem rl_M_tells_102 : (am_pg z_M_tells).2 102 = some (.iload_n 3, 103, 3, 0, 0, 0, 0, []) := (congrFun pm_M_tells 102).trans rfl
theorem rl_M_tells_103 : (am_pg z_M_tells).2 103 = some (.goto (4), 106, 107, 0, 0, 0, 0, []) := (congrFun pm_M_tells 103).trans rfl
theorem rl_M_tells_106 : (am_pg z_M_tells).2 106 = some (.iconst (-1), 107, 0, 0, 0, 0, -1, []) := (congrFun pm_M_tells 106).trans rfl
theorem rl_M_tells_107 : (am_pg z_M_tells).2 107 = some (.ireturn, 108, 0, 0, 0, 0, 0, []) := (congrFun pm_M_tells 107).trans rfl
theorem rl_M_letterBy_0 : (am_pg z_M_letterBy).2 0 = some (.iload_n 1, 1, 1, 0, 0, 0, 0, []) := (congrFun pm_M_letterBy 0).trans rfl
theorem rl_M_letterBy_1 : (am_pg z_M_letterBy).2 1 = some (.iload_n 2, 2, 2, 0, 0, 0, 0, []) := (congrFun pm_M_letterBy 1).trans rfl
theorem rl_M_letterBy_2 : (am_pg z_M_letterBy).2 2 = some (.invokestatic 203, 5, 125, 2, 0, 247, 0, []) := (congrFun pm_M_letterBy 2).trans rfl
theorem rl_M_letterBy_5 : (am_pg z_M_letterBy).2 5 = some (.istore 4, 7, 4, 0, 0, 0, 0, []) := (congrFun pm_M_letterBy 5).trans rfl
theorem rl_M_letterBy_7 : (am_pg z_M_letterBy).2 7 = some (.aload_n 0, 8, 0, 0, 0, 0, 0, []) := (congrFun pm_M_letterBy 7).trans rfl
theorem rl_M_letterBy_8 : (am_pg z_M_letterBy).2 8 = some (.getfield 22, 11, 9, 4, 0, 80, 0, []) := (congrFun pm_M_letterBy 8).trans rfl
theorem rl_M_letterBy_11 : (am_pg z_M_letterBy).2 11 = some (.iload 4, 13, 4, 0, 0, 0, 0, []) := (congrFun pm_M_letterBy 11).trans rfl
theorem rl_M_letterBy_13 : (am_pg z_M_letterBy).2 13 = some (.iaload, 14, 0, 0, 0, 0, 0, []) := (congrFun pm_M_letterBy 13).trans rfl
theorem rl_M_letterBy_14 : (am_pg z_M_letterBy).2 14 = some (.ifCond .le (7), 17, 21, 0, 0, 0, 0, []) := (congrFun pm_M_letterBy 14).trans rfl
theorem rl_M_letterBy_17 : (am_pg z_M_letterBy).2 17 = some (.iconst (1), 18, 0, 0, 0, 0, 1, []) := (congrFun pm_M_letterBy 17).trans rfl
theorem rl_M_letterBy_18 : (am_pg z_M_letterBy).2 18 = some (.goto (4), 21, 22, 0, 0, 0, 0, []) := (congrFun pm_M_letterBy 18).trans rfl
theorem rl_M_letterBy_21 : (am_pg z_M_letterBy).2 21 = some (.iconst (0), 22, 0, 0, 0, 0, 0, []) := (congrFun pm_M_letterBy 21).trans rfl
theorem rl_M_letterBy_22 : (am_pg z_M_letterBy).2 22 = some (.istore 5, 24, 5, 0, 0, 0, 0, []) := (congrFun pm_M_letterBy 22).trans rfl
theorem rl_M_letterBy_24 : (am_pg z_M_letterBy).2 24 = some (.iload 5, 26, 5, 0, 0, 0, 0, []) := (congrFun pm_M_letterBy 24).trans rfl
theorem rl_M_letterBy_26 : (am_pg z_M_letterBy).2 26 = some (.ifCond .eq (15), 29, 41, 0, 0, 0, 0, []) := (congrFun pm_M_letterBy 26).trans rfl
theorem rl_M_letterBy_29 : (am_pg z_M_letterBy).2 29 = some (.aload_n 0, 30, 0, 0, 0, 0, 0, []) := (congrFun pm_M_letterBy 29).trans rfl
theorem rl_M_letterBy_30 : (am_pg z_M_letterBy).2 30 = some (.getfield 22, 33, 9, 4, 0, 80, 0, []) := (congrFun pm_M_letterBy 30).trans rfl
theorem rl_M_letterBy_33 : (am_pg z_M_letterBy).2 33 = some (.iload 4, 35, 4, 0, 0, 0, 0, []) := (congrFun pm_M_letterBy 33).trans rfl
theorem rl_M_letterBy_35 : (am_pg z_M_letterBy).2 35 = some (.iaload, 36, 0, 0, 0, 0, 0, []) := (congrFun pm_M_letterBy 35).trans rfl
theorem rl_M_letterBy_36 : (am_pg z_M_letterBy).2 36 = some (.iconst (1), 37, 0, 0, 0, 0, 1, []) := (congrFun pm_M_letterBy 36).trans rfl
theorem rl_M_letterBy_37 : (am_pg z_M_letterBy).2 37 = some (.isub, 38, 0, 0, 0, 0, 0, []) := (congrFun pm_M_letterBy 37).trans rfl
theorem rl_M_letterBy_38 : (am_pg z_M_letterBy).2 38 = some (.goto (10), 41, 48, 0, 0, 0, 0, []) := (congrFun pm_M_letterBy 38).trans rfl
theorem rl_M_letterBy_41 : (am_pg z_M_letterBy).2 41 = some (.aload_n 0, 42, 0, 0, 0, 0, 0, []) := (congrFun pm_M_letterBy 41).trans rfl
theorem rl_M_letterBy_42 : (am_pg z_M_letterBy).2 42 = some (.iload_n 1, 43, 1, 0, 0, 0, 0, []) := (congrFun pm_M_letterBy 42).trans rfl
theorem rl_M_letterBy_43 : (am_pg z_M_letterBy).2 43 = some (.bipush (8), 45, 0, 0, 0, 0, 8, []) := (congrFun pm_M_letterBy 43).trans rfl
theorem rl_M_letterBy_45 : (am_pg z_M_letterBy).2 45 = some (.invokevirtual 146, 48, 92, 2, 9, 226, 0, []) := (congrFun pm_M_letterBy 45).trans rfl
theorem rl_M_letterBy_48 : (am_pg z_M_letterBy).2 48 = some (.istore 6, 50, 6, 0, 0, 0, 0, []) := (congrFun pm_M_letterBy 48).trans rfl
theorem rl_M_letterBy_50 : (am_pg z_M_letterBy).2 50 = some (.iconst (0), 51, 0, 0, 0, 0, 0, []) := (congrFun pm_M_letterBy 50).trans rfl
theorem rl_M_letterBy_51 : (am_pg z_M_letterBy).2 51 = some (.istore 7, 53, 7, 0, 0, 0, 0, []) := (congrFun pm_M_letterBy 51).trans rfl
theorem rl_M_letterBy_53 : (am_pg z_M_letterBy).2 53 = some (.iload 7, 55, 7, 0, 0, 0, 0, []) := (congrFun pm_M_letterBy 53).trans rfl
theorem rl_M_letterBy_55 : (am_pg z_M_letterBy).2 55 = some (.iload 6, 57, 6, 0, 0, 0, 0, []) := (congrFun pm_M_letterBy 55).trans rfl
theorem rl_M_letterBy_57 : (am_pg z_M_letterBy).2 57 = some (.if_icmp .ge (53), 60, 110, 0, 0, 0, 0, []) := (congrFun pm_M_letterBy 57).trans rfl
theorem rl_M_letterBy_60 : (am_pg z_M_letterBy).2 60 = some (.aload_n 0, 61, 0, 0, 0, 0, 0, []) := (congrFun pm_M_letterBy 60).trans rfl
theorem rl_M_letterBy_61 : (am_pg z_M_letterBy).2 61 = some (.iload 5, 63, 5, 0, 0, 0, 0, []) := (congrFun pm_M_letterBy 61).trans rfl
theorem rl_M_letterBy_63 : (am_pg z_M_letterBy).2 63 = some (.ifCond .eq (18), 66, 81, 0, 0, 0, 0, []) := (congrFun pm_M_letterBy 63).trans rfl
theorem rl_M_letterBy_66 : (am_pg z_M_letterBy).2 66 = some (.aload_n 0, 67, 0, 0, 0, 0, 0, []) := (congrFun pm_M_letterBy 66).trans rfl
theorem rl_M_letterBy_67 : (am_pg z_M_letterBy).2 67 = some (.getfield 22, 70, 9, 4, 0, 80, 0, []) := (congrFun pm_M_letterBy 67).trans rfl
theorem rl_M_letterBy_70 : (am_pg z_M_letterBy).2 70 = some (.iload 4, 72, 4, 0, 0, 0, 0, []) := (congrFun pm_M_letterBy 70).trans rfl
theorem rl_M_letterBy_72 : (am_pg z_M_letterBy).2 72 = some (.iconst (1), 73, 0, 0, 0, 0, 1, []) := (congrFun pm_M_letterBy 72).trans rfl
theorem rl_M_letterBy_73 : (am_pg z_M_letterBy).2 73 = some (.iadd, 74, 0, 0, 0, 0, 0, []) := (congrFun pm_M_letterBy 73).trans rfl
theorem rl_M_letterBy_74 : (am_pg z_M_letterBy).2 74 = some (.iload 7, 76, 7, 0, 0, 0, 0, []) := (congrFun pm_M_letterBy 74).trans rfl
theorem rl_M_letterBy_76 : (am_pg z_M_letterBy).2 76 = some (.iadd, 77, 0, 0, 0, 0, 0, []) := (congrFun pm_M_letterBy 76).trans rfl
theorem rl_M_letterBy_77 : (am_pg z_M_letterBy).2 77 = some (.iaload, 78, 0, 0, 0, 0, 0, []) := (congrFun pm_M_letterBy 77).trans rfl
theorem rl_M_letterBy_78 : (am_pg z_M_letterBy).2 78 = some (.goto (13), 81, 91, 0, 0, 0, 0, []) := (congrFun pm_M_letterBy 78).trans rfl
theorem rl_M_letterBy_81 : (am_pg z_M_letterBy).2 81 = some (.aload_n 0, 82, 0, 0, 0, 0, 0, []) := (congrFun pm_M_letterBy 81).trans rfl
theorem rl_M_letterBy_82 : (am_pg z_M_letterBy).2 82 = some (.iload_n 1, 83, 1, 0, 0, 0, 0, []) := (congrFun pm_M_letterBy 82).trans rfl
theorem rl_M_letterBy_83 : (am_pg z_M_letterBy).2 83 = some (.bipush (9), 85, 0, 0, 0, 0, 9, []) := (congrFun pm_M_letterBy 83).trans rfl
theorem rl_M_letterBy_85 : (am_pg z_M_letterBy).2 85 = some (.iload 7, 87, 7, 0, 0, 0, 0, []) := (congrFun pm_M_letterBy 85).trans rfl
theorem rl_M_letterBy_87 : (am_pg z_M_letterBy).2 87 = some (.iadd, 88, 0, 0, 0, 0, 0, []) := (congrFun pm_M_letterBy 87).trans rfl
theorem rl_M_letterBy_88 : (am_pg z_M_letterBy).2 88 = some (.invokevirtual 146, 91, 92, 2, 9, 226, 0, []) := (congrFun pm_M_letterBy 88).trans rfl
theorem rl_M_letterBy_91 : (am_pg z_M_letterBy).2 91 = some (.iload_n 1, 92, 1, 0, 0, 0, 0, []) := (congrFun pm_M_letterBy 91).trans rfl
theorem rl_M_letterBy_92 : (am_pg z_M_letterBy).2 92 = some (.iload_n 2, 93, 2, 0, 0, 0, 0, []) := (congrFun pm_M_letterBy 92).trans rfl
theorem rl_M_letterBy_93 : (am_pg z_M_letterBy).2 93 = some (.iload_n 3, 94, 3, 0, 0, 0, 0, []) := (congrFun pm_M_letterBy 93).trans rfl
theorem rl_M_letterBy_94 : (am_pg z_M_letterBy).2 94 = some (.invokevirtual 268, 97, 164, 4, 9, 284, 0, []) := (congrFun pm_M_letterBy 94).trans rfl
theorem rl_M_letterBy_97 : (am_pg z_M_letterBy).2 97 = some (.iconst (-1), 98, 0, 0, 0, 0, -1, []) := (congrFun pm_M_letterBy 97).trans rfl
theorem rl_M_letterBy_98 : (am_pg z_M_letterBy).2 98 = some (.if_icmp .eq (6), 101, 104, 0, 0, 0, 0, []) := (congrFun pm_M_letterBy 98).trans rfl
theorem rl_M_letterBy_101 : (am_pg z_M_letterBy).2 101 = some (.iload 7, 103, 7, 0, 0, 0, 0, []) := (congrFun pm_M_letterBy 101).trans rfl
theorem rl_M_letterBy_103 : (am_pg z_M_letterBy).2 103 = some (.ireturn, 104, 0, 0, 0, 0, 0, []) := (congrFun pm_M_letterBy 103).trans rfl
theorem rl_M_letterBy_104 : (am_pg z_M_letterBy).2 104 = some (.iinc 7 (1), 107, 7, 0, 0, 0, 1, []) := (congrFun pm_M_letterBy 104).trans rfl
theorem rl_M_letterBy_107 : (am_pg z_M_letterBy).2 107 = some (.goto (-54), 110, 53, 0, 0, 0, 0, []) := (congrFun pm_M_letterBy 107).trans rfl
theorem rl_M_letterBy_110 : (am_pg z_M_letterBy).2 110 = some (.iconst (-1), 111, 0, 0, 0, 0, -1, []) := (congrFun pm_M_letterBy 110).trans rfl
theorem rl_M_letterBy_111 : (am_pg z_M_letterBy).2 111 = some (.ireturn, 112, 0, 0, 0, 0, 0, []) := (congrFun pm_M_letterBy 111).trans rfl
theorem rl_M_answer_0 : (am_pg z_M_answer).2 0 = some (.aload_n 0, 1, 0, 0, 0, 0, 0, []) := (congrFun pm_M_answer 0).trans rfl
theorem rl_M_answer_1 : (am_pg z_M_answer).2 1 = some (.iload_n 1, 2, 1, 0, 0, 0, 0, []) := (congrFun pm_M_answer 1).trans rfl
theorem rl_M_answer_2 : (am_pg z_M_answer).2 2 = some (.iload_n 2, 3, 2, 0, 0, 0, 0, []) := (congrFun pm_M_answer 2).trans rfl
theorem rl_M_answer_3 : (am_pg z_M_answer).2 3 = some (.iload_n 3, 4, 3, 0, 0, 0, 0, []) := (congrFun pm_M_answer 3).trans rfl
theorem rl_M_answer_4 : (am_pg z_M_answer).2 4 = some (.invokevirtual 271, 7, 165, 3, 9, 283, 0, []) := (congrFun pm_M_answer 4).trans rfl
theorem rl_M_answer_7 : (am_pg z_M_answer).2 7 = some (.istore 4, 9, 4, 0, 0, 0, 0, []) := (congrFun pm_M_answer 7).trans rfl
theorem rl_M_answer_9 : (am_pg z_M_answer).2 9 = some (.iload_n 1, 10, 1, 0, 0, 0, 0, []) := (congrFun pm_M_answer 9).trans rfl
theorem rl_M_answer_10 : (am_pg z_M_answer).2 10 = some (.iload_n 2, 11, 2, 0, 0, 0, 0, []) := (congrFun pm_M_answer 10).trans rfl
theorem rl_M_answer_11 : (am_pg z_M_answer).2 11 = some (.invokestatic 203, 14, 125, 2, 0, 247, 0, []) := (congrFun pm_M_answer 11).trans rfl
theorem rl_M_answer_14 : (am_pg z_M_answer).2 14 = some (.istore 5, 16, 5, 0, 0, 0, 0, []) := (congrFun pm_M_answer 14).trans rfl
theorem rl_M_answer_16 : (am_pg z_M_answer).2 16 = some (.iload 4, 18, 4, 0, 0, 0, 0, []) := (congrFun pm_M_answer 16).trans rfl
theorem rl_M_answer_18 : (am_pg z_M_answer).2 18 = some (.iconst (-1), 19, 0, 0, 0, 0, -1, []) := (congrFun pm_M_answer 18).trans rfl
theorem rl_M_answer_19 : (am_pg z_M_answer).2 19 = some (.if_icmp .ne (8), 22, 27, 0, 0, 0, 0, []) := (congrFun pm_M_answer 19).trans rfl
theorem rl_M_answer_22 : (am_pg z_M_answer).2 22 = some (.bipush (-2), 24, 0, 0, 0, 0, -2, []) := (congrFun pm_M_answer 22).trans rfl
theorem rl_M_answer_24 : (am_pg z_M_answer).2 24 = some (.goto (45), 27, 69, 0, 0, 0, 0, []) := (congrFun pm_M_answer 24).trans rfl
theorem rl_M_answer_27 : (am_pg z_M_answer).2 27 = some (.aload_n 0, 28, 0, 0, 0, 0, 0, []) := (congrFun pm_M_answer 27).trans rfl
theorem rl_M_answer_28 : (am_pg z_M_answer).2 28 = some (.aload_n 0, 29, 0, 0, 0, 0, 0, []) := (congrFun pm_M_answer 28).trans rfl
theorem rl_M_answer_29 : (am_pg z_M_answer).2 29 = some (.getfield 22, 32, 9, 4, 0, 80, 0, []) := (congrFun pm_M_answer 29).trans rfl
theorem rl_M_answer_32 : (am_pg z_M_answer).2 32 = some (.iload 5, 34, 5, 0, 0, 0, 0, []) := (congrFun pm_M_answer 32).trans rfl
theorem rl_M_answer_34 : (am_pg z_M_answer).2 34 = some (.iaload, 35, 0, 0, 0, 0, 0, []) := (congrFun pm_M_answer 34).trans rfl
theorem rl_M_answer_35 : (am_pg z_M_answer).2 35 = some (.ifCond .le (18), 38, 53, 0, 0, 0, 0, []) := (congrFun pm_M_answer 35).trans rfl
theorem rl_M_answer_38 : (am_pg z_M_answer).2 38 = some (.aload_n 0, 39, 0, 0, 0, 0, 0, []) := (congrFun pm_M_answer 38).trans rfl
theorem rl_M_answer_39 : (am_pg z_M_answer).2 39 = some (.getfield 22, 42, 9, 4, 0, 80, 0, []) := (congrFun pm_M_answer 39).trans rfl
theorem rl_M_answer_42 : (am_pg z_M_answer).2 42 = some (.iload 5, 44, 5, 0, 0, 0, 0, []) := (congrFun pm_M_answer 42).trans rfl
theorem rl_M_answer_44 : (am_pg z_M_answer).2 44 = some (.iconst (1), 45, 0, 0, 0, 0, 1, []) := (congrFun pm_M_answer 44).trans rfl
theorem rl_M_answer_45 : (am_pg z_M_answer).2 45 = some (.iadd, 46, 0, 0, 0, 0, 0, []) := (congrFun pm_M_answer 45).trans rfl
theorem rl_M_answer_46 : (am_pg z_M_answer).2 46 = some (.iload 4, 48, 4, 0, 0, 0, 0, []) := (congrFun pm_M_answer 46).trans rfl
theorem rl_M_answer_48 : (am_pg z_M_answer).2 48 = some (.iadd, 49, 0, 0, 0, 0, 0, []) := (congrFun pm_M_answer 48).trans rfl
theorem rl_M_answer_49 : (am_pg z_M_answer).2 49 = some (.iaload, 50, 0, 0, 0, 0, 0, []) := (congrFun pm_M_answer 49).trans rfl
theorem rl_M_answer_50 : (am_pg z_M_answer).2 50 = some (.goto (13), 53, 63, 0, 0, 0, 0, []) := (congrFun pm_M_answer 50).trans rfl
theorem rl_M_answer_53 : (am_pg z_M_answer).2 53 = some (.aload_n 0, 54, 0, 0, 0, 0, 0, []) := (congrFun pm_M_answer 53).trans rfl
theorem rl_M_answer_54 : (am_pg z_M_answer).2 54 = some (.iload_n 1, 55, 1, 0, 0, 0, 0, []) := (congrFun pm_M_answer 54).trans rfl
theorem rl_M_answer_55 : (am_pg z_M_answer).2 55 = some (.bipush (9), 57, 0, 0, 0, 0, 9, []) := (congrFun pm_M_answer 55).trans rfl
theorem rl_M_answer_57 : (am_pg z_M_answer).2 57 = some (.iload 4, 59, 4, 0, 0, 0, 0, []) := (congrFun pm_M_answer 57).trans rfl
theorem rl_M_answer_59 : (am_pg z_M_answer).2 59 = some (.iadd, 60, 0, 0, 0, 0, 0, []) := (congrFun pm_M_answer 59).trans rfl
theorem rl_M_answer_60 : (am_pg z_M_answer).2 60 = some (.invokevirtual 146, 63, 92, 2, 9, 226, 0, []) := (congrFun pm_M_answer 60).trans rfl
theorem rl_M_answer_63 : (am_pg z_M_answer).2 63 = some (.iload_n 1, 64, 1, 0, 0, 0, 0, []) := (congrFun pm_M_answer 63).trans rfl
theorem rl_M_answer_64 : (am_pg z_M_answer).2 64 = some (.iload_n 2, 65, 2, 0, 0, 0, 0, []) := (congrFun pm_M_answer 64).trans rfl
theorem rl_M_answer_65 : (am_pg z_M_answer).2 65 = some (.iload_n 3, 66, 3, 0, 0, 0, 0, []) := (congrFun pm_M_answer 65).trans rfl
theorem rl_M_answer_66 : (am_pg z_M_answer).2 66 = some (.invokevirtual 268, 69, 164, 4, 9, 284, 0, []) := (congrFun pm_M_answer 66).trans rfl
theorem rl_M_answer_69 : (am_pg z_M_answer).2 69 = some (.ireturn, 70, 0, 0, 0, 0, 0, []) := (congrFun pm_M_answer 69).trans rfl
theorem rl_M_answers_0 : (am_pg z_M_answers).2 0 = some (.iload_n 1, 1, 1, 0, 0, 0, 0, []) := (congrFun pm_M_answers 0).trans rfl
theorem rl_M_answers_1 : (am_pg z_M_answers).2 1 = some (.iload_n 2, 2, 2, 0, 0, 0, 0, []) := (congrFun pm_M_answers 1).trans rfl
theorem rl_M_answers_2 : (am_pg z_M_answers).2 2 = some (.invokestatic 200, 5, 124, 2, 0, 246, 0, []) := (congrFun pm_M_answers 2).trans rfl
theorem rl_M_answers_5 : (am_pg z_M_answers).2 5 = some (.ifCond .eq (10), 8, 15, 0, 0, 0, 0, []) := (congrFun pm_M_answers 5).trans rfl
theorem rl_M_answers_8 : (am_pg z_M_answers).2 8 = some (.iload_n 3, 9, 3, 0, 0, 0, 0, []) := (congrFun pm_M_answers 8).trans rfl
theorem rl_M_answers_9 : (am_pg z_M_answers).2 9 = some (.invokestatic 194, 12, 89, 1, 0, 243, 0, []) := (congrFun pm_M_answers 9).trans rfl
theorem rl_M_answers_12 : (am_pg z_M_answers).2 12 = some (.ifCond .ne (5), 15, 17, 0, 0, 0, 0, []) := (congrFun pm_M_answers 12).trans rfl
theorem rl_M_answers_15 : (am_pg z_M_answers).2 15 = some (.iconst (-1), 16, 0, 0, 0, 0, -1, []) := (congrFun pm_M_answers 15).trans rfl
theorem rl_M_answers_16 : (am_pg z_M_answers).2 16 = some (.ireturn, 17, 0, 0, 0, 0, 0, []) := (congrFun pm_M_answers 16).trans rfl
theorem rl_M_answers_17 : (am_pg z_M_answers).2 17 = some (.aload_n 0, 18, 0, 0, 0, 0, 0, []) := (congrFun pm_M_answers 17).trans rfl
theorem rl_M_answers_18 : (am_pg z_M_answers).2 18 = some (.invokevirtual 235, 21, 155, 0, 9, 266, 0, []) := (congrFun pm_M_answers 18).trans rfl
theorem rl_M_answers_21 : (am_pg z_M_answers).2 21 = some (.aload_n 0, 22, 0, 0, 0, 0, 0, []) := (congrFun pm_M_answers 21).trans rfl
theorem rl_M_answers_22 : (am_pg z_M_answers).2 22 = some (.iload_n 1, 23, 1, 0, 0, 0, 0, []) := (congrFun pm_M_answers 22).trans rfl
theorem rl_M_answers_23 : (am_pg z_M_answers).2 23 = some (.iload_n 2, 24, 2, 0, 0, 0, 0, []) := (congrFun pm_M_answers 23).trans rfl
theorem rl_M_answers_24 : (am_pg z_M_answers).2 24 = some (.iload_n 3, 25, 3, 0, 0, 0, 0, []) := (congrFun pm_M_answers 24).trans rfl
theorem rl_M_answers_25 : (am_pg z_M_answers).2 25 = some (.invokevirtual 274, 28, 166, 3, 9, 282, 0, []) := (congrFun pm_M_answers 25).trans rfl
theorem rl_M_answers_28 : (am_pg z_M_answers).2 28 = some (.ireturn, 29, 0, 0, 0, 0, 0, []) := (congrFun pm_M_answers 28).trans rfl
theorem rl_M_by_0 : (am_pg z_M_by).2 0 = some (.iload_n 1, 1, 1, 0, 0, 0, 0, []) := (congrFun pm_M_by 0).trans rfl
theorem rl_M_by_1 : (am_pg z_M_by).2 1 = some (.iload_n 2, 2, 2, 0, 0, 0, 0, []) := (congrFun pm_M_by 1).trans rfl
theorem rl_M_by_2 : (am_pg z_M_by).2 2 = some (.invokestatic 200, 5, 124, 2, 0, 246, 0, []) := (congrFun pm_M_by 2).trans rfl
theorem rl_M_by_5 : (am_pg z_M_by).2 5 = some (.ifCond .eq (10), 8, 15, 0, 0, 0, 0, []) := (congrFun pm_M_by 5).trans rfl
theorem rl_M_by_8 : (am_pg z_M_by).2 8 = some (.iload_n 3, 9, 3, 0, 0, 0, 0, []) := (congrFun pm_M_by 8).trans rfl
theorem rl_M_by_9 : (am_pg z_M_by).2 9 = some (.invokestatic 194, 12, 89, 1, 0, 243, 0, []) := (congrFun pm_M_by 9).trans rfl
theorem rl_M_by_12 : (am_pg z_M_by).2 12 = some (.ifCond .ne (5), 15, 17, 0, 0, 0, 0, []) := (congrFun pm_M_by 12).trans rfl
theorem rl_M_by_15 : (am_pg z_M_by).2 15 = some (.iconst (-1), 16, 0, 0, 0, 0, -1, []) := (congrFun pm_M_by 15).trans rfl
theorem rl_M_by_16 : (am_pg z_M_by).2 16 = some (.ireturn, 17, 0, 0, 0, 0, 0, []) := (congrFun pm_M_by 16).trans rfl
theorem rl_M_by_17 : (am_pg z_M_by).2 17 = some (.aload_n 0, 18, 0, 0, 0, 0, 0, []) := (congrFun pm_M_by 17).trans rfl
theorem rl_M_by_18 : (am_pg z_M_by).2 18 = some (.invokevirtual 235, 21, 155, 0, 9, 266, 0, []) := (congrFun pm_M_by 18).trans rfl
theorem rl_M_by_21 : (am_pg z_M_by).2 21 = some (.aload_n 0, 22, 0, 0, 0, 0, 0, []) := (congrFun pm_M_by 21).trans rfl
theorem rl_M_by_22 : (am_pg z_M_by).2 22 = some (.iload_n 1, 23, 1, 0, 0, 0, 0, []) := (congrFun pm_M_by 22).trans rfl
theorem rl_M_by_23 : (am_pg z_M_by).2 23 = some (.iload_n 2, 24, 2, 0, 0, 0, 0, []) := (congrFun pm_M_by 23).trans rfl
theorem rl_M_by_24 : (am_pg z_M_by).2 24 = some (.iload_n 3, 25, 3, 0, 0, 0, 0, []) := (congrFun pm_M_by 24).trans rfl
theorem rl_M_by_25 : (am_pg z_M_by).2 25 = some (.invokevirtual 271, 28, 165, 3, 9, 283, 0, []) := (congrFun pm_M_by 25).trans rfl
theorem rl_M_by_28 : (am_pg z_M_by).2 28 = some (.istore 4, 30, 4, 0, 0, 0, 0, []) := (congrFun pm_M_by 28).trans rfl
theorem rl_M_by_30 : (am_pg z_M_by).2 30 = some (.iload 4, 32, 4, 0, 0, 0, 0, []) := (congrFun pm_M_by 30).trans rfl
theorem rl_M_by_32 : (am_pg z_M_by).2 32 = some (.iconst (-1), 33, 0, 0, 0, 0, -1, []) := (congrFun pm_M_by 32).trans rfl
theorem rl_M_by_33 : (am_pg z_M_by).2 33 = some (.if_icmp .ne (8), 36, 41, 0, 0, 0, 0, []) := (congrFun pm_M_by 33).trans rfl
theorem rl_M_by_36 : (am_pg z_M_by).2 36 = some (.bipush (-2), 38, 0, 0, 0, 0, -2, []) := (congrFun pm_M_by 36).trans rfl
theorem rl_M_by_38 : (am_pg z_M_by).2 38 = some (.goto (5), 41, 43, 0, 0, 0, 0, []) := (congrFun pm_M_by 38).trans rfl
theorem rl_M_by_41 : (am_pg z_M_by).2 41 = some (.iload 4, 43, 4, 0, 0, 0, 0, []) := (congrFun pm_M_by 41).trans rfl
theorem rl_M_by_43 : (am_pg z_M_by).2 43 = some (.ireturn, 44, 0, 0, 0, 0, 0, []) := (congrFun pm_M_by 43).trans rfl
theorem rl_M_livesNow_0 : (am_pg z_M_livesNow).2 0 = some (.aload_n 0, 1, 0, 0, 0, 0, 0, []) := (congrFun pm_M_livesNow 0).trans rfl
theorem rl_M_livesNow_1 : (am_pg z_M_livesNow).2 1 = some (.iload_n 1, 2, 1, 0, 0, 0, 0, []) := (congrFun pm_M_livesNow 1).trans rfl
theorem rl_M_livesNow_2 : (am_pg z_M_livesNow).2 2 = some (.invokevirtual 265, 5, 161, 1, 9, 278, 0, []) := (congrFun pm_M_livesNow 2).trans rfl
theorem rl_M_livesNow_5 : (am_pg z_M_livesNow).2 5 = some (.istore_n 2, 6, 2, 0, 0, 0, 0, []) := (congrFun pm_M_livesNow 5).trans rfl
theorem rl_M_livesNow_6 : (am_pg z_M_livesNow).2 6 = some (.iconst (0), 7, 0, 0, 0, 0, 0, []) := (congrFun pm_M_livesNow 6).trans rfl
theorem rl_M_livesNow_7 : (am_pg z_M_livesNow).2 7 = some (.istore_n 3, 8, 3, 0, 0, 0, 0, []) := (congrFun pm_M_livesNow 7).trans rfl
theorem rl_M_livesNow_8 : (am_pg z_M_livesNow).2 8 = some (.iload_n 3, 9, 3, 0, 0, 0, 0, []) := (congrFun pm_M_livesNow 8).trans rfl
theorem rl_M_livesNow_9 : (am_pg z_M_livesNow).2 9 = some (.bipush (6), 11, 0, 0, 0, 0, 6, []) := (congrFun pm_M_livesNow 9).trans rfl
theorem rl_M_livesNow_11 : (am_pg z_M_livesNow).2 11 = some (.if_icmp .ge (99), 14, 110, 0, 0, 0, 0, []) := (congrFun pm_M_livesNow 11).trans rfl
theorem rl_M_livesNow_14 : (am_pg z_M_livesNow).2 14 = some (.iload_n 2, 15, 2, 0, 0, 0, 0, []) := (congrFun pm_M_livesNow 14).trans rfl
theorem rl_M_livesNow_15 : (am_pg z_M_livesNow).2 15 = some (.iload_n 3, 16, 3, 0, 0, 0, 0, []) := (congrFun pm_M_livesNow 15).trans rfl
theorem rl_M_livesNow_16 : (am_pg z_M_livesNow).2 16 = some (.ishr, 17, 0, 0, 0, 0, 0, []) := (congrFun pm_M_livesNow 16).trans rfl
theorem rl_M_livesNow_17 : (am_pg z_M_livesNow).2 17 = some (.iconst (1), 18, 0, 0, 0, 0, 1, []) := (congrFun pm_M_livesNow 17).trans rfl
theorem rl_M_livesNow_18 : (am_pg z_M_livesNow).2 18 = some (.iand, 19, 0, 0, 0, 0, 0, []) := (congrFun pm_M_livesNow 18).trans rfl
theorem rl_M_livesNow_19 : (am_pg z_M_livesNow).2 19 = some (.iconst (1), 20, 0, 0, 0, 0, 1, []) := (congrFun pm_M_livesNow 19).trans rfl
theorem rl_M_livesNow_20 : (am_pg z_M_livesNow).2 20 = some (.if_icmp .ne (7), 23, 27, 0, 0, 0, 0, []) := (congrFun pm_M_livesNow 20).trans rfl
theorem rl_M_livesNow_23 : (am_pg z_M_livesNow).2 23 = some (.iconst (1), 24, 0, 0, 0, 0, 1, []) := (congrFun pm_M_livesNow 23).trans rfl
theorem rl_M_livesNow_24 : (am_pg z_M_livesNow).2 24 = some (.goto (4), 27, 28, 0, 0, 0, 0, []) := (congrFun pm_M_livesNow 24).trans rfl
theorem rl_M_livesNow_27 : (am_pg z_M_livesNow).2 27 = some (.iconst (0), 28, 0, 0, 0, 0, 0, []) := (congrFun pm_M_livesNow 27).trans rfl
theorem rl_M_livesNow_28 : (am_pg z_M_livesNow).2 28 = some (.istore 4, 30, 4, 0, 0, 0, 0, []) := (congrFun pm_M_livesNow 28).trans rfl
theorem rl_M_livesNow_30 : (am_pg z_M_livesNow).2 30 = some (.iconst (0), 31, 0, 0, 0, 0, 0, []) := (congrFun pm_M_livesNow 30).trans rfl
theorem rl_M_livesNow_31 : (am_pg z_M_livesNow).2 31 = some (.istore 5, 33, 5, 0, 0, 0, 0, []) := (congrFun pm_M_livesNow 31).trans rfl
theorem rl_M_livesNow_33 : (am_pg z_M_livesNow).2 33 = some (.iload 5, 35, 5, 0, 0, 0, 0, []) := (congrFun pm_M_livesNow 33).trans rfl
theorem rl_M_livesNow_35 : (am_pg z_M_livesNow).2 35 = some (.bipush (6), 37, 0, 0, 0, 0, 6, []) := (congrFun pm_M_livesNow 35).trans rfl
theorem rl_M_livesNow_37 : (am_pg z_M_livesNow).2 37 = some (.if_icmp .ge (60), 40, 97, 0, 0, 0, 0, []) := (congrFun pm_M_livesNow 37).trans rfl
theorem rl_M_livesNow_40 : (am_pg z_M_livesNow).2 40 = some (.iload 4, 42, 4, 0, 0, 0, 0, []) := (congrFun pm_M_livesNow 40).trans rfl
theorem rl_M_livesNow_42 : (am_pg z_M_livesNow).2 42 = some (.ifCond .eq (55), 45, 97, 0, 0, 0, 0, []) := (congrFun pm_M_livesNow 42).trans rfl
theorem rl_M_livesNow_45 : (am_pg z_M_livesNow).2 45 = some (.iload 5, 47, 5, 0, 0, 0, 0, []) := (congrFun pm_M_livesNow 45).trans rfl
theorem rl_M_livesNow_47 : (am_pg z_M_livesNow).2 47 = some (.iload_n 3, 48, 3, 0, 0, 0, 0, []) := (congrFun pm_M_livesNow 47).trans rfl
theorem rl_M_livesNow_48 : (am_pg z_M_livesNow).2 48 = some (.if_icmp .eq (36), 51, 84, 0, 0, 0, 0, []) := (congrFun pm_M_livesNow 48).trans rfl
theorem rl_M_livesNow_51 : (am_pg z_M_livesNow).2 51 = some (.iload_n 2, 52, 2, 0, 0, 0, 0, []) := (congrFun pm_M_livesNow 51).trans rfl
theorem rl_M_livesNow_52 : (am_pg z_M_livesNow).2 52 = some (.iload 5, 54, 5, 0, 0, 0, 0, []) := (congrFun pm_M_livesNow 52).trans rfl
theorem rl_M_livesNow_54 : (am_pg z_M_livesNow).2 54 = some (.ishr, 55, 0, 0, 0, 0, 0, []) := (congrFun pm_M_livesNow 54).trans rfl
theorem rl_M_livesNow_55 : (am_pg z_M_livesNow).2 55 = some (.iconst (1), 56, 0, 0, 0, 0, 1, []) := (congrFun pm_M_livesNow 55).trans rfl
theorem rl_M_livesNow_56 : (am_pg z_M_livesNow).2 56 = some (.iand, 57, 0, 0, 0, 0, 0, []) := (congrFun pm_M_livesNow 56).trans rfl
theorem rl_M_livesNow_57 : (am_pg z_M_livesNow).2 57 = some (.ifCond .eq (27), 60, 84, 0, 0, 0, 0, []) := (congrFun pm_M_livesNow 57).trans rfl
theorem rl_M_livesNow_60 : (am_pg z_M_livesNow).2 60 = some (.aload_n 0, 61, 0, 0, 0, 0, 0, []) := (congrFun pm_M_livesNow 60).trans rfl
theorem rl_M_livesNow_61 : (am_pg z_M_livesNow).2 61 = some (.iload_n 3, 62, 3, 0, 0, 0, 0, []) := (congrFun pm_M_livesNow 61).trans rfl
theorem rl_M_livesNow_62 : (am_pg z_M_livesNow).2 62 = some (.iload 5, 64, 5, 0, 0, 0, 0, []) := (congrFun pm_M_livesNow 62).trans rfl
theorem rl_M_livesNow_64 : (am_pg z_M_livesNow).2 64 = some (.iload_n 1, 65, 1, 0, 0, 0, 0, []) := (congrFun pm_M_livesNow 64).trans rfl
theorem rl_M_livesNow_65 : (am_pg z_M_livesNow).2 65 = some (.invokevirtual 274, 68, 166, 3, 9, 282, 0, []) := (congrFun pm_M_livesNow 65).trans rfl
theorem rl_M_livesNow_68 : (am_pg z_M_livesNow).2 68 = some (.iload_n 3, 69, 3, 0, 0, 0, 0, []) := (congrFun pm_M_livesNow 68).trans rfl
theorem rl_M_livesNow_69 : (am_pg z_M_livesNow).2 69 = some (.if_icmp .ne (19), 72, 88, 0, 0, 0, 0, []) := (congrFun pm_M_livesNow 69).trans rfl
theorem rl_M_livesNow_72 : (am_pg z_M_livesNow).2 72 = some (.aload_n 0, 73, 0, 0, 0, 0, 0, []) := (congrFun pm_M_livesNow 72).trans rfl
theorem rl_M_livesNow_73 : (am_pg z_M_livesNow).2 73 = some (.iload 5, 75, 5, 0, 0, 0, 0, []) := (congrFun pm_M_livesNow 73).trans rfl
theorem rl_M_livesNow_75 : (am_pg z_M_livesNow).2 75 = some (.iload_n 3, 76, 3, 0, 0, 0, 0, []) := (congrFun pm_M_livesNow 75).trans rfl
theorem rl_M_livesNow_76 : (am_pg z_M_livesNow).2 76 = some (.iload_n 1, 77, 1, 0, 0, 0, 0, []) := (congrFun pm_M_livesNow 76).trans rfl
theorem rl_M_livesNow_77 : (am_pg z_M_livesNow).2 77 = some (.invokevirtual 274, 80, 166, 3, 9, 282, 0, []) := (congrFun pm_M_livesNow 77).trans rfl
theorem rl_M_livesNow_80 : (am_pg z_M_livesNow).2 80 = some (.iload_n 3, 81, 3, 0, 0, 0, 0, []) := (congrFun pm_M_livesNow 80).trans rfl
theorem rl_M_livesNow_81 : (am_pg z_M_livesNow).2 81 = some (.if_icmp .ne (7), 84, 88, 0, 0, 0, 0, []) := (congrFun pm_M_livesNow 81).trans rfl
theorem rl_M_livesNow_84 : (am_pg z_M_livesNow).2 84 = some (.iconst (1), 85, 0, 0, 0, 0, 1, []) := (congrFun pm_M_livesNow 84).trans rfl
theorem rl_M_livesNow_85 : (am_pg z_M_livesNow).2 85 = some (.goto (4), 88, 89, 0, 0, 0, 0, []) := (congrFun pm_M_livesNow 85).trans rfl
theorem rl_M_livesNow_88 : (am_pg z_M_livesNow).2 88 = some (.iconst (0), 89, 0, 0, 0, 0, 0, []) := (congrFun pm_M_livesNow 88).trans rfl
theorem rl_M_livesNow_89 : (am_pg z_M_livesNow).2 89 = some (.istore 4, 91, 4, 0, 0, 0, 0, []) := (congrFun pm_M_livesNow 89).trans rfl
theorem rl_M_livesNow_91 : (am_pg z_M_livesNow).2 91 = some (.iinc 5 (1), 94, 5, 0, 0, 0, 1, []) := (congrFun pm_M_livesNow 91).trans rfl
theorem rl_M_livesNow_94 : (am_pg z_M_livesNow).2 94 = some (.goto (-61), 97, 33, 0, 0, 0, 0, []) := (congrFun pm_M_livesNow 94).trans rfl
theorem rl_M_livesNow_97 : (am_pg z_M_livesNow).2 97 = some (.iload 4, 99, 4, 0, 0, 0, 0, []) := (congrFun pm_M_livesNow 97).trans rfl
theorem rl_M_livesNow_99 : (am_pg z_M_livesNow).2 99 = some (.ifCond .eq (5), 102, 104, 0, 0, 0, 0, []) := (congrFun pm_M_livesNow 99).trans rfl
theorem rl_M_livesNow_102 : (am_pg z_M_livesNow).2 102 = some (.iload_n 3, 103, 3, 0, 0, 0, 0, []) := (congrFun pm_M_livesNow 102).trans rfl
theorem rl_M_livesNow_103 : (am_pg z_M_livesNow).2 103 = some (.ireturn, 104, 0, 0, 0, 0, 0, []) := (congrFun pm_M_livesNow 103).trans rfl
theorem rl_M_livesNow_104 : (am_pg z_M_livesNow).2 104 = some (.iinc 3 (1), 107, 3, 0, 0, 0, 1, []) := (congrFun pm_M_livesNow 104).trans rfl
theorem rl_M_livesNow_107 : (am_pg z_M_livesNow).2 107 = some (.goto (-99), 110, 8, 0, 0, 0, 0, []) := (congrFun pm_M_livesNow 107).trans rfl
theorem rl_M_livesNow_110 : (am_pg z_M_livesNow).2 110 = some (.bipush (-2), 112, 0, 0, 0, 0, -2, []) := (congrFun pm_M_livesNow 110).trans rfl
theorem rl_M_livesNow_112 : (am_pg z_M_livesNow).2 112 = some (.ireturn, 113, 0, 0, 0, 0, 0, []) := (congrFun pm_M_livesNow 112).trans rfl
theorem rl_M_lives_0 : (am_pg z_M_lives).2 0 = some (.iload_n 1, 1, 1, 0, 0, 0, 0, []) := (congrFun pm_M_lives 0).trans rfl
theorem rl_M_lives_1 : (am_pg z_M_lives).2 1 = some (.invokestatic 194, 4, 89, 1, 0, 243, 0, []) := (congrFun pm_M_lives 1).trans rfl
theorem rl_M_lives_4 : (am_pg z_M_lives).2 4 = some (.ifCond .ne (5), 7, 9, 0, 0, 0, 0, []) := (congrFun pm_M_lives 4).trans rfl
theorem rl_M_lives_7 : (am_pg z_M_lives).2 7 = some (.iconst (-1), 8, 0, 0, 0, 0, -1, []) := (congrFun pm_M_lives 7).trans rfl
theorem rl_M_lives_8 : (am_pg z_M_lives).2 8 = some (.ireturn, 9, 0, 0, 0, 0, 0, []) := (congrFun pm_M_lives 8).trans rfl
theorem rl_M_lives_9 : (am_pg z_M_lives).2 9 = some (.aload_n 0, 10, 0, 0, 0, 0, 0, []) := (congrFun pm_M_lives 9).trans rfl
theorem rl_M_lives_10 : (am_pg z_M_lives).2 10 = some (.invokevirtual 235, 13, 155, 0, 9, 266, 0, []) := (congrFun pm_M_lives 10).trans rfl
theorem rl_M_lives_13 : (am_pg z_M_lives).2 13 = some (.aload_n 0, 14, 0, 0, 0, 0, 0, []) := (congrFun pm_M_lives 13).trans rfl
theorem rl_M_lives_14 : (am_pg z_M_lives).2 14 = some (.iload_n 1, 15, 1, 0, 0, 0, 0, []) := (congrFun pm_M_lives 14).trans rfl
theorem rl_M_lives_15 : (am_pg z_M_lives).2 15 = some (.invokevirtual 277, 18, 169, 1, 9, 287, 0, []) := (congrFun pm_M_lives 15).trans rfl
theorem rl_M_lives_18 : (am_pg z_M_lives).2 18 = some (.ireturn, 19, 0, 0, 0, 0, 0, []) := (congrFun pm_M_lives 18).trans rfl
theorem rl_M_pairs_0 : (am_pg z_M_pairs).2 0 = some (.iload_n 1, 1, 1, 0, 0, 0, 0, []) := (congrFun pm_M_pairs 0).trans rfl
theorem rl_M_pairs_1 : (am_pg z_M_pairs).2 1 = some (.invokestatic 194, 4, 89, 1, 0, 243, 0, []) := (congrFun pm_M_pairs 1).trans rfl
theorem rl_M_pairs_4 : (am_pg z_M_pairs).2 4 = some (.ifCond .eq (15), 7, 19, 0, 0, 0, 0, []) := (congrFun pm_M_pairs 4).trans rfl
theorem rl_M_pairs_7 : (am_pg z_M_pairs).2 7 = some (.iload_n 2, 8, 2, 0, 0, 0, 0, []) := (congrFun pm_M_pairs 7).trans rfl
theorem rl_M_pairs_8 : (am_pg z_M_pairs).2 8 = some (.i2l, 9, 0, 0, 0, 0, 0, []) := (congrFun pm_M_pairs 8).trans rfl
theorem rl_M_pairs_9 : (am_pg z_M_pairs).2 9 = some (.lconst 0, 10, 0, 0, 0, 0, 0, []) := (congrFun pm_M_pairs 9).trans rfl
theorem rl_M_pairs_10 : (am_pg z_M_pairs).2 10 = some (.ldc2_w 78, 13, 0, 0, 0, 10, 2, []) := (congrFun pm_M_pairs 10).trans rfl
theorem rl_M_pairs_13 : (am_pg z_M_pairs).2 13 = some (.invokestatic 66, 16, 84, 3, 0, 210, 0, []) := (congrFun pm_M_pairs 13).trans rfl
theorem rl_M_pairs_16 : (am_pg z_M_pairs).2 16 = some (.ifCond .ne (5), 19, 21, 0, 0, 0, 0, []) := (congrFun pm_M_pairs 16).trans rfl
theorem rl_M_pairs_19 : (am_pg z_M_pairs).2 19 = some (.iconst (-1), 20, 0, 0, 0, 0, -1, []) := (congrFun pm_M_pairs 19).trans rfl
theorem rl_M_pairs_20 : (am_pg z_M_pairs).2 20 = some (.ireturn, 21, 0, 0, 0, 0, 0, []) := (congrFun pm_M_pairs 20).trans rfl
theorem rl_M_pairs_21 : (am_pg z_M_pairs).2 21 = some (.aload_n 0, 22, 0, 0, 0, 0, 0, []) := (congrFun pm_M_pairs 21).trans rfl
theorem rl_M_pairs_22 : (am_pg z_M_pairs).2 22 = some (.invokevirtual 235, 25, 155, 0, 9, 266, 0, []) := (congrFun pm_M_pairs 22).trans rfl
theorem rl_M_pairs_25 : (am_pg z_M_pairs).2 25 = some (.aload_n 0, 26, 0, 0, 0, 0, 0, []) := (congrFun pm_M_pairs 25).trans rfl
theorem rl_M_pairs_26 : (am_pg z_M_pairs).2 26 = some (.iload_n 1, 27, 1, 0, 0, 0, 0, []) := (congrFun pm_M_pairs 26).trans rfl
theorem rl_M_pairs_27 : (am_pg z_M_pairs).2 27 = some (.invokevirtual 265, 30, 161, 1, 9, 278, 0, []) := (congrFun pm_M_pairs 27).trans rfl
theorem rl_M_pairs_30 : (am_pg z_M_pairs).2 30 = some (.istore_n 3, 31, 3, 0, 0, 0, 0, []) := (congrFun pm_M_pairs 30).trans rfl
theorem rl_M_pairs_31 : (am_pg z_M_pairs).2 31 = some (.iconst (0), 32, 0, 0, 0, 0, 0, []) := (congrFun pm_M_pairs 31).trans rfl
theorem rl_M_pairs_32 : (am_pg z_M_pairs).2 32 = some (.istore 4, 34, 4, 0, 0, 0, 0, []) := (congrFun pm_M_pairs 32).trans rfl
theorem rl_M_pairs_34 : (am_pg z_M_pairs).2 34 = some (.iconst (0), 35, 0, 0, 0, 0, 0, []) := (congrFun pm_M_pairs 34).trans rfl
theorem rl_M_pairs_35 : (am_pg z_M_pairs).2 35 = some (.istore 5, 37, 5, 0, 0, 0, 0, []) := (congrFun pm_M_pairs 35).trans rfl
theorem rl_M_pairs_37 : (am_pg z_M_pairs).2 37 = some (.iload 5, 39, 5, 0, 0, 0, 0, []) := (congrFun pm_M_pairs 37).trans rfl
theorem rl_M_pairs_39 : (am_pg z_M_pairs).2 39 = some (.bipush (6), 41, 0, 0, 0, 0, 6, []) := (congrFun pm_M_pairs 39).trans rfl
theorem rl_M_pairs_41 : (am_pg z_M_pairs).2 41 = some (.if_icmp .ge (114), 44, 155, 0, 0, 0, 0, []) := (congrFun pm_M_pairs 41).trans rfl
theorem rl_M_pairs_44 : (am_pg z_M_pairs).2 44 = some (.iload 5, 46, 5, 0, 0, 0, 0, []) := (congrFun pm_M_pairs 44).trans rfl
theorem rl_M_pairs_46 : (am_pg z_M_pairs).2 46 = some (.iconst (1), 47, 0, 0, 0, 0, 1, []) := (congrFun pm_M_pairs 46).trans rfl
theorem rl_M_pairs_47 : (am_pg z_M_pairs).2 47 = some (.iadd, 48, 0, 0, 0, 0, 0, []) := (congrFun pm_M_pairs 47).trans rfl
theorem rl_M_pairs_48 : (am_pg z_M_pairs).2 48 = some (.istore 6, 50, 6, 0, 0, 0, 0, []) := (congrFun pm_M_pairs 48).trans rfl
theorem rl_M_pairs_50 : (am_pg z_M_pairs).2 50 = some (.iload 6, 52, 6, 0, 0, 0, 0, []) := (congrFun pm_M_pairs 50).trans rfl
theorem rl_M_pairs_52 : (am_pg z_M_pairs).2 52 = some (.bipush (6), 54, 0, 0, 0, 0, 6, []) := (congrFun pm_M_pairs 52).trans rfl
theorem rl_M_pairs_54 : (am_pg z_M_pairs).2 54 = some (.if_icmp .ge (95), 57, 149, 0, 0, 0, 0, []) := (congrFun pm_M_pairs 54).trans rfl
theorem rl_M_pairs_57 : (am_pg z_M_pairs).2 57 = some (.iload_n 3, 58, 3, 0, 0, 0, 0, []) := (congrFun pm_M_pairs 57).trans rfl
theorem rl_M_pairs_58 : (am_pg z_M_pairs).2 58 = some (.iload 5, 60, 5, 0, 0, 0, 0, []) := (congrFun pm_M_pairs 58).trans rfl
theorem rl_M_pairs_60 : (am_pg z_M_pairs).2 60 = some (.ishr, 61, 0, 0, 0, 0, 0, []) := (congrFun pm_M_pairs 60).trans rfl
theorem rl_M_pairs_61 : (am_pg z_M_pairs).2 61 = some (.iconst (1), 62, 0, 0, 0, 0, 1, []) := (congrFun pm_M_pairs 61).trans rfl
theorem rl_M_pairs_62 : (am_pg z_M_pairs).2 62 = some (.iand, 63, 0, 0, 0, 0, 0, []) := (congrFun pm_M_pairs 62).trans rfl
theorem rl_M_pairs_63 : (am_pg z_M_pairs).2 63 = some (.ifCond .eq (80), 66, 143, 0, 0, 0, 0, []) := (congrFun pm_M_pairs 63).trans rfl
theorem rl_M_pairs_66 : (am_pg z_M_pairs).2 66 = some (.iload_n 3, 67, 3, 0, 0, 0, 0, []) := (congrFun pm_M_pairs 66).trans rfl
theorem rl_M_pairs_67 : (am_pg z_M_pairs).2 67 = some (.iload 6, 69, 6, 0, 0, 0, 0, []) := (congrFun pm_M_pairs 67).trans rfl
theorem rl_M_pairs_69 : (am_pg z_M_pairs).2 69 = some (.ishr, 70, 0, 0, 0, 0, 0, []) := (congrFun pm_M_pairs 69).trans rfl
theorem rl_M_pairs_70 : (am_pg z_M_pairs).2 70 = some (.iconst (1), 71, 0, 0, 0, 0, 1, []) := (congrFun pm_M_pairs 70).trans rfl
theorem rl_M_pairs_71 : (am_pg z_M_pairs).2 71 = some (.iand, 72, 0, 0, 0, 0, 0, []) := (congrFun pm_M_pairs 71).trans rfl
theorem rl_M_pairs_72 : (am_pg z_M_pairs).2 72 = some (.ifCond .ne (6), 75, 78, 0, 0, 0, 0, []) := (congrFun pm_M_pairs 72).trans rfl
theorem rl_M_pairs_75 : (am_pg z_M_pairs).2 75 = some (.goto (68), 78, 143, 0, 0, 0, 0, []) := (congrFun pm_M_pairs 75).trans rfl
theorem rl_M_pairs_78 : (am_pg z_M_pairs).2 78 = some (.aload_n 0, 79, 0, 0, 0, 0, 0, []) := (congrFun pm_M_pairs 78).trans rfl
theorem rl_M_pairs_79 : (am_pg z_M_pairs).2 79 = some (.iload 5, 81, 5, 0, 0, 0, 0, []) := (congrFun pm_M_pairs 79).trans rfl
theorem rl_M_pairs_81 : (am_pg z_M_pairs).2 81 = some (.iload 6, 83, 6, 0, 0, 0, 0, []) := (congrFun pm_M_pairs 81).trans rfl
theorem rl_M_pairs_83 : (am_pg z_M_pairs).2 83 = some (.iload_n 1, 84, 1, 0, 0, 0, 0, []) := (congrFun pm_M_pairs 83).trans rfl
theorem rl_M_pairs_84 : (am_pg z_M_pairs).2 84 = some (.invokevirtual 274, 87, 166, 3, 9, 282, 0, []) := (congrFun pm_M_pairs 84).trans rfl
theorem rl_M_pairs_87 : (am_pg z_M_pairs).2 87 = some (.istore 7, 89, 7, 0, 0, 0, 0, []) := (congrFun pm_M_pairs 87).trans rfl
theorem rl_M_pairs_89 : (am_pg z_M_pairs).2 89 = some (.aload_n 0, 90, 0, 0, 0, 0, 0, []) := (congrFun pm_M_pairs 89).trans rfl
theorem rl_M_pairs_90 : (am_pg z_M_pairs).2 90 = some (.iload 6, 92, 6, 0, 0, 0, 0, []) := (congrFun pm_M_pairs 90).trans rfl
theorem rl_M_pairs_92 : (am_pg z_M_pairs).2 92 = some (.iload 5, 94, 5, 0, 0, 0, 0, []) := (congrFun pm_M_pairs 92).trans rfl
theorem rl_M_pairs_94 : (am_pg z_M_pairs).2 94 = some (.iload_n 1, 95, 1, 0, 0, 0, 0, []) := (congrFun pm_M_pairs 94).trans rfl
theorem rl_M_pairs_95 : (am_pg z_M_pairs).2 95 = some (.invokevirtual 274, 98, 166, 3, 9, 282, 0, []) := (congrFun pm_M_pairs 95).trans rfl
theorem rl_M_pairs_98 : (am_pg z_M_pairs).2 98 = some (.istore 8, 100, 8, 0, 0, 0, 0, []) := (congrFun pm_M_pairs 98).trans rfl
theorem rl_M_pairs_100 : (am_pg z_M_pairs).2 100 = some (.iload 4, 102, 4, 0, 0, 0, 0, []) := (congrFun pm_M_pairs 100).trans rfl
theorem rl_M_pairs_102 : (am_pg z_M_pairs).2 102 = some (.iload_n 2, 103, 2, 0, 0, 0, 0, []) := (congrFun pm_M_pairs 102).trans rfl
theorem rl_M_pairs_103 : (am_pg z_M_pairs).2 103 = some (.ifCond .eq (32), 106, 135, 0, 0, 0, 0, []) := (congrFun pm_M_pairs 103).trans rfl
theorem rl_M_pairs_106 : (am_pg z_M_pairs).2 106 = some (.iload_n 2, 107, 2, 0, 0, 0, 0, []) := (congrFun pm_M_pairs 106).trans rfl
theorem rl_M_pairs_107 : (am_pg z_M_pairs).2 107 = some (.iconst (1), 108, 0, 0, 0, 0, 1, []) := (congrFun pm_M_pairs 107).trans rfl
theorem rl_M_pairs_108 : (am_pg z_M_pairs).2 108 = some (.if_icmp .ne (13), 111, 121, 0, 0, 0, 0, []) := (congrFun pm_M_pairs 108).trans rfl
theorem rl_M_pairs_111 : (am_pg z_M_pairs).2 111 = some (.iload 7, 113, 7, 0, 0, 0, 0, []) := (congrFun pm_M_pairs 111).trans rfl
theorem rl_M_pairs_113 : (am_pg z_M_pairs).2 113 = some (.iload 8, 115, 8, 0, 0, 0, 0, []) := (congrFun pm_M_pairs 113).trans rfl
theorem rl_M_pairs_115 : (am_pg z_M_pairs).2 115 = some (.if_icmp .eq (24), 118, 139, 0, 0, 0, 0, []) := (congrFun pm_M_pairs 115).trans rfl
theorem rl_M_pairs_118 : (am_pg z_M_pairs).2 118 = some (.goto (17), 121, 135, 0, 0, 0, 0, []) := (congrFun pm_M_pairs 118).trans rfl
theorem rl_M_pairs_121 : (am_pg z_M_pairs).2 121 = some (.iload 7, 123, 7, 0, 0, 0, 0, []) := (congrFun pm_M_pairs 121).trans rfl
theorem rl_M_pairs_123 : (am_pg z_M_pairs).2 123 = some (.bipush (-2), 125, 0, 0, 0, 0, -2, []) := (congrFun pm_M_pairs 123).trans rfl
theorem rl_M_pairs_125 : (am_pg z_M_pairs).2 125 = some (.if_icmp .ne (14), 128, 139, 0, 0, 0, 0, []) := (congrFun pm_M_pairs 125).trans rfl
theorem rl_M_pairs_128 : (am_pg z_M_pairs).2 128 = some (.iload 8, 130, 8, 0, 0, 0, 0, []) := (congrFun pm_M_pairs 128).trans rfl
theorem rl_M_pairs_130 : (am_pg z_M_pairs).2 130 = some (.bipush (-2), 132, 0, 0, 0, 0, -2, []) := (congrFun pm_M_pairs 130).trans rfl
theorem rl_M_pairs_132 : (am_pg z_M_pairs).2 132 = some (.if_icmp .ne (7), 135, 139, 0, 0, 0, 0, []) := (congrFun pm_M_pairs 132).trans rfl
theorem rl_M_pairs_135 : (am_pg z_M_pairs).2 135 = some (.iconst (1), 136, 0, 0, 0, 0, 1, []) := (congrFun pm_M_pairs 135).trans rfl
theorem rl_M_pairs_136 : (am_pg z_M_pairs).2 136 = some (.goto (4), 139, 140, 0, 0, 0, 0, []) := (congrFun pm_M_pairs 136).trans rfl
theorem rl_M_pairs_139 : (am_pg z_M_pairs).2 139 = some (.iconst (0), 140, 0, 0, 0, 0, 0, []) := (congrFun pm_M_pairs 139).trans rfl
theorem rl_M_pairs_140 : (am_pg z_M_pairs).2 140 = some (.iadd, 141, 0, 0, 0, 0, 0, []) := (congrFun pm_M_pairs 140).trans rfl
theorem rl_M_pairs_141 : (am_pg z_M_pairs).2 141 = some (.istore 4, 143, 4, 0, 0, 0, 0, []) := (congrFun pm_M_pairs 141).trans rfl
theorem rl_M_pairs_143 : (am_pg z_M_pairs).2 143 = some (.iinc 6 (1), 146, 6, 0, 0, 0, 1, []) := (congrFun pm_M_pairs 143).trans rfl
theorem rl_M_pairs_146 : (am_pg z_M_pairs).2 146 = some (.goto (-96), 149, 50, 0, 0, 0, 0, []) := (congrFun pm_M_pairs 146).trans rfl
theorem rl_M_pairs_149 : (am_pg z_M_pairs).2 149 = some (.iinc 5 (1), 152, 5, 0, 0, 0, 1, []) := (congrFun pm_M_pairs 149).trans rfl
theorem rl_M_pairs_152 : (am_pg z_M_pairs).2 152 = some (.goto (-115), 155, 37, 0, 0, 0, 0, []) := (congrFun pm_M_pairs 152).trans rfl
theorem rl_M_pairs_155 : (am_pg z_M_pairs).2 155 = some (.iload 4, 157, 4, 0, 0, 0, 0, []) := (congrFun pm_M_pairs 155).trans rfl
theorem rl_M_pairs_157 : (am_pg z_M_pairs).2 157 = some (.ireturn, 158, 0, 0, 0, 0, 0, []) := (congrFun pm_M_pairs 157).trans rfl
theorem rl_M_isClaimed_0 : (am_pg z_M_isClaimed).2 0 = some (.iload_n 2, 1, 2, 0, 0, 0, 0, []) := (congrFun pm_M_isClaimed 0).trans rfl
theorem rl_M_isClaimed_1 : (am_pg z_M_isClaimed).2 1 = some (.invokestatic 194, 4, 89, 1, 0, 243, 0, []) := (congrFun pm_M_isClaimed 1).trans rfl
theorem rl_M_isClaimed_4 : (am_pg z_M_isClaimed).2 4 = some (.ifCond .eq (16), 7, 20, 0, 0, 0, 0, []) := (congrFun pm_M_isClaimed 4).trans rfl
theorem rl_M_isClaimed_7 : (am_pg z_M_isClaimed).2 7 = some (.aload_n 0, 8, 0, 0, 0, 0, 0, []) := (congrFun pm_M_isClaimed 7).trans rfl
theorem rl_M_isClaimed_8 : (am_pg z_M_isClaimed).2 8 = some (.iload_n 1, 9, 1, 0, 0, 0, 0, []) := (congrFun pm_M_isClaimed 8).trans rfl
theorem rl_M_isClaimed_9 : (am_pg z_M_isClaimed).2 9 = some (.iload_n 2, 10, 2, 0, 0, 0, 0, []) := (congrFun pm_M_isClaimed 9).trans rfl
theorem rl_M_isClaimed_10 : (am_pg z_M_isClaimed).2 10 = some (.invokevirtual 262, 13, 160, 2, 9, 279, 0, []) := (congrFun pm_M_isClaimed 10).trans rfl
theorem rl_M_isClaimed_13 : (am_pg z_M_isClaimed).2 13 = some (.ifCond .eq (7), 16, 20, 0, 0, 0, 0, []) := (congrFun pm_M_isClaimed 13).trans rfl
theorem rl_M_isClaimed_16 : (am_pg z_M_isClaimed).2 16 = some (.iconst (1), 17, 0, 0, 0, 0, 1, []) := (congrFun pm_M_isClaimed 16).trans rfl
theorem rl_M_isClaimed_17 : (am_pg z_M_isClaimed).2 17 = some (.goto (4), 20, 21, 0, 0, 0, 0, []) := (congrFun pm_M_isClaimed 17).trans rfl
theorem rl_M_isClaimed_20 : (am_pg z_M_isClaimed).2 20 = some (.iconst (0), 21, 0, 0, 0, 0, 0, []) := (congrFun pm_M_isClaimed 20).trans rfl
theorem rl_M_isClaimed_21 : (am_pg z_M_isClaimed).2 21 = some (.ireturn, 22, 0, 0, 1, 0, 0, []) := (congrFun pm_M_isClaimed 21).trans rfl
theorem rl_M_isTied_0 : (am_pg z_M_isTied).2 0 = some (.aload_n 0, 1, 0, 0, 0, 0, 0, []) := (congrFun pm_M_isTied 0).trans rfl
theorem rl_M_isTied_1 : (am_pg z_M_isTied).2 1 = some (.getfield 7, 4, 9, 0, 0, 76, 0, []) := (congrFun pm_M_isTied 1).trans rfl
theorem rl_M_isTied_4 : (am_pg z_M_isTied).2 4 = some (.iload_n 2, 5, 2, 0, 0, 0, 0, []) := (congrFun pm_M_isTied 4).trans rfl
theorem rl_M_isTied_5 : (am_pg z_M_isTied).2 5 = some (.iaload, 6, 0, 0, 0, 0, 0, []) := (congrFun pm_M_isTied 5).trans rfl
theorem rl_M_isTied_6 : (am_pg z_M_isTied).2 6 = some (.iload_n 1, 7, 1, 0, 0, 0, 0, []) := (congrFun pm_M_isTied 6).trans rfl
theorem rl_M_isTied_7 : (am_pg z_M_isTied).2 7 = some (.if_icmp .eq (17), 10, 24, 0, 0, 0, 0, []) := (congrFun pm_M_isTied 7).trans rfl
theorem rl_M_isTied_10 : (am_pg z_M_isTied).2 10 = some (.aload_n 0, 11, 0, 0, 0, 0, 0, []) := (congrFun pm_M_isTied 10).trans rfl
theorem rl_M_isTied_11 : (am_pg z_M_isTied).2 11 = some (.getfield 13, 14, 9, 1, 0, 77, 0, []) := (congrFun pm_M_isTied 11).trans rfl
theorem rl_M_isTied_14 : (am_pg z_M_isTied).2 14 = some (.iload_n 2, 15, 2, 0, 0, 0, 0, []) := (congrFun pm_M_isTied 14).trans rfl
theorem rl_M_isTied_15 : (am_pg z_M_isTied).2 15 = some (.iaload, 16, 0, 0, 0, 0, 0, []) := (congrFun pm_M_isTied 15).trans rfl
theorem rl_M_isTied_16 : (am_pg z_M_isTied).2 16 = some (.iload_n 1, 17, 1, 0, 0, 0, 0, []) := (congrFun pm_M_isTied 16).trans rfl
theorem rl_M_isTied_17 : (am_pg z_M_isTied).2 17 = some (.ishr, 18, 0, 0, 0, 0, 0, []) := (congrFun pm_M_isTied 17).trans rfl
theorem rl_M_isTied_18 : (am_pg z_M_isTied).2 18 = some (.iconst (1), 19, 0, 0, 0, 0, 1, []) := (congrFun pm_M_isTied 18).trans rfl
theorem rl_M_isTied_19 : (am_pg z_M_isTied).2 19 = some (.iand, 20, 0, 0, 0, 0, 0, []) := (congrFun pm_M_isTied 19).trans rfl
theorem rl_M_isTied_20 : (am_pg z_M_isTied).2 20 = some (.iconst (1), 21, 0, 0, 0, 0, 1, []) := (congrFun pm_M_isTied 20).trans rfl
theorem rl_M_isTied_21 : (am_pg z_M_isTied).2 21 = some (.if_icmp .ne (7), 24, 28, 0, 0, 0, 0, []) := (congrFun pm_M_isTied 21).trans rfl
theorem rl_M_isTied_24 : (am_pg z_M_isTied).2 24 = some (.iconst (1), 25, 0, 0, 0, 0, 1, []) := (congrFun pm_M_isTied 24).trans rfl
theorem rl_M_isTied_25 : (am_pg z_M_isTied).2 25 = some (.goto (4), 28, 29, 0, 0, 0, 0, []) := (congrFun pm_M_isTied 25).trans rfl
theorem rl_M_isTied_28 : (am_pg z_M_isTied).2 28 = some (.iconst (0), 29, 0, 0, 0, 0, 0, []) := (congrFun pm_M_isTied 28).trans rfl
theorem rl_M_isTied_29 : (am_pg z_M_isTied).2 29 = some (.ireturn, 30, 0, 0, 1, 0, 0, []) := (congrFun pm_M_isTied 29).trans rfl
theorem rl_M_fromOf_0 : (am_pg z_M_fromOf).2 0 = some (.sipush (360), 3, 0, 0, 0, 0, 360, []) := (congrFun pm_M_fromOf 0).trans rfl
theorem rl_M_fromOf_3 : (am_pg z_M_fromOf).2 3 = some (.iload_n 2, 4, 2, 0, 0, 0, 0, []) := (congrFun pm_M_fromOf 3).trans rfl
theorem rl_M_fromOf_4 : (am_pg z_M_fromOf).2 4 = some (.imul, 5, 0, 0, 0, 0, 0, []) := (congrFun pm_M_fromOf 4).trans rfl
theorem rl_M_fromOf_5 : (am_pg z_M_fromOf).2 5 = some (.istore_n 3, 6, 3, 0, 0, 0, 0, []) := (congrFun pm_M_fromOf 5).trans rfl
theorem rl_M_fromOf_6 : (am_pg z_M_fromOf).2 6 = some (.aload_n 0, 7, 0, 0, 0, 0, 0, []) := (congrFun pm_M_fromOf 6).trans rfl
theorem rl_M_fromOf_7 : (am_pg z_M_fromOf).2 7 = some (.iload_n 1, 8, 1, 0, 0, 0, 0, []) := (congrFun pm_M_fromOf 7).trans rfl
theorem rl_M_fromOf_8 : (am_pg z_M_fromOf).2 8 = some (.iload_n 2, 9, 2, 0, 0, 0, 0, []) := (congrFun pm_M_fromOf 8).trans rfl
theorem rl_M_fromOf_9 : (am_pg z_M_fromOf).2 9 = some (.iconst (1), 10, 0, 0, 0, 0, 1, []) := (congrFun pm_M_fromOf 9).trans rfl
theorem rl_M_fromOf_10 : (am_pg z_M_fromOf).2 10 = some (.isub, 11, 0, 0, 0, 0, 0, []) := (congrFun pm_M_fromOf 10).trans rfl
theorem rl_M_fromOf_11 : (am_pg z_M_fromOf).2 11 = some (.invokevirtual 280, 14, 172, 2, 9, 290, 0, []) := (congrFun pm_M_fromOf 11).trans rfl
theorem rl_M_fromOf_14 : (am_pg z_M_fromOf).2 14 = some (.ifCond .eq (5), 17, 19, 0, 0, 0, 0, []) := (congrFun pm_M_fromOf 14).trans rfl
theorem rl_M_fromOf_17 : (am_pg z_M_fromOf).2 17 = some (.iload_n 3, 18, 3, 0, 0, 0, 0, []) := (congrFun pm_M_fromOf 17).trans rfl
theorem rl_M_fromOf_18 : (am_pg z_M_fromOf).2 18 = some (.ireturn, 19, 0, 0, 0, 0, 0, []) := (congrFun pm_M_fromOf 18).trans rfl
theorem rl_M_fromOf_19 : (am_pg z_M_fromOf).2 19 = some (.iload_n 3, 20, 3, 0, 0, 0, 0, []) := (congrFun pm_M_fromOf 19).trans rfl
theorem rl_M_fromOf_20 : (am_pg z_M_fromOf).2 20 = some (.sipush (360), 23, 0, 0, 0, 0, 360, []) := (congrFun pm_M_fromOf 20).trans rfl
theorem rl_M_fromOf_23 : (am_pg z_M_fromOf).2 23 = some (.iload_n 2, 24, 2, 0, 0, 0, 0, []) := (congrFun pm_M_fromOf 23).trans rfl
theorem rl_M_fromOf_24 : (am_pg z_M_fromOf).2 24 = some (.imul, 25, 0, 0, 0, 0, 0, []) := (congrFun pm_M_fromOf 24).trans rfl
theorem rl_M_fromOf_25 : (am_pg z_M_fromOf).2 25 = some (.sipush (360), 28, 0, 0, 0, 0, 360, []) := (congrFun pm_M_fromOf 25).trans rfl
theorem rl_M_fromOf_28 : (am_pg z_M_fromOf).2 28 = some (.iadd, 29, 0, 0, 0, 0, 0, []) := (congrFun pm_M_fromOf 28).trans rfl
theorem rl_M_fromOf_29 : (am_pg z_M_fromOf).2 29 = some (.iconst (1), 30, 0, 0, 0, 0, 1, []) := (congrFun pm_M_fromOf 29).trans rfl
theorem rl_M_fromOf_30 : (am_pg z_M_fromOf).2 30 = some (.isub, 31, 0, 0, 0, 0, 0, []) := (congrFun pm_M_fromOf 30).trans rfl
theorem rl_M_fromOf_31 : (am_pg z_M_fromOf).2 31 = some (.if_icmp .ge (19), 34, 50, 0, 0, 0, 0, []) := (congrFun pm_M_fromOf 31).trans rfl
theorem rl_M_fromOf_34 : (am_pg z_M_fromOf).2 34 = some (.aload_n 0, 35, 0, 0, 0, 0, 0, []) := (congrFun pm_M_fromOf 34).trans rfl
theorem rl_M_fromOf_35 : (am_pg z_M_fromOf).2 35 = some (.iload_n 1, 36, 1, 0, 0, 0, 0, []) := (congrFun pm_M_fromOf 35).trans rfl
theorem rl_M_fromOf_36 : (am_pg z_M_fromOf).2 36 = some (.iload_n 3, 37, 3, 0, 0, 0, 0, []) := (congrFun pm_M_fromOf 36).trans rfl
theorem rl_M_fromOf_37 : (am_pg z_M_fromOf).2 37 = some (.invokevirtual 283, 40, 173, 2, 9, 292, 0, []) := (congrFun pm_M_fromOf 37).trans rfl
theorem rl_M_fromOf_40 : (am_pg z_M_fromOf).2 40 = some (.ifCond .ne (10), 43, 50, 0, 0, 0, 0, []) := (congrFun pm_M_fromOf 40).trans rfl
theorem rl_M_fromOf_43 : (am_pg z_M_fromOf).2 43 = some (.iload_n 3, 44, 3, 0, 0, 0, 0, []) := (congrFun pm_M_fromOf 43).trans rfl
theorem rl_M_fromOf_44 : (am_pg z_M_fromOf).2 44 = some (.iconst (1), 45, 0, 0, 0, 0, 1, []) := (congrFun pm_M_fromOf 44).trans rfl
theorem rl_M_fromOf_45 : (am_pg z_M_fromOf).2 45 = some (.iadd, 46, 0, 0, 0, 0, 0, []) := (congrFun pm_M_fromOf 45).trans rfl
theorem rl_M_fromOf_46 : (am_pg z_M_fromOf).2 46 = some (.istore_n 3, 47, 3, 0, 0, 0, 0, []) := (congrFun pm_M_fromOf 46).trans rfl
theorem rl_M_fromOf_47 : (am_pg z_M_fromOf).2 47 = some (.goto (-28), 50, 19, 0, 0, 0, 0, []) := (congrFun pm_M_fromOf 47).trans rfl
theorem rl_M_fromOf_50 : (am_pg z_M_fromOf).2 50 = some (.iload_n 3, 51, 3, 0, 0, 0, 0, []) := (congrFun pm_M_fromOf 50).trans rfl
theorem rl_M_fromOf_51 : (am_pg z_M_fromOf).2 51 = some (.ireturn, 52, 0, 0, 0, 0, 0, []) := (congrFun pm_M_fromOf 51).trans rfl
theorem rl_M_tillOf_0 : (am_pg z_M_tillOf).2 0 = some (.sipush (360), 3, 0, 0, 0, 0, 360, []) := (congrFun pm_M_tillOf 0).trans rfl
theorem rl_M_tillOf_3 : (am_pg z_M_tillOf).2 3 = some (.iload_n 2, 4, 2, 0, 0, 0, 0, []) := (congrFun pm_M_tillOf 3).trans rfl
theorem rl_M_tillOf_4 : (am_pg z_M_tillOf).2 4 = some (.imul, 5, 0, 0, 0, 0, 0, []) := (congrFun pm_M_tillOf 4).trans rfl
theorem rl_M_tillOf_5 : (am_pg z_M_tillOf).2 5 = some (.sipush (360), 8, 0, 0, 0, 0, 360, []) := (congrFun pm_M_tillOf 5).trans rfl
theorem rl_M_tillOf_8 : (am_pg z_M_tillOf).2 8 = some (.iadd, 9, 0, 0, 0, 0, 0, []) := (congrFun pm_M_tillOf 8).trans rfl
theorem rl_M_tillOf_9 : (am_pg z_M_tillOf).2 9 = some (.iconst (1), 10, 0, 0, 0, 0, 1, []) := (congrFun pm_M_tillOf 9).trans rfl
theorem rl_M_tillOf_10 : (am_pg z_M_tillOf).2 10 = some (.isub, 11, 0, 0, 0, 0, 0, []) := (congrFun pm_M_tillOf 10).trans rfl
theorem rl_M_tillOf_11 : (am_pg z_M_tillOf).2 11 = some (.istore_n 3, 12, 3, 0, 0, 0, 0, []) := (congrFun pm_M_tillOf 11).trans rfl
theorem rl_M_tillOf_12 : (am_pg z_M_tillOf).2 12 = some (.aload_n 0, 13, 0, 0, 0, 0, 0, []) := (congrFun pm_M_tillOf 12).trans rfl
theorem rl_M_tillOf_13 : (am_pg z_M_tillOf).2 13 = some (.iload_n 1, 14, 1, 0, 0, 0, 0, []) := (congrFun pm_M_tillOf 13).trans rfl
theorem rl_M_tillOf_14 : (am_pg z_M_tillOf).2 14 = some (.iload_n 2, 15, 2, 0, 0, 0, 0, []) := (congrFun pm_M_tillOf 14).trans rfl
theorem rl_M_tillOf_15 : (am_pg z_M_tillOf).2 15 = some (.iconst (1), 16, 0, 0, 0, 0, 1, []) := (congrFun pm_M_tillOf 15).trans rfl
theorem rl_M_tillOf_16 : (am_pg z_M_tillOf).2 16 = some (.iadd, 17, 0, 0, 0, 0, 0, []) := (congrFun pm_M_tillOf 16).trans rfl
theorem rl_M_tillOf_17 : (am_pg z_M_tillOf).2 17 = some (.invokevirtual 280, 20, 172, 2, 9, 290, 0, []) := (congrFun pm_M_tillOf 17).trans rfl
theorem rl_M_tillOf_20 : (am_pg z_M_tillOf).2 20 = some (.ifCond .eq (5), 23, 25, 0, 0, 0, 0, []) := (congrFun pm_M_tillOf 20).trans rfl
theorem rl_M_tillOf_23 : (am_pg z_M_tillOf).2 23 = some (.iload_n 3, 24, 3, 0, 0, 0, 0, []) := (congrFun pm_M_tillOf 23).trans rfl
theorem rl_M_tillOf_24 : (am_pg z_M_tillOf).2 24 = some (.ireturn, 25, 0, 0, 0, 0, 0, []) := (congrFun pm_M_tillOf 24).trans rfl
theorem rl_M_tillOf_25 : (am_pg z_M_tillOf).2 25 = some (.iload_n 3, 26, 3, 0, 0, 0, 0, []) := (congrFun pm_M_tillOf 25).trans rfl
theorem rl_M_tillOf_26 : (am_pg z_M_tillOf).2 26 = some (.sipush (360), 29, 0, 0, 0, 0, 360, []) := (congrFun pm_M_tillOf 26).trans rfl
theorem rl_M_tillOf_29 : (am_pg z_M_tillOf).2 29 = some (.iload_n 2, 30, 2, 0, 0, 0, 0, []) := (congrFun pm_M_tillOf 29).trans rfl
theorem rl_M_tillOf_30 : (am_pg z_M_tillOf).2 30 = some (.imul, 31, 0, 0, 0, 0, 0, []) := (congrFun pm_M_tillOf 30).trans rfl
theorem rl_M_tillOf_31 : (am_pg z_M_tillOf).2 31 = some (.if_icmp .le (19), 34, 50, 0, 0, 0, 0, []) := (congrFun pm_M_tillOf 31).trans rfl
theorem rl_M_tillOf_34 : (am_pg z_M_tillOf).2 34 = some (.aload_n 0, 35, 0, 0, 0, 0, 0, []) := (congrFun pm_M_tillOf 34).trans rfl
theorem rl_M_tillOf_35 : (am_pg z_M_tillOf).2 35 = some (.iload_n 1, 36, 1, 0, 0, 0, 0, []) := (congrFun pm_M_tillOf 35).trans rfl
theorem rl_M_tillOf_36 : (am_pg z_M_tillOf).2 36 = some (.iload_n 3, 37, 3, 0, 0, 0, 0, []) := (congrFun pm_M_tillOf 36).trans rfl
theorem rl_M_tillOf_37 : (am_pg z_M_tillOf).2 37 = some (.invokevirtual 283, 40, 173, 2, 9, 292, 0, []) := (congrFun pm_M_tillOf 37).trans rfl
theorem rl_M_tillOf_40 : (am_pg z_M_tillOf).2 40 = some (.ifCond .ne (10), 43, 50, 0, 0, 0, 0, []) := (congrFun pm_M_tillOf 40).trans rfl
theorem rl_M_tillOf_43 : (am_pg z_M_tillOf).2 43 = some (.iload_n 3, 44, 3, 0, 0, 0, 0, []) := (congrFun pm_M_tillOf 43).trans rfl
theorem rl_M_tillOf_44 : (am_pg z_M_tillOf).2 44 = some (.iconst (1), 45, 0, 0, 0, 0, 1, []) := (congrFun pm_M_tillOf 44).trans rfl
theorem rl_M_tillOf_45 : (am_pg z_M_tillOf).2 45 = some (.isub, 46, 0, 0, 0, 0, 0, []) := (congrFun pm_M_tillOf 45).trans rfl
theorem rl_M_tillOf_46 : (am_pg z_M_tillOf).2 46 = some (.istore_n 3, 47, 3, 0, 0, 0, 0, []) := (congrFun pm_M_tillOf 46).trans rfl
theorem rl_M_tillOf_47 : (am_pg z_M_tillOf).2 47 = some (.goto (-22), 50, 25, 0, 0, 0, 0, []) := (congrFun pm_M_tillOf 47).trans rfl
theorem rl_M_tillOf_50 : (am_pg z_M_tillOf).2 50 = some (.iload_n 3, 51, 3, 0, 0, 0, 0, []) := (congrFun pm_M_tillOf 50).trans rfl
theorem rl_M_tillOf_51 : (am_pg z_M_tillOf).2 51 = some (.ireturn, 52, 0, 0, 0, 0, 0, []) := (congrFun pm_M_tillOf 51).trans rfl
theorem rl_M_split_0 : (am_pg z_M_split).2 0 = some (.iload_n 1, 1, 1, 0, 0, 0, 0, []) := (congrFun pm_M_split 0).trans rfl
theorem rl_M_split_1 : (am_pg z_M_split).2 1 = some (.invokestatic 143, 4, 85, 1, 0, 223, 0, []) := (congrFun pm_M_split 1).trans rfl
theorem rl_M_split_4 : (am_pg z_M_split).2 4 = some (.ifCond .eq (22), 7, 26, 0, 0, 0, 0, []) := (congrFun pm_M_split 4).trans rfl
theorem rl_M_split_7 : (am_pg z_M_split).2 7 = some (.iload_n 2, 8, 2, 0, 0, 0, 0, []) := (congrFun pm_M_split 7).trans rfl
theorem rl_M_split_8 : (am_pg z_M_split).2 8 = some (.invokestatic 194, 11, 89, 1, 0, 243, 0, []) := (congrFun pm_M_split 8).trans rfl
theorem rl_M_split_11 : (am_pg z_M_split).2 11 = some (.ifCond .eq (15), 14, 26, 0, 0, 0, 0, []) := (congrFun pm_M_split 11).trans rfl
theorem rl_M_split_14 : (am_pg z_M_split).2 14 = some (.iload_n 3, 15, 3, 0, 0, 0, 0, []) := (congrFun pm_M_split 14).trans rfl
theorem rl_M_split_15 : (am_pg z_M_split).2 15 = some (.i2l, 16, 0, 0, 0, 0, 0, []) := (congrFun pm_M_split 15).trans rfl
theorem rl_M_split_16 : (am_pg z_M_split).2 16 = some (.lconst 0, 17, 0, 0, 0, 0, 0, []) := (congrFun pm_M_split 16).trans rfl
theorem rl_M_split_17 : (am_pg z_M_split).2 17 = some (.ldc2_w 78, 20, 0, 0, 0, 10, 2, []) := (congrFun pm_M_split 17).trans rfl
theorem rl_M_split_20 : (am_pg z_M_split).2 20 = some (.invokestatic 66, 23, 84, 3, 0, 210, 0, []) := (congrFun pm_M_split 20).trans rfl
theorem rl_M_split_23 : (am_pg z_M_split).2 23 = some (.ifCond .ne (5), 26, 28, 0, 0, 0, 0, []) := (congrFun pm_M_split 23).trans rfl
theorem rl_M_split_26 : (am_pg z_M_split).2 26 = some (.iconst (-1), 27, 0, 0, 0, 0, -1, []) := (congrFun pm_M_split 26).trans rfl
theorem rl_M_split_27 : (am_pg z_M_split).2 27 = some (.ireturn, 28, 0, 0, 0, 0, 0, []) := (congrFun pm_M_split 27).trans rfl
theorem rl_M_split_28 : (am_pg z_M_split).2 28 = some (.aload_n 0, 29, 0, 0, 0, 0, 0, []) := (congrFun pm_M_split 28).trans rfl
theorem rl_M_split_29 : (am_pg z_M_split).2 29 = some (.invokevirtual 235, 32, 155, 0, 9, 266, 0, []) := (congrFun pm_M_split 29).trans rfl
theorem rl_M_split_32 : (am_pg z_M_split).2 32 = some (.aload_n 0, 33, 0, 0, 0, 0, 0, []) := (congrFun pm_M_split 32).trans rfl
theorem rl_M_split_33 : (am_pg z_M_split).2 33 = some (.iload_n 1, 34, 1, 0, 0, 0, 0, []) := (congrFun pm_M_split 33).trans rfl
theorem rl_M_split_34 : (am_pg z_M_split).2 34 = some (.iload_n 2, 35, 2, 0, 0, 0, 0, []) := (congrFun pm_M_split 34).trans rfl
theorem rl_M_split_35 : (am_pg z_M_split).2 35 = some (.invokevirtual 280, 38, 172, 2, 9, 290, 0, []) := (congrFun pm_M_split 35).trans rfl
theorem rl_M_split_38 : (am_pg z_M_split).2 38 = some (.ifCond .ne (6), 41, 44, 0, 0, 0, 0, []) := (congrFun pm_M_split 38).trans rfl
theorem rl_M_split_41 : (am_pg z_M_split).2 41 = some (.bipush (-2), 43, 0, 0, 0, 0, -2, []) := (congrFun pm_M_split 41).trans rfl
theorem rl_M_split_43 : (am_pg z_M_split).2 43 = some (.ireturn, 44, 0, 0, 0, 0, 0, []) := (congrFun pm_M_split 43).trans rfl
theorem rl_M_split_44 : (am_pg z_M_split).2 44 = some (.iload_n 3, 45, 3, 0, 0, 0, 0, []) := (congrFun pm_M_split 44).trans rfl
theorem rl_M_split_45 : (am_pg z_M_split).2 45 = some (.ifCond .ne (12), 48, 57, 0, 0, 0, 0, []) := (congrFun pm_M_split 45).trans rfl
theorem rl_M_split_48 : (am_pg z_M_split).2 48 = some (.aload_n 0, 49, 0, 0, 0, 0, 0, []) := (congrFun pm_M_split 48).trans rfl
theorem rl_M_split_49 : (am_pg z_M_split).2 49 = some (.iload_n 1, 50, 1, 0, 0, 0, 0, []) := (congrFun pm_M_split 49).trans rfl
theorem rl_M_split_50 : (am_pg z_M_split).2 50 = some (.iload_n 2, 51, 2, 0, 0, 0, 0, []) := (congrFun pm_M_split 50).trans rfl
theorem rl_M_split_51 : (am_pg z_M_split).2 51 = some (.invokevirtual 286, 54, 174, 2, 9, 291, 0, []) := (congrFun pm_M_split 51).trans rfl
theorem rl_M_split_54 : (am_pg z_M_split).2 54 = some (.goto (34), 57, 88, 0, 0, 0, 0, []) := (congrFun pm_M_split 54).trans rfl
theorem rl_M_split_57 : (am_pg z_M_split).2 57 = some (.iload_n 3, 58, 3, 0, 0, 0, 0, []) := (congrFun pm_M_split 57).trans rfl
theorem rl_M_split_58 : (am_pg z_M_split).2 58 = some (.iconst (1), 59, 0, 0, 0, 0, 1, []) := (congrFun pm_M_split 58).trans rfl
theorem rl_M_split_59 : (am_pg z_M_split).2 59 = some (.if_icmp .ne (12), 62, 71, 0, 0, 0, 0, []) := (congrFun pm_M_split 59).trans rfl
theorem rl_M_split_62 : (am_pg z_M_split).2 62 = some (.aload_n 0, 63, 0, 0, 0, 0, 0, []) := (congrFun pm_M_split 62).trans rfl
theorem rl_M_split_63 : (am_pg z_M_split).2 63 = some (.iload_n 1, 64, 1, 0, 0, 0, 0, []) := (congrFun pm_M_split 63).trans rfl
theorem rl_M_split_64 : (am_pg z_M_split).2 64 = some (.iload_n 2, 65, 2, 0, 0, 0, 0, []) := (congrFun pm_M_split 64).trans rfl
theorem rl_M_split_65 : (am_pg z_M_split).2 65 = some (.invokevirtual 289, 68, 175, 2, 9, 293, 0, []) := (congrFun pm_M_split 65).trans rfl
theorem rl_M_split_68 : (am_pg z_M_split).2 68 = some (.goto (20), 71, 88, 0, 0, 0, 0, []) := (congrFun pm_M_split 68).trans rfl
theorem rl_M_split_71 : (am_pg z_M_split).2 71 = some (.aload_n 0, 72, 0, 0, 0, 0, 0, []) := (congrFun pm_M_split 71).trans rfl
theorem rl_M_split_72 : (am_pg z_M_split).2 72 = some (.iload_n 1, 73, 1, 0, 0, 0, 0, []) := (congrFun pm_M_split 72).trans rfl
theorem rl_M_split_73 : (am_pg z_M_split).2 73 = some (.aload_n 0, 74, 0, 0, 0, 0, 0, []) := (congrFun pm_M_split 73).trans rfl
theorem rl_M_split_74 : (am_pg z_M_split).2 74 = some (.iload_n 1, 75, 1, 0, 0, 0, 0, []) := (congrFun pm_M_split 74).trans rfl
theorem rl_M_split_75 : (am_pg z_M_split).2 75 = some (.iload_n 2, 76, 2, 0, 0, 0, 0, []) := (congrFun pm_M_split 75).trans rfl
theorem rl_M_split_76 : (am_pg z_M_split).2 76 = some (.invokevirtual 286, 79, 174, 2, 9, 291, 0, []) := (congrFun pm_M_split 76).trans rfl
theorem rl_M_split_79 : (am_pg z_M_split).2 79 = some (.aload_n 0, 80, 0, 0, 0, 0, 0, []) := (congrFun pm_M_split 79).trans rfl
theorem rl_M_split_80 : (am_pg z_M_split).2 80 = some (.iload_n 1, 81, 1, 0, 0, 0, 0, []) := (congrFun pm_M_split 80).trans rfl
theorem rl_M_split_81 : (am_pg z_M_split).2 81 = some (.iload_n 2, 82, 2, 0, 0, 0, 0, []) := (congrFun pm_M_split 81).trans rfl
theorem rl_M_split_82 : (am_pg z_M_split).2 82 = some (.invokevirtual 289, 85, 175, 2, 9, 293, 0, []) := (congrFun pm_M_split 82).trans rfl
theorem rl_M_split_85 : (am_pg z_M_split).2 85 = some (.invokevirtual 219, 88, 134, 3, 9, 255, 0, []) := (congrFun pm_M_split 85).trans rfl
theorem rl_M_split_88 : (am_pg z_M_split).2 88 = some (.ireturn, 89, 0, 0, 0, 0, 0, []) := (congrFun pm_M_split 88).trans rfl
theorem rl_M_owes_0 : (am_pg z_M_owes).2 0 = some (.aload_n 0, 1, 0, 0, 0, 0, 0, []) := (congrFun pm_M_owes 0).trans rfl
theorem rl_M_owes_1 : (am_pg z_M_owes).2 1 = some (.iload_n 1, 2, 1, 0, 0, 0, 0, []) := (congrFun pm_M_owes 1).trans rfl
theorem rl_M_owes_2 : (am_pg z_M_owes).2 2 = some (.invokevirtual 277, 5, 169, 1, 9, 287, 0, []) := (congrFun pm_M_owes 2).trans rfl
theorem rl_M_owes_5 : (am_pg z_M_owes).2 5 = some (.istore_n 2, 6, 2, 0, 0, 0, 0, []) := (congrFun pm_M_owes 5).trans rfl
theorem rl_M_owes_6 : (am_pg z_M_owes).2 6 = some (.iload_n 2, 7, 2, 0, 0, 0, 0, []) := (congrFun pm_M_owes 6).trans rfl
theorem rl_M_owes_7 : (am_pg z_M_owes).2 7 = some (.bipush (-2), 9, 0, 0, 0, 0, -2, []) := (congrFun pm_M_owes 7).trans rfl
theorem rl_M_owes_9 : (am_pg z_M_owes).2 9 = some (.if_icmp .ne (9), 12, 18, 0, 0, 0, 0, []) := (congrFun pm_M_owes 9).trans rfl
theorem rl_M_owes_12 : (am_pg z_M_owes).2 12 = some (.sipush (1080), 15, 0, 0, 0, 0, 1080, []) := (congrFun pm_M_owes 12).trans rfl
theorem rl_M_owes_15 : (am_pg z_M_owes).2 15 = some (.goto (9), 18, 24, 0, 0, 0, 0, []) := (congrFun pm_M_owes 15).trans rfl
theorem rl_M_owes_18 : (am_pg z_M_owes).2 18 = some (.aload_n 0, 19, 0, 0, 0, 0, 0, []) := (congrFun pm_M_owes 18).trans rfl
theorem rl_M_owes_19 : (am_pg z_M_owes).2 19 = some (.iload_n 2, 20, 2, 0, 0, 0, 0, []) := (congrFun pm_M_owes 19).trans rfl
theorem rl_M_owes_20 : (am_pg z_M_owes).2 20 = some (.iload_n 1, 21, 1, 0, 0, 0, 0, []) := (congrFun pm_M_owes 20).trans rfl
theorem rl_M_owes_21 : (am_pg z_M_owes).2 21 = some (.invokevirtual 286, 24, 174, 2, 9, 291, 0, []) := (congrFun pm_M_owes 21).trans rfl
theorem rl_M_owes_24 : (am_pg z_M_owes).2 24 = some (.istore_n 3, 25, 3, 0, 0, 0, 0, []) := (congrFun pm_M_owes 24).trans rfl
theorem rl_M_owes_25 : (am_pg z_M_owes).2 25 = some (.iload_n 2, 26, 2, 0, 0, 0, 0, []) := (congrFun pm_M_owes 25).trans rfl
theorem rl_M_owes_26 : (am_pg z_M_owes).2 26 = some (.bipush (-2), 28, 0, 0, 0, 0, -2, []) := (congrFun pm_M_owes 26).trans rfl
theorem rl_M_owes_28 : (am_pg z_M_owes).2 28 = some (.if_icmp .ne (9), 31, 37, 0, 0, 0, 0, []) := (congrFun pm_M_owes 28).trans rfl
theorem rl_M_owes_31 : (am_pg z_M_owes).2 31 = some (.sipush (1080), 34, 0, 0, 0, 0, 1080, []) := (congrFun pm_M_owes 31).trans rfl
theorem rl_M_owes_34 : (am_pg z_M_owes).2 34 = some (.goto (9), 37, 43, 0, 0, 0, 0, []) := (congrFun pm_M_owes 34).trans rfl
theorem rl_M_owes_37 : (am_pg z_M_owes).2 37 = some (.aload_n 0, 38, 0, 0, 0, 0, 0, []) := (congrFun pm_M_owes 37).trans rfl
theorem rl_M_owes_38 : (am_pg z_M_owes).2 38 = some (.iload_n 2, 39, 2, 0, 0, 0, 0, []) := (congrFun pm_M_owes 38).trans rfl
theorem rl_M_owes_39 : (am_pg z_M_owes).2 39 = some (.iload_n 1, 40, 1, 0, 0, 0, 0, []) := (congrFun pm_M_owes 39).trans rfl
theorem rl_M_owes_40 : (am_pg z_M_owes).2 40 = some (.invokevirtual 289, 43, 175, 2, 9, 293, 0, []) := (congrFun pm_M_owes 40).trans rfl
theorem rl_M_owes_43 : (am_pg z_M_owes).2 43 = some (.istore 4, 45, 4, 0, 0, 0, 0, []) := (congrFun pm_M_owes 43).trans rfl
theorem rl_M_owes_45 : (am_pg z_M_owes).2 45 = some (.iconst (0), 46, 0, 0, 0, 0, 0, []) := (congrFun pm_M_owes 45).trans rfl
theorem rl_M_owes_46 : (am_pg z_M_owes).2 46 = some (.istore 5, 48, 5, 0, 0, 0, 0, []) := (congrFun pm_M_owes 46).trans rfl
theorem rl_M_owes_48 : (am_pg z_M_owes).2 48 = some (.sipush (360), 51, 0, 0, 0, 0, 360, []) := (congrFun pm_M_owes 48).trans rfl
theorem rl_M_owes_51 : (am_pg z_M_owes).2 51 = some (.iload_n 1, 52, 1, 0, 0, 0, 0, []) := (congrFun pm_M_owes 51).trans rfl
theorem rl_M_owes_52 : (am_pg z_M_owes).2 52 = some (.imul, 53, 0, 0, 0, 0, 0, []) := (congrFun pm_M_owes 52).trans rfl
theorem rl_M_owes_53 : (am_pg z_M_owes).2 53 = some (.istore 6, 55, 6, 0, 0, 0, 0, []) := (congrFun pm_M_owes 53).trans rfl
theorem rl_M_owes_55 : (am_pg z_M_owes).2 55 = some (.iload 6, 57, 6, 0, 0, 0, 0, []) := (congrFun pm_M_owes 55).trans rfl
theorem rl_M_owes_57 : (am_pg z_M_owes).2 57 = some (.sipush (360), 60, 0, 0, 0, 0, 360, []) := (congrFun pm_M_owes 57).trans rfl
theorem rl_M_owes_60 : (am_pg z_M_owes).2 60 = some (.iload_n 1, 61, 1, 0, 0, 0, 0, []) := (congrFun pm_M_owes 60).trans rfl
theorem rl_M_owes_61 : (am_pg z_M_owes).2 61 = some (.imul, 62, 0, 0, 0, 0, 0, []) := (congrFun pm_M_owes 61).trans rfl
theorem rl_M_owes_62 : (am_pg z_M_owes).2 62 = some (.sipush (360), 65, 0, 0, 0, 0, 360, []) := (congrFun pm_M_owes 62).trans rfl
theorem rl_M_owes_65 : (am_pg z_M_owes).2 65 = some (.iadd, 66, 0, 0, 0, 0, 0, []) := (congrFun pm_M_owes 65).trans rfl
theorem rl_M_owes_66 : (am_pg z_M_owes).2 66 = some (.if_icmp .ge (58), 69, 124, 0, 0, 0, 0, []) := (congrFun pm_M_owes 66).trans rfl
theorem rl_M_owes_69 : (am_pg z_M_owes).2 69 = some (.iload 6, 71, 6, 0, 0, 0, 0, []) := (congrFun pm_M_owes 69).trans rfl
theorem rl_M_owes_71 : (am_pg z_M_owes).2 71 = some (.i2l, 72, 0, 0, 0, 0, 0, []) := (congrFun pm_M_owes 71).trans rfl
theorem rl_M_owes_72 : (am_pg z_M_owes).2 72 = some (.iload_n 3, 73, 3, 0, 0, 0, 0, []) := (congrFun pm_M_owes 72).trans rfl
theorem rl_M_owes_73 : (am_pg z_M_owes).2 73 = some (.i2l, 74, 0, 0, 0, 0, 0, []) := (congrFun pm_M_owes 73).trans rfl
theorem rl_M_owes_74 : (am_pg z_M_owes).2 74 = some (.iload 4, 76, 4, 0, 0, 0, 0, []) := (congrFun pm_M_owes 74).trans rfl
theorem rl_M_owes_76 : (am_pg z_M_owes).2 76 = some (.i2l, 77, 0, 0, 0, 0, 0, []) := (congrFun pm_M_owes 76).trans rfl
theorem rl_M_owes_77 : (am_pg z_M_owes).2 77 = some (.invokestatic 66, 80, 84, 3, 0, 210, 0, []) := (congrFun pm_M_owes 77).trans rfl
theorem rl_M_owes_80 : (am_pg z_M_owes).2 80 = some (.ifCond .eq (7), 83, 87, 0, 0, 0, 0, []) := (congrFun pm_M_owes 80).trans rfl
theorem rl_M_owes_83 : (am_pg z_M_owes).2 83 = some (.iload_n 2, 84, 2, 0, 0, 0, 0, []) := (congrFun pm_M_owes 83).trans rfl
theorem rl_M_owes_84 : (am_pg z_M_owes).2 84 = some (.goto (10), 87, 94, 0, 0, 0, 0, []) := (congrFun pm_M_owes 84).trans rfl
theorem rl_M_owes_87 : (am_pg z_M_owes).2 87 = some (.aload_n 0, 88, 0, 0, 0, 0, 0, []) := (congrFun pm_M_owes 87).trans rfl
theorem rl_M_owes_88 : (am_pg z_M_owes).2 88 = some (.getfield 7, 91, 9, 0, 0, 76, 0, []) := (congrFun pm_M_owes 88).trans rfl
theorem rl_M_owes_91 : (am_pg z_M_owes).2 91 = some (.iload 6, 93, 6, 0, 0, 0, 0, []) := (congrFun pm_M_owes 91).trans rfl
theorem rl_M_owes_93 : (am_pg z_M_owes).2 93 = some (.iaload, 94, 0, 0, 0, 0, 0, []) := (congrFun pm_M_owes 93).trans rfl
theorem rl_M_owes_94 : (am_pg z_M_owes).2 94 = some (.istore 7, 96, 7, 0, 0, 0, 0, []) := (congrFun pm_M_owes 94).trans rfl
theorem rl_M_owes_96 : (am_pg z_M_owes).2 96 = some (.iload 5, 98, 5, 0, 0, 0, 0, []) := (congrFun pm_M_owes 96).trans rfl
theorem rl_M_owes_98 : (am_pg z_M_owes).2 98 = some (.iload 7, 100, 7, 0, 0, 0, 0, []) := (congrFun pm_M_owes 98).trans rfl
theorem rl_M_owes_100 : (am_pg z_M_owes).2 100 = some (.iconst (-1), 101, 0, 0, 0, 0, -1, []) := (congrFun pm_M_owes 100).trans rfl
theorem rl_M_owes_101 : (am_pg z_M_owes).2 101 = some (.if_icmp .ne (7), 104, 108, 0, 0, 0, 0, []) := (congrFun pm_M_owes 101).trans rfl
theorem rl_M_owes_104 : (am_pg z_M_owes).2 104 = some (.iconst (0), 105, 0, 0, 0, 0, 0, []) := (congrFun pm_M_owes 104).trans rfl
theorem rl_M_owes_105 : (am_pg z_M_owes).2 105 = some (.goto (10), 108, 115, 0, 0, 0, 0, []) := (congrFun pm_M_owes 105).trans rfl
theorem rl_M_owes_108 : (am_pg z_M_owes).2 108 = some (.aload_n 0, 109, 0, 0, 0, 0, 0, []) := (congrFun pm_M_owes 108).trans rfl
theorem rl_M_owes_109 : (am_pg z_M_owes).2 109 = some (.iload 7, 111, 7, 0, 0, 0, 0, []) := (congrFun pm_M_owes 109).trans rfl
theorem rl_M_owes_111 : (am_pg z_M_owes).2 111 = some (.iconst (5), 112, 0, 0, 0, 0, 5, []) := (congrFun pm_M_owes 111).trans rfl
theorem rl_M_owes_112 : (am_pg z_M_owes).2 112 = some (.invokevirtual 146, 115, 92, 2, 9, 226, 0, []) := (congrFun pm_M_owes 112).trans rfl
theorem rl_M_owes_115 : (am_pg z_M_owes).2 115 = some (.iadd, 116, 0, 0, 0, 0, 0, []) := (congrFun pm_M_owes 115).trans rfl
theorem rl_M_owes_116 : (am_pg z_M_owes).2 116 = some (.istore 5, 118, 5, 0, 0, 0, 0, []) := (congrFun pm_M_owes 116).trans rfl
theorem rl_M_owes_118 : (am_pg z_M_owes).2 118 = some (.iinc 6 (1), 121, 6, 0, 0, 0, 1, []) := (congrFun pm_M_owes 118).trans rfl
theorem rl_M_owes_121 : (am_pg z_M_owes).2 121 = some (.goto (-66), 124, 55, 0, 0, 0, 0, []) := (congrFun pm_M_owes 121).trans rfl
theorem rl_M_owes_124 : (am_pg z_M_owes).2 124 = some (.iload 5, 126, 5, 0, 0, 0, 0, []) := (congrFun pm_M_owes 124).trans rfl
theorem rl_M_owes_126 : (am_pg z_M_owes).2 126 = some (.ireturn, 127, 0, 0, 0, 0, 0, []) := (congrFun pm_M_owes 126).trans rfl
theorem rl_M_owed_0 : (am_pg z_M_owed).2 0 = some (.iload_n 1, 1, 1, 0, 0, 0, 0, []) := (congrFun pm_M_owed 0).trans rfl
theorem rl_M_owed_1 : (am_pg z_M_owed).2 1 = some (.invokestatic 194, 4, 89, 1, 0, 243, 0, []) := (congrFun pm_M_owed 1).trans rfl
theorem rl_M_owed_4 : (am_pg z_M_owed).2 4 = some (.ifCond .ne (5), 7, 9, 0, 0, 0, 0, []) := (congrFun pm_M_owed 4).trans rfl
theorem rl_M_owed_7 : (am_pg z_M_owed).2 7 = some (.iconst (-1), 8, 0, 0, 0, 0, -1, []) := (congrFun pm_M_owed 7).trans rfl
theorem rl_M_owed_8 : (am_pg z_M_owed).2 8 = some (.ireturn, 9, 0, 0, 0, 0, 0, []) := (congrFun pm_M_owed 8).trans rfl
theorem rl_M_owed_9 : (am_pg z_M_owed).2 9 = some (.aload_n 0, 10, 0, 0, 0, 0, 0, []) := (congrFun pm_M_owed 9).trans rfl
theorem rl_M_owed_10 : (am_pg z_M_owed).2 10 = some (.invokevirtual 235, 13, 155, 0, 9, 266, 0, []) := (congrFun pm_M_owed 10).trans rfl
theorem rl_M_owed_13 : (am_pg z_M_owed).2 13 = some (.aload_n 0, 14, 0, 0, 0, 0, 0, []) := (congrFun pm_M_owed 13).trans rfl
theorem rl_M_owed_14 : (am_pg z_M_owed).2 14 = some (.iload_n 1, 15, 1, 0, 0, 0, 0, []) := (congrFun pm_M_owed 14).trans rfl
theorem rl_M_owed_15 : (am_pg z_M_owed).2 15 = some (.invokevirtual 292, 18, 177, 1, 9, 295, 0, []) := (congrFun pm_M_owed 15).trans rfl
theorem rl_M_owed_18 : (am_pg z_M_owed).2 18 = some (.ireturn, 19, 0, 0, 0, 0, 0, []) := (congrFun pm_M_owed 18).trans rfl
theorem rl_M_owesAll_0 : (am_pg z_M_owesAll).2 0 = some (.aload_n 0, 1, 0, 0, 0, 0, 0, []) := (congrFun pm_M_owesAll 0).trans rfl
theorem rl_M_owesAll_1 : (am_pg z_M_owesAll).2 1 = some (.invokevirtual 235, 4, 155, 0, 9, 266, 0, []) := (congrFun pm_M_owesAll 1).trans rfl
theorem rl_M_owesAll_4 : (am_pg z_M_owesAll).2 4 = some (.iconst (0), 5, 0, 0, 0, 0, 0, []) := (congrFun pm_M_owesAll 4).trans rfl
theorem rl_M_owesAll_5 : (am_pg z_M_owesAll).2 5 = some (.istore_n 1, 6, 1, 0, 0, 0, 0, []) := (congrFun pm_M_owesAll 5).trans rfl
theorem rl_M_owesAll_6 : (am_pg z_M_owesAll).2 6 = some (.iconst (0), 7, 0, 0, 0, 0, 0, []) := (congrFun pm_M_owesAll 6).trans rfl
theorem rl_M_owesAll_7 : (am_pg z_M_owesAll).2 7 = some (.istore_n 2, 8, 2, 0, 0, 0, 0, []) := (congrFun pm_M_owesAll 7).trans rfl
theorem rl_M_owesAll_8 : (am_pg z_M_owesAll).2 8 = some (.iload_n 2, 9, 2, 0, 0, 0, 0, []) := (congrFun pm_M_owesAll 8).trans rfl
theorem rl_M_owesAll_9 : (am_pg z_M_owesAll).2 9 = some (.iconst (3), 10, 0, 0, 0, 0, 3, []) := (congrFun pm_M_owesAll 9).trans rfl
theorem rl_M_owesAll_10 : (am_pg z_M_owesAll).2 10 = some (.if_icmp .ge (17), 13, 27, 0, 0, 0, 0, []) := (congrFun pm_M_owesAll 10).trans rfl
theorem rl_M_owesAll_13 : (am_pg z_M_owesAll).2 13 = some (.iload_n 1, 14, 1, 0, 0, 0, 0, []) := (congrFun pm_M_owesAll 13).trans rfl
theorem rl_M_owesAll_14 : (am_pg z_M_owesAll).2 14 = some (.aload_n 0, 15, 0, 0, 0, 0, 0, []) := (congrFun pm_M_owesAll 14).trans rfl
theorem rl_M_owesAll_15 : (am_pg z_M_owesAll).2 15 = some (.iload_n 2, 16, 2, 0, 0, 0, 0, []) := (congrFun pm_M_owesAll 15).trans rfl
theorem rl_M_owesAll_16 : (am_pg z_M_owesAll).2 16 = some (.invokevirtual 292, 19, 177, 1, 9, 295, 0, []) := (congrFun pm_M_owesAll 16).trans rfl
theorem rl_M_owesAll_19 : (am_pg z_M_owesAll).2 19 = some (.iadd, 20, 0, 0, 0, 0, 0, []) := (congrFun pm_M_owesAll 19).trans rfl
theorem rl_M_owesAll_20 : (am_pg z_M_owesAll).2 20 = some (.istore_n 1, 21, 1, 0, 0, 0, 0, []) := (congrFun pm_M_owesAll 20).trans rfl
theorem rl_M_owesAll_21 : (am_pg z_M_owesAll).2 21 = some (.iinc 2 (1), 24, 2, 0, 0, 0, 1, []) := (congrFun pm_M_owesAll 21).trans rfl
theorem rl_M_owesAll_24 : (am_pg z_M_owesAll).2 24 = some (.goto (-16), 27, 8, 0, 0, 0, 0, []) := (congrFun pm_M_owesAll 24).trans rfl
theorem rl_M_owesAll_27 : (am_pg z_M_owesAll).2 27 = some (.iload_n 1, 28, 1, 0, 0, 0, 0, []) := (congrFun pm_M_owesAll 27).trans rfl
theorem rl_M_owesAll_28 : (am_pg z_M_owesAll).2 28 = some (.ireturn, 29, 0, 0, 0, 0, 0, []) := (congrFun pm_M_owesAll 28).trans rfl
theorem rl_M_mayBe_0 : (am_pg z_M_mayBe).2 0 = some (.aload_n 0, 1, 0, 0, 0, 0, 0, []) := (congrFun pm_M_mayBe 0).trans rfl
theorem rl_M_mayBe_1 : (am_pg z_M_mayBe).2 1 = some (.iload_n 1, 2, 1, 0, 0, 0, 0, []) := (congrFun pm_M_mayBe 1).trans rfl
theorem rl_M_mayBe_2 : (am_pg z_M_mayBe).2 2 = some (.iconst (1), 3, 0, 0, 0, 0, 1, []) := (congrFun pm_M_mayBe 2).trans rfl
theorem rl_M_mayBe_3 : (am_pg z_M_mayBe).2 3 = some (.invokevirtual 146, 6, 92, 2, 9, 226, 0, []) := (congrFun pm_M_mayBe 3).trans rfl
theorem rl_M_mayBe_6 : (am_pg z_M_mayBe).2 6 = some (.istore 4, 8, 4, 0, 0, 0, 0, []) := (congrFun pm_M_mayBe 6).trans rfl
theorem rl_M_mayBe_8 : (am_pg z_M_mayBe).2 8 = some (.aload_n 0, 9, 0, 0, 0, 0, 0, []) := (congrFun pm_M_mayBe 8).trans rfl
theorem rl_M_mayBe_9 : (am_pg z_M_mayBe).2 9 = some (.getfield 35, 12, 9, 18, 0, 94, 0, []) := (congrFun pm_M_mayBe 9).trans rfl
theorem rl_M_mayBe_12 : (am_pg z_M_mayBe).2 12 = some (.iload_n 2, 13, 2, 0, 0, 0, 0, []) := (congrFun pm_M_mayBe 12).trans rfl
theorem rl_M_mayBe_13 : (am_pg z_M_mayBe).2 13 = some (.iaload, 14, 0, 0, 0, 0, 0, []) := (congrFun pm_M_mayBe 13).trans rfl
theorem rl_M_mayBe_14 : (am_pg z_M_mayBe).2 14 = some (.iconst (1), 15, 0, 0, 0, 0, 1, []) := (congrFun pm_M_mayBe 14).trans rfl
theorem rl_M_mayBe_15 : (am_pg z_M_mayBe).2 15 = some (.iadd, 16, 0, 0, 0, 0, 0, []) := (congrFun pm_M_mayBe 15).trans rfl
theorem rl_M_mayBe_16 : (am_pg z_M_mayBe).2 16 = some (.iload 4, 18, 4, 0, 0, 0, 0, []) := (congrFun pm_M_mayBe 16).trans rfl
theorem rl_M_mayBe_18 : (am_pg z_M_mayBe).2 18 = some (.if_icmp .le (5), 21, 23, 0, 0, 0, 0, []) := (congrFun pm_M_mayBe 18).trans rfl
theorem rl_M_mayBe_21 : (am_pg z_M_mayBe).2 21 = some (.iconst (0), 22, 0, 0, 0, 0, 0, []) := (congrFun pm_M_mayBe 21).trans rfl
theorem rl_M_mayBe_22 : (am_pg z_M_mayBe).2 22 = some (.ireturn, 23, 0, 0, 1, 0, 0, []) := (congrFun pm_M_mayBe 22).trans rfl
theorem rl_M_mayBe_23 : (am_pg z_M_mayBe).2 23 = some (.iload_n 2, 24, 2, 0, 0, 0, 0, []) := (congrFun pm_M_mayBe 23).trans rfl
theorem rl_M_mayBe_24 : (am_pg z_M_mayBe).2 24 = some (.iconst (1), 25, 0, 0, 0, 0, 1, []) := (congrFun pm_M_mayBe 24).trans rfl
theorem rl_M_mayBe_25 : (am_pg z_M_mayBe).2 25 = some (.iadd, 26, 0, 0, 0, 0, 0, []) := (congrFun pm_M_mayBe 25).trans rfl
theorem rl_M_mayBe_26 : (am_pg z_M_mayBe).2 26 = some (.istore 5, 28, 5, 0, 0, 0, 0, []) := (congrFun pm_M_mayBe 26).trans rfl
theorem rl_M_mayBe_28 : (am_pg z_M_mayBe).2 28 = some (.iload 5, 30, 5, 0, 0, 0, 0, []) := (congrFun pm_M_mayBe 28).trans rfl
theorem rl_M_mayBe_30 : (am_pg z_M_mayBe).2 30 = some (.sipush (1080), 33, 0, 0, 0, 0, 1080, []) := (congrFun pm_M_mayBe 30).trans rfl
theorem rl_M_mayBe_33 : (am_pg z_M_mayBe).2 33 = some (.if_icmp .ge (42), 36, 75, 0, 0, 0, 0, []) := (congrFun pm_M_mayBe 33).trans rfl
theorem rl_M_mayBe_36 : (am_pg z_M_mayBe).2 36 = some (.iload 5, 38, 5, 0, 0, 0, 0, []) := (congrFun pm_M_mayBe 36).trans rfl
theorem rl_M_mayBe_38 : (am_pg z_M_mayBe).2 38 = some (.iload_n 2, 39, 2, 0, 0, 0, 0, []) := (congrFun pm_M_mayBe 38).trans rfl
theorem rl_M_mayBe_39 : (am_pg z_M_mayBe).2 39 = some (.iload_n 3, 40, 3, 0, 0, 0, 0, []) := (congrFun pm_M_mayBe 39).trans rfl
theorem rl_M_mayBe_40 : (am_pg z_M_mayBe).2 40 = some (.iadd, 41, 0, 0, 0, 0, 0, []) := (congrFun pm_M_mayBe 40).trans rfl
theorem rl_M_mayBe_41 : (am_pg z_M_mayBe).2 41 = some (.if_icmp .ge (34), 44, 75, 0, 0, 0, 0, []) := (congrFun pm_M_mayBe 41).trans rfl
theorem rl_M_mayBe_44 : (am_pg z_M_mayBe).2 44 = some (.aload_n 0, 45, 0, 0, 0, 0, 0, []) := (congrFun pm_M_mayBe 44).trans rfl
theorem rl_M_mayBe_45 : (am_pg z_M_mayBe).2 45 = some (.getfield 7, 48, 9, 0, 0, 76, 0, []) := (congrFun pm_M_mayBe 45).trans rfl
theorem rl_M_mayBe_48 : (am_pg z_M_mayBe).2 48 = some (.iload 5, 50, 5, 0, 0, 0, 0, []) := (congrFun pm_M_mayBe 48).trans rfl
theorem rl_M_mayBe_50 : (am_pg z_M_mayBe).2 50 = some (.iaload, 51, 0, 0, 0, 0, 0, []) := (congrFun pm_M_mayBe 50).trans rfl
theorem rl_M_mayBe_51 : (am_pg z_M_mayBe).2 51 = some (.iload_n 1, 52, 1, 0, 0, 0, 0, []) := (congrFun pm_M_mayBe 51).trans rfl
theorem rl_M_mayBe_52 : (am_pg z_M_mayBe).2 52 = some (.if_icmp .ne (17), 55, 69, 0, 0, 0, 0, []) := (congrFun pm_M_mayBe 52).trans rfl
theorem rl_M_mayBe_55 : (am_pg z_M_mayBe).2 55 = some (.aload_n 0, 56, 0, 0, 0, 0, 0, []) := (congrFun pm_M_mayBe 55).trans rfl
theorem rl_M_mayBe_56 : (am_pg z_M_mayBe).2 56 = some (.getfield 35, 59, 9, 18, 0, 94, 0, []) := (congrFun pm_M_mayBe 56).trans rfl
theorem rl_M_mayBe_59 : (am_pg z_M_mayBe).2 59 = some (.iload 5, 61, 5, 0, 0, 0, 0, []) := (congrFun pm_M_mayBe 59).trans rfl
theorem rl_M_mayBe_61 : (am_pg z_M_mayBe).2 61 = some (.iaload, 62, 0, 0, 0, 0, 0, []) := (congrFun pm_M_mayBe 61).trans rfl
theorem rl_M_mayBe_62 : (am_pg z_M_mayBe).2 62 = some (.iload 4, 64, 4, 0, 0, 0, 0, []) := (congrFun pm_M_mayBe 62).trans rfl
theorem rl_M_mayBe_64 : (am_pg z_M_mayBe).2 64 = some (.if_icmp .ne (5), 67, 69, 0, 0, 0, 0, []) := (congrFun pm_M_mayBe 64).trans rfl
theorem rl_M_mayBe_67 : (am_pg z_M_mayBe).2 67 = some (.iconst (0), 68, 0, 0, 0, 0, 0, []) := (congrFun pm_M_mayBe 67).trans rfl
theorem rl_M_mayBe_68 : (am_pg z_M_mayBe).2 68 = some (.ireturn, 69, 0, 0, 1, 0, 0, []) := (congrFun pm_M_mayBe 68).trans rfl
theorem rl_M_mayBe_69 : (am_pg z_M_mayBe).2 69 = some (.iinc 5 (1), 72, 5, 0, 0, 0, 1, []) := (congrFun pm_M_mayBe 69).trans rfl
theorem rl_M_mayBe_72 : (am_pg z_M_mayBe).2 72 = some (.goto (-44), 75, 28, 0, 0, 0, 0, []) := (congrFun pm_M_mayBe 72).trans rfl
theorem rl_M_mayBe_75 : (am_pg z_M_mayBe).2 75 = some (.iconst (1), 76, 0, 0, 0, 0, 1, []) := (congrFun pm_M_mayBe 75).trans rfl
theorem rl_M_mayBe_76 : (am_pg z_M_mayBe).2 76 = some (.ireturn, 77, 0, 0, 1, 0, 0, []) := (congrFun pm_M_mayBe 76).trans rfl
theorem rl_M_freeOf_0 : (am_pg z_M_freeOf).2 0 = some (.sipush (1080), 3, 0, 0, 0, 0, 1080, []) := (congrFun pm_M_freeOf 0).trans rfl
theorem rl_M_freeOf_3 : (am_pg z_M_freeOf).2 3 = some (.iload_n 2, 4, 2, 0, 0, 0, 0, []) := (congrFun pm_M_freeOf 3).trans rfl
theorem rl_M_freeOf_4 : (am_pg z_M_freeOf).2 4 = some (.iload_n 3, 5, 3, 0, 0, 0, 0, []) := (congrFun pm_M_freeOf 4).trans rfl
theorem rl_M_freeOf_5 : (am_pg z_M_freeOf).2 5 = some (.iadd, 6, 0, 0, 0, 0, 0, []) := (congrFun pm_M_freeOf 5).trans rfl
theorem rl_M_freeOf_6 : (am_pg z_M_freeOf).2 6 = some (.invokestatic 162, 9, 91, 2, 0, 229, 0, []) := (congrFun pm_M_freeOf 6).trans rfl
theorem rl_M_freeOf_9 : (am_pg z_M_freeOf).2 9 = some (.istore 4, 11, 4, 0, 0, 0, 0, []) := (congrFun pm_M_freeOf 9).trans rfl
theorem rl_M_freeOf_11 : (am_pg z_M_freeOf).2 11 = some (.aload_n 0, 12, 0, 0, 0, 0, 0, []) := (congrFun pm_M_freeOf 11).trans rfl
theorem rl_M_freeOf_12 : (am_pg z_M_freeOf).2 12 = some (.iload_n 1, 13, 1, 0, 0, 0, 0, []) := (congrFun pm_M_freeOf 12).trans rfl
theorem rl_M_freeOf_13 : (am_pg z_M_freeOf).2 13 = some (.iconst (0), 14, 0, 0, 0, 0, 0, []) := (congrFun pm_M_freeOf 13).trans rfl
theorem rl_M_freeOf_14 : (am_pg z_M_freeOf).2 14 = some (.invokevirtual 146, 17, 92, 2, 9, 226, 0, []) := (congrFun pm_M_freeOf 14).trans rfl
theorem rl_M_freeOf_17 : (am_pg z_M_freeOf).2 17 = some (.istore 5, 19, 5, 0, 0, 0, 0, []) := (congrFun pm_M_freeOf 17).trans rfl
theorem rl_M_freeOf_19 : (am_pg z_M_freeOf).2 19 = some (.iload 5, 21, 5, 0, 0, 0, 0, []) := (congrFun pm_M_freeOf 19).trans rfl
theorem rl_M_freeOf_21 : (am_pg z_M_freeOf).2 21 = some (.ifCond .ne (8), 24, 29, 0, 0, 0, 0, []) := (congrFun pm_M_freeOf 21).trans rfl
theorem rl_M_freeOf_24 : (am_pg z_M_freeOf).2 24 = some (.iload 4, 26, 4, 0, 0, 0, 0, []) := (congrFun pm_M_freeOf 24).trans rfl
theorem rl_M_freeOf_26 : (am_pg z_M_freeOf).2 26 = some (.iload_n 2, 27, 2, 0, 0, 0, 0, []) := (congrFun pm_M_freeOf 26).trans rfl
theorem rl_M_freeOf_27 : (am_pg z_M_freeOf).2 27 = some (.isub, 28, 0, 0, 0, 0, 0, []) := (congrFun pm_M_freeOf 27).trans rfl
theorem rl_M_freeOf_28 : (am_pg z_M_freeOf).2 28 = some (.ireturn, 29, 0, 0, 0, 0, 0, []) := (congrFun pm_M_freeOf 28).trans rfl
theorem rl_M_freeOf_29 : (am_pg z_M_freeOf).2 29 = some (.aload_n 0, 30, 0, 0, 0, 0, 0, []) := (congrFun pm_M_freeOf 29).trans rfl
theorem rl_M_freeOf_30 : (am_pg z_M_freeOf).2 30 = some (.invokevirtual 241, 33, 147, 0, 9, 270, 0, []) := (congrFun pm_M_freeOf 30).trans rfl
theorem rl_M_freeOf_33 : (am_pg z_M_freeOf).2 33 = some (.aload_n 0, 34, 0, 0, 0, 0, 0, []) := (congrFun pm_M_freeOf 33).trans rfl
theorem rl_M_freeOf_34 : (am_pg z_M_freeOf).2 34 = some (.iload_n 1, 35, 1, 0, 0, 0, 0, []) := (congrFun pm_M_freeOf 34).trans rfl
theorem rl_M_freeOf_35 : (am_pg z_M_freeOf).2 35 = some (.iload 5, 37, 5, 0, 0, 0, 0, []) := (congrFun pm_M_freeOf 35).trans rfl
theorem rl_M_freeOf_37 : (am_pg z_M_freeOf).2 37 = some (.invokevirtual 224, 40, 137, 2, 9, 259, 0, []) := (congrFun pm_M_freeOf 37).trans rfl
theorem rl_M_freeOf_40 : (am_pg z_M_freeOf).2 40 = some (.iconst (0), 41, 0, 0, 0, 0, 0, []) := (congrFun pm_M_freeOf 40).trans rfl
theorem rl_M_freeOf_41 : (am_pg z_M_freeOf).2 41 = some (.istore 6, 43, 6, 0, 0, 0, 0, []) := (congrFun pm_M_freeOf 41).trans rfl
theorem rl_M_freeOf_43 : (am_pg z_M_freeOf).2 43 = some (.iload_n 2, 44, 2, 0, 0, 0, 0, []) := (congrFun pm_M_freeOf 43).trans rfl
theorem rl_M_freeOf_44 : (am_pg z_M_freeOf).2 44 = some (.istore 7, 46, 7, 0, 0, 0, 0, []) := (congrFun pm_M_freeOf 44).trans rfl
theorem rl_M_freeOf_46 : (am_pg z_M_freeOf).2 46 = some (.iload 7, 48, 7, 0, 0, 0, 0, []) := (congrFun pm_M_freeOf 46).trans rfl
theorem rl_M_freeOf_48 : (am_pg z_M_freeOf).2 48 = some (.iload 4, 50, 4, 0, 0, 0, 0, []) := (congrFun pm_M_freeOf 48).trans rfl
theorem rl_M_freeOf_50 : (am_pg z_M_freeOf).2 50 = some (.if_icmp .ge (105), 53, 155, 0, 0, 0, 0, []) := (congrFun pm_M_freeOf 50).trans rfl
theorem rl_M_freeOf_53 : (am_pg z_M_freeOf).2 53 = some (.aload_n 0, 54, 0, 0, 0, 0, 0, []) := (congrFun pm_M_freeOf 53).trans rfl
theorem rl_M_freeOf_54 : (am_pg z_M_freeOf).2 54 = some (.getfield 7, 57, 9, 0, 0, 76, 0, []) := (congrFun pm_M_freeOf 54).trans rfl
theorem rl_M_freeOf_57 : (am_pg z_M_freeOf).2 57 = some (.iload 7, 59, 7, 0, 0, 0, 0, []) := (congrFun pm_M_freeOf 57).trans rfl
theorem rl_M_freeOf_59 : (am_pg z_M_freeOf).2 59 = some (.iaload, 60, 0, 0, 0, 0, 0, []) := (congrFun pm_M_freeOf 59).trans rfl
theorem rl_M_freeOf_60 : (am_pg z_M_freeOf).2 60 = some (.iload_n 1, 61, 1, 0, 0, 0, 0, []) := (congrFun pm_M_freeOf 60).trans rfl
theorem rl_M_freeOf_61 : (am_pg z_M_freeOf).2 61 = some (.if_icmp .eq (67), 64, 128, 0, 0, 0, 0, []) := (congrFun pm_M_freeOf 61).trans rfl
theorem rl_M_freeOf_64 : (am_pg z_M_freeOf).2 64 = some (.aload_n 0, 65, 0, 0, 0, 0, 0, []) := (congrFun pm_M_freeOf 64).trans rfl
theorem rl_M_freeOf_65 : (am_pg z_M_freeOf).2 65 = some (.iload_n 1, 66, 1, 0, 0, 0, 0, []) := (congrFun pm_M_freeOf 65).trans rfl
theorem rl_M_freeOf_66 : (am_pg z_M_freeOf).2 66 = some (.iload 7, 68, 7, 0, 0, 0, 0, []) := (congrFun pm_M_freeOf 66).trans rfl
theorem rl_M_freeOf_68 : (am_pg z_M_freeOf).2 68 = some (.iload 5, 70, 5, 0, 0, 0, 0, []) := (congrFun pm_M_freeOf 68).trans rfl
theorem rl_M_freeOf_70 : (am_pg z_M_freeOf).2 70 = some (.invokevirtual 295, 73, 180, 3, 9, 299, 0, []) := (congrFun pm_M_freeOf 70).trans rfl
theorem rl_M_freeOf_73 : (am_pg z_M_freeOf).2 73 = some (.ifCond .eq (55), 76, 128, 0, 0, 0, 0, []) := (congrFun pm_M_freeOf 73).trans rfl
theorem rl_M_freeOf_76 : (am_pg z_M_freeOf).2 76 = some (.aload_n 0, 77, 0, 0, 0, 0, 0, []) := (congrFun pm_M_freeOf 76).trans rfl
theorem rl_M_freeOf_77 : (am_pg z_M_freeOf).2 77 = some (.getfield 7, 80, 9, 0, 0, 76, 0, []) := (congrFun pm_M_freeOf 77).trans rfl
theorem rl_M_freeOf_80 : (am_pg z_M_freeOf).2 80 = some (.iload 7, 82, 7, 0, 0, 0, 0, []) := (congrFun pm_M_freeOf 80).trans rfl
theorem rl_M_freeOf_82 : (am_pg z_M_freeOf).2 82 = some (.iload_n 1, 83, 1, 0, 0, 0, 0, []) := (congrFun pm_M_freeOf 82).trans rfl
theorem rl_M_freeOf_83 : (am_pg z_M_freeOf).2 83 = some (.iastore, 84, 0, 0, 0, 0, 0, []) := (congrFun pm_M_freeOf 83).trans rfl
theorem rl_M_freeOf_84 : (am_pg z_M_freeOf).2 84 = some (.iload 7, 86, 7, 0, 0, 0, 0, []) := (congrFun pm_M_freeOf 84).trans rfl
theorem rl_M_freeOf_86 : (am_pg z_M_freeOf).2 86 = some (.istore 8, 88, 8, 0, 0, 0, 0, []) := (congrFun pm_M_freeOf 86).trans rfl
theorem rl_M_freeOf_88 : (am_pg z_M_freeOf).2 88 = some (.iload 8, 90, 8, 0, 0, 0, 0, []) := (congrFun pm_M_freeOf 88).trans rfl
theorem rl_M_freeOf_90 : (am_pg z_M_freeOf).2 90 = some (.sipush (1080), 93, 0, 0, 0, 0, 1080, []) := (congrFun pm_M_freeOf 90).trans rfl
theorem rl_M_freeOf_93 : (am_pg z_M_freeOf).2 93 = some (.if_icmp .ge (35), 96, 128, 0, 0, 0, 0, []) := (congrFun pm_M_freeOf 93).trans rfl
theorem rl_M_freeOf_96 : (am_pg z_M_freeOf).2 96 = some (.iload 8, 98, 8, 0, 0, 0, 0, []) := (congrFun pm_M_freeOf 96).trans rfl
theorem rl_M_freeOf_98 : (am_pg z_M_freeOf).2 98 = some (.iload 7, 100, 7, 0, 0, 0, 0, []) := (congrFun pm_M_freeOf 98).trans rfl
theorem rl_M_freeOf_100 : (am_pg z_M_freeOf).2 100 = some (.iload 5, 102, 5, 0, 0, 0, 0, []) := (congrFun pm_M_freeOf 100).trans rfl
theorem rl_M_freeOf_102 : (am_pg z_M_freeOf).2 102 = some (.iadd, 103, 0, 0, 0, 0, 0, []) := (congrFun pm_M_freeOf 102).trans rfl
theorem rl_M_freeOf_103 : (am_pg z_M_freeOf).2 103 = some (.if_icmp .ge (25), 106, 128, 0, 0, 0, 0, []) := (congrFun pm_M_freeOf 103).trans rfl
theorem rl_M_freeOf_106 : (am_pg z_M_freeOf).2 106 = some (.aload_n 0, 107, 0, 0, 0, 0, 0, []) := (congrFun pm_M_freeOf 106).trans rfl
theorem rl_M_freeOf_107 : (am_pg z_M_freeOf).2 107 = some (.getfield 35, 110, 9, 18, 0, 94, 0, []) := (congrFun pm_M_freeOf 107).trans rfl
theorem rl_M_freeOf_110 : (am_pg z_M_freeOf).2 110 = some (.iload 8, 112, 8, 0, 0, 0, 0, []) := (congrFun pm_M_freeOf 110).trans rfl
theorem rl_M_freeOf_112 : (am_pg z_M_freeOf).2 112 = some (.aload_n 0, 113, 0, 0, 0, 0, 0, []) := (congrFun pm_M_freeOf 112).trans rfl
theorem rl_M_freeOf_113 : (am_pg z_M_freeOf).2 113 = some (.getfield 35, 116, 9, 18, 0, 94, 0, []) := (congrFun pm_M_freeOf 113).trans rfl
theorem rl_M_freeOf_116 : (am_pg z_M_freeOf).2 116 = some (.iload 8, 118, 8, 0, 0, 0, 0, []) := (congrFun pm_M_freeOf 116).trans rfl
theorem rl_M_freeOf_118 : (am_pg z_M_freeOf).2 118 = some (.iaload, 119, 0, 0, 0, 0, 0, []) := (congrFun pm_M_freeOf 118).trans rfl
theorem rl_M_freeOf_119 : (am_pg z_M_freeOf).2 119 = some (.iconst (1), 120, 0, 0, 0, 0, 1, []) := (congrFun pm_M_freeOf 119).trans rfl
theorem rl_M_freeOf_120 : (am_pg z_M_freeOf).2 120 = some (.iadd, 121, 0, 0, 0, 0, 0, []) := (congrFun pm_M_freeOf 120).trans rfl
theorem rl_M_freeOf_121 : (am_pg z_M_freeOf).2 121 = some (.iastore, 122, 0, 0, 0, 0, 0, []) := (congrFun pm_M_freeOf 121).trans rfl
theorem rl_M_freeOf_122 : (am_pg z_M_freeOf).2 122 = some (.iinc 8 (1), 125, 8, 0, 0, 0, 1, []) := (congrFun pm_M_freeOf 122).trans rfl
theorem rl_M_freeOf_125 : (am_pg z_M_freeOf).2 125 = some (.goto (-37), 128, 88, 0, 0, 0, 0, []) := (congrFun pm_M_freeOf 125).trans rfl
theorem rl_M_freeOf_128 : (am_pg z_M_freeOf).2 128 = some (.iload 6, 130, 6, 0, 0, 0, 0, []) := (congrFun pm_M_freeOf 128).trans rfl
theorem rl_M_freeOf_130 : (am_pg z_M_freeOf).2 130 = some (.aload_n 0, 131, 0, 0, 0, 0, 0, []) := (congrFun pm_M_freeOf 130).trans rfl
theorem rl_M_freeOf_131 : (am_pg z_M_freeOf).2 131 = some (.getfield 7, 134, 9, 0, 0, 76, 0, []) := (congrFun pm_M_freeOf 131).trans rfl
theorem rl_M_freeOf_134 : (am_pg z_M_freeOf).2 134 = some (.iload 7, 136, 7, 0, 0, 0, 0, []) := (congrFun pm_M_freeOf 134).trans rfl
theorem rl_M_freeOf_136 : (am_pg z_M_freeOf).2 136 = some (.iaload, 137, 0, 0, 0, 0, 0, []) := (congrFun pm_M_freeOf 136).trans rfl
theorem rl_M_freeOf_137 : (am_pg z_M_freeOf).2 137 = some (.iload_n 1, 138, 1, 0, 0, 0, 0, []) := (congrFun pm_M_freeOf 137).trans rfl
theorem rl_M_freeOf_138 : (am_pg z_M_freeOf).2 138 = some (.if_icmp .ne (7), 141, 145, 0, 0, 0, 0, []) := (congrFun pm_M_freeOf 138).trans rfl
theorem rl_M_freeOf_141 : (am_pg z_M_freeOf).2 141 = some (.iconst (1), 142, 0, 0, 0, 0, 1, []) := (congrFun pm_M_freeOf 141).trans rfl
theorem rl_M_freeOf_142 : (am_pg z_M_freeOf).2 142 = some (.goto (4), 145, 146, 0, 0, 0, 0, []) := (congrFun pm_M_freeOf 142).trans rfl
theorem rl_M_freeOf_145 : (am_pg z_M_freeOf).2 145 = some (.iconst (0), 146, 0, 0, 0, 0, 0, []) := (congrFun pm_M_freeOf 145).trans rfl
theorem rl_M_freeOf_146 : (am_pg z_M_freeOf).2 146 = some (.iadd, 147, 0, 0, 0, 0, 0, []) := (congrFun pm_M_freeOf 146).trans rfl
theorem rl_M_freeOf_147 : (am_pg z_M_freeOf).2 147 = some (.istore 6, 149, 6, 0, 0, 0, 0, []) := (congrFun pm_M_freeOf 147).trans rfl
theorem rl_M_freeOf_149 : (am_pg z_M_freeOf).2 149 = some (.iinc 7 (1), 152, 7, 0, 0, 0, 1, []) := (congrFun pm_M_freeOf 149).trans rfl
theorem rl_M_freeOf_152 : (am_pg z_M_freeOf).2 152 = some (.goto (-106), 155, 46, 0, 0, 0, 0, []) := (congrFun pm_M_freeOf 152).trans rfl
theorem rl_M_freeOf_155 : (am_pg z_M_freeOf).2 155 = some (.aload_n 0, 156, 0, 0, 0, 0, 0, []) := (congrFun pm_M_freeOf 155).trans rfl
theorem rl_M_freeOf_156 : (am_pg z_M_freeOf).2 156 = some (.invokevirtual 299, 159, 148, 0, 9, 300, 0, []) := (congrFun pm_M_freeOf 156).trans rfl
theorem rl_M_freeOf_159 : (am_pg z_M_freeOf).2 159 = some (.iload 6, 161, 6, 0, 0, 0, 0, []) := (congrFun pm_M_freeOf 159).trans rfl
theorem rl_M_freeOf_161 : (am_pg z_M_freeOf).2 161 = some (.ireturn, 162, 0, 0, 0, 0, 0, []) := (congrFun pm_M_freeOf 161).trans rfl
theorem rl_M_isSpan_0 : (am_pg z_M_isSpan).2 0 = some (.iload_n 0, 1, 0, 0, 0, 0, 0, []) := (congrFun pm_M_isSpan 0).trans rfl
theorem rl_M_isSpan_1 : (am_pg z_M_isSpan).2 1 = some (.i2l, 2, 0, 0, 0, 0, 0, []) := (congrFun pm_M_isSpan 1).trans rfl
theorem rl_M_isSpan_2 : (am_pg z_M_isSpan).2 2 = some (.lconst 1, 3, 0, 0, 0, 0, 1, []) := (congrFun pm_M_isSpan 2).trans rfl
theorem rl_M_isSpan_3 : (am_pg z_M_isSpan).2 3 = some (.ldc2_w 156, 6, 0, 0, 0, 9, 360, []) := (congrFun pm_M_isSpan 3).trans rfl
theorem rl_M_isSpan_6 : (am_pg z_M_isSpan).2 6 = some (.invokestatic 66, 9, 84, 3, 0, 210, 0, []) := (congrFun pm_M_isSpan 6).trans rfl
theorem rl_M_isSpan_9 : (am_pg z_M_isSpan).2 9 = some (.ireturn, 10, 0, 0, 1, 0, 0, []) := (congrFun pm_M_isSpan 9).trans rfl
theorem rl_M_free_0 : (am_pg z_M_free).2 0 = some (.iload_n 1, 1, 1, 0, 0, 0, 0, []) := (congrFun pm_M_free 0).trans rfl
theorem rl_M_free_1 : (am_pg z_M_free).2 1 = some (.invokestatic 143, 4, 85, 1, 0, 223, 0, []) := (congrFun pm_M_free 1).trans rfl
theorem rl_M_free_4 : (am_pg z_M_free).2 4 = some (.ifCond .eq (27), 7, 31, 0, 0, 0, 0, []) := (congrFun pm_M_free 4).trans rfl
theorem rl_M_free_7 : (am_pg z_M_free).2 7 = some (.iload_n 2, 8, 2, 0, 0, 0, 0, []) := (congrFun pm_M_free 7).trans rfl
theorem rl_M_free_8 : (am_pg z_M_free).2 8 = some (.invokestatic 74, 11, 87, 1, 0, 221, 0, []) := (congrFun pm_M_free 8).trans rfl
theorem rl_M_free_11 : (am_pg z_M_free).2 11 = some (.ifCond .eq (20), 14, 31, 0, 0, 0, 0, []) := (congrFun pm_M_free 11).trans rfl
theorem rl_M_free_14 : (am_pg z_M_free).2 14 = some (.iload_n 3, 15, 3, 0, 0, 0, 0, []) := (congrFun pm_M_free 14).trans rfl
theorem rl_M_free_15 : (am_pg z_M_free).2 15 = some (.invokestatic 302, 18, 182, 1, 0, 297, 0, []) := (congrFun pm_M_free 15).trans rfl
theorem rl_M_free_18 : (am_pg z_M_free).2 18 = some (.ifCond .eq (13), 21, 31, 0, 0, 0, 0, []) := (congrFun pm_M_free 18).trans rfl
theorem rl_M_free_21 : (am_pg z_M_free).2 21 = some (.aload_n 0, 22, 0, 0, 0, 0, 0, []) := (congrFun pm_M_free 21).trans rfl
theorem rl_M_free_22 : (am_pg z_M_free).2 22 = some (.iload_n 1, 23, 1, 0, 0, 0, 0, []) := (congrFun pm_M_free 22).trans rfl
theorem rl_M_free_23 : (am_pg z_M_free).2 23 = some (.iload_n 2, 24, 2, 0, 0, 0, 0, []) := (congrFun pm_M_free 23).trans rfl
theorem rl_M_free_24 : (am_pg z_M_free).2 24 = some (.iload_n 3, 25, 3, 0, 0, 0, 0, []) := (congrFun pm_M_free 24).trans rfl
theorem rl_M_free_25 : (am_pg z_M_free).2 25 = some (.invokevirtual 305, 28, 181, 3, 9, 298, 0, []) := (congrFun pm_M_free 25).trans rfl
theorem rl_M_free_28 : (am_pg z_M_free).2 28 = some (.goto (4), 31, 32, 0, 0, 0, 0, []) := (congrFun pm_M_free 28).trans rfl
theorem rl_M_free_31 : (am_pg z_M_free).2 31 = some (.iconst (-1), 32, 0, 0, 0, 0, -1, []) := (congrFun pm_M_free 31).trans rfl
theorem rl_M_free_32 : (am_pg z_M_free).2 32 = some (.ireturn, 33, 0, 0, 0, 0, 0, []) := (congrFun pm_M_free 32).trans rfl
theorem rl_M_goes_0 : (am_pg z_M_goes).2 0 = some (.iload_n 2, 1, 2, 0, 0, 0, 0, []) := (congrFun pm_M_goes 0).trans rfl
theorem rl_M_goes_1 : (am_pg z_M_goes).2 1 = some (.istore 4, 3, 4, 0, 0, 0, 0, []) := (congrFun pm_M_goes 1).trans rfl
theorem rl_M_goes_3 : (am_pg z_M_goes).2 3 = some (.iload 4, 5, 4, 0, 0, 0, 0, []) := (congrFun pm_M_goes 3).trans rfl
theorem rl_M_goes_5 : (am_pg z_M_goes).2 5 = some (.iload_n 3, 6, 3, 0, 0, 0, 0, []) := (congrFun pm_M_goes 5).trans rfl
theorem rl_M_goes_6 : (am_pg z_M_goes).2 6 = some (.if_icmp .gt (17), 9, 23, 0, 0, 0, 0, []) := (congrFun pm_M_goes 6).trans rfl
theorem rl_M_goes_9 : (am_pg z_M_goes).2 9 = some (.aload_n 0, 10, 0, 0, 0, 0, 0, []) := (congrFun pm_M_goes 9).trans rfl
theorem rl_M_goes_10 : (am_pg z_M_goes).2 10 = some (.getfield 7, 13, 9, 0, 0, 76, 0, []) := (congrFun pm_M_goes 10).trans rfl
theorem rl_M_goes_13 : (am_pg z_M_goes).2 13 = some (.iload 4, 15, 4, 0, 0, 0, 0, []) := (congrFun pm_M_goes 13).trans rfl
theorem rl_M_goes_15 : (am_pg z_M_goes).2 15 = some (.iload_n 1, 16, 1, 0, 0, 0, 0, []) := (congrFun pm_M_goes 15).trans rfl
theorem rl_M_goes_16 : (am_pg z_M_goes).2 16 = some (.iastore, 17, 0, 0, 0, 0, 0, []) := (congrFun pm_M_goes 16).trans rfl
theorem rl_M_goes_17 : (am_pg z_M_goes).2 17 = some (.iinc 4 (1), 20, 4, 0, 0, 0, 1, []) := (congrFun pm_M_goes 17).trans rfl
theorem rl_M_goes_20 : (am_pg z_M_goes).2 20 = some (.goto (-17), 23, 3, 0, 0, 0, 0, []) := (congrFun pm_M_goes 20).trans rfl
theorem rl_M_goes_23 : (am_pg z_M_goes).2 23 = some (.return_, 24, 0, 0, 0, 0, 0, []) := (congrFun pm_M_goes 23).trans rfl
theorem rl_M_mustLeave_0 : (am_pg z_M_mustLeave).2 0 = some (.iload_n 1, 1, 1, 0, 0, 0, 0, []) := (congrFun pm_M_mustLeave 0).trans rfl
theorem rl_M_mustLeave_1 : (am_pg z_M_mustLeave).2 1 = some (.invokestatic 143, 4, 85, 1, 0, 223, 0, []) := (congrFun pm_M_mustLeave 1).trans rfl
theorem rl_M_mustLeave_4 : (am_pg z_M_mustLeave).2 4 = some (.ifCond .eq (10), 7, 14, 0, 0, 0, 0, []) := (congrFun pm_M_mustLeave 4).trans rfl
theorem rl_M_mustLeave_7 : (am_pg z_M_mustLeave).2 7 = some (.iload_n 2, 8, 2, 0, 0, 0, 0, []) := (congrFun pm_M_mustLeave 7).trans rfl
theorem rl_M_mustLeave_8 : (am_pg z_M_mustLeave).2 8 = some (.invokestatic 74, 11, 87, 1, 0, 221, 0, []) := (congrFun pm_M_mustLeave 8).trans rfl
theorem rl_M_mustLeave_11 : (am_pg z_M_mustLeave).2 11 = some (.ifCond .ne (5), 14, 16, 0, 0, 0, 0, []) := (congrFun pm_M_mustLeave 11).trans rfl
theorem rl_M_mustLeave_14 : (am_pg z_M_mustLeave).2 14 = some (.iconst (-1), 15, 0, 0, 0, 0, -1, []) := (congrFun pm_M_mustLeave 14).trans rfl
theorem rl_M_mustLeave_15 : (am_pg z_M_mustLeave).2 15 = some (.ireturn, 16, 0, 0, 0, 0, 0, []) := (congrFun pm_M_mustLeave 15).trans rfl
theorem rl_M_mustLeave_16 : (am_pg z_M_mustLeave).2 16 = some (.aload_n 0, 17, 0, 0, 0, 0, 0, []) := (congrFun pm_M_mustLeave 16).trans rfl
theorem rl_M_mustLeave_17 : (am_pg z_M_mustLeave).2 17 = some (.invokevirtual 241, 20, 147, 0, 9, 270, 0, []) := (congrFun pm_M_mustLeave 17).trans rfl
theorem rl_M_mustLeave_20 : (am_pg z_M_mustLeave).2 20 = some (.aload_n 0, 21, 0, 0, 0, 0, 0, []) := (congrFun pm_M_mustLeave 20).trans rfl
theorem rl_M_mustLeave_21 : (am_pg z_M_mustLeave).2 21 = some (.iload_n 1, 22, 1, 0, 0, 0, 0, []) := (congrFun pm_M_mustLeave 21).trans rfl
theorem rl_M_mustLeave_22 : (am_pg z_M_mustLeave).2 22 = some (.iload_n 2, 23, 2, 0, 0, 0, 0, []) := (congrFun pm_M_mustLeave 22).trans rfl
theorem rl_M_mustLeave_23 : (am_pg z_M_mustLeave).2 23 = some (.sipush (1079), 26, 0, 0, 0, 0, 1079, []) := (congrFun pm_M_mustLeave 23).trans rfl
theorem rl_M_mustLeave_26 : (am_pg z_M_mustLeave).2 26 = some (.invokevirtual 308, 29, 184, 3, 9, 302, 0, []) := (congrFun pm_M_mustLeave 26).trans rfl
theorem rl_M_mustLeave_29 : (am_pg z_M_mustLeave).2 29 = some (.aload_n 0, 30, 0, 0, 0, 0, 0, []) := (congrFun pm_M_mustLeave 29).trans rfl
theorem rl_M_mustLeave_30 : (am_pg z_M_mustLeave).2 30 = some (.iload_n 1, 31, 1, 0, 0, 0, 0, []) := (congrFun pm_M_mustLeave 30).trans rfl
theorem rl_M_mustLeave_31 : (am_pg z_M_mustLeave).2 31 = some (.iload_n 2, 32, 2, 0, 0, 0, 0, []) := (congrFun pm_M_mustLeave 31).trans rfl
theorem rl_M_mustLeave_32 : (am_pg z_M_mustLeave).2 32 = some (.sipush (1079), 35, 0, 0, 0, 0, 1079, []) := (congrFun pm_M_mustLeave 32).trans rfl
theorem rl_M_mustLeave_35 : (am_pg z_M_mustLeave).2 35 = some (.iconst (1), 36, 0, 0, 0, 0, 1, []) := (congrFun pm_M_mustLeave 35).trans rfl
theorem rl_M_mustLeave_36 : (am_pg z_M_mustLeave).2 36 = some (.invokevirtual 231, 39, 139, 4, 9, 258, 0, []) := (congrFun pm_M_mustLeave 36).trans rfl
theorem rl_M_mustLeave_39 : (am_pg z_M_mustLeave).2 39 = some (.istore_n 3, 40, 3, 0, 0, 0, 0, []) := (congrFun pm_M_mustLeave 39).trans rfl
theorem rl_M_mustLeave_40 : (am_pg z_M_mustLeave).2 40 = some (.aload_n 0, 41, 0, 0, 0, 0, 0, []) := (congrFun pm_M_mustLeave 40).trans rfl
theorem rl_M_mustLeave_41 : (am_pg z_M_mustLeave).2 41 = some (.invokevirtual 299, 44, 148, 0, 9, 300, 0, []) := (congrFun pm_M_mustLeave 41).trans rfl
theorem rl_M_mustLeave_44 : (am_pg z_M_mustLeave).2 44 = some (.iload_n 3, 45, 3, 0, 0, 0, 0, []) := (congrFun pm_M_mustLeave 44).trans rfl
theorem rl_M_mustLeave_45 : (am_pg z_M_mustLeave).2 45 = some (.ireturn, 46, 0, 0, 0, 0, 0, []) := (congrFun pm_M_mustLeave 45).trans rfl
theorem rl_M_wouldBe_0 : (am_pg z_M_wouldBe).2 0 = some (.iconst (0), 1, 0, 0, 0, 0, 0, []) := (congrFun pm_M_wouldBe 0).trans rfl
theorem rl_M_wouldBe_1 : (am_pg z_M_wouldBe).2 1 = some (.iload_n 1, 2, 1, 0, 0, 0, 0, []) := (congrFun pm_M_wouldBe 1).trans rfl
theorem rl_M_wouldBe_2 : (am_pg z_M_wouldBe).2 2 = some (.iload_n 3, 3, 3, 0, 0, 0, 0, []) := (congrFun pm_M_wouldBe 2).trans rfl
theorem rl_M_wouldBe_3 : (am_pg z_M_wouldBe).2 3 = some (.isub, 4, 0, 0, 0, 0, 0, []) := (congrFun pm_M_wouldBe 3).trans rfl
theorem rl_M_wouldBe_4 : (am_pg z_M_wouldBe).2 4 = some (.iconst (1), 5, 0, 0, 0, 0, 1, []) := (congrFun pm_M_wouldBe 4).trans rfl
theorem rl_M_wouldBe_5 : (am_pg z_M_wouldBe).2 5 = some (.iadd, 6, 0, 0, 0, 0, 0, []) := (congrFun pm_M_wouldBe 5).trans rfl
theorem rl_M_wouldBe_6 : (am_pg z_M_wouldBe).2 6 = some (.invokestatic 197, 9, 90, 2, 0, 244, 0, []) := (congrFun pm_M_wouldBe 6).trans rfl
theorem rl_M_wouldBe_9 : (am_pg z_M_wouldBe).2 9 = some (.istore 4, 11, 4, 0, 0, 0, 0, []) := (congrFun pm_M_wouldBe 9).trans rfl
theorem rl_M_wouldBe_11 : (am_pg z_M_wouldBe).2 11 = some (.iload 4, 13, 4, 0, 0, 0, 0, []) := (congrFun pm_M_wouldBe 11).trans rfl
theorem rl_M_wouldBe_13 : (am_pg z_M_wouldBe).2 13 = some (.iload_n 2, 14, 2, 0, 0, 0, 0, []) := (congrFun pm_M_wouldBe 13).trans rfl
theorem rl_M_wouldBe_14 : (am_pg z_M_wouldBe).2 14 = some (.if_icmp .lt (12), 17, 26, 0, 0, 0, 0, []) := (congrFun pm_M_wouldBe 14).trans rfl
theorem rl_M_wouldBe_17 : (am_pg z_M_wouldBe).2 17 = some (.iload_n 1, 18, 1, 0, 0, 0, 0, []) := (congrFun pm_M_wouldBe 17).trans rfl
theorem rl_M_wouldBe_18 : (am_pg z_M_wouldBe).2 18 = some (.iload 4, 20, 4, 0, 0, 0, 0, []) := (congrFun pm_M_wouldBe 18).trans rfl
theorem rl_M_wouldBe_20 : (am_pg z_M_wouldBe).2 20 = some (.isub, 21, 0, 0, 0, 0, 0, []) := (congrFun pm_M_wouldBe 20).trans rfl
theorem rl_M_wouldBe_21 : (am_pg z_M_wouldBe).2 21 = some (.iconst (1), 22, 0, 0, 0, 0, 1, []) := (congrFun pm_M_wouldBe 21).trans rfl
theorem rl_M_wouldBe_22 : (am_pg z_M_wouldBe).2 22 = some (.iadd, 23, 0, 0, 0, 0, 0, []) := (congrFun pm_M_wouldBe 22).trans rfl
theorem rl_M_wouldBe_23 : (am_pg z_M_wouldBe).2 23 = some (.goto (23), 26, 46, 0, 0, 0, 0, []) := (congrFun pm_M_wouldBe 23).trans rfl
theorem rl_M_wouldBe_26 : (am_pg z_M_wouldBe).2 26 = some (.iload_n 1, 27, 1, 0, 0, 0, 0, []) := (congrFun pm_M_wouldBe 26).trans rfl
theorem rl_M_wouldBe_27 : (am_pg z_M_wouldBe).2 27 = some (.iload_n 2, 28, 2, 0, 0, 0, 0, []) := (congrFun pm_M_wouldBe 27).trans rfl
theorem rl_M_wouldBe_28 : (am_pg z_M_wouldBe).2 28 = some (.isub, 29, 0, 0, 0, 0, 0, []) := (congrFun pm_M_wouldBe 28).trans rfl
theorem rl_M_wouldBe_29 : (am_pg z_M_wouldBe).2 29 = some (.iconst (1), 30, 0, 0, 0, 0, 1, []) := (congrFun pm_M_wouldBe 29).trans rfl
theorem rl_M_wouldBe_30 : (am_pg z_M_wouldBe).2 30 = some (.iadd, 31, 0, 0, 0, 0, 0, []) := (congrFun pm_M_wouldBe 30).trans rfl
theorem rl_M_wouldBe_31 : (am_pg z_M_wouldBe).2 31 = some (.aload_n 0, 32, 0, 0, 0, 0, 0, []) := (congrFun pm_M_wouldBe 31).trans rfl
theorem rl_M_wouldBe_32 : (am_pg z_M_wouldBe).2 32 = some (.getfield 44, 35, 9, 21, 0, 97, 0, []) := (congrFun pm_M_wouldBe 32).trans rfl
theorem rl_M_wouldBe_35 : (am_pg z_M_wouldBe).2 35 = some (.iload_n 2, 36, 2, 0, 0, 0, 0, []) := (congrFun pm_M_wouldBe 35).trans rfl
theorem rl_M_wouldBe_36 : (am_pg z_M_wouldBe).2 36 = some (.iaload, 37, 0, 0, 0, 0, 0, []) := (congrFun pm_M_wouldBe 36).trans rfl
theorem rl_M_wouldBe_37 : (am_pg z_M_wouldBe).2 37 = some (.iadd, 38, 0, 0, 0, 0, 0, []) := (congrFun pm_M_wouldBe 37).trans rfl
theorem rl_M_wouldBe_38 : (am_pg z_M_wouldBe).2 38 = some (.aload_n 0, 39, 0, 0, 0, 0, 0, []) := (congrFun pm_M_wouldBe 38).trans rfl
theorem rl_M_wouldBe_39 : (am_pg z_M_wouldBe).2 39 = some (.getfield 44, 42, 9, 21, 0, 97, 0, []) := (congrFun pm_M_wouldBe 39).trans rfl
theorem rl_M_wouldBe_42 : (am_pg z_M_wouldBe).2 42 = some (.iload 4, 44, 4, 0, 0, 0, 0, []) := (congrFun pm_M_wouldBe 42).trans rfl
theorem rl_M_wouldBe_44 : (am_pg z_M_wouldBe).2 44 = some (.iaload, 45, 0, 0, 0, 0, 0, []) := (congrFun pm_M_wouldBe 44).trans rfl
theorem rl_M_wouldBe_45 : (am_pg z_M_wouldBe).2 45 = some (.isub, 46, 0, 0, 0, 0, 0, []) := (congrFun pm_M_wouldBe 45).trans rfl
theorem rl_M_wouldBe_46 : (am_pg z_M_wouldBe).2 46 = some (.ireturn, 47, 0, 0, 0, 0, 0, []) := (congrFun pm_M_wouldBe 46).trans rfl
theorem rl_M_mayCome_0 : (am_pg z_M_mayCome).2 0 = some (.iload_n 1, 1, 1, 0, 0, 0, 0, []) := (congrFun pm_M_mayCome 0).trans rfl
theorem rl_M_mayCome_1 : (am_pg z_M_mayCome).2 1 = some (.invokestatic 143, 4, 85, 1, 0, 223, 0, []) := (congrFun pm_M_mayCome 1).trans rfl
theorem rl_M_mayCome_4 : (am_pg z_M_mayCome).2 4 = some (.ifCond .eq (17), 7, 21, 0, 0, 0, 0, []) := (congrFun pm_M_mayCome 4).trans rfl
theorem rl_M_mayCome_7 : (am_pg z_M_mayCome).2 7 = some (.iload_n 2, 8, 2, 0, 0, 0, 0, []) := (congrFun pm_M_mayCome 7).trans rfl
theorem rl_M_mayCome_8 : (am_pg z_M_mayCome).2 8 = some (.invokestatic 74, 11, 87, 1, 0, 221, 0, []) := (congrFun pm_M_mayCome 8).trans rfl
theorem rl_M_mayCome_11 : (am_pg z_M_mayCome).2 11 = some (.ifCond .eq (10), 14, 21, 0, 0, 0, 0, []) := (congrFun pm_M_mayCome 11).trans rfl
theorem rl_M_mayCome_14 : (am_pg z_M_mayCome).2 14 = some (.iload_n 3, 15, 3, 0, 0, 0, 0, []) := (congrFun pm_M_mayCome 14).trans rfl
theorem rl_M_mayCome_15 : (am_pg z_M_mayCome).2 15 = some (.invokestatic 302, 18, 182, 1, 0, 297, 0, []) := (congrFun pm_M_mayCome 15).trans rfl
theorem rl_M_mayCome_18 : (am_pg z_M_mayCome).2 18 = some (.ifCond .ne (5), 21, 23, 0, 0, 0, 0, []) := (congrFun pm_M_mayCome 18).trans rfl
theorem rl_M_mayCome_21 : (am_pg z_M_mayCome).2 21 = some (.iconst (-1), 22, 0, 0, 0, 0, -1, []) := (congrFun pm_M_mayCome 21).trans rfl
theorem rl_M_mayCome_22 : (am_pg z_M_mayCome).2 22 = some (.ireturn, 23, 0, 0, 0, 0, 0, []) := (congrFun pm_M_mayCome 22).trans rfl
theorem rl_M_mayCome_23 : (am_pg z_M_mayCome).2 23 = some (.aload_n 0, 24, 0, 0, 0, 0, 0, []) := (congrFun pm_M_mayCome 23).trans rfl
theorem rl_M_mayCome_24 : (am_pg z_M_mayCome).2 24 = some (.iload_n 1, 25, 1, 0, 0, 0, 0, []) := (congrFun pm_M_mayCome 24).trans rfl
theorem rl_M_mayCome_25 : (am_pg z_M_mayCome).2 25 = some (.iconst (0), 26, 0, 0, 0, 0, 0, []) := (congrFun pm_M_mayCome 25).trans rfl
theorem rl_M_mayCome_26 : (am_pg z_M_mayCome).2 26 = some (.invokevirtual 146, 29, 92, 2, 9, 226, 0, []) := (congrFun pm_M_mayCome 26).trans rfl
theorem rl_M_mayCome_29 : (am_pg z_M_mayCome).2 29 = some (.istore 4, 31, 4, 0, 0, 0, 0, []) := (congrFun pm_M_mayCome 29).trans rfl
theorem rl_M_mayCome_31 : (am_pg z_M_mayCome).2 31 = some (.iload 4, 33, 4, 0, 0, 0, 0, []) := (congrFun pm_M_mayCome 31).trans rfl
theorem rl_M_mayCome_33 : (am_pg z_M_mayCome).2 33 = some (.ifCond .ne (5), 36, 38, 0, 0, 0, 0, []) := (congrFun pm_M_mayCome 33).trans rfl
theorem rl_M_mayCome_36 : (am_pg z_M_mayCome).2 36 = some (.iload_n 2, 37, 2, 0, 0, 0, 0, []) := (congrFun pm_M_mayCome 36).trans rfl
theorem rl_M_mayCome_37 : (am_pg z_M_mayCome).2 37 = some (.ireturn, 38, 0, 0, 0, 0, 0, []) := (congrFun pm_M_mayCome 37).trans rfl
theorem rl_M_mayCome_38 : (am_pg z_M_mayCome).2 38 = some (.iconst (0), 39, 0, 0, 0, 0, 0, []) := (congrFun pm_M_mayCome 38).trans rfl
theorem rl_M_mayCome_39 : (am_pg z_M_mayCome).2 39 = some (.istore 5, 41, 5, 0, 0, 0, 0, []) := (congrFun pm_M_mayCome 39).trans rfl
theorem rl_M_mayCome_41 : (am_pg z_M_mayCome).2 41 = some (.iload 5, 43, 5, 0, 0, 0, 0, []) := (congrFun pm_M_mayCome 41).trans rfl
theorem rl_M_mayCome_43 : (am_pg z_M_mayCome).2 43 = some (.sipush (1080), 46, 0, 0, 0, 0, 1080, []) := (congrFun pm_M_mayCome 43).trans rfl
theorem rl_M_mayCome_46 : (am_pg z_M_mayCome).2 46 = some (.if_icmp .ge (42), 49, 88, 0, 0, 0, 0, []) := (congrFun pm_M_mayCome 46).trans rfl
theorem rl_M_mayCome_49 : (am_pg z_M_mayCome).2 49 = some (.aload_n 0, 50, 0, 0, 0, 0, 0, []) := (congrFun pm_M_mayCome 49).trans rfl
theorem rl_M_mayCome_50 : (am_pg z_M_mayCome).2 50 = some (.getfield 44, 53, 9, 21, 0, 97, 0, []) := (congrFun pm_M_mayCome 50).trans rfl
theorem rl_M_mayCome_53 : (am_pg z_M_mayCome).2 53 = some (.iload 5, 55, 5, 0, 0, 0, 0, []) := (congrFun pm_M_mayCome 53).trans rfl
theorem rl_M_mayCome_55 : (am_pg z_M_mayCome).2 55 = some (.iconst (1), 56, 0, 0, 0, 0, 1, []) := (congrFun pm_M_mayCome 55).trans rfl
theorem rl_M_mayCome_56 : (am_pg z_M_mayCome).2 56 = some (.iadd, 57, 0, 0, 0, 0, 0, []) := (congrFun pm_M_mayCome 56).trans rfl
theorem rl_M_mayCome_57 : (am_pg z_M_mayCome).2 57 = some (.aload_n 0, 58, 0, 0, 0, 0, 0, []) := (congrFun pm_M_mayCome 57).trans rfl
theorem rl_M_mayCome_58 : (am_pg z_M_mayCome).2 58 = some (.getfield 44, 61, 9, 21, 0, 97, 0, []) := (congrFun pm_M_mayCome 58).trans rfl
theorem rl_M_mayCome_61 : (am_pg z_M_mayCome).2 61 = some (.iload 5, 63, 5, 0, 0, 0, 0, []) := (congrFun pm_M_mayCome 61).trans rfl
theorem rl_M_mayCome_63 : (am_pg z_M_mayCome).2 63 = some (.iaload, 64, 0, 0, 0, 0, 0, []) := (congrFun pm_M_mayCome 63).trans rfl
theorem rl_M_mayCome_64 : (am_pg z_M_mayCome).2 64 = some (.aload_n 0, 65, 0, 0, 0, 0, 0, []) := (congrFun pm_M_mayCome 64).trans rfl
theorem rl_M_mayCome_65 : (am_pg z_M_mayCome).2 65 = some (.getfield 7, 68, 9, 0, 0, 76, 0, []) := (congrFun pm_M_mayCome 65).trans rfl
theorem rl_M_mayCome_68 : (am_pg z_M_mayCome).2 68 = some (.iload 5, 70, 5, 0, 0, 0, 0, []) := (congrFun pm_M_mayCome 68).trans rfl
theorem rl_M_mayCome_70 : (am_pg z_M_mayCome).2 70 = some (.iaload, 71, 0, 0, 0, 0, 0, []) := (congrFun pm_M_mayCome 70).trans rfl
theorem rl_M_mayCome_71 : (am_pg z_M_mayCome).2 71 = some (.iload_n 1, 72, 1, 0, 0, 0, 0, []) := (congrFun pm_M_mayCome 71).trans rfl
theorem rl_M_mayCome_72 : (am_pg z_M_mayCome).2 72 = some (.if_icmp .ne (7), 75, 79, 0, 0, 0, 0, []) := (congrFun pm_M_mayCome 72).trans rfl
theorem rl_M_mayCome_75 : (am_pg z_M_mayCome).2 75 = some (.iconst (1), 76, 0, 0, 0, 0, 1, []) := (congrFun pm_M_mayCome 75).trans rfl
theorem rl_M_mayCome_76 : (am_pg z_M_mayCome).2 76 = some (.goto (4), 79, 80, 0, 0, 0, 0, []) := (congrFun pm_M_mayCome 76).trans rfl
theorem rl_M_mayCome_79 : (am_pg z_M_mayCome).2 79 = some (.iconst (0), 80, 0, 0, 0, 0, 0, []) := (congrFun pm_M_mayCome 79).trans rfl
theorem rl_M_mayCome_80 : (am_pg z_M_mayCome).2 80 = some (.iadd, 81, 0, 0, 0, 0, 0, []) := (congrFun pm_M_mayCome 80).trans rfl
theorem rl_M_mayCome_81 : (am_pg z_M_mayCome).2 81 = some (.iastore, 82, 0, 0, 0, 0, 0, []) := (congrFun pm_M_mayCome 81).trans rfl
theorem rl_M_mayCome_82 : (am_pg z_M_mayCome).2 82 = some (.iinc 5 (1), 85, 5, 0, 0, 0, 1, []) := (congrFun pm_M_mayCome 82).trans rfl
theorem rl_M_mayCome_85 : (am_pg z_M_mayCome).2 85 = some (.goto (-44), 88, 41, 0, 0, 0, 0, []) := (congrFun pm_M_mayCome 85).trans rfl
theorem rl_M_mayCome_88 : (am_pg z_M_mayCome).2 88 = some (.iload_n 2, 89, 2, 0, 0, 0, 0, []) := (congrFun pm_M_mayCome 88).trans rfl
theorem rl_M_mayCome_89 : (am_pg z_M_mayCome).2 89 = some (.istore 5, 91, 5, 0, 0, 0, 0, []) := (congrFun pm_M_mayCome 89).trans rfl
theorem rl_M_mayCome_91 : (am_pg z_M_mayCome).2 91 = some (.iload 5, 93, 5, 0, 0, 0, 0, []) := (congrFun pm_M_mayCome 91).trans rfl
theorem rl_M_mayCome_93 : (am_pg z_M_mayCome).2 93 = some (.sipush (1080), 96, 0, 0, 0, 0, 1080, []) := (congrFun pm_M_mayCome 93).trans rfl
theorem rl_M_mayCome_96 : (am_pg z_M_mayCome).2 96 = some (.if_icmp .ge (78), 99, 174, 0, 0, 0, 0, []) := (congrFun pm_M_mayCome 96).trans rfl
theorem rl_M_mayCome_99 : (am_pg z_M_mayCome).2 99 = some (.iconst (1), 100, 0, 0, 0, 0, 1, []) := (congrFun pm_M_mayCome 99).trans rfl
theorem rl_M_mayCome_100 : (am_pg z_M_mayCome).2 100 = some (.istore 6, 102, 6, 0, 0, 0, 0, []) := (congrFun pm_M_mayCome 100).trans rfl
theorem rl_M_mayCome_102 : (am_pg z_M_mayCome).2 102 = some (.iload 5, 104, 5, 0, 0, 0, 0, []) := (congrFun pm_M_mayCome 102).trans rfl
theorem rl_M_mayCome_104 : (am_pg z_M_mayCome).2 104 = some (.istore 7, 106, 7, 0, 0, 0, 0, []) := (congrFun pm_M_mayCome 104).trans rfl
theorem rl_M_mayCome_106 : (am_pg z_M_mayCome).2 106 = some (.iload 7, 108, 7, 0, 0, 0, 0, []) := (congrFun pm_M_mayCome 106).trans rfl
theorem rl_M_mayCome_108 : (am_pg z_M_mayCome).2 108 = some (.sipush (1080), 111, 0, 0, 0, 0, 1080, []) := (congrFun pm_M_mayCome 108).trans rfl
theorem rl_M_mayCome_111 : (am_pg z_M_mayCome).2 111 = some (.if_icmp .ge (49), 114, 160, 0, 0, 0, 0, []) := (congrFun pm_M_mayCome 111).trans rfl
theorem rl_M_mayCome_114 : (am_pg z_M_mayCome).2 114 = some (.iload 7, 116, 7, 0, 0, 0, 0, []) := (congrFun pm_M_mayCome 114).trans rfl
theorem rl_M_mayCome_116 : (am_pg z_M_mayCome).2 116 = some (.iload 5, 118, 5, 0, 0, 0, 0, []) := (congrFun pm_M_mayCome 116).trans rfl
theorem rl_M_mayCome_118 : (am_pg z_M_mayCome).2 118 = some (.iload_n 3, 119, 3, 0, 0, 0, 0, []) := (congrFun pm_M_mayCome 118).trans rfl
theorem rl_M_mayCome_119 : (am_pg z_M_mayCome).2 119 = some (.iadd, 120, 0, 0, 0, 0, 0, []) := (congrFun pm_M_mayCome 119).trans rfl
theorem rl_M_mayCome_120 : (am_pg z_M_mayCome).2 120 = some (.if_icmp .ge (40), 123, 160, 0, 0, 0, 0, []) := (congrFun pm_M_mayCome 120).trans rfl
theorem rl_M_mayCome_123 : (am_pg z_M_mayCome).2 123 = some (.iload 6, 125, 6, 0, 0, 0, 0, []) := (congrFun pm_M_mayCome 123).trans rfl
theorem rl_M_mayCome_125 : (am_pg z_M_mayCome).2 125 = some (.ifCond .eq (35), 128, 160, 0, 0, 0, 0, []) := (congrFun pm_M_mayCome 125).trans rfl
theorem rl_M_mayCome_128 : (am_pg z_M_mayCome).2 128 = some (.aload_n 0, 129, 0, 0, 0, 0, 0, []) := (congrFun pm_M_mayCome 128).trans rfl
theorem rl_M_mayCome_129 : (am_pg z_M_mayCome).2 129 = some (.iload 7, 131, 7, 0, 0, 0, 0, []) := (congrFun pm_M_mayCome 129).trans rfl
theorem rl_M_mayCome_131 : (am_pg z_M_mayCome).2 131 = some (.iload 5, 133, 5, 0, 0, 0, 0, []) := (congrFun pm_M_mayCome 131).trans rfl
theorem rl_M_mayCome_133 : (am_pg z_M_mayCome).2 133 = some (.iload 4, 135, 4, 0, 0, 0, 0, []) := (congrFun pm_M_mayCome 133).trans rfl
theorem rl_M_mayCome_135 : (am_pg z_M_mayCome).2 135 = some (.invokevirtual 311, 138, 186, 3, 9, 304, 0, []) := (congrFun pm_M_mayCome 135).trans rfl
theorem rl_M_mayCome_138 : (am_pg z_M_mayCome).2 138 = some (.aload_n 0, 139, 0, 0, 0, 0, 0, []) := (congrFun pm_M_mayCome 138).trans rfl
theorem rl_M_mayCome_139 : (am_pg z_M_mayCome).2 139 = some (.iload_n 1, 140, 1, 0, 0, 0, 0, []) := (congrFun pm_M_mayCome 139).trans rfl
theorem rl_M_mayCome_140 : (am_pg z_M_mayCome).2 140 = some (.iconst (1), 141, 0, 0, 0, 0, 1, []) := (congrFun pm_M_mayCome 140).trans rfl
theorem rl_M_mayCome_141 : (am_pg z_M_mayCome).2 141 = some (.invokevirtual 146, 144, 92, 2, 9, 226, 0, []) := (congrFun pm_M_mayCome 141).trans rfl
theorem rl_M_mayCome_144 : (am_pg z_M_mayCome).2 144 = some (.if_icmp .gt (7), 147, 151, 0, 0, 0, 0, []) := (congrFun pm_M_mayCome 144).trans rfl
theorem rl_M_mayCome_147 : (am_pg z_M_mayCome).2 147 = some (.iconst (1), 148, 0, 0, 0, 0, 1, []) := (congrFun pm_M_mayCome 147).trans rfl
theorem rl_M_mayCome_148 : (am_pg z_M_mayCome).2 148 = some (.goto (4), 151, 152, 0, 0, 0, 0, []) := (congrFun pm_M_mayCome 148).trans rfl
theorem rl_M_mayCome_151 : (am_pg z_M_mayCome).2 151 = some (.iconst (0), 152, 0, 0, 0, 0, 0, []) := (congrFun pm_M_mayCome 151).trans rfl
theorem rl_M_mayCome_152 : (am_pg z_M_mayCome).2 152 = some (.istore 6, 154, 6, 0, 0, 0, 0, []) := (congrFun pm_M_mayCome 152).trans rfl
theorem rl_M_mayCome_154 : (am_pg z_M_mayCome).2 154 = some (.iinc 7 (1), 157, 7, 0, 0, 0, 1, []) := (congrFun pm_M_mayCome 154).trans rfl
theorem rl_M_mayCome_157 : (am_pg z_M_mayCome).2 157 = some (.goto (-51), 160, 106, 0, 0, 0, 0, []) := (congrFun pm_M_mayCome 157).trans rfl
theorem rl_M_mayCome_160 : (am_pg z_M_mayCome).2 160 = some (.iload 6, 162, 6, 0, 0, 0, 0, []) := (congrFun pm_M_mayCome 160).trans rfl
theorem rl_M_mayCome_162 : (am_pg z_M_mayCome).2 162 = some (.ifCond .eq (6), 165, 168, 0, 0, 0, 0, []) := (congrFun pm_M_mayCome 162).trans rfl
theorem rl_M_mayCome_165 : (am_pg z_M_mayCome).2 165 = some (.iload 5, 167, 5, 0, 0, 0, 0, []) := (congrFun pm_M_mayCome 165).trans rfl
theorem rl_M_mayCome_167 : (am_pg z_M_mayCome).2 167 = some (.ireturn, 168, 0, 0, 0, 0, 0, []) := (congrFun pm_M_mayCome 167).trans rfl
theorem rl_M_mayCome_168 : (am_pg z_M_mayCome).2 168 = some (.iinc 5 (1), 171, 5, 0, 0, 0, 1, []) := (congrFun pm_M_mayCome 168).trans rfl
theorem rl_M_mayCome_171 : (am_pg z_M_mayCome).2 171 = some (.goto (-80), 174, 91, 0, 0, 0, 0, []) := (congrFun pm_M_mayCome 171).trans rfl
theorem rl_M_mayCome_174 : (am_pg z_M_mayCome).2 174 = some (.bipush (-2), 176, 0, 0, 0, 0, -2, []) := (congrFun pm_M_mayCome 174).trans rfl
theorem rl_M_mayCome_176 : (am_pg z_M_mayCome).2 176 = some (.ireturn, 177, 0, 0, 0, 0, 0, []) := (congrFun pm_M_mayCome 176).trans rfl
theorem rl_M_claimBy_0 : (am_pg z_M_claimBy).2 0 = some (.iload_n 1, 1, 1, 0, 0, 0, 0, []) := (congrFun pm_M_claimBy 0).trans rfl
theorem rl_M_claimBy_1 : (am_pg z_M_claimBy).2 1 = some (.invokestatic 143, 4, 85, 1, 0, 223, 0, []) := (congrFun pm_M_claimBy 1).trans rfl
theorem rl_M_claimBy_4 : (am_pg z_M_claimBy).2 4 = some (.ifCond .eq (10), 7, 14, 0, 0, 0, 0, []) := (congrFun pm_M_claimBy 4).trans rfl
theorem rl_M_claimBy_7 : (am_pg z_M_claimBy).2 7 = some (.iload_n 2, 8, 2, 0, 0, 0, 0, []) := (congrFun pm_M_claimBy 7).trans rfl
theorem rl_M_claimBy_8 : (am_pg z_M_claimBy).2 8 = some (.invokestatic 74, 11, 87, 1, 0, 221, 0, []) := (congrFun pm_M_claimBy 8).trans rfl
theorem rl_M_claimBy_11 : (am_pg z_M_claimBy).2 11 = some (.ifCond .ne (5), 14, 16, 0, 0, 0, 0, []) := (congrFun pm_M_claimBy 11).trans rfl
theorem rl_M_claimBy_14 : (am_pg z_M_claimBy).2 14 = some (.iconst (-1), 15, 0, 0, 0, 0, -1, []) := (congrFun pm_M_claimBy 14).trans rfl
theorem rl_M_claimBy_15 : (am_pg z_M_claimBy).2 15 = some (.ireturn, 16, 0, 0, 0, 0, 0, []) := (congrFun pm_M_claimBy 15).trans rfl
theorem rl_M_claimBy_16 : (am_pg z_M_claimBy).2 16 = some (.aload_n 0, 17, 0, 0, 0, 0, 0, []) := (congrFun pm_M_claimBy 16).trans rfl
theorem rl_M_claimBy_17 : (am_pg z_M_claimBy).2 17 = some (.invokevirtual 235, 20, 155, 0, 9, 266, 0, []) := (congrFun pm_M_claimBy 17).trans rfl
theorem rl_M_claimBy_20 : (am_pg z_M_claimBy).2 20 = some (.iload_n 2, 21, 2, 0, 0, 0, 0, []) := (congrFun pm_M_claimBy 20).trans rfl
theorem rl_M_claimBy_21 : (am_pg z_M_claimBy).2 21 = some (.istore_n 3, 22, 3, 0, 0, 0, 0, []) := (congrFun pm_M_claimBy 21).trans rfl
theorem rl_M_claimBy_22 : (am_pg z_M_claimBy).2 22 = some (.iload_n 3, 23, 3, 0, 0, 0, 0, []) := (congrFun pm_M_claimBy 22).trans rfl
theorem rl_M_claimBy_23 : (am_pg z_M_claimBy).2 23 = some (.sipush (1080), 26, 0, 0, 0, 0, 1080, []) := (congrFun pm_M_claimBy 23).trans rfl
theorem rl_M_claimBy_26 : (am_pg z_M_claimBy).2 26 = some (.if_icmp .ge (43), 29, 69, 0, 0, 0, 0, []) := (congrFun pm_M_claimBy 26).trans rfl
theorem rl_M_claimBy_29 : (am_pg z_M_claimBy).2 29 = some (.aload_n 0, 30, 0, 0, 0, 0, 0, []) := (congrFun pm_M_claimBy 29).trans rfl
theorem rl_M_claimBy_30 : (am_pg z_M_claimBy).2 30 = some (.getfield 7, 33, 9, 0, 0, 76, 0, []) := (congrFun pm_M_claimBy 30).trans rfl
theorem rl_M_claimBy_33 : (am_pg z_M_claimBy).2 33 = some (.iload_n 3, 34, 3, 0, 0, 0, 0, []) := (congrFun pm_M_claimBy 33).trans rfl
theorem rl_M_claimBy_34 : (am_pg z_M_claimBy).2 34 = some (.iaload, 35, 0, 0, 0, 0, 0, []) := (congrFun pm_M_claimBy 34).trans rfl
theorem rl_M_claimBy_35 : (am_pg z_M_claimBy).2 35 = some (.iload_n 1, 36, 1, 0, 0, 0, 0, []) := (congrFun pm_M_claimBy 35).trans rfl
theorem rl_M_claimBy_36 : (am_pg z_M_claimBy).2 36 = some (.if_icmp .eq (13), 39, 49, 0, 0, 0, 0, []) := (congrFun pm_M_claimBy 36).trans rfl
theorem rl_M_claimBy_39 : (am_pg z_M_claimBy).2 39 = some (.aload_n 0, 40, 0, 0, 0, 0, 0, []) := (congrFun pm_M_claimBy 39).trans rfl
theorem rl_M_claimBy_40 : (am_pg z_M_claimBy).2 40 = some (.iload_n 1, 41, 1, 0, 0, 0, 0, []) := (congrFun pm_M_claimBy 40).trans rfl
theorem rl_M_claimBy_41 : (am_pg z_M_claimBy).2 41 = some (.iload_n 3, 42, 3, 0, 0, 0, 0, []) := (congrFun pm_M_claimBy 41).trans rfl
theorem rl_M_claimBy_42 : (am_pg z_M_claimBy).2 42 = some (.invokestatic 314, 45, 130, 1, 0, 306, 0, []) := (congrFun pm_M_claimBy 42).trans rfl
theorem rl_M_claimBy_45 : (am_pg z_M_claimBy).2 45 = some (.iconst (1), 46, 0, 0, 0, 0, 1, []) := (congrFun pm_M_claimBy 45).trans rfl
theorem rl_M_claimBy_46 : (am_pg z_M_claimBy).2 46 = some (.invokevirtual 317, 49, 156, 3, 9, 307, 0, []) := (congrFun pm_M_claimBy 46).trans rfl
theorem rl_M_claimBy_49 : (am_pg z_M_claimBy).2 49 = some (.aload_n 0, 50, 0, 0, 0, 0, 0, []) := (congrFun pm_M_claimBy 49).trans rfl
theorem rl_M_claimBy_50 : (am_pg z_M_claimBy).2 50 = some (.iload_n 1, 51, 1, 0, 0, 0, 0, []) := (congrFun pm_M_claimBy 50).trans rfl
theorem rl_M_claimBy_51 : (am_pg z_M_claimBy).2 51 = some (.iload_n 3, 52, 3, 0, 0, 0, 0, []) := (congrFun pm_M_claimBy 51).trans rfl
theorem rl_M_claimBy_52 : (am_pg z_M_claimBy).2 52 = some (.invokestatic 314, 55, 130, 1, 0, 306, 0, []) := (congrFun pm_M_claimBy 52).trans rfl
theorem rl_M_claimBy_55 : (am_pg z_M_claimBy).2 55 = some (.invokevirtual 280, 58, 172, 2, 9, 290, 0, []) := (congrFun pm_M_claimBy 55).trans rfl
theorem rl_M_claimBy_58 : (am_pg z_M_claimBy).2 58 = some (.ifCond .eq (5), 61, 63, 0, 0, 0, 0, []) := (congrFun pm_M_claimBy 58).trans rfl
theorem rl_M_claimBy_61 : (am_pg z_M_claimBy).2 61 = some (.iload_n 3, 62, 3, 0, 0, 0, 0, []) := (congrFun pm_M_claimBy 61).trans rfl
theorem rl_M_claimBy_62 : (am_pg z_M_claimBy).2 62 = some (.ireturn, 63, 0, 0, 0, 0, 0, []) := (congrFun pm_M_claimBy 62).trans rfl
theorem rl_M_claimBy_63 : (am_pg z_M_claimBy).2 63 = some (.iinc 3 (1), 66, 3, 0, 0, 0, 1, []) := (congrFun pm_M_claimBy 63).trans rfl
theorem rl_M_claimBy_66 : (am_pg z_M_claimBy).2 66 = some (.goto (-44), 69, 22, 0, 0, 0, 0, []) := (congrFun pm_M_claimBy 66).trans rfl
theorem rl_M_claimBy_69 : (am_pg z_M_claimBy).2 69 = some (.bipush (-2), 71, 0, 0, 0, 0, -2, []) := (congrFun pm_M_claimBy 69).trans rfl
theorem rl_M_claimBy_71 : (am_pg z_M_claimBy).2 71 = some (.ireturn, 72, 0, 0, 0, 0, 0, []) := (congrFun pm_M_claimBy 71).trans rfl
theorem rl_M_freest_0 : (am_pg z_M_freest).2 0 = some (.iload_n 1, 1, 1, 0, 0, 0, 0, []) := (congrFun pm_M_freest 0).trans rfl
theorem rl_M_freest_1 : (am_pg z_M_freest).2 1 = some (.invokestatic 74, 4, 87, 1, 0, 221, 0, []) := (congrFun pm_M_freest 1).trans rfl
theorem rl_M_freest_4 : (am_pg z_M_freest).2 4 = some (.ifCond .eq (20), 7, 24, 0, 0, 0, 0, []) := (congrFun pm_M_freest 4).trans rfl
theorem rl_M_freest_7 : (am_pg z_M_freest).2 7 = some (.iload_n 2, 8, 2, 0, 0, 0, 0, []) := (congrFun pm_M_freest 7).trans rfl
theorem rl_M_freest_8 : (am_pg z_M_freest).2 8 = some (.invokestatic 302, 11, 182, 1, 0, 297, 0, []) := (congrFun pm_M_freest 8).trans rfl
theorem rl_M_freest_11 : (am_pg z_M_freest).2 11 = some (.ifCond .eq (13), 14, 24, 0, 0, 0, 0, []) := (congrFun pm_M_freest 11).trans rfl
theorem rl_M_freest_14 : (am_pg z_M_freest).2 14 = some (.iload_n 3, 15, 3, 0, 0, 0, 0, []) := (congrFun pm_M_freest 14).trans rfl
theorem rl_M_freest_15 : (am_pg z_M_freest).2 15 = some (.i2l, 16, 0, 0, 0, 0, 0, []) := (congrFun pm_M_freest 15).trans rfl
theorem rl_M_freest_16 : (am_pg z_M_freest).2 16 = some (.lconst 0, 17, 0, 0, 0, 0, 0, []) := (congrFun pm_M_freest 16).trans rfl
theorem rl_M_freest_17 : (am_pg z_M_freest).2 17 = some (.lconst 1, 18, 0, 0, 0, 0, 1, []) := (congrFun pm_M_freest 17).trans rfl
theorem rl_M_freest_18 : (am_pg z_M_freest).2 18 = some (.invokestatic 66, 21, 84, 3, 0, 210, 0, []) := (congrFun pm_M_freest 18).trans rfl
theorem rl_M_freest_21 : (am_pg z_M_freest).2 21 = some (.ifCond .ne (5), 24, 26, 0, 0, 0, 0, []) := (congrFun pm_M_freest 21).trans rfl
theorem rl_M_freest_24 : (am_pg z_M_freest).2 24 = some (.iconst (-1), 25, 0, 0, 0, 0, -1, []) := (congrFun pm_M_freest 24).trans rfl
theorem rl_M_freest_25 : (am_pg z_M_freest).2 25 = some (.ireturn, 26, 0, 0, 0, 0, 0, []) := (congrFun pm_M_freest 25).trans rfl
theorem rl_M_freest_26 : (am_pg z_M_freest).2 26 = some (.iconst (-1), 27, 0, 0, 0, 0, -1, []) := (congrFun pm_M_freest 26).trans rfl
theorem rl_M_freest_27 : (am_pg z_M_freest).2 27 = some (.istore 4, 29, 4, 0, 0, 0, 0, []) := (congrFun pm_M_freest 27).trans rfl
theorem rl_M_freest_29 : (am_pg z_M_freest).2 29 = some (.iconst (-1), 30, 0, 0, 0, 0, -1, []) := (congrFun pm_M_freest 29).trans rfl
theorem rl_M_freest_30 : (am_pg z_M_freest).2 30 = some (.istore 5, 32, 5, 0, 0, 0, 0, []) := (congrFun pm_M_freest 30).trans rfl
theorem rl_M_freest_32 : (am_pg z_M_freest).2 32 = some (.iconst (0), 33, 0, 0, 0, 0, 0, []) := (congrFun pm_M_freest 32).trans rfl
theorem rl_M_freest_33 : (am_pg z_M_freest).2 33 = some (.istore 6, 35, 6, 0, 0, 0, 0, []) := (congrFun pm_M_freest 33).trans rfl
theorem rl_M_freest_35 : (am_pg z_M_freest).2 35 = some (.iload 6, 37, 6, 0, 0, 0, 0, []) := (congrFun pm_M_freest 35).trans rfl
theorem rl_M_freest_37 : (am_pg z_M_freest).2 37 = some (.bipush (6), 39, 0, 0, 0, 0, 6, []) := (congrFun pm_M_freest 37).trans rfl
theorem rl_M_freest_39 : (am_pg z_M_freest).2 39 = some (.if_icmp .ge (37), 42, 76, 0, 0, 0, 0, []) := (congrFun pm_M_freest 39).trans rfl
theorem rl_M_freest_42 : (am_pg z_M_freest).2 42 = some (.aload_n 0, 43, 0, 0, 0, 0, 0, []) := (congrFun pm_M_freest 42).trans rfl
theorem rl_M_freest_43 : (am_pg z_M_freest).2 43 = some (.iload 6, 45, 6, 0, 0, 0, 0, []) := (congrFun pm_M_freest 43).trans rfl
theorem rl_M_freest_45 : (am_pg z_M_freest).2 45 = some (.iload_n 1, 46, 1, 0, 0, 0, 0, []) := (congrFun pm_M_freest 45).trans rfl
theorem rl_M_freest_46 : (am_pg z_M_freest).2 46 = some (.iload_n 2, 47, 2, 0, 0, 0, 0, []) := (congrFun pm_M_freest 46).trans rfl
theorem rl_M_freest_47 : (am_pg z_M_freest).2 47 = some (.invokevirtual 305, 50, 181, 3, 9, 298, 0, []) := (congrFun pm_M_freest 47).trans rfl
theorem rl_M_freest_50 : (am_pg z_M_freest).2 50 = some (.istore 7, 52, 7, 0, 0, 0, 0, []) := (congrFun pm_M_freest 50).trans rfl
theorem rl_M_freest_52 : (am_pg z_M_freest).2 52 = some (.iload 7, 54, 7, 0, 0, 0, 0, []) := (congrFun pm_M_freest 52).trans rfl
theorem rl_M_freest_54 : (am_pg z_M_freest).2 54 = some (.iload 5, 56, 5, 0, 0, 0, 0, []) := (congrFun pm_M_freest 54).trans rfl
theorem rl_M_freest_56 : (am_pg z_M_freest).2 56 = some (.if_icmp .gt (6), 59, 62, 0, 0, 0, 0, []) := (congrFun pm_M_freest 56).trans rfl
theorem rl_M_freest_59 : (am_pg z_M_freest).2 59 = some (.goto (11), 62, 70, 0, 0, 0, 0, []) := (congrFun pm_M_freest 59).trans rfl
theorem rl_M_freest_62 : (am_pg z_M_freest).2 62 = some (.iload 6, 64, 6, 0, 0, 0, 0, []) := (congrFun pm_M_freest 62).trans rfl
theorem rl_M_freest_64 : (am_pg z_M_freest).2 64 = some (.istore 4, 66, 4, 0, 0, 0, 0, []) := (congrFun pm_M_freest 64).trans rfl
theorem rl_M_freest_66 : (am_pg z_M_freest).2 66 = some (.iload 7, 68, 7, 0, 0, 0, 0, []) := (congrFun pm_M_freest 66).trans rfl
theorem rl_M_freest_68 : (am_pg z_M_freest).2 68 = some (.istore 5, 70, 5, 0, 0, 0, 0, []) := (congrFun pm_M_freest 68).trans rfl
theorem rl_M_freest_70 : (am_pg z_M_freest).2 70 = some (.iinc 6 (1), 73, 6, 0, 0, 0, 1, []) := (congrFun pm_M_freest 70).trans rfl
theorem rl_M_freest_73 : (am_pg z_M_freest).2 73 = some (.goto (-38), 76, 35, 0, 0, 0, 0, []) := (congrFun pm_M_freest 73).trans rfl
theorem rl_M_freest_76 : (am_pg z_M_freest).2 76 = some (.iload_n 3, 77, 3, 0, 0, 0, 0, []) := (congrFun pm_M_freest 76).trans rfl
theorem rl_M_freest_77 : (am_pg z_M_freest).2 77 = some (.ifCond .ne (8), 80, 85, 0, 0, 0, 0, []) := (congrFun pm_M_freest 77).trans rfl
theorem rl_M_freest_80 : (am_pg z_M_freest).2 80 = some (.iload 4, 82, 4, 0, 0, 0, 0, []) := (congrFun pm_M_freest 80).trans rfl
theorem rl_M_freest_82 : (am_pg z_M_freest).2 82 = some (.goto (5), 85, 87, 0, 0, 0, 0, []) := (congrFun pm_M_freest 82).trans rfl
theorem rl_M_freest_85 : (am_pg z_M_freest).2 85 = some (.iload 5, 87, 5, 0, 0, 0, 0, []) := (congrFun pm_M_freest 85).trans rfl
theorem rl_M_freest_87 : (am_pg z_M_freest).2 87 = some (.ireturn, 88, 0, 0, 0, 0, 0, []) := (congrFun pm_M_freest 87).trans rfl
theorem rl_M_needs_0 : (am_pg z_M_needs).2 0 = some (.aload_n 0, 1, 0, 0, 0, 0, 0, []) := (congrFun pm_M_needs 0).trans rfl
theorem rl_M_needs_1 : (am_pg z_M_needs).2 1 = some (.iconst (0), 2, 0, 0, 0, 0, 0, []) := (congrFun pm_M_needs 1).trans rfl
theorem rl_M_needs_2 : (am_pg z_M_needs).2 2 = some (.iload_n 1, 3, 1, 0, 0, 0, 0, []) := (congrFun pm_M_needs 2).trans rfl
theorem rl_M_needs_3 : (am_pg z_M_needs).2 3 = some (.iload_n 2, 4, 2, 0, 0, 0, 0, []) := (congrFun pm_M_needs 3).trans rfl
theorem rl_M_needs_4 : (am_pg z_M_needs).2 4 = some (.invokevirtual 238, 7, 154, 3, 9, 268, 0, []) := (congrFun pm_M_needs 4).trans rfl
theorem rl_M_needs_7 : (am_pg z_M_needs).2 7 = some (.istore_n 3, 8, 3, 0, 0, 0, 0, []) := (congrFun pm_M_needs 7).trans rfl
theorem rl_M_needs_8 : (am_pg z_M_needs).2 8 = some (.iconst (0), 9, 0, 0, 0, 0, 0, []) := (congrFun pm_M_needs 8).trans rfl
theorem rl_M_needs_9 : (am_pg z_M_needs).2 9 = some (.istore 4, 11, 4, 0, 0, 0, 0, []) := (congrFun pm_M_needs 9).trans rfl
theorem rl_M_needs_11 : (am_pg z_M_needs).2 11 = some (.iload_n 3, 12, 3, 0, 0, 0, 0, []) := (congrFun pm_M_needs 11).trans rfl
theorem rl_M_needs_12 : (am_pg z_M_needs).2 12 = some (.iload 4, 14, 4, 0, 0, 0, 0, []) := (congrFun pm_M_needs 12).trans rfl
theorem rl_M_needs_14 : (am_pg z_M_needs).2 14 = some (.iadd, 15, 0, 0, 0, 0, 0, []) := (congrFun pm_M_needs 14).trans rfl
theorem rl_M_needs_15 : (am_pg z_M_needs).2 15 = some (.sipush (360), 18, 0, 0, 0, 0, 360, []) := (congrFun pm_M_needs 15).trans rfl
theorem rl_M_needs_18 : (am_pg z_M_needs).2 18 = some (.if_icmp .ge (28), 21, 46, 0, 0, 0, 0, []) := (congrFun pm_M_needs 18).trans rfl
theorem rl_M_needs_21 : (am_pg z_M_needs).2 21 = some (.aload_n 0, 22, 0, 0, 0, 0, 0, []) := (congrFun pm_M_needs 21).trans rfl
theorem rl_M_needs_22 : (am_pg z_M_needs).2 22 = some (.iload_n 1, 23, 1, 0, 0, 0, 0, []) := (congrFun pm_M_needs 22).trans rfl
theorem rl_M_needs_23 : (am_pg z_M_needs).2 23 = some (.iload_n 2, 24, 2, 0, 0, 0, 0, []) := (congrFun pm_M_needs 23).trans rfl
theorem rl_M_needs_24 : (am_pg z_M_needs).2 24 = some (.invokevirtual 280, 27, 172, 2, 9, 290, 0, []) := (congrFun pm_M_needs 24).trans rfl
theorem rl_M_needs_27 : (am_pg z_M_needs).2 27 = some (.ifCond .ne (19), 30, 46, 0, 0, 0, 0, []) := (congrFun pm_M_needs 27).trans rfl
theorem rl_M_needs_30 : (am_pg z_M_needs).2 30 = some (.iload 4, 32, 4, 0, 0, 0, 0, []) := (congrFun pm_M_needs 30).trans rfl
theorem rl_M_needs_32 : (am_pg z_M_needs).2 32 = some (.iconst (1), 33, 0, 0, 0, 0, 1, []) := (congrFun pm_M_needs 32).trans rfl
theorem rl_M_needs_33 : (am_pg z_M_needs).2 33 = some (.iadd, 34, 0, 0, 0, 0, 0, []) := (congrFun pm_M_needs 33).trans rfl
theorem rl_M_needs_34 : (am_pg z_M_needs).2 34 = some (.istore 4, 36, 4, 0, 0, 0, 0, []) := (congrFun pm_M_needs 34).trans rfl
theorem rl_M_needs_36 : (am_pg z_M_needs).2 36 = some (.aload_n 0, 37, 0, 0, 0, 0, 0, []) := (congrFun pm_M_needs 36).trans rfl
theorem rl_M_needs_37 : (am_pg z_M_needs).2 37 = some (.iload_n 1, 38, 1, 0, 0, 0, 0, []) := (congrFun pm_M_needs 37).trans rfl
theorem rl_M_needs_38 : (am_pg z_M_needs).2 38 = some (.iload_n 2, 39, 2, 0, 0, 0, 0, []) := (congrFun pm_M_needs 38).trans rfl
theorem rl_M_needs_39 : (am_pg z_M_needs).2 39 = some (.iconst (1), 40, 0, 0, 0, 0, 1, []) := (congrFun pm_M_needs 39).trans rfl
theorem rl_M_needs_40 : (am_pg z_M_needs).2 40 = some (.invokevirtual 317, 43, 156, 3, 9, 307, 0, []) := (congrFun pm_M_needs 40).trans rfl
theorem rl_M_needs_43 : (am_pg z_M_needs).2 43 = some (.goto (-32), 46, 11, 0, 0, 0, 0, []) := (congrFun pm_M_needs 43).trans rfl
theorem rl_M_needs_46 : (am_pg z_M_needs).2 46 = some (.aload_n 0, 47, 0, 0, 0, 0, 0, []) := (congrFun pm_M_needs 46).trans rfl
theorem rl_M_needs_47 : (am_pg z_M_needs).2 47 = some (.iload_n 1, 48, 1, 0, 0, 0, 0, []) := (congrFun pm_M_needs 47).trans rfl
theorem rl_M_needs_48 : (am_pg z_M_needs).2 48 = some (.iload_n 2, 49, 2, 0, 0, 0, 0, []) := (congrFun pm_M_needs 48).trans rfl
theorem rl_M_needs_49 : (am_pg z_M_needs).2 49 = some (.invokevirtual 280, 52, 172, 2, 9, 290, 0, []) := (congrFun pm_M_needs 49).trans rfl
theorem rl_M_needs_52 : (am_pg z_M_needs).2 52 = some (.istore 5, 54, 5, 0, 0, 0, 0, []) := (congrFun pm_M_needs 52).trans rfl
theorem rl_M_needs_54 : (am_pg z_M_needs).2 54 = some (.aload_n 0, 55, 0, 0, 0, 0, 0, []) := (congrFun pm_M_needs 54).trans rfl
theorem rl_M_needs_55 : (am_pg z_M_needs).2 55 = some (.iload_n 1, 56, 1, 0, 0, 0, 0, []) := (congrFun pm_M_needs 55).trans rfl
theorem rl_M_needs_56 : (am_pg z_M_needs).2 56 = some (.iload_n 2, 57, 2, 0, 0, 0, 0, []) := (congrFun pm_M_needs 56).trans rfl
theorem rl_M_needs_57 : (am_pg z_M_needs).2 57 = some (.iload 4, 59, 4, 0, 0, 0, 0, []) := (congrFun pm_M_needs 57).trans rfl
theorem rl_M_needs_59 : (am_pg z_M_needs).2 59 = some (.ineg, 60, 0, 0, 0, 0, 0, []) := (congrFun pm_M_needs 59).trans rfl
theorem rl_M_needs_60 : (am_pg z_M_needs).2 60 = some (.invokevirtual 317, 63, 156, 3, 9, 307, 0, []) := (congrFun pm_M_needs 60).trans rfl
theorem rl_M_needs_63 : (am_pg z_M_needs).2 63 = some (.iload 5, 65, 5, 0, 0, 0, 0, []) := (congrFun pm_M_needs 63).trans rfl
theorem rl_M_needs_65 : (am_pg z_M_needs).2 65 = some (.ifCond .eq (8), 68, 73, 0, 0, 0, 0, []) := (congrFun pm_M_needs 65).trans rfl
theorem rl_M_needs_68 : (am_pg z_M_needs).2 68 = some (.iload 4, 70, 4, 0, 0, 0, 0, []) := (congrFun pm_M_needs 68).trans rfl
theorem rl_M_needs_70 : (am_pg z_M_needs).2 70 = some (.goto (5), 73, 75, 0, 0, 0, 0, []) := (congrFun pm_M_needs 70).trans rfl
theorem rl_M_needs_73 : (am_pg z_M_needs).2 73 = some (.bipush (-2), 75, 0, 0, 0, 0, -2, []) := (congrFun pm_M_needs 73).trans rfl
theorem rl_M_needs_75 : (am_pg z_M_needs).2 75 = some (.ireturn, 76, 0, 0, 0, 0, 0, []) := (congrFun pm_M_needs 75).trans rfl
theorem rl_M_need_0 : (am_pg z_M_need).2 0 = some (.iload_n 1, 1, 1, 0, 0, 0, 0, []) := (congrFun pm_M_need 0).trans rfl
theorem rl_M_need_1 : (am_pg z_M_need).2 1 = some (.invokestatic 143, 4, 85, 1, 0, 223, 0, []) := (congrFun pm_M_need 1).trans rfl
theorem rl_M_need_4 : (am_pg z_M_need).2 4 = some (.ifCond .eq (10), 7, 14, 0, 0, 0, 0, []) := (congrFun pm_M_need 4).trans rfl
theorem rl_M_need_7 : (am_pg z_M_need).2 7 = some (.iload_n 2, 8, 2, 0, 0, 0, 0, []) := (congrFun pm_M_need 7).trans rfl
theorem rl_M_need_8 : (am_pg z_M_need).2 8 = some (.invokestatic 194, 11, 89, 1, 0, 243, 0, []) := (congrFun pm_M_need 8).trans rfl
theorem rl_M_need_11 : (am_pg z_M_need).2 11 = some (.ifCond .ne (5), 14, 16, 0, 0, 0, 0, []) := (congrFun pm_M_need 11).trans rfl
theorem rl_M_need_14 : (am_pg z_M_need).2 14 = some (.iconst (-1), 15, 0, 0, 0, 0, -1, []) := (congrFun pm_M_need 14).trans rfl
theorem rl_M_need_15 : (am_pg z_M_need).2 15 = some (.ireturn, 16, 0, 0, 0, 0, 0, []) := (congrFun pm_M_need 15).trans rfl
theorem rl_M_need_16 : (am_pg z_M_need).2 16 = some (.aload_n 0, 17, 0, 0, 0, 0, 0, []) := (congrFun pm_M_need 16).trans rfl
theorem rl_M_need_17 : (am_pg z_M_need).2 17 = some (.invokevirtual 235, 20, 155, 0, 9, 266, 0, []) := (congrFun pm_M_need 17).trans rfl
theorem rl_M_need_20 : (am_pg z_M_need).2 20 = some (.aload_n 0, 21, 0, 0, 0, 0, 0, []) := (congrFun pm_M_need 20).trans rfl
theorem rl_M_need_21 : (am_pg z_M_need).2 21 = some (.iload_n 1, 22, 1, 0, 0, 0, 0, []) := (congrFun pm_M_need 21).trans rfl
theorem rl_M_need_22 : (am_pg z_M_need).2 22 = some (.iload_n 2, 23, 2, 0, 0, 0, 0, []) := (congrFun pm_M_need 22).trans rfl
theorem rl_M_need_23 : (am_pg z_M_need).2 23 = some (.invokevirtual 320, 26, 190, 2, 9, 310, 0, []) := (congrFun pm_M_need 23).trans rfl
theorem rl_M_need_26 : (am_pg z_M_need).2 26 = some (.ireturn, 27, 0, 0, 0, 0, 0, []) := (congrFun pm_M_need 26).trans rfl
theorem rl_M_livesBy_0 : (am_pg z_M_livesBy).2 0 = some (.iload_n 1, 1, 1, 0, 0, 0, 0, []) := (congrFun pm_M_livesBy 0).trans rfl
theorem rl_M_livesBy_1 : (am_pg z_M_livesBy).2 1 = some (.invokestatic 314, 4, 130, 1, 0, 306, 0, []) := (congrFun pm_M_livesBy 1).trans rfl
theorem rl_M_livesBy_4 : (am_pg z_M_livesBy).2 4 = some (.istore_n 3, 5, 3, 0, 0, 0, 0, []) := (congrFun pm_M_livesBy 4).trans rfl
theorem rl_M_livesBy_5 : (am_pg z_M_livesBy).2 5 = some (.aload_n 0, 6, 0, 0, 0, 0, 0, []) := (congrFun pm_M_livesBy 5).trans rfl
theorem rl_M_livesBy_6 : (am_pg z_M_livesBy).2 6 = some (.aload_n 0, 7, 0, 0, 0, 0, 0, []) := (congrFun pm_M_livesBy 6).trans rfl
theorem rl_M_livesBy_7 : (am_pg z_M_livesBy).2 7 = some (.getfield 7, 10, 9, 0, 0, 76, 0, []) := (congrFun pm_M_livesBy 7).trans rfl
theorem rl_M_livesBy_10 : (am_pg z_M_livesBy).2 10 = some (.iload_n 1, 11, 1, 0, 0, 0, 0, []) := (congrFun pm_M_livesBy 10).trans rfl
theorem rl_M_livesBy_11 : (am_pg z_M_livesBy).2 11 = some (.iaload, 12, 0, 0, 0, 0, 0, []) := (congrFun pm_M_livesBy 11).trans rfl
theorem rl_M_livesBy_12 : (am_pg z_M_livesBy).2 12 = some (.iload_n 3, 13, 3, 0, 0, 0, 0, []) := (congrFun pm_M_livesBy 12).trans rfl
theorem rl_M_livesBy_13 : (am_pg z_M_livesBy).2 13 = some (.iconst (-1), 14, 0, 0, 0, 0, -1, []) := (congrFun pm_M_livesBy 13).trans rfl
theorem rl_M_livesBy_14 : (am_pg z_M_livesBy).2 14 = some (.invokevirtual 317, 17, 156, 3, 9, 307, 0, []) := (congrFun pm_M_livesBy 14).trans rfl
theorem rl_M_livesBy_17 : (am_pg z_M_livesBy).2 17 = some (.aload_n 0, 18, 0, 0, 0, 0, 0, []) := (congrFun pm_M_livesBy 17).trans rfl
theorem rl_M_livesBy_18 : (am_pg z_M_livesBy).2 18 = some (.iload_n 2, 19, 2, 0, 0, 0, 0, []) := (congrFun pm_M_livesBy 18).trans rfl
theorem rl_M_livesBy_19 : (am_pg z_M_livesBy).2 19 = some (.iload_n 3, 20, 3, 0, 0, 0, 0, []) := (congrFun pm_M_livesBy 19).trans rfl
theorem rl_M_livesBy_20 : (am_pg z_M_livesBy).2 20 = some (.iconst (1), 21, 0, 0, 0, 0, 1, []) := (congrFun pm_M_livesBy 20).trans rfl
theorem rl_M_livesBy_21 : (am_pg z_M_livesBy).2 21 = some (.invokevirtual 317, 24, 156, 3, 9, 307, 0, []) := (congrFun pm_M_livesBy 21).trans rfl
theorem rl_M_livesBy_24 : (am_pg z_M_livesBy).2 24 = some (.aload_n 0, 25, 0, 0, 0, 0, 0, []) := (congrFun pm_M_livesBy 24).trans rfl
theorem rl_M_livesBy_25 : (am_pg z_M_livesBy).2 25 = some (.iload_n 3, 26, 3, 0, 0, 0, 0, []) := (congrFun pm_M_livesBy 25).trans rfl
theorem rl_M_livesBy_26 : (am_pg z_M_livesBy).2 26 = some (.invokevirtual 277, 29, 169, 1, 9, 287, 0, []) := (congrFun pm_M_livesBy 26).trans rfl
theorem rl_M_livesBy_29 : (am_pg z_M_livesBy).2 29 = some (.istore 4, 31, 4, 0, 0, 0, 0, []) := (congrFun pm_M_livesBy 29).trans rfl
theorem rl_M_livesBy_31 : (am_pg z_M_livesBy).2 31 = some (.aload_n 0, 32, 0, 0, 0, 0, 0, []) := (congrFun pm_M_livesBy 31).trans rfl
theorem rl_M_livesBy_32 : (am_pg z_M_livesBy).2 32 = some (.iload_n 2, 33, 2, 0, 0, 0, 0, []) := (congrFun pm_M_livesBy 32).trans rfl
theorem rl_M_livesBy_33 : (am_pg z_M_livesBy).2 33 = some (.iload_n 3, 34, 3, 0, 0, 0, 0, []) := (congrFun pm_M_livesBy 33).trans rfl
theorem rl_M_livesBy_34 : (am_pg z_M_livesBy).2 34 = some (.iconst (-1), 35, 0, 0, 0, 0, -1, []) := (congrFun pm_M_livesBy 34).trans rfl
theorem rl_M_livesBy_35 : (am_pg z_M_livesBy).2 35 = some (.invokevirtual 317, 38, 156, 3, 9, 307, 0, []) := (congrFun pm_M_livesBy 35).trans rfl
theorem rl_M_livesBy_38 : (am_pg z_M_livesBy).2 38 = some (.aload_n 0, 39, 0, 0, 0, 0, 0, []) := (congrFun pm_M_livesBy 38).trans rfl
theorem rl_M_livesBy_39 : (am_pg z_M_livesBy).2 39 = some (.aload_n 0, 40, 0, 0, 0, 0, 0, []) := (congrFun pm_M_livesBy 39).trans rfl
theorem rl_M_livesBy_40 : (am_pg z_M_livesBy).2 40 = some (.getfield 7, 43, 9, 0, 0, 76, 0, []) := (congrFun pm_M_livesBy 40).trans rfl
theorem rl_M_livesBy_43 : (am_pg z_M_livesBy).2 43 = some (.iload_n 1, 44, 1, 0, 0, 0, 0, []) := (congrFun pm_M_livesBy 43).trans rfl
theorem rl_M_livesBy_44 : (am_pg z_M_livesBy).2 44 = some (.iaload, 45, 0, 0, 0, 0, 0, []) := (congrFun pm_M_livesBy 44).trans rfl
theorem rl_M_livesBy_45 : (am_pg z_M_livesBy).2 45 = some (.iload_n 3, 46, 3, 0, 0, 0, 0, []) := (congrFun pm_M_livesBy 45).trans rfl
theorem rl_M_livesBy_46 : (am_pg z_M_livesBy).2 46 = some (.iconst (1), 47, 0, 0, 0, 0, 1, []) := (congrFun pm_M_livesBy 46).trans rfl
theorem rl_M_livesBy_47 : (am_pg z_M_livesBy).2 47 = some (.invokevirtual 317, 50, 156, 3, 9, 307, 0, []) := (congrFun pm_M_livesBy 47).trans rfl
theorem rl_M_livesBy_50 : (am_pg z_M_livesBy).2 50 = some (.iload 4, 52, 4, 0, 0, 0, 0, []) := (congrFun pm_M_livesBy 50).trans rfl
theorem rl_M_livesBy_52 : (am_pg z_M_livesBy).2 52 = some (.ireturn, 53, 0, 0, 0, 0, 0, []) := (congrFun pm_M_livesBy 52).trans rfl
theorem rl_M_moved_0 : (am_pg z_M_moved).2 0 = some (.iload_n 1, 1, 1, 0, 0, 0, 0, []) := (congrFun pm_M_moved 0).trans rfl
theorem rl_M_moved_1 : (am_pg z_M_moved).2 1 = some (.invokestatic 74, 4, 87, 1, 0, 221, 0, []) := (congrFun pm_M_moved 1).trans rfl
theorem rl_M_moved_4 : (am_pg z_M_moved).2 4 = some (.ifCond .eq (10), 7, 14, 0, 0, 0, 0, []) := (congrFun pm_M_moved 4).trans rfl
theorem rl_M_moved_7 : (am_pg z_M_moved).2 7 = some (.iload_n 2, 8, 2, 0, 0, 0, 0, []) := (congrFun pm_M_moved 7).trans rfl
theorem rl_M_moved_8 : (am_pg z_M_moved).2 8 = some (.invokestatic 137, 11, 86, 1, 0, 219, 0, []) := (congrFun pm_M_moved 8).trans rfl
theorem rl_M_moved_11 : (am_pg z_M_moved).2 11 = some (.ifCond .ne (5), 14, 16, 0, 0, 0, 0, []) := (congrFun pm_M_moved 11).trans rfl
theorem rl_M_moved_14 : (am_pg z_M_moved).2 14 = some (.iconst (-1), 15, 0, 0, 0, 0, -1, []) := (congrFun pm_M_moved 14).trans rfl
theorem rl_M_moved_15 : (am_pg z_M_moved).2 15 = some (.ireturn, 16, 0, 0, 0, 0, 0, []) := (congrFun pm_M_moved 15).trans rfl
theorem rl_M_moved_16 : (am_pg z_M_moved).2 16 = some (.aload_n 0, 17, 0, 0, 0, 0, 0, []) := (congrFun pm_M_moved 16).trans rfl
theorem rl_M_moved_17 : (am_pg z_M_moved).2 17 = some (.invokevirtual 235, 20, 155, 0, 9, 266, 0, []) := (congrFun pm_M_moved 17).trans rfl
theorem rl_M_moved_20 : (am_pg z_M_moved).2 20 = some (.aload_n 0, 21, 0, 0, 0, 0, 0, []) := (congrFun pm_M_moved 20).trans rfl
theorem rl_M_moved_21 : (am_pg z_M_moved).2 21 = some (.iload_n 1, 22, 1, 0, 0, 0, 0, []) := (congrFun pm_M_moved 21).trans rfl
theorem rl_M_moved_22 : (am_pg z_M_moved).2 22 = some (.iload_n 2, 23, 2, 0, 0, 0, 0, []) := (congrFun pm_M_moved 22).trans rfl
theorem rl_M_moved_23 : (am_pg z_M_moved).2 23 = some (.invokevirtual 323, 26, 192, 2, 9, 312, 0, []) := (congrFun pm_M_moved 23).trans rfl
theorem rl_M_moved_26 : (am_pg z_M_moved).2 26 = some (.ireturn, 27, 0, 0, 0, 0, 0, []) := (congrFun pm_M_moved 26).trans rfl
theorem rl_M_loosens_0 : (am_pg z_M_loosens).2 0 = some (.iconst (-1), 1, 0, 0, 0, 0, -1, []) := (congrFun pm_M_loosens 0).trans rfl
theorem rl_M_loosens_1 : (am_pg z_M_loosens).2 1 = some (.istore_n 3, 2, 3, 0, 0, 0, 0, []) := (congrFun pm_M_loosens 1).trans rfl
theorem rl_M_loosens_2 : (am_pg z_M_loosens).2 2 = some (.iload_n 3, 3, 3, 0, 0, 0, 0, []) := (congrFun pm_M_loosens 2).trans rfl
theorem rl_M_loosens_3 : (am_pg z_M_loosens).2 3 = some (.bipush (6), 5, 0, 0, 0, 0, 6, []) := (congrFun pm_M_loosens 3).trans rfl
theorem rl_M_loosens_5 : (am_pg z_M_loosens).2 5 = some (.if_icmp .ge (21), 8, 26, 0, 0, 0, 0, []) := (congrFun pm_M_loosens 5).trans rfl
theorem rl_M_loosens_8 : (am_pg z_M_loosens).2 8 = some (.aload_n 0, 9, 0, 0, 0, 0, 0, []) := (congrFun pm_M_loosens 8).trans rfl
theorem rl_M_loosens_9 : (am_pg z_M_loosens).2 9 = some (.iload_n 1, 10, 1, 0, 0, 0, 0, []) := (congrFun pm_M_loosens 9).trans rfl
theorem rl_M_loosens_10 : (am_pg z_M_loosens).2 10 = some (.iload_n 3, 11, 3, 0, 0, 0, 0, []) := (congrFun pm_M_loosens 10).trans rfl
theorem rl_M_loosens_11 : (am_pg z_M_loosens).2 11 = some (.invokevirtual 323, 14, 192, 2, 9, 312, 0, []) := (congrFun pm_M_loosens 11).trans rfl
theorem rl_M_loosens_14 : (am_pg z_M_loosens).2 14 = some (.iload_n 2, 15, 2, 0, 0, 0, 0, []) := (congrFun pm_M_loosens 14).trans rfl
theorem rl_M_loosens_15 : (am_pg z_M_loosens).2 15 = some (.if_icmp .eq (5), 18, 20, 0, 0, 0, 0, []) := (congrFun pm_M_loosens 15).trans rfl
theorem rl_M_loosens_18 : (am_pg z_M_loosens).2 18 = some (.iconst (1), 19, 0, 0, 0, 0, 1, []) := (congrFun pm_M_loosens 18).trans rfl
theorem rl_M_loosens_19 : (am_pg z_M_loosens).2 19 = some (.ireturn, 20, 0, 0, 1, 0, 0, []) := (congrFun pm_M_loosens 19).trans rfl
theorem rl_M_loosens_20 : (am_pg z_M_loosens).2 20 = some (.iinc 3 (1), 23, 3, 0, 0, 0, 1, []) := (congrFun pm_M_loosens 20).trans rfl
theorem rl_M_loosens_23 : (am_pg z_M_loosens).2 23 = some (.goto (-21), 26, 2, 0, 0, 0, 0, []) := (congrFun pm_M_loosens 23).trans rfl
theorem rl_M_loosens_26 : (am_pg z_M_loosens).2 26 = some (.iconst (0), 27, 0, 0, 0, 0, 0, []) := (congrFun pm_M_loosens 26).trans rfl
theorem rl_M_loosens_27 : (am_pg z_M_loosens).2 27 = some (.ireturn, 28, 0, 0, 1, 0, 0, []) := (congrFun pm_M_loosens 27).trans rfl
theorem rl_M_loose_0 : (am_pg z_M_loose).2 0 = some (.iload_n 1, 1, 1, 0, 0, 0, 0, []) := (congrFun pm_M_loose 0).trans rfl
theorem rl_M_loose_1 : (am_pg z_M_loose).2 1 = some (.invokestatic 194, 4, 89, 1, 0, 243, 0, []) := (congrFun pm_M_loose 1).trans rfl
theorem rl_M_loose_4 : (am_pg z_M_loose).2 4 = some (.ifCond .eq (13), 7, 17, 0, 0, 0, 0, []) := (congrFun pm_M_loose 4).trans rfl
theorem rl_M_loose_7 : (am_pg z_M_loose).2 7 = some (.iload_n 2, 8, 2, 0, 0, 0, 0, []) := (congrFun pm_M_loose 7).trans rfl
theorem rl_M_loose_8 : (am_pg z_M_loose).2 8 = some (.i2l, 9, 0, 0, 0, 0, 0, []) := (congrFun pm_M_loose 8).trans rfl
theorem rl_M_loose_9 : (am_pg z_M_loose).2 9 = some (.lconst 0, 10, 0, 0, 0, 0, 0, []) := (congrFun pm_M_loose 9).trans rfl
theorem rl_M_loose_10 : (am_pg z_M_loose).2 10 = some (.lconst 1, 11, 0, 0, 0, 0, 1, []) := (congrFun pm_M_loose 10).trans rfl
theorem rl_M_loose_11 : (am_pg z_M_loose).2 11 = some (.invokestatic 66, 14, 84, 3, 0, 210, 0, []) := (congrFun pm_M_loose 11).trans rfl
theorem rl_M_loose_14 : (am_pg z_M_loose).2 14 = some (.ifCond .ne (5), 17, 19, 0, 0, 0, 0, []) := (congrFun pm_M_loose 14).trans rfl
theorem rl_M_loose_17 : (am_pg z_M_loose).2 17 = some (.iconst (-1), 18, 0, 0, 0, 0, -1, []) := (congrFun pm_M_loose 17).trans rfl
theorem rl_M_loose_18 : (am_pg z_M_loose).2 18 = some (.ireturn, 19, 0, 0, 0, 0, 0, []) := (congrFun pm_M_loose 18).trans rfl
theorem rl_M_loose_19 : (am_pg z_M_loose).2 19 = some (.aload_n 0, 20, 0, 0, 0, 0, 0, []) := (congrFun pm_M_loose 19).trans rfl
theorem rl_M_loose_20 : (am_pg z_M_loose).2 20 = some (.invokevirtual 235, 23, 155, 0, 9, 266, 0, []) := (congrFun pm_M_loose 20).trans rfl
theorem rl_M_loose_23 : (am_pg z_M_loose).2 23 = some (.aload_n 0, 24, 0, 0, 0, 0, 0, []) := (congrFun pm_M_loose 23).trans rfl
theorem rl_M_loose_24 : (am_pg z_M_loose).2 24 = some (.iload_n 1, 25, 1, 0, 0, 0, 0, []) := (congrFun pm_M_loose 24).trans rfl
theorem rl_M_loose_25 : (am_pg z_M_loose).2 25 = some (.invokevirtual 277, 28, 169, 1, 9, 287, 0, []) := (congrFun pm_M_loose 25).trans rfl
theorem rl_M_loose_28 : (am_pg z_M_loose).2 28 = some (.istore_n 3, 29, 3, 0, 0, 0, 0, []) := (congrFun pm_M_loose 28).trans rfl
theorem rl_M_loose_29 : (am_pg z_M_loose).2 29 = some (.iconst (0), 30, 0, 0, 0, 0, 0, []) := (congrFun pm_M_loose 29).trans rfl
theorem rl_M_loose_30 : (am_pg z_M_loose).2 30 = some (.istore 4, 32, 4, 0, 0, 0, 0, []) := (congrFun pm_M_loose 30).trans rfl
theorem rl_M_loose_32 : (am_pg z_M_loose).2 32 = some (.iload 4, 34, 4, 0, 0, 0, 0, []) := (congrFun pm_M_loose 32).trans rfl
theorem rl_M_loose_34 : (am_pg z_M_loose).2 34 = some (.bipush (7), 36, 0, 0, 0, 0, 7, []) := (congrFun pm_M_loose 34).trans rfl
theorem rl_M_loose_36 : (am_pg z_M_loose).2 36 = some (.if_icmp .ge (17), 39, 53, 0, 0, 0, 0, []) := (congrFun pm_M_loose 36).trans rfl
theorem rl_M_loose_39 : (am_pg z_M_loose).2 39 = some (.aload_n 0, 40, 0, 0, 0, 0, 0, []) := (congrFun pm_M_loose 39).trans rfl
theorem rl_M_loose_40 : (am_pg z_M_loose).2 40 = some (.getfield 47, 43, 9, 22, 0, 98, 0, []) := (congrFun pm_M_loose 40).trans rfl
theorem rl_M_loose_43 : (am_pg z_M_loose).2 43 = some (.iload 4, 45, 4, 0, 0, 0, 0, []) := (congrFun pm_M_loose 43).trans rfl
theorem rl_M_loose_45 : (am_pg z_M_loose).2 45 = some (.iconst (0), 46, 0, 0, 0, 0, 0, []) := (congrFun pm_M_loose 45).trans rfl
theorem rl_M_loose_46 : (am_pg z_M_loose).2 46 = some (.iastore, 47, 0, 0, 0, 0, 0, []) := (congrFun pm_M_loose 46).trans rfl
theorem rl_M_loose_47 : (am_pg z_M_loose).2 47 = some (.iinc 4 (1), 50, 4, 0, 0, 0, 1, []) := (congrFun pm_M_loose 47).trans rfl
theorem rl_M_loose_50 : (am_pg z_M_loose).2 50 = some (.goto (-18), 53, 32, 0, 0, 0, 0, []) := (congrFun pm_M_loose 50).trans rfl
theorem rl_M_loose_53 : (am_pg z_M_loose).2 53 = some (.iconst (0), 54, 0, 0, 0, 0, 0, []) := (congrFun pm_M_loose 53).trans rfl
theorem rl_M_loose_54 : (am_pg z_M_loose).2 54 = some (.istore 4, 56, 4, 0, 0, 0, 0, []) := (congrFun pm_M_loose 54).trans rfl
theorem rl_M_loose_56 : (am_pg z_M_loose).2 56 = some (.bipush (-2), 58, 0, 0, 0, 0, -2, []) := (congrFun pm_M_loose 56).trans rfl
theorem rl_M_loose_58 : (am_pg z_M_loose).2 58 = some (.istore 5, 60, 5, 0, 0, 0, 0, []) := (congrFun pm_M_loose 58).trans rfl
theorem rl_M_loose_60 : (am_pg z_M_loose).2 60 = some (.sipush (360), 63, 0, 0, 0, 0, 360, []) := (congrFun pm_M_loose 60).trans rfl
theorem rl_M_loose_63 : (am_pg z_M_loose).2 63 = some (.iload_n 1, 64, 1, 0, 0, 0, 0, []) := (congrFun pm_M_loose 63).trans rfl
theorem rl_M_loose_64 : (am_pg z_M_loose).2 64 = some (.imul, 65, 0, 0, 0, 0, 0, []) := (congrFun pm_M_loose 64).trans rfl
theorem rl_M_loose_65 : (am_pg z_M_loose).2 65 = some (.istore 6, 67, 6, 0, 0, 0, 0, []) := (congrFun pm_M_loose 65).trans rfl
theorem rl_M_loose_67 : (am_pg z_M_loose).2 67 = some (.iload 6, 69, 6, 0, 0, 0, 0, []) := (congrFun pm_M_loose 67).trans rfl
theorem rl_M_loose_69 : (am_pg z_M_loose).2 69 = some (.sipush (360), 72, 0, 0, 0, 0, 360, []) := (congrFun pm_M_loose 69).trans rfl
theorem rl_M_loose_72 : (am_pg z_M_loose).2 72 = some (.iload_n 1, 73, 1, 0, 0, 0, 0, []) := (congrFun pm_M_loose 72).trans rfl
theorem rl_M_loose_73 : (am_pg z_M_loose).2 73 = some (.imul, 74, 0, 0, 0, 0, 0, []) := (congrFun pm_M_loose 73).trans rfl
theorem rl_M_loose_74 : (am_pg z_M_loose).2 74 = some (.sipush (360), 77, 0, 0, 0, 0, 360, []) := (congrFun pm_M_loose 74).trans rfl
theorem rl_M_loose_77 : (am_pg z_M_loose).2 77 = some (.iadd, 78, 0, 0, 0, 0, 0, []) := (congrFun pm_M_loose 77).trans rfl
theorem rl_M_loose_78 : (am_pg z_M_loose).2 78 = some (.if_icmp .ge (86), 81, 164, 0, 0, 0, 0, []) := (congrFun pm_M_loose 78).trans rfl
theorem rl_M_loose_81 : (am_pg z_M_loose).2 81 = some (.aload_n 0, 82, 0, 0, 0, 0, 0, []) := (congrFun pm_M_loose 81).trans rfl
theorem rl_M_loose_82 : (am_pg z_M_loose).2 82 = some (.getfield 7, 85, 9, 0, 0, 76, 0, []) := (congrFun pm_M_loose 82).trans rfl
theorem rl_M_loose_85 : (am_pg z_M_loose).2 85 = some (.iload 6, 87, 6, 0, 0, 0, 0, []) := (congrFun pm_M_loose 85).trans rfl
theorem rl_M_loose_87 : (am_pg z_M_loose).2 87 = some (.iaload, 88, 0, 0, 0, 0, 0, []) := (congrFun pm_M_loose 87).trans rfl
theorem rl_M_loose_88 : (am_pg z_M_loose).2 88 = some (.iconst (1), 89, 0, 0, 0, 0, 1, []) := (congrFun pm_M_loose 88).trans rfl
theorem rl_M_loose_89 : (am_pg z_M_loose).2 89 = some (.iadd, 90, 0, 0, 0, 0, 0, []) := (congrFun pm_M_loose 89).trans rfl
theorem rl_M_loose_90 : (am_pg z_M_loose).2 90 = some (.istore 7, 92, 7, 0, 0, 0, 0, []) := (congrFun pm_M_loose 90).trans rfl
theorem rl_M_loose_92 : (am_pg z_M_loose).2 92 = some (.aload_n 0, 93, 0, 0, 0, 0, 0, []) := (congrFun pm_M_loose 92).trans rfl
theorem rl_M_loose_93 : (am_pg z_M_loose).2 93 = some (.getfield 47, 96, 9, 22, 0, 98, 0, []) := (congrFun pm_M_loose 93).trans rfl
theorem rl_M_loose_96 : (am_pg z_M_loose).2 96 = some (.iload 7, 98, 7, 0, 0, 0, 0, []) := (congrFun pm_M_loose 96).trans rfl
theorem rl_M_loose_98 : (am_pg z_M_loose).2 98 = some (.iaload, 99, 0, 0, 0, 0, 0, []) := (congrFun pm_M_loose 98).trans rfl
theorem rl_M_loose_99 : (am_pg z_M_loose).2 99 = some (.ifCond .ne (25), 102, 124, 0, 0, 0, 0, []) := (congrFun pm_M_loose 99).trans rfl
theorem rl_M_loose_102 : (am_pg z_M_loose).2 102 = some (.aload_n 0, 103, 0, 0, 0, 0, 0, []) := (congrFun pm_M_loose 102).trans rfl
theorem rl_M_loose_103 : (am_pg z_M_loose).2 103 = some (.getfield 47, 106, 9, 22, 0, 98, 0, []) := (congrFun pm_M_loose 103).trans rfl
theorem rl_M_loose_106 : (am_pg z_M_loose).2 106 = some (.iload 7, 108, 7, 0, 0, 0, 0, []) := (congrFun pm_M_loose 106).trans rfl
theorem rl_M_loose_108 : (am_pg z_M_loose).2 108 = some (.aload_n 0, 109, 0, 0, 0, 0, 0, []) := (congrFun pm_M_loose 108).trans rfl
theorem rl_M_loose_109 : (am_pg z_M_loose).2 109 = some (.iload 6, 111, 6, 0, 0, 0, 0, []) := (congrFun pm_M_loose 109).trans rfl
theorem rl_M_loose_111 : (am_pg z_M_loose).2 111 = some (.iload_n 3, 112, 3, 0, 0, 0, 0, []) := (congrFun pm_M_loose 111).trans rfl
theorem rl_M_loose_112 : (am_pg z_M_loose).2 112 = some (.invokevirtual 326, 115, 194, 2, 9, 314, 0, []) := (congrFun pm_M_loose 112).trans rfl
theorem rl_M_loose_115 : (am_pg z_M_loose).2 115 = some (.ifCond .eq (7), 118, 122, 0, 0, 0, 0, []) := (congrFun pm_M_loose 115).trans rfl
theorem rl_M_loose_118 : (am_pg z_M_loose).2 118 = some (.iconst (2), 119, 0, 0, 0, 0, 2, []) := (congrFun pm_M_loose 118).trans rfl
theorem rl_M_loose_119 : (am_pg z_M_loose).2 119 = some (.goto (4), 122, 123, 0, 0, 0, 0, []) := (congrFun pm_M_loose 119).trans rfl
theorem rl_M_loose_122 : (am_pg z_M_loose).2 122 = some (.iconst (1), 123, 0, 0, 0, 0, 1, []) := (congrFun pm_M_loose 122).trans rfl
theorem rl_M_loose_123 : (am_pg z_M_loose).2 123 = some (.iastore, 124, 0, 0, 0, 0, 0, []) := (congrFun pm_M_loose 123).trans rfl
theorem rl_M_loose_124 : (am_pg z_M_loose).2 124 = some (.aload_n 0, 125, 0, 0, 0, 0, 0, []) := (congrFun pm_M_loose 124).trans rfl
theorem rl_M_loose_125 : (am_pg z_M_loose).2 125 = some (.getfield 47, 128, 9, 22, 0, 98, 0, []) := (congrFun pm_M_loose 125).trans rfl
theorem rl_M_loose_128 : (am_pg z_M_loose).2 128 = some (.iload 7, 130, 7, 0, 0, 0, 0, []) := (congrFun pm_M_loose 128).trans rfl
theorem rl_M_loose_130 : (am_pg z_M_loose).2 130 = some (.iaload, 131, 0, 0, 0, 0, 0, []) := (congrFun pm_M_loose 130).trans rfl
theorem rl_M_loose_131 : (am_pg z_M_loose).2 131 = some (.iconst (1), 132, 0, 0, 0, 0, 1, []) := (congrFun pm_M_loose 131).trans rfl
theorem rl_M_loose_132 : (am_pg z_M_loose).2 132 = some (.if_icmp .ne (6), 135, 138, 0, 0, 0, 0, []) := (congrFun pm_M_loose 132).trans rfl
theorem rl_M_loose_135 : (am_pg z_M_loose).2 135 = some (.goto (23), 138, 158, 0, 0, 0, 0, []) := (congrFun pm_M_loose 135).trans rfl
theorem rl_M_loose_138 : (am_pg z_M_loose).2 138 = some (.iload 4, 140, 4, 0, 0, 0, 0, []) := (congrFun pm_M_loose 138).trans rfl
theorem rl_M_loose_140 : (am_pg z_M_loose).2 140 = some (.ifCond .ne (8), 143, 148, 0, 0, 0, 0, []) := (congrFun pm_M_loose 140).trans rfl
theorem rl_M_loose_143 : (am_pg z_M_loose).2 143 = some (.iload 6, 145, 6, 0, 0, 0, 0, []) := (congrFun pm_M_loose 143).trans rfl
theorem rl_M_loose_145 : (am_pg z_M_loose).2 145 = some (.goto (5), 148, 150, 0, 0, 0, 0, []) := (congrFun pm_M_loose 145).trans rfl
theorem rl_M_loose_148 : (am_pg z_M_loose).2 148 = some (.iload 5, 150, 5, 0, 0, 0, 0, []) := (congrFun pm_M_loose 148).trans rfl
theorem rl_M_loose_150 : (am_pg z_M_loose).2 150 = some (.istore 5, 152, 5, 0, 0, 0, 0, []) := (congrFun pm_M_loose 150).trans rfl
theorem rl_M_loose_152 : (am_pg z_M_loose).2 152 = some (.iload 4, 154, 4, 0, 0, 0, 0, []) := (congrFun pm_M_loose 152).trans rfl
theorem rl_M_loose_154 : (am_pg z_M_loose).2 154 = some (.iconst (1), 155, 0, 0, 0, 0, 1, []) := (congrFun pm_M_loose 154).trans rfl
theorem rl_M_loose_155 : (am_pg z_M_loose).2 155 = some (.iadd, 156, 0, 0, 0, 0, 0, []) := (congrFun pm_M_loose 155).trans rfl
theorem rl_M_loose_156 : (am_pg z_M_loose).2 156 = some (.istore 4, 158, 4, 0, 0, 0, 0, []) := (congrFun pm_M_loose 156).trans rfl
theorem rl_M_loose_158 : (am_pg z_M_loose).2 158 = some (.iinc 6 (1), 161, 6, 0, 0, 0, 1, []) := (congrFun pm_M_loose 158).trans rfl
theorem rl_M_loose_161 : (am_pg z_M_loose).2 161 = some (.goto (-94), 164, 67, 0, 0, 0, 0, []) := (congrFun pm_M_loose 161).trans rfl
theorem rl_M_loose_164 : (am_pg z_M_loose).2 164 = some (.iload_n 2, 165, 2, 0, 0, 0, 0, []) := (congrFun pm_M_loose 164).trans rfl
theorem rl_M_loose_165 : (am_pg z_M_loose).2 165 = some (.ifCond .ne (8), 168, 173, 0, 0, 0, 0, []) := (congrFun pm_M_loose 165).trans rfl
theorem rl_M_loose_168 : (am_pg z_M_loose).2 168 = some (.iload 4, 170, 4, 0, 0, 0, 0, []) := (congrFun pm_M_loose 168).trans rfl
theorem rl_M_loose_170 : (am_pg z_M_loose).2 170 = some (.goto (5), 173, 175, 0, 0, 0, 0, []) := (congrFun pm_M_loose 170).trans rfl
theorem rl_M_loose_173 : (am_pg z_M_loose).2 173 = some (.iload 5, 175, 5, 0, 0, 0, 0, []) := (congrFun pm_M_loose 173).trans rfl
theorem rl_M_loose_175 : (am_pg z_M_loose).2 175 = some (.ireturn, 176, 0, 0, 0, 0, 0, []) := (congrFun pm_M_loose 175).trans rfl
theorem rl_M_nearest_0 : (am_pg z_M_nearest).2 0 = some (.iload_n 1, 1, 1, 0, 0, 0, 0, []) := (congrFun pm_M_nearest 0).trans rfl
theorem rl_M_nearest_1 : (am_pg z_M_nearest).2 1 = some (.invokestatic 194, 4, 89, 1, 0, 243, 0, []) := (congrFun pm_M_nearest 1).trans rfl
theorem rl_M_nearest_4 : (am_pg z_M_nearest).2 4 = some (.ifCond .eq (13), 7, 17, 0, 0, 0, 0, []) := (congrFun pm_M_nearest 4).trans rfl
theorem rl_M_nearest_7 : (am_pg z_M_nearest).2 7 = some (.iload_n 2, 8, 2, 0, 0, 0, 0, []) := (congrFun pm_M_nearest 7).trans rfl
theorem rl_M_nearest_8 : (am_pg z_M_nearest).2 8 = some (.i2l, 9, 0, 0, 0, 0, 0, []) := (congrFun pm_M_nearest 8).trans rfl
theorem rl_M_nearest_9 : (am_pg z_M_nearest).2 9 = some (.lconst 0, 10, 0, 0, 0, 0, 0, []) := (congrFun pm_M_nearest 9).trans rfl
theorem rl_M_nearest_10 : (am_pg z_M_nearest).2 10 = some (.lconst 1, 11, 0, 0, 0, 0, 1, []) := (congrFun pm_M_nearest 10).trans rfl
theorem rl_M_nearest_11 : (am_pg z_M_nearest).2 11 = some (.invokestatic 66, 14, 84, 3, 0, 210, 0, []) := (congrFun pm_M_nearest 11).trans rfl
theorem rl_M_nearest_14 : (am_pg z_M_nearest).2 14 = some (.ifCond .ne (5), 17, 19, 0, 0, 0, 0, []) := (congrFun pm_M_nearest 14).trans rfl
theorem rl_M_nearest_17 : (am_pg z_M_nearest).2 17 = some (.iconst (-1), 18, 0, 0, 0, 0, -1, []) := (congrFun pm_M_nearest 17).trans rfl
theorem rl_M_nearest_18 : (am_pg z_M_nearest).2 18 = some (.ireturn, 19, 0, 0, 0, 0, 0, []) := (congrFun pm_M_nearest 18).trans rfl
theorem rl_M_nearest_19 : (am_pg z_M_nearest).2 19 = some (.aload_n 0, 20, 0, 0, 0, 0, 0, []) := (congrFun pm_M_nearest 19).trans rfl
theorem rl_M_nearest_20 : (am_pg z_M_nearest).2 20 = some (.invokevirtual 235, 23, 155, 0, 9, 266, 0, []) := (congrFun pm_M_nearest 20).trans rfl
theorem rl_M_nearest_23 : (am_pg z_M_nearest).2 23 = some (.bipush (-2), 25, 0, 0, 0, 0, -2, []) := (congrFun pm_M_nearest 23).trans rfl
theorem rl_M_nearest_25 : (am_pg z_M_nearest).2 25 = some (.istore_n 3, 26, 3, 0, 0, 0, 0, []) := (congrFun pm_M_nearest 25).trans rfl
theorem rl_M_nearest_26 : (am_pg z_M_nearest).2 26 = some (.iconst (0), 27, 0, 0, 0, 0, 0, []) := (congrFun pm_M_nearest 26).trans rfl
theorem rl_M_nearest_27 : (am_pg z_M_nearest).2 27 = some (.istore 4, 29, 4, 0, 0, 0, 0, []) := (congrFun pm_M_nearest 27).trans rfl
theorem rl_M_nearest_29 : (am_pg z_M_nearest).2 29 = some (.iconst (0), 30, 0, 0, 0, 0, 0, []) := (congrFun pm_M_nearest 29).trans rfl
theorem rl_M_nearest_30 : (am_pg z_M_nearest).2 30 = some (.istore 5, 32, 5, 0, 0, 0, 0, []) := (congrFun pm_M_nearest 30).trans rfl
theorem rl_M_nearest_32 : (am_pg z_M_nearest).2 32 = some (.iload 5, 34, 5, 0, 0, 0, 0, []) := (congrFun pm_M_nearest 32).trans rfl
theorem rl_M_nearest_34 : (am_pg z_M_nearest).2 34 = some (.bipush (6), 36, 0, 0, 0, 0, 6, []) := (congrFun pm_M_nearest 34).trans rfl
theorem rl_M_nearest_36 : (am_pg z_M_nearest).2 36 = some (.if_icmp .ge (47), 39, 83, 0, 0, 0, 0, []) := (congrFun pm_M_nearest 36).trans rfl
theorem rl_M_nearest_39 : (am_pg z_M_nearest).2 39 = some (.aload_n 0, 40, 0, 0, 0, 0, 0, []) := (congrFun pm_M_nearest 39).trans rfl
theorem rl_M_nearest_40 : (am_pg z_M_nearest).2 40 = some (.iload 5, 42, 5, 0, 0, 0, 0, []) := (congrFun pm_M_nearest 40).trans rfl
theorem rl_M_nearest_42 : (am_pg z_M_nearest).2 42 = some (.iload_n 1, 43, 1, 0, 0, 0, 0, []) := (congrFun pm_M_nearest 42).trans rfl
theorem rl_M_nearest_43 : (am_pg z_M_nearest).2 43 = some (.invokevirtual 320, 46, 190, 2, 9, 310, 0, []) := (congrFun pm_M_nearest 43).trans rfl
theorem rl_M_nearest_46 : (am_pg z_M_nearest).2 46 = some (.istore 6, 48, 6, 0, 0, 0, 0, []) := (congrFun pm_M_nearest 46).trans rfl
theorem rl_M_nearest_48 : (am_pg z_M_nearest).2 48 = some (.iload 6, 50, 6, 0, 0, 0, 0, []) := (congrFun pm_M_nearest 48).trans rfl
theorem rl_M_nearest_50 : (am_pg z_M_nearest).2 50 = some (.iconst (1), 51, 0, 0, 0, 0, 1, []) := (congrFun pm_M_nearest 50).trans rfl
theorem rl_M_nearest_51 : (am_pg z_M_nearest).2 51 = some (.if_icmp .lt (26), 54, 77, 0, 0, 0, 0, []) := (congrFun pm_M_nearest 51).trans rfl
theorem rl_M_nearest_54 : (am_pg z_M_nearest).2 54 = some (.iload_n 3, 55, 3, 0, 0, 0, 0, []) := (congrFun pm_M_nearest 54).trans rfl
theorem rl_M_nearest_55 : (am_pg z_M_nearest).2 55 = some (.bipush (-2), 57, 0, 0, 0, 0, -2, []) := (congrFun pm_M_nearest 55).trans rfl
theorem rl_M_nearest_57 : (am_pg z_M_nearest).2 57 = some (.if_icmp .eq (13), 60, 70, 0, 0, 0, 0, []) := (congrFun pm_M_nearest 57).trans rfl
theorem rl_M_nearest_60 : (am_pg z_M_nearest).2 60 = some (.iload 6, 62, 6, 0, 0, 0, 0, []) := (congrFun pm_M_nearest 60).trans rfl
theorem rl_M_nearest_62 : (am_pg z_M_nearest).2 62 = some (.iload 4, 64, 4, 0, 0, 0, 0, []) := (congrFun pm_M_nearest 62).trans rfl
theorem rl_M_nearest_64 : (am_pg z_M_nearest).2 64 = some (.if_icmp .lt (6), 67, 70, 0, 0, 0, 0, []) := (congrFun pm_M_nearest 64).trans rfl
theorem rl_M_nearest_67 : (am_pg z_M_nearest).2 67 = some (.goto (10), 70, 77, 0, 0, 0, 0, []) := (congrFun pm_M_nearest 67).trans rfl
theorem rl_M_nearest_70 : (am_pg z_M_nearest).2 70 = some (.iload 5, 72, 5, 0, 0, 0, 0, []) := (congrFun pm_M_nearest 70).trans rfl
theorem rl_M_nearest_72 : (am_pg z_M_nearest).2 72 = some (.istore_n 3, 73, 3, 0, 0, 0, 0, []) := (congrFun pm_M_nearest 72).trans rfl
theorem rl_M_nearest_73 : (am_pg z_M_nearest).2 73 = some (.iload 6, 75, 6, 0, 0, 0, 0, []) := (congrFun pm_M_nearest 73).trans rfl
theorem rl_M_nearest_75 : (am_pg z_M_nearest).2 75 = some (.istore 4, 77, 4, 0, 0, 0, 0, []) := (congrFun pm_M_nearest 75).trans rfl
theorem rl_M_nearest_77 : (am_pg z_M_nearest).2 77 = some (.iinc 5 (1), 80, 5, 0, 0, 0, 1, []) := (congrFun pm_M_nearest 77).trans rfl
theorem rl_M_nearest_80 : (am_pg z_M_nearest).2 80 = some (.goto (-48), 83, 32, 0, 0, 0, 0, []) := (congrFun pm_M_nearest 80).trans rfl
theorem rl_M_nearest_83 : (am_pg z_M_nearest).2 83 = some (.iload_n 2, 84, 2, 0, 0, 0, 0, []) := (congrFun pm_M_nearest 83).trans rfl
theorem rl_M_nearest_84 : (am_pg z_M_nearest).2 84 = some (.ifCond .eq (9), 87, 93, 0, 0, 0, 0, []) := (congrFun pm_M_nearest 84).trans rfl
theorem rl_M_nearest_87 : (am_pg z_M_nearest).2 87 = some (.iload_n 3, 88, 3, 0, 0, 0, 0, []) := (congrFun pm_M_nearest 87).trans rfl
theorem rl_M_nearest_88 : (am_pg z_M_nearest).2 88 = some (.bipush (-2), 90, 0, 0, 0, 0, -2, []) := (congrFun pm_M_nearest 88).trans rfl
theorem rl_M_nearest_90 : (am_pg z_M_nearest).2 90 = some (.if_icmp .ne (7), 93, 97, 0, 0, 0, 0, []) := (congrFun pm_M_nearest 90).trans rfl
theorem rl_M_nearest_93 : (am_pg z_M_nearest).2 93 = some (.iload_n 3, 94, 3, 0, 0, 0, 0, []) := (congrFun pm_M_nearest 93).trans rfl
theorem rl_M_nearest_94 : (am_pg z_M_nearest).2 94 = some (.goto (5), 97, 99, 0, 0, 0, 0, []) := (congrFun pm_M_nearest 94).trans rfl
theorem rl_M_nearest_97 : (am_pg z_M_nearest).2 97 = some (.iload 4, 99, 4, 0, 0, 0, 0, []) := (congrFun pm_M_nearest 97).trans rfl
theorem rl_M_nearest_99 : (am_pg z_M_nearest).2 99 = some (.ireturn, 100, 0, 0, 0, 0, 0, []) := (congrFun pm_M_nearest 99).trans rfl
theorem rl_M_asked_0 : (am_pg z_M_asked).2 0 = some (.iload_n 1, 1, 1, 0, 0, 0, 0, []) := (congrFun pm_M_asked 0).trans rfl
theorem rl_M_asked_1 : (am_pg z_M_asked).2 1 = some (.iconst (4), 2, 0, 0, 0, 0, 4, []) := (congrFun pm_M_asked 1).trans rfl
theorem rl_M_asked_2 : (am_pg z_M_asked).2 2 = some (.if_icmp .ne (8), 5, 10, 0, 0, 0, 0, []) := (congrFun pm_M_asked 2).trans rfl
theorem rl_M_asked_5 : (am_pg z_M_asked).2 5 = some (.aload_n 0, 6, 0, 0, 0, 0, 0, []) := (congrFun pm_M_asked 5).trans rfl
theorem rl_M_asked_6 : (am_pg z_M_asked).2 6 = some (.invokevirtual 329, 9, 141, 0, 9, 318, 0, []) := (congrFun pm_M_asked 6).trans rfl
theorem rl_M_asked_9 : (am_pg z_M_asked).2 9 = some (.ireturn, 10, 0, 0, 0, 0, 0, []) := (congrFun pm_M_asked 9).trans rfl
theorem rl_M_asked_10 : (am_pg z_M_asked).2 10 = some (.iload_n 1, 11, 1, 0, 0, 0, 0, []) := (congrFun pm_M_asked 10).trans rfl
theorem rl_M_asked_11 : (am_pg z_M_asked).2 11 = some (.iconst (3), 12, 0, 0, 0, 0, 3, []) := (congrFun pm_M_asked 11).trans rfl
theorem rl_M_asked_12 : (am_pg z_M_asked).2 12 = some (.if_icmp .ne (8), 15, 20, 0, 0, 0, 0, []) := (congrFun pm_M_asked 12).trans rfl
theorem rl_M_asked_15 : (am_pg z_M_asked).2 15 = some (.aload_n 0, 16, 0, 0, 0, 0, 0, []) := (congrFun pm_M_asked 15).trans rfl
theorem rl_M_asked_16 : (am_pg z_M_asked).2 16 = some (.invokevirtual 332, 19, 179, 0, 9, 319, 0, []) := (congrFun pm_M_asked 16).trans rfl
theorem rl_M_asked_19 : (am_pg z_M_asked).2 19 = some (.ireturn, 20, 0, 0, 0, 0, 0, []) := (congrFun pm_M_asked 19).trans rfl
theorem rl_M_asked_20 : (am_pg z_M_asked).2 20 = some (.aload_n 0, 21, 0, 0, 0, 0, 0, []) := (congrFun pm_M_asked 20).trans rfl
theorem rl_M_asked_21 : (am_pg z_M_asked).2 21 = some (.invokevirtual 235, 24, 155, 0, 9, 266, 0, []) := (congrFun pm_M_asked 21).trans rfl
theorem rl_M_asked_24 : (am_pg z_M_asked).2 24 = some (.aload_n 0, 25, 0, 0, 0, 0, 0, []) := (congrFun pm_M_asked 24).trans rfl
theorem rl_M_asked_25 : (am_pg z_M_asked).2 25 = some (.iload_n 1, 26, 1, 0, 0, 0, 0, []) := (congrFun pm_M_asked 25).trans rfl
theorem rl_M_asked_26 : (am_pg z_M_asked).2 26 = some (.invokevirtual 277, 29, 169, 1, 9, 287, 0, []) := (congrFun pm_M_asked 26).trans rfl
theorem rl_M_asked_29 : (am_pg z_M_asked).2 29 = some (.ireturn, 30, 0, 0, 0, 0, 0, []) := (congrFun pm_M_asked 29).trans rfl
theorem rl_M_instead_0 : (am_pg z_M_instead).2 0 = some (.iload_n 1, 1, 1, 0, 0, 0, 0, []) := (congrFun pm_M_instead 0).trans rfl
theorem rl_M_instead_1 : (am_pg z_M_instead).2 1 = some (.invokestatic 143, 4, 85, 1, 0, 223, 0, []) := (congrFun pm_M_instead 1).trans rfl
theorem rl_M_instead_4 : (am_pg z_M_instead).2 4 = some (.ifCond .eq (37), 7, 41, 0, 0, 0, 0, []) := (congrFun pm_M_instead 4).trans rfl
theorem rl_M_instead_7 : (am_pg z_M_instead).2 7 = some (.iload_n 2, 8, 2, 0, 0, 0, 0, []) := (congrFun pm_M_instead 7).trans rfl
theorem rl_M_instead_8 : (am_pg z_M_instead).2 8 = some (.invokestatic 137, 11, 86, 1, 0, 219, 0, []) := (congrFun pm_M_instead 8).trans rfl
theorem rl_M_instead_11 : (am_pg z_M_instead).2 11 = some (.ifCond .eq (30), 14, 41, 0, 0, 0, 0, []) := (congrFun pm_M_instead 11).trans rfl
theorem rl_M_instead_14 : (am_pg z_M_instead).2 14 = some (.iload_n 1, 15, 1, 0, 0, 0, 0, []) := (congrFun pm_M_instead 14).trans rfl
theorem rl_M_instead_15 : (am_pg z_M_instead).2 15 = some (.iload_n 2, 16, 2, 0, 0, 0, 0, []) := (congrFun pm_M_instead 15).trans rfl
theorem rl_M_instead_16 : (am_pg z_M_instead).2 16 = some (.if_icmp .eq (25), 19, 41, 0, 0, 0, 0, []) := (congrFun pm_M_instead 16).trans rfl
theorem rl_M_instead_19 : (am_pg z_M_instead).2 19 = some (.iload_n 3, 20, 3, 0, 0, 0, 0, []) := (congrFun pm_M_instead 19).trans rfl
theorem rl_M_instead_20 : (am_pg z_M_instead).2 20 = some (.iload 4, 22, 4, 0, 0, 0, 0, []) := (congrFun pm_M_instead 20).trans rfl
theorem rl_M_instead_22 : (am_pg z_M_instead).2 22 = some (.invokestatic 140, 25, 88, 2, 0, 220, 0, []) := (congrFun pm_M_instead 22).trans rfl
theorem rl_M_instead_25 : (am_pg z_M_instead).2 25 = some (.ifCond .eq (16), 28, 41, 0, 0, 0, 0, []) := (congrFun pm_M_instead 25).trans rfl
theorem rl_M_instead_28 : (am_pg z_M_instead).2 28 = some (.iload 5, 30, 5, 0, 0, 0, 0, []) := (congrFun pm_M_instead 28).trans rfl
theorem rl_M_instead_30 : (am_pg z_M_instead).2 30 = some (.i2l, 31, 0, 0, 0, 0, 0, []) := (congrFun pm_M_instead 30).trans rfl
theorem rl_M_instead_31 : (am_pg z_M_instead).2 31 = some (.lconst 0, 32, 0, 0, 0, 0, 0, []) := (congrFun pm_M_instead 31).trans rfl
theorem rl_M_instead_32 : (am_pg z_M_instead).2 32 = some (.ldc2_w 189, 35, 0, 0, 0, 11, 4, []) := (congrFun pm_M_instead 32).trans rfl
theorem rl_M_instead_35 : (am_pg z_M_instead).2 35 = some (.invokestatic 66, 38, 84, 3, 0, 210, 0, []) := (congrFun pm_M_instead 35).trans rfl
theorem rl_M_instead_38 : (am_pg z_M_instead).2 38 = some (.ifCond .ne (5), 41, 43, 0, 0, 0, 0, []) := (congrFun pm_M_instead 38).trans rfl
theorem rl_M_instead_41 : (am_pg z_M_instead).2 41 = some (.iconst (-1), 42, 0, 0, 0, 0, -1, []) := (congrFun pm_M_instead 41).trans rfl
theorem rl_M_instead_42 : (am_pg z_M_instead).2 42 = some (.ireturn, 43, 0, 0, 0, 0, 0, []) := (congrFun pm_M_instead 42).trans rfl
theorem rl_M_instead_43 : (am_pg z_M_instead).2 43 = some (.aload_n 0, 44, 0, 0, 0, 0, 0, []) := (congrFun pm_M_instead 43).trans rfl
theorem rl_M_instead_44 : (am_pg z_M_instead).2 44 = some (.invokevirtual 241, 47, 147, 0, 9, 270, 0, []) := (congrFun pm_M_instead 44).trans rfl
theorem rl_M_instead_47 : (am_pg z_M_instead).2 47 = some (.iload_n 3, 48, 3, 0, 0, 0, 0, []) := (congrFun pm_M_instead 47).trans rfl
theorem rl_M_instead_48 : (am_pg z_M_instead).2 48 = some (.istore 6, 50, 6, 0, 0, 0, 0, []) := (congrFun pm_M_instead 48).trans rfl
theorem rl_M_instead_50 : (am_pg z_M_instead).2 50 = some (.iload 6, 52, 6, 0, 0, 0, 0, []) := (congrFun pm_M_instead 50).trans rfl
theorem rl_M_instead_52 : (am_pg z_M_instead).2 52 = some (.iload 4, 54, 4, 0, 0, 0, 0, []) := (congrFun pm_M_instead 52).trans rfl
theorem rl_M_instead_54 : (am_pg z_M_instead).2 54 = some (.if_icmp .gt (38), 57, 92, 0, 0, 0, 0, []) := (congrFun pm_M_instead 54).trans rfl
theorem rl_M_instead_57 : (am_pg z_M_instead).2 57 = some (.aload_n 0, 58, 0, 0, 0, 0, 0, []) := (congrFun pm_M_instead 57).trans rfl
theorem rl_M_instead_58 : (am_pg z_M_instead).2 58 = some (.getfield 7, 61, 9, 0, 0, 76, 0, []) := (congrFun pm_M_instead 58).trans rfl
theorem rl_M_instead_61 : (am_pg z_M_instead).2 61 = some (.iload 6, 63, 6, 0, 0, 0, 0, []) := (congrFun pm_M_instead 61).trans rfl
theorem rl_M_instead_63 : (am_pg z_M_instead).2 63 = some (.aload_n 0, 64, 0, 0, 0, 0, 0, []) := (congrFun pm_M_instead 63).trans rfl
theorem rl_M_instead_64 : (am_pg z_M_instead).2 64 = some (.getfield 7, 67, 9, 0, 0, 76, 0, []) := (congrFun pm_M_instead 64).trans rfl
theorem rl_M_instead_67 : (am_pg z_M_instead).2 67 = some (.iload 6, 69, 6, 0, 0, 0, 0, []) := (congrFun pm_M_instead 67).trans rfl
theorem rl_M_instead_69 : (am_pg z_M_instead).2 69 = some (.iaload, 70, 0, 0, 0, 0, 0, []) := (congrFun pm_M_instead 69).trans rfl
theorem rl_M_instead_70 : (am_pg z_M_instead).2 70 = some (.iload_n 1, 71, 1, 0, 0, 0, 0, []) := (congrFun pm_M_instead 70).trans rfl
theorem rl_M_instead_71 : (am_pg z_M_instead).2 71 = some (.if_icmp .ne (7), 74, 78, 0, 0, 0, 0, []) := (congrFun pm_M_instead 71).trans rfl
theorem rl_M_instead_74 : (am_pg z_M_instead).2 74 = some (.iload_n 2, 75, 2, 0, 0, 0, 0, []) := (congrFun pm_M_instead 74).trans rfl
theorem rl_M_instead_75 : (am_pg z_M_instead).2 75 = some (.goto (10), 78, 85, 0, 0, 0, 0, []) := (congrFun pm_M_instead 75).trans rfl
theorem rl_M_instead_78 : (am_pg z_M_instead).2 78 = some (.aload_n 0, 79, 0, 0, 0, 0, 0, []) := (congrFun pm_M_instead 78).trans rfl
theorem rl_M_instead_79 : (am_pg z_M_instead).2 79 = some (.getfield 7, 82, 9, 0, 0, 76, 0, []) := (congrFun pm_M_instead 79).trans rfl
theorem rl_M_instead_82 : (am_pg z_M_instead).2 82 = some (.iload 6, 84, 6, 0, 0, 0, 0, []) := (congrFun pm_M_instead 82).trans rfl
theorem rl_M_instead_84 : (am_pg z_M_instead).2 84 = some (.iaload, 85, 0, 0, 0, 0, 0, []) := (congrFun pm_M_instead 84).trans rfl
theorem rl_M_instead_85 : (am_pg z_M_instead).2 85 = some (.iastore, 86, 0, 0, 0, 0, 0, []) := (congrFun pm_M_instead 85).trans rfl
theorem rl_M_instead_86 : (am_pg z_M_instead).2 86 = some (.iinc 6 (1), 89, 6, 0, 0, 0, 1, []) := (congrFun pm_M_instead 86).trans rfl
theorem rl_M_instead_89 : (am_pg z_M_instead).2 89 = some (.goto (-39), 92, 50, 0, 0, 0, 0, []) := (congrFun pm_M_instead 89).trans rfl
theorem rl_M_instead_92 : (am_pg z_M_instead).2 92 = some (.aload_n 0, 93, 0, 0, 0, 0, 0, []) := (congrFun pm_M_instead 92).trans rfl
theorem rl_M_instead_93 : (am_pg z_M_instead).2 93 = some (.iload 5, 95, 5, 0, 0, 0, 0, []) := (congrFun pm_M_instead 93).trans rfl
theorem rl_M_instead_95 : (am_pg z_M_instead).2 95 = some (.invokevirtual 335, 98, 197, 1, 9, 317, 0, []) := (congrFun pm_M_instead 95).trans rfl
theorem rl_M_instead_98 : (am_pg z_M_instead).2 98 = some (.istore 6, 100, 6, 0, 0, 0, 0, []) := (congrFun pm_M_instead 98).trans rfl
theorem rl_M_instead_100 : (am_pg z_M_instead).2 100 = some (.aload_n 0, 101, 0, 0, 0, 0, 0, []) := (congrFun pm_M_instead 100).trans rfl
theorem rl_M_instead_101 : (am_pg z_M_instead).2 101 = some (.invokevirtual 299, 104, 148, 0, 9, 300, 0, []) := (congrFun pm_M_instead 101).trans rfl
theorem rl_M_instead_104 : (am_pg z_M_instead).2 104 = some (.iload 6, 106, 6, 0, 0, 0, 0, []) := (congrFun pm_M_instead 104).trans rfl
theorem rl_M_instead_106 : (am_pg z_M_instead).2 106 = some (.ireturn, 107, 0, 0, 0, 0, 0, []) := (congrFun pm_M_instead 106).trans rfl
theorem rl_M_trip_0 : (am_pg z_M_trip).2 0 = some (.iload_n 2, 1, 2, 0, 0, 0, 0, []) := (congrFun pm_M_trip 0).trans rfl
theorem rl_M_trip_1 : (am_pg z_M_trip).2 1 = some (.i2l, 2, 0, 0, 0, 0, 0, []) := (congrFun pm_M_trip 1).trans rfl
theorem rl_M_trip_2 : (am_pg z_M_trip).2 2 = some (.lconst 0, 3, 0, 0, 0, 0, 0, []) := (congrFun pm_M_trip 2).trans rfl
theorem rl_M_trip_3 : (am_pg z_M_trip).2 3 = some (.ldc2_w 189, 6, 0, 0, 0, 11, 4, []) := (congrFun pm_M_trip 3).trans rfl
theorem rl_M_trip_6 : (am_pg z_M_trip).2 6 = some (.invokestatic 66, 9, 84, 3, 0, 210, 0, []) := (congrFun pm_M_trip 6).trans rfl
theorem rl_M_trip_9 : (am_pg z_M_trip).2 9 = some (.ifCond .eq (11), 12, 20, 0, 0, 0, 0, []) := (congrFun pm_M_trip 9).trans rfl
theorem rl_M_trip_12 : (am_pg z_M_trip).2 12 = some (.aload_n 0, 13, 0, 0, 0, 0, 0, []) := (congrFun pm_M_trip 12).trans rfl
theorem rl_M_trip_13 : (am_pg z_M_trip).2 13 = some (.iload_n 1, 14, 1, 0, 0, 0, 0, []) := (congrFun pm_M_trip 13).trans rfl
theorem rl_M_trip_14 : (am_pg z_M_trip).2 14 = some (.invokevirtual 127, 17, 103, 1, 9, 209, 0, []) := (congrFun pm_M_trip 14).trans rfl
theorem rl_M_trip_17 : (am_pg z_M_trip).2 17 = some (.ifCond .ne (5), 20, 22, 0, 0, 0, 0, []) := (congrFun pm_M_trip 17).trans rfl
theorem rl_M_trip_20 : (am_pg z_M_trip).2 20 = some (.iconst (-1), 21, 0, 0, 0, 0, -1, []) := (congrFun pm_M_trip 20).trans rfl
theorem rl_M_trip_21 : (am_pg z_M_trip).2 21 = some (.ireturn, 22, 0, 0, 0, 0, 0, []) := (congrFun pm_M_trip 21).trans rfl
theorem rl_M_trip_22 : (am_pg z_M_trip).2 22 = some (.aload_n 0, 23, 0, 0, 0, 0, 0, []) := (congrFun pm_M_trip 22).trans rfl
theorem rl_M_trip_23 : (am_pg z_M_trip).2 23 = some (.iload_n 1, 24, 1, 0, 0, 0, 0, []) := (congrFun pm_M_trip 23).trans rfl
theorem rl_M_trip_24 : (am_pg z_M_trip).2 24 = some (.invokevirtual 130, 27, 101, 1, 9, 211, 0, []) := (congrFun pm_M_trip 24).trans rfl
theorem rl_M_trip_27 : (am_pg z_M_trip).2 27 = some (.istore_n 3, 28, 3, 0, 0, 0, 0, []) := (congrFun pm_M_trip 27).trans rfl
theorem rl_M_trip_28 : (am_pg z_M_trip).2 28 = some (.iload_n 3, 29, 3, 0, 0, 0, 0, []) := (congrFun pm_M_trip 28).trans rfl
theorem rl_M_trip_29 : (am_pg z_M_trip).2 29 = some (.ifCond .ge (5), 32, 34, 0, 0, 0, 0, []) := (congrFun pm_M_trip 29).trans rfl
theorem rl_M_trip_32 : (am_pg z_M_trip).2 32 = some (.iload_n 3, 33, 3, 0, 0, 0, 0, []) := (congrFun pm_M_trip 32).trans rfl
theorem rl_M_trip_33 : (am_pg z_M_trip).2 33 = some (.ireturn, 34, 0, 0, 0, 0, 0, []) := (congrFun pm_M_trip 33).trans rfl
theorem rl_M_trip_34 : (am_pg z_M_trip).2 34 = some (.aload_n 0, 35, 0, 0, 0, 0, 0, []) := (congrFun pm_M_trip 34).trans rfl
theorem rl_M_trip_35 : (am_pg z_M_trip).2 35 = some (.invokevirtual 241, 38, 147, 0, 9, 270, 0, []) := (congrFun pm_M_trip 35).trans rfl
theorem rl_M_trip_38 : (am_pg z_M_trip).2 38 = some (.aload_n 0, 39, 0, 0, 0, 0, 0, []) := (congrFun pm_M_trip 38).trans rfl
theorem rl_M_trip_39 : (am_pg z_M_trip).2 39 = some (.iload_n 3, 40, 3, 0, 0, 0, 0, []) := (congrFun pm_M_trip 39).trans rfl
theorem rl_M_trip_40 : (am_pg z_M_trip).2 40 = some (.invokevirtual 134, 43, 102, 1, 9, 217, 0, []) := (congrFun pm_M_trip 40).trans rfl
theorem rl_M_trip_43 : (am_pg z_M_trip).2 43 = some (.aload_n 0, 44, 0, 0, 0, 0, 0, []) := (congrFun pm_M_trip 43).trans rfl
theorem rl_M_trip_44 : (am_pg z_M_trip).2 44 = some (.iload_n 2, 45, 2, 0, 0, 0, 0, []) := (congrFun pm_M_trip 44).trans rfl
theorem rl_M_trip_45 : (am_pg z_M_trip).2 45 = some (.invokevirtual 335, 48, 197, 1, 9, 317, 0, []) := (congrFun pm_M_trip 45).trans rfl
theorem rl_M_trip_48 : (am_pg z_M_trip).2 48 = some (.istore 4, 50, 4, 0, 0, 0, 0, []) := (congrFun pm_M_trip 48).trans rfl
theorem rl_M_trip_50 : (am_pg z_M_trip).2 50 = some (.aload_n 0, 51, 0, 0, 0, 0, 0, []) := (congrFun pm_M_trip 50).trans rfl
theorem rl_M_trip_51 : (am_pg z_M_trip).2 51 = some (.invokevirtual 299, 54, 148, 0, 9, 300, 0, []) := (congrFun pm_M_trip 51).trans rfl
theorem rl_M_trip_54 : (am_pg z_M_trip).2 54 = some (.iload 4, 56, 4, 0, 0, 0, 0, []) := (congrFun pm_M_trip 54).trans rfl
theorem rl_M_trip_56 : (am_pg z_M_trip).2 56 = some (.ireturn, 57, 0, 0, 0, 0, 0, []) := (congrFun pm_M_trip 56).trans rfl
theorem rl_M_cheapest_0 : (am_pg z_M_cheapest).2 0 = some (.iload_n 1, 1, 1, 0, 0, 0, 0, []) := (congrFun pm_M_cheapest 0).trans rfl
theorem rl_M_cheapest_1 : (am_pg z_M_cheapest).2 1 = some (.iload_n 2, 2, 2, 0, 0, 0, 0, []) := (congrFun pm_M_cheapest 1).trans rfl
theorem rl_M_cheapest_2 : (am_pg z_M_cheapest).2 2 = some (.invokestatic 140, 5, 88, 2, 0, 220, 0, []) := (congrFun pm_M_cheapest 2).trans rfl
theorem rl_M_cheapest_5 : (am_pg z_M_cheapest).2 5 = some (.ifCond .eq (13), 8, 18, 0, 0, 0, 0, []) := (congrFun pm_M_cheapest 5).trans rfl
theorem rl_M_cheapest_8 : (am_pg z_M_cheapest).2 8 = some (.iload_n 3, 9, 3, 0, 0, 0, 0, []) := (congrFun pm_M_cheapest 8).trans rfl
theorem rl_M_cheapest_9 : (am_pg z_M_cheapest).2 9 = some (.i2l, 10, 0, 0, 0, 0, 0, []) := (congrFun pm_M_cheapest 9).trans rfl
theorem rl_M_cheapest_10 : (am_pg z_M_cheapest).2 10 = some (.lconst 0, 11, 0, 0, 0, 0, 0, []) := (congrFun pm_M_cheapest 10).trans rfl
theorem rl_M_cheapest_11 : (am_pg z_M_cheapest).2 11 = some (.lconst 1, 12, 0, 0, 0, 0, 1, []) := (congrFun pm_M_cheapest 11).trans rfl
theorem rl_M_cheapest_12 : (am_pg z_M_cheapest).2 12 = some (.invokestatic 66, 15, 84, 3, 0, 210, 0, []) := (congrFun pm_M_cheapest 12).trans rfl
theorem rl_M_cheapest_15 : (am_pg z_M_cheapest).2 15 = some (.ifCond .ne (5), 18, 20, 0, 0, 0, 0, []) := (congrFun pm_M_cheapest 15).trans rfl
theorem rl_M_cheapest_18 : (am_pg z_M_cheapest).2 18 = some (.iconst (-1), 19, 0, 0, 0, 0, -1, []) := (congrFun pm_M_cheapest 18).trans rfl
theorem rl_M_cheapest_19 : (am_pg z_M_cheapest).2 19 = some (.ireturn, 20, 0, 0, 0, 0, 0, []) := (congrFun pm_M_cheapest 19).trans rfl
theorem rl_M_cheapest_20 : (am_pg z_M_cheapest).2 20 = some (.iconst (-1), 21, 0, 0, 0, 0, -1, []) := (congrFun pm_M_cheapest 20).trans rfl
theorem rl_M_cheapest_21 : (am_pg z_M_cheapest).2 21 = some (.istore 4, 23, 4, 0, 0, 0, 0, []) := (congrFun pm_M_cheapest 21).trans rfl
theorem rl_M_cheapest_23 : (am_pg z_M_cheapest).2 23 = some (.iconst (0), 24, 0, 0, 0, 0, 0, []) := (congrFun pm_M_cheapest 23).trans rfl
theorem rl_M_cheapest_24 : (am_pg z_M_cheapest).2 24 = some (.istore 5, 26, 5, 0, 0, 0, 0, []) := (congrFun pm_M_cheapest 24).trans rfl
theorem rl_M_cheapest_26 : (am_pg z_M_cheapest).2 26 = some (.aload_n 0, 27, 0, 0, 0, 0, 0, []) := (congrFun pm_M_cheapest 26).trans rfl
theorem rl_M_cheapest_27 : (am_pg z_M_cheapest).2 27 = some (.invokevirtual 241, 30, 147, 0, 9, 270, 0, []) := (congrFun pm_M_cheapest 27).trans rfl
theorem rl_M_cheapest_30 : (am_pg z_M_cheapest).2 30 = some (.iconst (0), 31, 0, 0, 0, 0, 0, []) := (congrFun pm_M_cheapest 30).trans rfl
theorem rl_M_cheapest_31 : (am_pg z_M_cheapest).2 31 = some (.istore 6, 33, 6, 0, 0, 0, 0, []) := (congrFun pm_M_cheapest 31).trans rfl
theorem rl_M_cheapest_33 : (am_pg z_M_cheapest).2 33 = some (.iload 6, 35, 6, 0, 0, 0, 0, []) := (congrFun pm_M_cheapest 33).trans rfl
theorem rl_M_cheapest_35 : (am_pg z_M_cheapest).2 35 = some (.bipush (6), 37, 0, 0, 0, 0, 6, []) := (congrFun pm_M_cheapest 35).trans rfl
theorem rl_M_cheapest_37 : (am_pg z_M_cheapest).2 37 = some (.if_icmp .ge (51), 40, 88, 0, 0, 0, 0, []) := (congrFun pm_M_cheapest 37).trans rfl
theorem rl_M_cheapest_40 : (am_pg z_M_cheapest).2 40 = some (.aload_n 0, 41, 0, 0, 0, 0, 0, []) := (congrFun pm_M_cheapest 40).trans rfl
theorem rl_M_cheapest_41 : (am_pg z_M_cheapest).2 41 = some (.iload 6, 43, 6, 0, 0, 0, 0, []) := (congrFun pm_M_cheapest 41).trans rfl
theorem rl_M_cheapest_43 : (am_pg z_M_cheapest).2 43 = some (.iload_n 1, 44, 1, 0, 0, 0, 0, []) := (congrFun pm_M_cheapest 43).trans rfl
theorem rl_M_cheapest_44 : (am_pg z_M_cheapest).2 44 = some (.iload_n 2, 45, 2, 0, 0, 0, 0, []) := (congrFun pm_M_cheapest 44).trans rfl
theorem rl_M_cheapest_45 : (am_pg z_M_cheapest).2 45 = some (.invokevirtual 308, 48, 184, 3, 9, 302, 0, []) := (congrFun pm_M_cheapest 45).trans rfl
theorem rl_M_cheapest_48 : (am_pg z_M_cheapest).2 48 = some (.aload_n 0, 49, 0, 0, 0, 0, 0, []) := (congrFun pm_M_cheapest 48).trans rfl
theorem rl_M_cheapest_49 : (am_pg z_M_cheapest).2 49 = some (.invokevirtual 332, 52, 179, 0, 9, 319, 0, []) := (congrFun pm_M_cheapest 49).trans rfl
theorem rl_M_cheapest_52 : (am_pg z_M_cheapest).2 52 = some (.istore 7, 54, 7, 0, 0, 0, 0, []) := (congrFun pm_M_cheapest 52).trans rfl
theorem rl_M_cheapest_54 : (am_pg z_M_cheapest).2 54 = some (.aload_n 0, 55, 0, 0, 0, 0, 0, []) := (congrFun pm_M_cheapest 54).trans rfl
theorem rl_M_cheapest_55 : (am_pg z_M_cheapest).2 55 = some (.invokevirtual 299, 58, 148, 0, 9, 300, 0, []) := (congrFun pm_M_cheapest 55).trans rfl
theorem rl_M_cheapest_58 : (am_pg z_M_cheapest).2 58 = some (.iload 4, 60, 4, 0, 0, 0, 0, []) := (congrFun pm_M_cheapest 58).trans rfl
theorem rl_M_cheapest_60 : (am_pg z_M_cheapest).2 60 = some (.iconst (-1), 61, 0, 0, 0, 0, -1, []) := (congrFun pm_M_cheapest 60).trans rfl
theorem rl_M_cheapest_61 : (am_pg z_M_cheapest).2 61 = some (.if_icmp .eq (13), 64, 74, 0, 0, 0, 0, []) := (congrFun pm_M_cheapest 61).trans rfl
theorem rl_M_cheapest_64 : (am_pg z_M_cheapest).2 64 = some (.iload 7, 66, 7, 0, 0, 0, 0, []) := (congrFun pm_M_cheapest 64).trans rfl
theorem rl_M_cheapest_66 : (am_pg z_M_cheapest).2 66 = some (.iload 5, 68, 5, 0, 0, 0, 0, []) := (congrFun pm_M_cheapest 66).trans rfl
theorem rl_M_cheapest_68 : (am_pg z_M_cheapest).2 68 = some (.if_icmp .lt (6), 71, 74, 0, 0, 0, 0, []) := (congrFun pm_M_cheapest 68).trans rfl
theorem rl_M_cheapest_71 : (am_pg z_M_cheapest).2 71 = some (.goto (11), 74, 82, 0, 0, 0, 0, []) := (congrFun pm_M_cheapest 71).trans rfl
theorem rl_M_cheapest_74 : (am_pg z_M_cheapest).2 74 = some (.iload 6, 76, 6, 0, 0, 0, 0, []) := (congrFun pm_M_cheapest 74).trans rfl
theorem rl_M_cheapest_76 : (am_pg z_M_cheapest).2 76 = some (.istore 4, 78, 4, 0, 0, 0, 0, []) := (congrFun pm_M_cheapest 76).trans rfl
theorem rl_M_cheapest_78 : (am_pg z_M_cheapest).2 78 = some (.iload 7, 80, 7, 0, 0, 0, 0, []) := (congrFun pm_M_cheapest 78).trans rfl
theorem rl_M_cheapest_80 : (am_pg z_M_cheapest).2 80 = some (.istore 5, 82, 5, 0, 0, 0, 0, []) := (congrFun pm_M_cheapest 80).trans rfl
theorem rl_M_cheapest_82 : (am_pg z_M_cheapest).2 82 = some (.iinc 6 (1), 85, 6, 0, 0, 0, 1, []) := (congrFun pm_M_cheapest 82).trans rfl
theorem rl_M_cheapest_85 : (am_pg z_M_cheapest).2 85 = some (.goto (-52), 88, 33, 0, 0, 0, 0, []) := (congrFun pm_M_cheapest 85).trans rfl
theorem rl_M_cheapest_88 : (am_pg z_M_cheapest).2 88 = some (.iload_n 3, 89, 3, 0, 0, 0, 0, []) := (congrFun pm_M_cheapest 88).trans rfl
theorem rl_M_cheapest_89 : (am_pg z_M_cheapest).2 89 = some (.ifCond .ne (8), 92, 97, 0, 0, 0, 0, []) := (congrFun pm_M_cheapest 89).trans rfl
theorem rl_M_cheapest_92 : (am_pg z_M_cheapest).2 92 = some (.iload 4, 94, 4, 0, 0, 0, 0, []) := (congrFun pm_M_cheapest 92).trans rfl
theorem rl_M_cheapest_94 : (am_pg z_M_cheapest).2 94 = some (.goto (5), 97, 99, 0, 0, 0, 0, []) := (congrFun pm_M_cheapest 94).trans rfl
theorem rl_M_cheapest_97 : (am_pg z_M_cheapest).2 97 = some (.iload 5, 99, 5, 0, 0, 0, 0, []) := (congrFun pm_M_cheapest 97).trans rfl
theorem rl_M_cheapest_99 : (am_pg z_M_cheapest).2 99 = some (.ireturn, 100, 0, 0, 0, 0, 0, []) := (congrFun pm_M_cheapest 99).trans rfl
theorem rl_M_trade_0 : (am_pg z_M_trade).2 0 = some (.iload_n 1, 1, 1, 0, 0, 0, 0, []) := (congrFun pm_M_trade 0).trans rfl
theorem rl_M_trade_1 : (am_pg z_M_trade).2 1 = some (.iload_n 2, 2, 2, 0, 0, 0, 0, []) := (congrFun pm_M_trade 1).trans rfl
theorem rl_M_trade_2 : (am_pg z_M_trade).2 2 = some (.invokestatic 200, 5, 124, 2, 0, 246, 0, []) := (congrFun pm_M_trade 2).trans rfl
theorem rl_M_trade_5 : (am_pg z_M_trade).2 5 = some (.ifCond .eq (12), 8, 17, 0, 0, 0, 0, []) := (congrFun pm_M_trade 5).trans rfl
theorem rl_M_trade_8 : (am_pg z_M_trade).2 8 = some (.iload_n 3, 9, 3, 0, 0, 0, 0, []) := (congrFun pm_M_trade 8).trans rfl
theorem rl_M_trade_9 : (am_pg z_M_trade).2 9 = some (.iload 4, 11, 4, 0, 0, 0, 0, []) := (congrFun pm_M_trade 9).trans rfl
theorem rl_M_trade_11 : (am_pg z_M_trade).2 11 = some (.invokestatic 140, 14, 88, 2, 0, 220, 0, []) := (congrFun pm_M_trade 11).trans rfl
theorem rl_M_trade_14 : (am_pg z_M_trade).2 14 = some (.ifCond .ne (5), 17, 19, 0, 0, 0, 0, []) := (congrFun pm_M_trade 14).trans rfl
theorem rl_M_trade_17 : (am_pg z_M_trade).2 17 = some (.iconst (-1), 18, 0, 0, 0, 0, -1, []) := (congrFun pm_M_trade 17).trans rfl
theorem rl_M_trade_18 : (am_pg z_M_trade).2 18 = some (.ireturn, 19, 0, 0, 0, 0, 0, []) := (congrFun pm_M_trade 18).trans rfl
theorem rl_M_trade_19 : (am_pg z_M_trade).2 19 = some (.iconst (0), 20, 0, 0, 0, 0, 0, []) := (congrFun pm_M_trade 19).trans rfl
theorem rl_M_trade_20 : (am_pg z_M_trade).2 20 = some (.istore 5, 22, 5, 0, 0, 0, 0, []) := (congrFun pm_M_trade 20).trans rfl
theorem rl_M_trade_22 : (am_pg z_M_trade).2 22 = some (.iload_n 3, 23, 3, 0, 0, 0, 0, []) := (congrFun pm_M_trade 22).trans rfl
theorem rl_M_trade_23 : (am_pg z_M_trade).2 23 = some (.istore 6, 25, 6, 0, 0, 0, 0, []) := (congrFun pm_M_trade 23).trans rfl
theorem rl_M_trade_25 : (am_pg z_M_trade).2 25 = some (.iload 6, 27, 6, 0, 0, 0, 0, []) := (congrFun pm_M_trade 25).trans rfl
theorem rl_M_trade_27 : (am_pg z_M_trade).2 27 = some (.iload 4, 29, 4, 0, 0, 0, 0, []) := (congrFun pm_M_trade 27).trans rfl
theorem rl_M_trade_29 : (am_pg z_M_trade).2 29 = some (.if_icmp .gt (57), 32, 86, 0, 0, 0, 0, []) := (congrFun pm_M_trade 29).trans rfl
theorem rl_M_trade_32 : (am_pg z_M_trade).2 32 = some (.aload_n 0, 33, 0, 0, 0, 0, 0, []) := (congrFun pm_M_trade 32).trans rfl
theorem rl_M_trade_33 : (am_pg z_M_trade).2 33 = some (.getfield 7, 36, 9, 0, 0, 76, 0, []) := (congrFun pm_M_trade 33).trans rfl
theorem rl_M_trade_36 : (am_pg z_M_trade).2 36 = some (.iload 6, 38, 6, 0, 0, 0, 0, []) := (congrFun pm_M_trade 36).trans rfl
theorem rl_M_trade_38 : (am_pg z_M_trade).2 38 = some (.iaload, 39, 0, 0, 0, 0, 0, []) := (congrFun pm_M_trade 38).trans rfl
theorem rl_M_trade_39 : (am_pg z_M_trade).2 39 = some (.istore 7, 41, 7, 0, 0, 0, 0, []) := (congrFun pm_M_trade 39).trans rfl
theorem rl_M_trade_41 : (am_pg z_M_trade).2 41 = some (.iload 7, 43, 7, 0, 0, 0, 0, []) := (congrFun pm_M_trade 41).trans rfl
theorem rl_M_trade_43 : (am_pg z_M_trade).2 43 = some (.iload_n 1, 44, 1, 0, 0, 0, 0, []) := (congrFun pm_M_trade 43).trans rfl
theorem rl_M_trade_44 : (am_pg z_M_trade).2 44 = some (.if_icmp .eq (12), 47, 56, 0, 0, 0, 0, []) := (congrFun pm_M_trade 44).trans rfl
theorem rl_M_trade_47 : (am_pg z_M_trade).2 47 = some (.iload 7, 49, 7, 0, 0, 0, 0, []) := (congrFun pm_M_trade 47).trans rfl
theorem rl_M_trade_49 : (am_pg z_M_trade).2 49 = some (.iload_n 2, 50, 2, 0, 0, 0, 0, []) := (congrFun pm_M_trade 49).trans rfl
theorem rl_M_trade_50 : (am_pg z_M_trade).2 50 = some (.if_icmp .eq (6), 53, 56, 0, 0, 0, 0, []) := (congrFun pm_M_trade 50).trans rfl
theorem rl_M_trade_53 : (am_pg z_M_trade).2 53 = some (.goto (27), 56, 80, 0, 0, 0, 0, []) := (congrFun pm_M_trade 53).trans rfl
theorem rl_M_trade_56 : (am_pg z_M_trade).2 56 = some (.aload_n 0, 57, 0, 0, 0, 0, 0, []) := (congrFun pm_M_trade 56).trans rfl
theorem rl_M_trade_57 : (am_pg z_M_trade).2 57 = some (.getfield 7, 60, 9, 0, 0, 76, 0, []) := (congrFun pm_M_trade 57).trans rfl
theorem rl_M_trade_60 : (am_pg z_M_trade).2 60 = some (.iload 6, 62, 6, 0, 0, 0, 0, []) := (congrFun pm_M_trade 60).trans rfl
theorem rl_M_trade_62 : (am_pg z_M_trade).2 62 = some (.iload 7, 64, 7, 0, 0, 0, 0, []) := (congrFun pm_M_trade 62).trans rfl
theorem rl_M_trade_64 : (am_pg z_M_trade).2 64 = some (.iload_n 1, 65, 1, 0, 0, 0, 0, []) := (congrFun pm_M_trade 64).trans rfl
theorem rl_M_trade_65 : (am_pg z_M_trade).2 65 = some (.if_icmp .ne (7), 68, 72, 0, 0, 0, 0, []) := (congrFun pm_M_trade 65).trans rfl
theorem rl_M_trade_68 : (am_pg z_M_trade).2 68 = some (.iload_n 2, 69, 2, 0, 0, 0, 0, []) := (congrFun pm_M_trade 68).trans rfl
theorem rl_M_trade_69 : (am_pg z_M_trade).2 69 = some (.goto (4), 72, 73, 0, 0, 0, 0, []) := (congrFun pm_M_trade 69).trans rfl
theorem rl_M_trade_72 : (am_pg z_M_trade).2 72 = some (.iload_n 1, 73, 1, 0, 0, 0, 0, []) := (congrFun pm_M_trade 72).trans rfl
theorem rl_M_trade_73 : (am_pg z_M_trade).2 73 = some (.iastore, 74, 0, 0, 0, 0, 0, []) := (congrFun pm_M_trade 73).trans rfl
theorem rl_M_trade_74 : (am_pg z_M_trade).2 74 = some (.iload 5, 76, 5, 0, 0, 0, 0, []) := (congrFun pm_M_trade 74).trans rfl
theorem rl_M_trade_76 : (am_pg z_M_trade).2 76 = some (.iconst (1), 77, 0, 0, 0, 0, 1, []) := (congrFun pm_M_trade 76).trans rfl
theorem rl_M_trade_77 : (am_pg z_M_trade).2 77 = some (.iadd, 78, 0, 0, 0, 0, 0, []) := (congrFun pm_M_trade 77).trans rfl
theorem rl_M_trade_78 : (am_pg z_M_trade).2 78 = some (.istore 5, 80, 5, 0, 0, 0, 0, []) := (congrFun pm_M_trade 78).trans rfl
theorem rl_M_trade_80 : (am_pg z_M_trade).2 80 = some (.iinc 6 (1), 83, 6, 0, 0, 0, 1, []) := (congrFun pm_M_trade 80).trans rfl
theorem rl_M_trade_83 : (am_pg z_M_trade).2 83 = some (.goto (-58), 86, 25, 0, 0, 0, 0, []) := (congrFun pm_M_trade 83).trans rfl
theorem rl_M_trade_86 : (am_pg z_M_trade).2 86 = some (.iload 5, 88, 5, 0, 0, 0, 0, []) := (congrFun pm_M_trade 86).trans rfl
theorem rl_M_trade_88 : (am_pg z_M_trade).2 88 = some (.ireturn, 89, 0, 0, 0, 0, 0, []) := (congrFun pm_M_trade 88).trans rfl
theorem rl_M_erase_0 : (am_pg z_M_erase).2 0 = some (.iload_n 1, 1, 1, 0, 0, 0, 0, []) := (congrFun pm_M_erase 0).trans rfl
theorem rl_M_erase_1 : (am_pg z_M_erase).2 1 = some (.invokestatic 143, 4, 85, 1, 0, 223, 0, []) := (congrFun pm_M_erase 1).trans rfl
theorem rl_M_erase_4 : (am_pg z_M_erase).2 4 = some (.ifCond .eq (10), 7, 14, 0, 0, 0, 0, []) := (congrFun pm_M_erase 4).trans rfl
theorem rl_M_erase_7 : (am_pg z_M_erase).2 7 = some (.iload_n 2, 8, 2, 0, 0, 0, 0, []) := (congrFun pm_M_erase 7).trans rfl
theorem rl_M_erase_8 : (am_pg z_M_erase).2 8 = some (.invokestatic 302, 11, 182, 1, 0, 297, 0, []) := (congrFun pm_M_erase 8).trans rfl
theorem rl_M_erase_11 : (am_pg z_M_erase).2 11 = some (.ifCond .ne (5), 14, 16, 0, 0, 0, 0, []) := (congrFun pm_M_erase 11).trans rfl
theorem rl_M_erase_14 : (am_pg z_M_erase).2 14 = some (.iconst (-1), 15, 0, 0, 0, 0, -1, []) := (congrFun pm_M_erase 14).trans rfl
theorem rl_M_erase_15 : (am_pg z_M_erase).2 15 = some (.ireturn, 16, 0, 0, 0, 0, 0, []) := (congrFun pm_M_erase 15).trans rfl
theorem rl_M_erase_16 : (am_pg z_M_erase).2 16 = some (.iconst (0), 17, 0, 0, 0, 0, 0, []) := (congrFun pm_M_erase 16).trans rfl
theorem rl_M_erase_17 : (am_pg z_M_erase).2 17 = some (.istore_n 3, 18, 3, 0, 0, 0, 0, []) := (congrFun pm_M_erase 17).trans rfl
theorem rl_M_erase_18 : (am_pg z_M_erase).2 18 = some (.iconst (0), 19, 0, 0, 0, 0, 0, []) := (congrFun pm_M_erase 18).trans rfl
theorem rl_M_erase_19 : (am_pg z_M_erase).2 19 = some (.istore 4, 21, 4, 0, 0, 0, 0, []) := (congrFun pm_M_erase 19).trans rfl
theorem rl_M_erase_21 : (am_pg z_M_erase).2 21 = some (.iload 4, 23, 4, 0, 0, 0, 0, []) := (congrFun pm_M_erase 21).trans rfl
theorem rl_M_erase_23 : (am_pg z_M_erase).2 23 = some (.sipush (1080), 26, 0, 0, 0, 0, 1080, []) := (congrFun pm_M_erase 23).trans rfl
theorem rl_M_erase_26 : (am_pg z_M_erase).2 26 = some (.if_icmp .ge (66), 29, 92, 0, 0, 0, 0, []) := (congrFun pm_M_erase 26).trans rfl
theorem rl_M_erase_29 : (am_pg z_M_erase).2 29 = some (.aload_n 0, 30, 0, 0, 0, 0, 0, []) := (congrFun pm_M_erase 29).trans rfl
theorem rl_M_erase_30 : (am_pg z_M_erase).2 30 = some (.getfield 7, 33, 9, 0, 0, 76, 0, []) := (congrFun pm_M_erase 30).trans rfl
theorem rl_M_erase_33 : (am_pg z_M_erase).2 33 = some (.iload 4, 35, 4, 0, 0, 0, 0, []) := (congrFun pm_M_erase 33).trans rfl
theorem rl_M_erase_35 : (am_pg z_M_erase).2 35 = some (.iaload, 36, 0, 0, 0, 0, 0, []) := (congrFun pm_M_erase 35).trans rfl
theorem rl_M_erase_36 : (am_pg z_M_erase).2 36 = some (.iload_n 1, 37, 1, 0, 0, 0, 0, []) := (congrFun pm_M_erase 36).trans rfl
theorem rl_M_erase_37 : (am_pg z_M_erase).2 37 = some (.if_icmp .ne (49), 40, 86, 0, 0, 0, 0, []) := (congrFun pm_M_erase 37).trans rfl
theorem rl_M_erase_40 : (am_pg z_M_erase).2 40 = some (.aload_n 0, 41, 0, 0, 0, 0, 0, []) := (congrFun pm_M_erase 40).trans rfl
theorem rl_M_erase_41 : (am_pg z_M_erase).2 41 = some (.iload 4, 43, 4, 0, 0, 0, 0, []) := (congrFun pm_M_erase 41).trans rfl
theorem rl_M_erase_43 : (am_pg z_M_erase).2 43 = some (.invokevirtual 177, 46, 114, 1, 9, 232, 0, []) := (congrFun pm_M_erase 43).trans rfl
theorem rl_M_erase_46 : (am_pg z_M_erase).2 46 = some (.ifCond .ne (6), 49, 52, 0, 0, 0, 0, []) := (congrFun pm_M_erase 46).trans rfl
theorem rl_M_erase_49 : (am_pg z_M_erase).2 49 = some (.goto (37), 52, 86, 0, 0, 0, 0, []) := (congrFun pm_M_erase 49).trans rfl
theorem rl_M_erase_52 : (am_pg z_M_erase).2 52 = some (.aload_n 0, 53, 0, 0, 0, 0, 0, []) := (congrFun pm_M_erase 52).trans rfl
theorem rl_M_erase_53 : (am_pg z_M_erase).2 53 = some (.iload 4, 55, 4, 0, 0, 0, 0, []) := (congrFun pm_M_erase 53).trans rfl
theorem rl_M_erase_55 : (am_pg z_M_erase).2 55 = some (.invokevirtual 183, 58, 115, 1, 9, 235, 0, []) := (congrFun pm_M_erase 55).trans rfl
theorem rl_M_erase_58 : (am_pg z_M_erase).2 58 = some (.istore 5, 60, 5, 0, 0, 0, 0, []) := (congrFun pm_M_erase 58).trans rfl
theorem rl_M_erase_60 : (am_pg z_M_erase).2 60 = some (.iload 5, 62, 5, 0, 0, 0, 0, []) := (congrFun pm_M_erase 60).trans rfl
theorem rl_M_erase_62 : (am_pg z_M_erase).2 62 = some (.iload 4, 64, 4, 0, 0, 0, 0, []) := (congrFun pm_M_erase 62).trans rfl
theorem rl_M_erase_64 : (am_pg z_M_erase).2 64 = some (.isub, 65, 0, 0, 0, 0, 0, []) := (congrFun pm_M_erase 64).trans rfl
theorem rl_M_erase_65 : (am_pg z_M_erase).2 65 = some (.iload_n 2, 66, 2, 0, 0, 0, 0, []) := (congrFun pm_M_erase 65).trans rfl
theorem rl_M_erase_66 : (am_pg z_M_erase).2 66 = some (.if_icmp .ge (16), 69, 82, 0, 0, 0, 0, []) := (congrFun pm_M_erase 66).trans rfl
theorem rl_M_erase_69 : (am_pg z_M_erase).2 69 = some (.aload_n 0, 70, 0, 0, 0, 0, 0, []) := (congrFun pm_M_erase 69).trans rfl
theorem rl_M_erase_70 : (am_pg z_M_erase).2 70 = some (.iconst (-1), 71, 0, 0, 0, 0, -1, []) := (congrFun pm_M_erase 70).trans rfl
theorem rl_M_erase_71 : (am_pg z_M_erase).2 71 = some (.iload 4, 73, 4, 0, 0, 0, 0, []) := (congrFun pm_M_erase 71).trans rfl
theorem rl_M_erase_73 : (am_pg z_M_erase).2 73 = some (.iload 5, 75, 5, 0, 0, 0, 0, []) := (congrFun pm_M_erase 73).trans rfl
theorem rl_M_erase_75 : (am_pg z_M_erase).2 75 = some (.invokevirtual 308, 78, 184, 3, 9, 302, 0, []) := (congrFun pm_M_erase 75).trans rfl
theorem rl_M_erase_78 : (am_pg z_M_erase).2 78 = some (.iload_n 3, 79, 3, 0, 0, 0, 0, []) := (congrFun pm_M_erase 78).trans rfl
theorem rl_M_erase_79 : (am_pg z_M_erase).2 79 = some (.iconst (1), 80, 0, 0, 0, 0, 1, []) := (congrFun pm_M_erase 79).trans rfl
theorem rl_M_erase_80 : (am_pg z_M_erase).2 80 = some (.iadd, 81, 0, 0, 0, 0, 0, []) := (congrFun pm_M_erase 80).trans rfl
theorem rl_M_erase_81 : (am_pg z_M_erase).2 81 = some (.istore_n 3, 82, 3, 0, 0, 0, 0, []) := (congrFun pm_M_erase 81).trans rfl
theorem rl_M_erase_82 : (am_pg z_M_erase).2 82 = some (.iload 5, 84, 5, 0, 0, 0, 0, []) := (congrFun pm_M_erase 82).trans rfl
theorem rl_M_erase_84 : (am_pg z_M_erase).2 84 = some (.istore 4, 86, 4, 0, 0, 0, 0, []) := (congrFun pm_M_erase 84).trans rfl
theorem rl_M_erase_86 : (am_pg z_M_erase).2 86 = some (.iinc 4 (1), 89, 4, 0, 0, 0, 1, []) := (congrFun pm_M_erase 86).trans rfl
theorem rl_M_erase_89 : (am_pg z_M_erase).2 89 = some (.goto (-68), 92, 21, 0, 0, 0, 0, []) := (congrFun pm_M_erase 89).trans rfl
theorem rl_M_erase_92 : (am_pg z_M_erase).2 92 = some (.iload_n 3, 93, 3, 0, 0, 0, 0, []) := (congrFun pm_M_erase 92).trans rfl
theorem rl_M_erase_93 : (am_pg z_M_erase).2 93 = some (.ireturn, 94, 0, 0, 0, 0, 0, []) := (congrFun pm_M_erase 93).trans rfl
theorem rl_M_routes_0 : (am_pg z_M_routes).2 0 = some (.iload_n 1, 1, 1, 0, 0, 0, 0, []) := (congrFun pm_M_routes 0).trans rfl
theorem rl_M_routes_1 : (am_pg z_M_routes).2 1 = some (.invokestatic 137, 4, 86, 1, 0, 219, 0, []) := (congrFun pm_M_routes 1).trans rfl
theorem rl_M_routes_4 : (am_pg z_M_routes).2 4 = some (.ifCond .eq (22), 7, 26, 0, 0, 0, 0, []) := (congrFun pm_M_routes 4).trans rfl
theorem rl_M_routes_7 : (am_pg z_M_routes).2 7 = some (.iload_n 2, 8, 2, 0, 0, 0, 0, []) := (congrFun pm_M_routes 7).trans rfl
theorem rl_M_routes_8 : (am_pg z_M_routes).2 8 = some (.invokestatic 137, 11, 86, 1, 0, 219, 0, []) := (congrFun pm_M_routes 8).trans rfl
theorem rl_M_routes_11 : (am_pg z_M_routes).2 11 = some (.ifCond .eq (15), 14, 26, 0, 0, 0, 0, []) := (congrFun pm_M_routes 11).trans rfl
theorem rl_M_routes_14 : (am_pg z_M_routes).2 14 = some (.iload_n 1, 15, 1, 0, 0, 0, 0, []) := (congrFun pm_M_routes 14).trans rfl
theorem rl_M_routes_15 : (am_pg z_M_routes).2 15 = some (.iload_n 2, 16, 2, 0, 0, 0, 0, []) := (congrFun pm_M_routes 15).trans rfl
theorem rl_M_routes_16 : (am_pg z_M_routes).2 16 = some (.if_icmp .eq (10), 19, 26, 0, 0, 0, 0, []) := (congrFun pm_M_routes 16).trans rfl
theorem rl_M_routes_19 : (am_pg z_M_routes).2 19 = some (.iload_n 3, 20, 3, 0, 0, 0, 0, []) := (congrFun pm_M_routes 19).trans rfl
theorem rl_M_routes_20 : (am_pg z_M_routes).2 20 = some (.invokestatic 194, 23, 89, 1, 0, 243, 0, []) := (congrFun pm_M_routes 20).trans rfl
theorem rl_M_routes_23 : (am_pg z_M_routes).2 23 = some (.ifCond .ne (5), 26, 28, 0, 0, 0, 0, []) := (congrFun pm_M_routes 23).trans rfl
theorem rl_M_routes_26 : (am_pg z_M_routes).2 26 = some (.iconst (-1), 27, 0, 0, 0, 0, -1, []) := (congrFun pm_M_routes 26).trans rfl
theorem rl_M_routes_27 : (am_pg z_M_routes).2 27 = some (.ireturn, 28, 0, 0, 0, 0, 0, []) := (congrFun pm_M_routes 27).trans rfl
theorem rl_M_routes_28 : (am_pg z_M_routes).2 28 = some (.iconst (0), 29, 0, 0, 0, 0, 0, []) := (congrFun pm_M_routes 28).trans rfl
theorem rl_M_routes_29 : (am_pg z_M_routes).2 29 = some (.istore 4, 31, 4, 0, 0, 0, 0, []) := (congrFun pm_M_routes 29).trans rfl
theorem rl_M_routes_31 : (am_pg z_M_routes).2 31 = some (.iconst (1), 32, 0, 0, 0, 0, 1, []) := (congrFun pm_M_routes 31).trans rfl
theorem rl_M_routes_32 : (am_pg z_M_routes).2 32 = some (.sipush (360), 35, 0, 0, 0, 0, 360, []) := (congrFun pm_M_routes 32).trans rfl
theorem rl_M_routes_35 : (am_pg z_M_routes).2 35 = some (.iload_n 3, 36, 3, 0, 0, 0, 0, []) := (congrFun pm_M_routes 35).trans rfl
theorem rl_M_routes_36 : (am_pg z_M_routes).2 36 = some (.imul, 37, 0, 0, 0, 0, 0, []) := (congrFun pm_M_routes 36).trans rfl
theorem rl_M_routes_37 : (am_pg z_M_routes).2 37 = some (.invokestatic 197, 40, 90, 2, 0, 244, 0, []) := (congrFun pm_M_routes 37).trans rfl
theorem rl_M_routes_40 : (am_pg z_M_routes).2 40 = some (.istore 5, 42, 5, 0, 0, 0, 0, []) := (congrFun pm_M_routes 40).trans rfl
theorem rl_M_routes_42 : (am_pg z_M_routes).2 42 = some (.iload 5, 44, 5, 0, 0, 0, 0, []) := (congrFun pm_M_routes 42).trans rfl
theorem rl_M_routes_44 : (am_pg z_M_routes).2 44 = some (.sipush (360), 47, 0, 0, 0, 0, 360, []) := (congrFun pm_M_routes 44).trans rfl
theorem rl_M_routes_47 : (am_pg z_M_routes).2 47 = some (.iload_n 3, 48, 3, 0, 0, 0, 0, []) := (congrFun pm_M_routes 47).trans rfl
theorem rl_M_routes_48 : (am_pg z_M_routes).2 48 = some (.imul, 49, 0, 0, 0, 0, 0, []) := (congrFun pm_M_routes 48).trans rfl
theorem rl_M_routes_49 : (am_pg z_M_routes).2 49 = some (.sipush (360), 52, 0, 0, 0, 0, 360, []) := (congrFun pm_M_routes 49).trans rfl
theorem rl_M_routes_52 : (am_pg z_M_routes).2 52 = some (.iadd, 53, 0, 0, 0, 0, 0, []) := (congrFun pm_M_routes 52).trans rfl
theorem rl_M_routes_53 : (am_pg z_M_routes).2 53 = some (.if_icmp .ge (43), 56, 96, 0, 0, 0, 0, []) := (congrFun pm_M_routes 53).trans rfl
theorem rl_M_routes_56 : (am_pg z_M_routes).2 56 = some (.iload 4, 58, 4, 0, 0, 0, 0, []) := (congrFun pm_M_routes 56).trans rfl
theorem rl_M_routes_58 : (am_pg z_M_routes).2 58 = some (.aload_n 0, 59, 0, 0, 0, 0, 0, []) := (congrFun pm_M_routes 58).trans rfl
theorem rl_M_routes_59 : (am_pg z_M_routes).2 59 = some (.getfield 7, 62, 9, 0, 0, 76, 0, []) := (congrFun pm_M_routes 59).trans rfl
theorem rl_M_routes_62 : (am_pg z_M_routes).2 62 = some (.iload 5, 64, 5, 0, 0, 0, 0, []) := (congrFun pm_M_routes 62).trans rfl
theorem rl_M_routes_64 : (am_pg z_M_routes).2 64 = some (.iconst (1), 65, 0, 0, 0, 0, 1, []) := (congrFun pm_M_routes 64).trans rfl
theorem rl_M_routes_65 : (am_pg z_M_routes).2 65 = some (.isub, 66, 0, 0, 0, 0, 0, []) := (congrFun pm_M_routes 65).trans rfl
theorem rl_M_routes_66 : (am_pg z_M_routes).2 66 = some (.iaload, 67, 0, 0, 0, 0, 0, []) := (congrFun pm_M_routes 66).trans rfl
theorem rl_M_routes_67 : (am_pg z_M_routes).2 67 = some (.iload_n 1, 68, 1, 0, 0, 0, 0, []) := (congrFun pm_M_routes 67).trans rfl
theorem rl_M_routes_68 : (am_pg z_M_routes).2 68 = some (.if_icmp .ne (18), 71, 86, 0, 0, 0, 0, []) := (congrFun pm_M_routes 68).trans rfl
theorem rl_M_routes_71 : (am_pg z_M_routes).2 71 = some (.aload_n 0, 72, 0, 0, 0, 0, 0, []) := (congrFun pm_M_routes 71).trans rfl
theorem rl_M_routes_72 : (am_pg z_M_routes).2 72 = some (.getfield 7, 75, 9, 0, 0, 76, 0, []) := (congrFun pm_M_routes 72).trans rfl
theorem rl_M_routes_75 : (am_pg z_M_routes).2 75 = some (.iload 5, 77, 5, 0, 0, 0, 0, []) := (congrFun pm_M_routes 75).trans rfl
theorem rl_M_routes_77 : (am_pg z_M_routes).2 77 = some (.iaload, 78, 0, 0, 0, 0, 0, []) := (congrFun pm_M_routes 77).trans rfl
theorem rl_M_routes_78 : (am_pg z_M_routes).2 78 = some (.iload_n 2, 79, 2, 0, 0, 0, 0, []) := (congrFun pm_M_routes 78).trans rfl
theorem rl_M_routes_79 : (am_pg z_M_routes).2 79 = some (.if_icmp .ne (7), 82, 86, 0, 0, 0, 0, []) := (congrFun pm_M_routes 79).trans rfl
theorem rl_M_routes_82 : (am_pg z_M_routes).2 82 = some (.iconst (1), 83, 0, 0, 0, 0, 1, []) := (congrFun pm_M_routes 82).trans rfl
theorem rl_M_routes_83 : (am_pg z_M_routes).2 83 = some (.goto (4), 86, 87, 0, 0, 0, 0, []) := (congrFun pm_M_routes 83).trans rfl
theorem rl_M_routes_86 : (am_pg z_M_routes).2 86 = some (.iconst (0), 87, 0, 0, 0, 0, 0, []) := (congrFun pm_M_routes 86).trans rfl
theorem rl_M_routes_87 : (am_pg z_M_routes).2 87 = some (.iadd, 88, 0, 0, 0, 0, 0, []) := (congrFun pm_M_routes 87).trans rfl
theorem rl_M_routes_88 : (am_pg z_M_routes).2 88 = some (.istore 4, 90, 4, 0, 0, 0, 0, []) := (congrFun pm_M_routes 88).trans rfl
theorem rl_M_routes_90 : (am_pg z_M_routes).2 90 = some (.iinc 5 (1), 93, 5, 0, 0, 0, 1, []) := (congrFun pm_M_routes 90).trans rfl
theorem rl_M_routes_93 : (am_pg z_M_routes).2 93 = some (.goto (-51), 96, 42, 0, 0, 0, 0, []) := (congrFun pm_M_routes 93).trans rfl
theorem rl_M_routes_96 : (am_pg z_M_routes).2 96 = some (.iload 4, 98, 4, 0, 0, 0, 0, []) := (congrFun pm_M_routes 96).trans rfl
theorem rl_M_routes_98 : (am_pg z_M_routes).2 98 = some (.ireturn, 99, 0, 0, 0, 0, 0, []) := (congrFun pm_M_routes 98).trans rfl
theorem rl_M_latest_0 : (am_pg z_M_latest).2 0 = some (.iload_n 1, 1, 1, 0, 0, 0, 0, []) := (congrFun pm_M_latest 0).trans rfl
theorem rl_M_latest_1 : (am_pg z_M_latest).2 1 = some (.invokestatic 143, 4, 85, 1, 0, 223, 0, []) := (congrFun pm_M_latest 1).trans rfl
theorem rl_M_latest_4 : (am_pg z_M_latest).2 4 = some (.ifCond .eq (10), 7, 14, 0, 0, 0, 0, []) := (congrFun pm_M_latest 4).trans rfl
theorem rl_M_latest_7 : (am_pg z_M_latest).2 7 = some (.iload_n 2, 8, 2, 0, 0, 0, 0, []) := (congrFun pm_M_latest 7).trans rfl
theorem rl_M_latest_8 : (am_pg z_M_latest).2 8 = some (.invokestatic 194, 11, 89, 1, 0, 243, 0, []) := (congrFun pm_M_latest 8).trans rfl
theorem rl_M_latest_11 : (am_pg z_M_latest).2 11 = some (.ifCond .ne (5), 14, 16, 0, 0, 0, 0, []) := (congrFun pm_M_latest 11).trans rfl
theorem rl_M_latest_14 : (am_pg z_M_latest).2 14 = some (.iconst (-1), 15, 0, 0, 0, 0, -1, []) := (congrFun pm_M_latest 14).trans rfl
theorem rl_M_latest_15 : (am_pg z_M_latest).2 15 = some (.ireturn, 16, 0, 0, 0, 0, 0, []) := (congrFun pm_M_latest 15).trans rfl
theorem rl_M_latest_16 : (am_pg z_M_latest).2 16 = some (.aload_n 0, 17, 0, 0, 0, 0, 0, []) := (congrFun pm_M_latest 16).trans rfl
theorem rl_M_latest_17 : (am_pg z_M_latest).2 17 = some (.invokevirtual 235, 20, 155, 0, 9, 266, 0, []) := (congrFun pm_M_latest 17).trans rfl
theorem rl_M_latest_20 : (am_pg z_M_latest).2 20 = some (.sipush (360), 23, 0, 0, 0, 0, 360, []) := (congrFun pm_M_latest 20).trans rfl
theorem rl_M_latest_23 : (am_pg z_M_latest).2 23 = some (.iload_n 2, 24, 2, 0, 0, 0, 0, []) := (congrFun pm_M_latest 23).trans rfl
theorem rl_M_latest_24 : (am_pg z_M_latest).2 24 = some (.imul, 25, 0, 0, 0, 0, 0, []) := (congrFun pm_M_latest 24).trans rfl
theorem rl_M_latest_25 : (am_pg z_M_latest).2 25 = some (.sipush (360), 28, 0, 0, 0, 0, 360, []) := (congrFun pm_M_latest 25).trans rfl
theorem rl_M_latest_28 : (am_pg z_M_latest).2 28 = some (.iadd, 29, 0, 0, 0, 0, 0, []) := (congrFun pm_M_latest 28).trans rfl
theorem rl_M_latest_29 : (am_pg z_M_latest).2 29 = some (.iconst (1), 30, 0, 0, 0, 0, 1, []) := (congrFun pm_M_latest 29).trans rfl
theorem rl_M_latest_30 : (am_pg z_M_latest).2 30 = some (.isub, 31, 0, 0, 0, 0, 0, []) := (congrFun pm_M_latest 30).trans rfl
theorem rl_M_latest_31 : (am_pg z_M_latest).2 31 = some (.istore_n 3, 32, 3, 0, 0, 0, 0, []) := (congrFun pm_M_latest 31).trans rfl
theorem rl_M_latest_32 : (am_pg z_M_latest).2 32 = some (.iload_n 3, 33, 3, 0, 0, 0, 0, []) := (congrFun pm_M_latest 32).trans rfl
theorem rl_M_latest_33 : (am_pg z_M_latest).2 33 = some (.sipush (360), 36, 0, 0, 0, 0, 360, []) := (congrFun pm_M_latest 33).trans rfl
theorem rl_M_latest_36 : (am_pg z_M_latest).2 36 = some (.iload_n 2, 37, 2, 0, 0, 0, 0, []) := (congrFun pm_M_latest 36).trans rfl
theorem rl_M_latest_37 : (am_pg z_M_latest).2 37 = some (.imul, 38, 0, 0, 0, 0, 0, []) := (congrFun pm_M_latest 37).trans rfl
theorem rl_M_latest_38 : (am_pg z_M_latest).2 38 = some (.if_icmp .lt (37), 41, 75, 0, 0, 0, 0, []) := (congrFun pm_M_latest 38).trans rfl
theorem rl_M_latest_41 : (am_pg z_M_latest).2 41 = some (.aload_n 0, 42, 0, 0, 0, 0, 0, []) := (congrFun pm_M_latest 41).trans rfl
theorem rl_M_latest_42 : (am_pg z_M_latest).2 42 = some (.getfield 7, 45, 9, 0, 0, 76, 0, []) := (congrFun pm_M_latest 42).trans rfl
theorem rl_M_latest_45 : (am_pg z_M_latest).2 45 = some (.iload_n 3, 46, 3, 0, 0, 0, 0, []) := (congrFun pm_M_latest 45).trans rfl
theorem rl_M_latest_46 : (am_pg z_M_latest).2 46 = some (.iaload, 47, 0, 0, 0, 0, 0, []) := (congrFun pm_M_latest 46).trans rfl
theorem rl_M_latest_47 : (am_pg z_M_latest).2 47 = some (.iload_n 1, 48, 1, 0, 0, 0, 0, []) := (congrFun pm_M_latest 47).trans rfl
theorem rl_M_latest_48 : (am_pg z_M_latest).2 48 = some (.if_icmp .eq (10), 51, 58, 0, 0, 0, 0, []) := (congrFun pm_M_latest 48).trans rfl
theorem rl_M_latest_51 : (am_pg z_M_latest).2 51 = some (.aload_n 0, 52, 0, 0, 0, 0, 0, []) := (congrFun pm_M_latest 51).trans rfl
theorem rl_M_latest_52 : (am_pg z_M_latest).2 52 = some (.iload_n 1, 53, 1, 0, 0, 0, 0, []) := (congrFun pm_M_latest 52).trans rfl
theorem rl_M_latest_53 : (am_pg z_M_latest).2 53 = some (.iload_n 2, 54, 2, 0, 0, 0, 0, []) := (congrFun pm_M_latest 53).trans rfl
theorem rl_M_latest_54 : (am_pg z_M_latest).2 54 = some (.iconst (1), 55, 0, 0, 0, 0, 1, []) := (congrFun pm_M_latest 54).trans rfl
theorem rl_M_latest_55 : (am_pg z_M_latest).2 55 = some (.invokevirtual 317, 58, 156, 3, 9, 307, 0, []) := (congrFun pm_M_latest 55).trans rfl
theorem rl_M_latest_58 : (am_pg z_M_latest).2 58 = some (.aload_n 0, 59, 0, 0, 0, 0, 0, []) := (congrFun pm_M_latest 58).trans rfl
theorem rl_M_latest_59 : (am_pg z_M_latest).2 59 = some (.iload_n 1, 60, 1, 0, 0, 0, 0, []) := (congrFun pm_M_latest 59).trans rfl
theorem rl_M_latest_60 : (am_pg z_M_latest).2 60 = some (.iload_n 2, 61, 2, 0, 0, 0, 0, []) := (congrFun pm_M_latest 60).trans rfl
theorem rl_M_latest_61 : (am_pg z_M_latest).2 61 = some (.invokevirtual 280, 64, 172, 2, 9, 290, 0, []) := (congrFun pm_M_latest 61).trans rfl
theorem rl_M_latest_64 : (am_pg z_M_latest).2 64 = some (.ifCond .eq (5), 67, 69, 0, 0, 0, 0, []) := (congrFun pm_M_latest 64).trans rfl
theorem rl_M_latest_67 : (am_pg z_M_latest).2 67 = some (.iload_n 3, 68, 3, 0, 0, 0, 0, []) := (congrFun pm_M_latest 67).trans rfl
theorem rl_M_latest_68 : (am_pg z_M_latest).2 68 = some (.ireturn, 69, 0, 0, 0, 0, 0, []) := (congrFun pm_M_latest 68).trans rfl
theorem rl_M_latest_69 : (am_pg z_M_latest).2 69 = some (.iinc 3 (-1), 72, 3, 0, 0, 0, -1, []) := (congrFun pm_M_latest 69).trans rfl
theorem rl_M_latest_72 : (am_pg z_M_latest).2 72 = some (.goto (-40), 75, 32, 0, 0, 0, 0, []) := (congrFun pm_M_latest 72).trans rfl
theorem rl_M_latest_75 : (am_pg z_M_latest).2 75 = some (.bipush (-2), 77, 0, 0, 0, 0, -2, []) := (congrFun pm_M_latest 75).trans rfl
theorem rl_M_latest_77 : (am_pg z_M_latest).2 77 = some (.ireturn, 78, 0, 0, 0, 0, 0, []) := (congrFun pm_M_latest 77).trans rfl
theorem rl_M_wins_0 : (am_pg z_M_wins).2 0 = some (.iload_n 1, 1, 1, 0, 0, 0, 0, []) := (congrFun pm_M_wins 0).trans rfl
theorem rl_M_wins_1 : (am_pg z_M_wins).2 1 = some (.invokestatic 143, 4, 85, 1, 0, 223, 0, []) := (congrFun pm_M_wins 1).trans rfl
theorem rl_M_wins_4 : (am_pg z_M_wins).2 4 = some (.ifCond .eq (10), 7, 14, 0, 0, 0, 0, []) := (congrFun pm_M_wins 4).trans rfl
theorem rl_M_wins_7 : (am_pg z_M_wins).2 7 = some (.iload_n 2, 8, 2, 0, 0, 0, 0, []) := (congrFun pm_M_wins 7).trans rfl
theorem rl_M_wins_8 : (am_pg z_M_wins).2 8 = some (.invokestatic 194, 11, 89, 1, 0, 243, 0, []) := (congrFun pm_M_wins 8).trans rfl
theorem rl_M_wins_11 : (am_pg z_M_wins).2 11 = some (.ifCond .ne (5), 14, 16, 0, 0, 0, 0, []) := (congrFun pm_M_wins 11).trans rfl
theorem rl_M_wins_14 : (am_pg z_M_wins).2 14 = some (.iconst (-1), 15, 0, 0, 0, 0, -1, []) := (congrFun pm_M_wins 14).trans rfl
theorem rl_M_wins_15 : (am_pg z_M_wins).2 15 = some (.ireturn, 16, 0, 0, 0, 0, 0, []) := (congrFun pm_M_wins 15).trans rfl
theorem rl_M_wins_16 : (am_pg z_M_wins).2 16 = some (.aload_n 0, 17, 0, 0, 0, 0, 0, []) := (congrFun pm_M_wins 16).trans rfl
theorem rl_M_wins_17 : (am_pg z_M_wins).2 17 = some (.invokevirtual 235, 20, 155, 0, 9, 266, 0, []) := (congrFun pm_M_wins 17).trans rfl
theorem rl_M_wins_20 : (am_pg z_M_wins).2 20 = some (.aload_n 0, 21, 0, 0, 0, 0, 0, []) := (congrFun pm_M_wins 20).trans rfl
theorem rl_M_wins_21 : (am_pg z_M_wins).2 21 = some (.iload_n 2, 22, 2, 0, 0, 0, 0, []) := (congrFun pm_M_wins 21).trans rfl
theorem rl_M_wins_22 : (am_pg z_M_wins).2 22 = some (.invokevirtual 265, 25, 161, 1, 9, 278, 0, []) := (congrFun pm_M_wins 22).trans rfl
theorem rl_M_wins_25 : (am_pg z_M_wins).2 25 = some (.istore_n 3, 26, 3, 0, 0, 0, 0, []) := (congrFun pm_M_wins 25).trans rfl
theorem rl_M_wins_26 : (am_pg z_M_wins).2 26 = some (.iload_n 3, 27, 3, 0, 0, 0, 0, []) := (congrFun pm_M_wins 26).trans rfl
theorem rl_M_wins_27 : (am_pg z_M_wins).2 27 = some (.iload_n 1, 28, 1, 0, 0, 0, 0, []) := (congrFun pm_M_wins 27).trans rfl
theorem rl_M_wins_28 : (am_pg z_M_wins).2 28 = some (.ishr, 29, 0, 0, 0, 0, 0, []) := (congrFun pm_M_wins 28).trans rfl
theorem rl_M_wins_29 : (am_pg z_M_wins).2 29 = some (.iconst (1), 30, 0, 0, 0, 0, 1, []) := (congrFun pm_M_wins 29).trans rfl
theorem rl_M_wins_30 : (am_pg z_M_wins).2 30 = some (.iand, 31, 0, 0, 0, 0, 0, []) := (congrFun pm_M_wins 30).trans rfl
theorem rl_M_wins_31 : (am_pg z_M_wins).2 31 = some (.ifCond .ne (6), 34, 37, 0, 0, 0, 0, []) := (congrFun pm_M_wins 31).trans rfl
theorem rl_M_wins_34 : (am_pg z_M_wins).2 34 = some (.bipush (-2), 36, 0, 0, 0, 0, -2, []) := (congrFun pm_M_wins 34).trans rfl
theorem rl_M_wins_36 : (am_pg z_M_wins).2 36 = some (.ireturn, 37, 0, 0, 0, 0, 0, []) := (congrFun pm_M_wins 36).trans rfl
theorem rl_M_wins_37 : (am_pg z_M_wins).2 37 = some (.iconst (0), 38, 0, 0, 0, 0, 0, []) := (congrFun pm_M_wins 37).trans rfl
theorem rl_M_wins_38 : (am_pg z_M_wins).2 38 = some (.istore 4, 40, 4, 0, 0, 0, 0, []) := (congrFun pm_M_wins 38).trans rfl
theorem rl_M_wins_40 : (am_pg z_M_wins).2 40 = some (.iconst (0), 41, 0, 0, 0, 0, 0, []) := (congrFun pm_M_wins 40).trans rfl
theorem rl_M_wins_41 : (am_pg z_M_wins).2 41 = some (.istore 5, 43, 5, 0, 0, 0, 0, []) := (congrFun pm_M_wins 41).trans rfl
theorem rl_M_wins_43 : (am_pg z_M_wins).2 43 = some (.iload 5, 45, 5, 0, 0, 0, 0, []) := (congrFun pm_M_wins 43).trans rfl
theorem rl_M_wins_45 : (am_pg z_M_wins).2 45 = some (.bipush (6), 47, 0, 0, 0, 0, 6, []) := (congrFun pm_M_wins 45).trans rfl
theorem rl_M_wins_47 : (am_pg z_M_wins).2 47 = some (.if_icmp .ge (71), 50, 118, 0, 0, 0, 0, []) := (congrFun pm_M_wins 47).trans rfl
theorem rl_M_wins_50 : (am_pg z_M_wins).2 50 = some (.iload 5, 52, 5, 0, 0, 0, 0, []) := (congrFun pm_M_wins 50).trans rfl
theorem rl_M_wins_52 : (am_pg z_M_wins).2 52 = some (.iload_n 1, 53, 1, 0, 0, 0, 0, []) := (congrFun pm_M_wins 52).trans rfl
theorem rl_M_wins_53 : (am_pg z_M_wins).2 53 = some (.if_icmp .eq (17), 56, 70, 0, 0, 0, 0, []) := (congrFun pm_M_wins 53).trans rfl
theorem rl_M_wins_56 : (am_pg z_M_wins).2 56 = some (.iload_n 3, 57, 3, 0, 0, 0, 0, []) := (congrFun pm_M_wins 56).trans rfl
theorem rl_M_wins_57 : (am_pg z_M_wins).2 57 = some (.iload 5, 59, 5, 0, 0, 0, 0, []) := (congrFun pm_M_wins 57).trans rfl
theorem rl_M_wins_59 : (am_pg z_M_wins).2 59 = some (.ishr, 60, 0, 0, 0, 0, 0, []) := (congrFun pm_M_wins 59).trans rfl
theorem rl_M_wins_60 : (am_pg z_M_wins).2 60 = some (.iconst (1), 61, 0, 0, 0, 0, 1, []) := (congrFun pm_M_wins 60).trans rfl
theorem rl_M_wins_61 : (am_pg z_M_wins).2 61 = some (.iand, 62, 0, 0, 0, 0, 0, []) := (congrFun pm_M_wins 61).trans rfl
theorem rl_M_wins_62 : (am_pg z_M_wins).2 62 = some (.iconst (1), 63, 0, 0, 0, 0, 1, []) := (congrFun pm_M_wins 62).trans rfl
theorem rl_M_wins_63 : (am_pg z_M_wins).2 63 = some (.if_icmp .ne (7), 66, 70, 0, 0, 0, 0, []) := (congrFun pm_M_wins 63).trans rfl
theorem rl_M_wins_66 : (am_pg z_M_wins).2 66 = some (.iconst (1), 67, 0, 0, 0, 0, 1, []) := (congrFun pm_M_wins 66).trans rfl
theorem rl_M_wins_67 : (am_pg z_M_wins).2 67 = some (.goto (4), 70, 71, 0, 0, 0, 0, []) := (congrFun pm_M_wins 67).trans rfl
theorem rl_M_wins_70 : (am_pg z_M_wins).2 70 = some (.iconst (0), 71, 0, 0, 0, 0, 0, []) := (congrFun pm_M_wins 70).trans rfl
theorem rl_M_wins_71 : (am_pg z_M_wins).2 71 = some (.istore 6, 73, 6, 0, 0, 0, 0, []) := (congrFun pm_M_wins 71).trans rfl
theorem rl_M_wins_73 : (am_pg z_M_wins).2 73 = some (.iload 4, 75, 4, 0, 0, 0, 0, []) := (congrFun pm_M_wins 73).trans rfl
theorem rl_M_wins_75 : (am_pg z_M_wins).2 75 = some (.iload 6, 77, 6, 0, 0, 0, 0, []) := (congrFun pm_M_wins 75).trans rfl
theorem rl_M_wins_77 : (am_pg z_M_wins).2 77 = some (.ifCond .eq (31), 80, 108, 0, 0, 0, 0, []) := (congrFun pm_M_wins 77).trans rfl
theorem rl_M_wins_80 : (am_pg z_M_wins).2 80 = some (.aload_n 0, 81, 0, 0, 0, 0, 0, []) := (congrFun pm_M_wins 80).trans rfl
theorem rl_M_wins_81 : (am_pg z_M_wins).2 81 = some (.iload_n 1, 82, 1, 0, 0, 0, 0, []) := (congrFun pm_M_wins 81).trans rfl
theorem rl_M_wins_82 : (am_pg z_M_wins).2 82 = some (.iload 5, 84, 5, 0, 0, 0, 0, []) := (congrFun pm_M_wins 82).trans rfl
theorem rl_M_wins_84 : (am_pg z_M_wins).2 84 = some (.iload_n 2, 85, 2, 0, 0, 0, 0, []) := (congrFun pm_M_wins 84).trans rfl
theorem rl_M_wins_85 : (am_pg z_M_wins).2 85 = some (.invokevirtual 274, 88, 166, 3, 9, 282, 0, []) := (congrFun pm_M_wins 85).trans rfl
theorem rl_M_wins_88 : (am_pg z_M_wins).2 88 = some (.iload_n 1, 89, 1, 0, 0, 0, 0, []) := (congrFun pm_M_wins 88).trans rfl
theorem rl_M_wins_89 : (am_pg z_M_wins).2 89 = some (.if_icmp .ne (19), 92, 108, 0, 0, 0, 0, []) := (congrFun pm_M_wins 89).trans rfl
theorem rl_M_wins_92 : (am_pg z_M_wins).2 92 = some (.aload_n 0, 93, 0, 0, 0, 0, 0, []) := (congrFun pm_M_wins 92).trans rfl
theorem rl_M_wins_93 : (am_pg z_M_wins).2 93 = some (.iload 5, 95, 5, 0, 0, 0, 0, []) := (congrFun pm_M_wins 93).trans rfl
theorem rl_M_wins_95 : (am_pg z_M_wins).2 95 = some (.iload_n 1, 96, 1, 0, 0, 0, 0, []) := (congrFun pm_M_wins 95).trans rfl
theorem rl_M_wins_96 : (am_pg z_M_wins).2 96 = some (.iload_n 2, 97, 2, 0, 0, 0, 0, []) := (congrFun pm_M_wins 96).trans rfl
theorem rl_M_wins_97 : (am_pg z_M_wins).2 97 = some (.invokevirtual 274, 100, 166, 3, 9, 282, 0, []) := (congrFun pm_M_wins 97).trans rfl
theorem rl_M_wins_100 : (am_pg z_M_wins).2 100 = some (.iload_n 1, 101, 1, 0, 0, 0, 0, []) := (congrFun pm_M_wins 100).trans rfl
theorem rl_M_wins_101 : (am_pg z_M_wins).2 101 = some (.if_icmp .ne (7), 104, 108, 0, 0, 0, 0, []) := (congrFun pm_M_wins 101).trans rfl
theorem rl_M_wins_104 : (am_pg z_M_wins).2 104 = some (.iconst (1), 105, 0, 0, 0, 0, 1, []) := (congrFun pm_M_wins 104).trans rfl
theorem rl_M_wins_105 : (am_pg z_M_wins).2 105 = some (.goto (4), 108, 109, 0, 0, 0, 0, []) := (congrFun pm_M_wins 105).trans rfl
theorem rl_M_wins_108 : (am_pg z_M_wins).2 108 = some (.iconst (0), 109, 0, 0, 0, 0, 0, []) := (congrFun pm_M_wins 108).trans rfl
theorem rl_M_wins_109 : (am_pg z_M_wins).2 109 = some (.iadd, 110, 0, 0, 0, 0, 0, []) := (congrFun pm_M_wins 109).trans rfl
theorem rl_M_wins_110 : (am_pg z_M_wins).2 110 = some (.istore 4, 112, 4, 0, 0, 0, 0, []) := (congrFun pm_M_wins 110).trans rfl
theorem rl_M_wins_112 : (am_pg z_M_wins).2 112 = some (.iinc 5 (1), 115, 5, 0, 0, 0, 1, []) := (congrFun pm_M_wins 112).trans rfl
theorem rl_M_wins_115 : (am_pg z_M_wins).2 115 = some (.goto (-72), 118, 43, 0, 0, 0, 0, []) := (congrFun pm_M_wins 115).trans rfl
theorem rl_M_wins_118 : (am_pg z_M_wins).2 118 = some (.iload 4, 120, 4, 0, 0, 0, 0, []) := (congrFun pm_M_wins 118).trans rfl
theorem rl_M_wins_120 : (am_pg z_M_wins).2 120 = some (.ireturn, 121, 0, 0, 0, 0, 0, []) := (congrFun pm_M_wins 120).trans rfl
theorem rl_M_count_0 : (am_pg z_M_count).2 0 = some (.iconst (0), 1, 0, 0, 0, 0, 0, []) := (congrFun pm_M_count 0).trans rfl
theorem rl_M_count_1 : (am_pg z_M_count).2 1 = some (.istore_n 2, 2, 2, 0, 0, 0, 0, []) := (congrFun pm_M_count 1).trans rfl
theorem rl_M_count_2 : (am_pg z_M_count).2 2 = some (.iload_n 1, 3, 1, 0, 0, 0, 0, []) := (congrFun pm_M_count 2).trans rfl
theorem rl_M_count_3 : (am_pg z_M_count).2 3 = some (.tableswitch (120) (0) (5) #[37, 72, 100, 105, 110, 115], 40, 123, 0, 0, 0, 0, [(0, 40), (1, 75), (2, 103), (3, 108), (4, 113), (5, 118)]) := (congrFun pm_M_count 3).trans rfl
theorem rl_M_count_40 : (am_pg z_M_count).2 40 = some (.iconst (0), 41, 0, 0, 0, 0, 0, []) := (congrFun pm_M_count 40).trans rfl
theorem rl_M_count_41 : (am_pg z_M_count).2 41 = some (.istore_n 3, 42, 3, 0, 0, 0, 0, []) := (congrFun pm_M_count 41).trans rfl
theorem rl_M_count_42 : (am_pg z_M_count).2 42 = some (.iload_n 3, 43, 3, 0, 0, 0, 0, []) := (congrFun pm_M_count 42).trans rfl
theorem rl_M_count_43 : (am_pg z_M_count).2 43 = some (.sipush (1080), 46, 0, 0, 0, 0, 1080, []) := (congrFun pm_M_count 43).trans rfl
theorem rl_M_count_46 : (am_pg z_M_count).2 46 = some (.if_icmp .ge (27), 49, 73, 0, 0, 0, 0, []) := (congrFun pm_M_count 46).trans rfl
theorem rl_M_count_49 : (am_pg z_M_count).2 49 = some (.iload_n 2, 50, 2, 0, 0, 0, 0, []) := (congrFun pm_M_count 49).trans rfl
theorem rl_M_count_50 : (am_pg z_M_count).2 50 = some (.aload_n 0, 51, 0, 0, 0, 0, 0, []) := (congrFun pm_M_count 50).trans rfl
theorem rl_M_count_51 : (am_pg z_M_count).2 51 = some (.getfield 7, 54, 9, 0, 0, 76, 0, []) := (congrFun pm_M_count 51).trans rfl
theorem rl_M_count_54 : (am_pg z_M_count).2 54 = some (.iload_n 3, 55, 3, 0, 0, 0, 0, []) := (congrFun pm_M_count 54).trans rfl
theorem rl_M_count_55 : (am_pg z_M_count).2 55 = some (.iaload, 56, 0, 0, 0, 0, 0, []) := (congrFun pm_M_count 55).trans rfl
theorem rl_M_count_56 : (am_pg z_M_count).2 56 = some (.iconst (-1), 57, 0, 0, 0, 0, -1, []) := (congrFun pm_M_count 56).trans rfl
theorem rl_M_count_57 : (am_pg z_M_count).2 57 = some (.if_icmp .ne (7), 60, 64, 0, 0, 0, 0, []) := (congrFun pm_M_count 57).trans rfl
theorem rl_M_count_60 : (am_pg z_M_count).2 60 = some (.iconst (0), 61, 0, 0, 0, 0, 0, []) := (congrFun pm_M_count 60).trans rfl
theorem rl_M_count_61 : (am_pg z_M_count).2 61 = some (.goto (4), 64, 65, 0, 0, 0, 0, []) := (congrFun pm_M_count 61).trans rfl
theorem rl_M_count_64 : (am_pg z_M_count).2 64 = some (.iconst (1), 65, 0, 0, 0, 0, 1, []) := (congrFun pm_M_count 64).trans rfl
theorem rl_M_count_65 : (am_pg z_M_count).2 65 = some (.iadd, 66, 0, 0, 0, 0, 0, []) := (congrFun pm_M_count 65).trans rfl
theorem rl_M_count_66 : (am_pg z_M_count).2 66 = some (.istore_n 2, 67, 2, 0, 0, 0, 0, []) := (congrFun pm_M_count 66).trans rfl
theorem rl_M_count_67 : (am_pg z_M_count).2 67 = some (.iinc 3 (1), 70, 3, 0, 0, 0, 1, []) := (congrFun pm_M_count 67).trans rfl
theorem rl_M_count_70 : (am_pg z_M_count).2 70 = some (.goto (-28), 73, 42, 0, 0, 0, 0, []) := (congrFun pm_M_count 70).trans rfl
theorem rl_M_count_73 : (am_pg z_M_count).2 73 = some (.iload_n 2, 74, 2, 0, 0, 0, 0, []) := (congrFun pm_M_count 73).trans rfl
theorem rl_M_count_74 : (am_pg z_M_count).2 74 = some (.ireturn, 75, 0, 0, 0, 0, 0, []) := (congrFun pm_M_count 74).trans rfl
theorem rl_M_count_75 : (am_pg z_M_count).2 75 = some (.iconst (0), 76, 0, 0, 0, 0, 0, []) := (congrFun pm_M_count 75).trans rfl
theorem rl_M_count_76 : (am_pg z_M_count).2 76 = some (.istore_n 3, 77, 3, 0, 0, 0, 0, []) := (congrFun pm_M_count 76).trans rfl
theorem rl_M_count_77 : (am_pg z_M_count).2 77 = some (.iload_n 3, 78, 3, 0, 0, 0, 0, []) := (congrFun pm_M_count 77).trans rfl
theorem rl_M_count_78 : (am_pg z_M_count).2 78 = some (.bipush (6), 80, 0, 0, 0, 0, 6, []) := (congrFun pm_M_count 78).trans rfl
theorem rl_M_count_80 : (am_pg z_M_count).2 80 = some (.if_icmp .ge (21), 83, 101, 0, 0, 0, 0, []) := (congrFun pm_M_count 80).trans rfl
theorem rl_M_count_83 : (am_pg z_M_count).2 83 = some (.iload_n 2, 84, 2, 0, 0, 0, 0, []) := (congrFun pm_M_count 83).trans rfl
theorem rl_M_count_84 : (am_pg z_M_count).2 84 = some (.aload_n 0, 85, 0, 0, 0, 0, 0, []) := (congrFun pm_M_count 84).trans rfl
theorem rl_M_count_85 : (am_pg z_M_count).2 85 = some (.iload_n 3, 86, 3, 0, 0, 0, 0, []) := (congrFun pm_M_count 85).trans rfl
theorem rl_M_count_86 : (am_pg z_M_count).2 86 = some (.bipush (6), 88, 0, 0, 0, 0, 6, []) := (congrFun pm_M_count 86).trans rfl
theorem rl_M_count_88 : (am_pg z_M_count).2 88 = some (.invokevirtual 146, 91, 92, 2, 9, 226, 0, []) := (congrFun pm_M_count 88).trans rfl
theorem rl_M_count_91 : (am_pg z_M_count).2 91 = some (.iload_n 3, 92, 3, 0, 0, 0, 0, []) := (congrFun pm_M_count 91).trans rfl
theorem rl_M_count_92 : (am_pg z_M_count).2 92 = some (.ishl, 93, 0, 0, 0, 0, 0, []) := (congrFun pm_M_count 92).trans rfl
theorem rl_M_count_93 : (am_pg z_M_count).2 93 = some (.ior, 94, 0, 0, 0, 0, 0, []) := (congrFun pm_M_count 93).trans rfl
theorem rl_M_count_94 : (am_pg z_M_count).2 94 = some (.istore_n 2, 95, 2, 0, 0, 0, 0, []) := (congrFun pm_M_count 94).trans rfl
theorem rl_M_count_95 : (am_pg z_M_count).2 95 = some (.iinc 3 (1), 98, 3, 0, 0, 0, 1, []) := (congrFun pm_M_count 95).trans rfl
theorem rl_M_count_98 : (am_pg z_M_count).2 98 = some (.goto (-21), 101, 77, 0, 0, 0, 0, []) := (congrFun pm_M_count 98).trans rfl
theorem rl_M_count_101 : (am_pg z_M_count).2 101 = some (.iload_n 2, 102, 2, 0, 0, 0, 0, []) := (congrFun pm_M_count 101).trans rfl
theorem rl_M_count_102 : (am_pg z_M_count).2 102 = some (.ireturn, 103, 0, 0, 0, 0, 0, []) := (congrFun pm_M_count 102).trans rfl
theorem rl_M_count_103 : (am_pg z_M_count).2 103 = some (.aload_n 0, 104, 0, 0, 0, 0, 0, []) := (congrFun pm_M_count 103).trans rfl
theorem rl_M_count_104 : (am_pg z_M_count).2 104 = some (.invokevirtual 329, 107, 141, 0, 9, 318, 0, []) := (congrFun pm_M_count 104).trans rfl
theorem rl_M_count_107 : (am_pg z_M_count).2 107 = some (.ireturn, 108, 0, 0, 0, 0, 0, []) := (congrFun pm_M_count 107).trans rfl
theorem rl_M_count_108 : (am_pg z_M_count).2 108 = some (.aload_n 0, 109, 0, 0, 0, 0, 0, []) := (congrFun pm_M_count 108).trans rfl
theorem rl_M_count_109 : (am_pg z_M_count).2 109 = some (.invokevirtual 248, 112, 150, 0, 9, 272, 0, []) := (congrFun pm_M_count 109).trans rfl
theorem rl_M_count_112 : (am_pg z_M_count).2 112 = some (.ireturn, 113, 0, 0, 0, 0, 0, []) := (congrFun pm_M_count 112).trans rfl
theorem rl_M_count_113 : (am_pg z_M_count).2 113 = some (.aload_n 0, 114, 0, 0, 0, 0, 0, []) := (congrFun pm_M_count 113).trans rfl
theorem rl_M_count_114 : (am_pg z_M_count).2 114 = some (.getfield 80, 117, 9, 7, 0, 83, 0, []) := (congrFun pm_M_count 114).trans rfl
theorem rl_M_count_117 : (am_pg z_M_count).2 117 = some (.ireturn, 118, 0, 0, 0, 0, 0, []) := (congrFun pm_M_count 117).trans rfl
theorem rl_M_count_118 : (am_pg z_M_count).2 118 = some (.aload_n 0, 119, 0, 0, 0, 0, 0, []) := (congrFun pm_M_count 118).trans rfl
theorem rl_M_count_119 : (am_pg z_M_count).2 119 = some (.getfield 338, 122, 9, 23, 0, 99, 0, []) := (congrFun pm_M_count 119).trans rfl
theorem rl_M_count_122 : (am_pg z_M_count).2 122 = some (.ireturn, 123, 0, 0, 0, 0, 0, []) := (congrFun pm_M_count 122).trans rfl
theorem rl_M_count_123 : (am_pg z_M_count).2 123 = some (.iconst (-1), 124, 0, 0, 0, 0, -1, []) := (congrFun pm_M_count 123).trans rfl
theorem rl_M_count_124 : (am_pg z_M_count).2 124 = some (.ireturn, 125, 0, 0, 0, 0, 0, []) := (congrFun pm_M_count 124).trans rfl
theorem rl_M_keep_0 : (am_pg z_M_keep).2 0 = some (.aload_n 0, 1, 0, 0, 0, 0, 0, []) := (congrFun pm_M_keep 0).trans rfl
theorem rl_M_keep_1 : (am_pg z_M_keep).2 1 = some (.getfield 338, 4, 9, 23, 0, 99, 0, []) := (congrFun pm_M_keep 1).trans rfl
theorem rl_M_keep_4 : (am_pg z_M_keep).2 4 = some (.bipush (8), 6, 0, 0, 0, 0, 8, []) := (congrFun pm_M_keep 4).trans rfl
theorem rl_M_keep_6 : (am_pg z_M_keep).2 6 = some (.if_icmp .ne (5), 9, 11, 0, 0, 0, 0, []) := (congrFun pm_M_keep 6).trans rfl
theorem rl_M_keep_9 : (am_pg z_M_keep).2 9 = some (.iconst (-1), 10, 0, 0, 0, 0, -1, []) := (congrFun pm_M_keep 9).trans rfl
theorem rl_M_keep_10 : (am_pg z_M_keep).2 10 = some (.ireturn, 11, 0, 0, 0, 0, 0, []) := (congrFun pm_M_keep 10).trans rfl
theorem rl_M_keep_11 : (am_pg z_M_keep).2 11 = some (.iconst (0), 12, 0, 0, 0, 0, 0, []) := (congrFun pm_M_keep 11).trans rfl
theorem rl_M_keep_12 : (am_pg z_M_keep).2 12 = some (.istore_n 1, 13, 1, 0, 0, 0, 0, []) := (congrFun pm_M_keep 12).trans rfl
theorem rl_M_keep_13 : (am_pg z_M_keep).2 13 = some (.iload_n 1, 14, 1, 0, 0, 0, 0, []) := (congrFun pm_M_keep 13).trans rfl
theorem rl_M_keep_14 : (am_pg z_M_keep).2 14 = some (.sipush (1080), 17, 0, 0, 0, 0, 1080, []) := (congrFun pm_M_keep 14).trans rfl
theorem rl_M_keep_17 : (am_pg z_M_keep).2 17 = some (.if_icmp .ge (65), 20, 82, 0, 0, 0, 0, []) := (congrFun pm_M_keep 17).trans rfl
theorem rl_M_keep_20 : (am_pg z_M_keep).2 20 = some (.aload_n 0, 21, 0, 0, 0, 0, 0, []) := (congrFun pm_M_keep 20).trans rfl
theorem rl_M_keep_21 : (am_pg z_M_keep).2 21 = some (.getfield 50, 24, 9, 24, 0, 100, 0, []) := (congrFun pm_M_keep 21).trans rfl
theorem rl_M_keep_24 : (am_pg z_M_keep).2 24 = some (.sipush (1080), 27, 0, 0, 0, 0, 1080, []) := (congrFun pm_M_keep 24).trans rfl
theorem rl_M_keep_27 : (am_pg z_M_keep).2 27 = some (.aload_n 0, 28, 0, 0, 0, 0, 0, []) := (congrFun pm_M_keep 27).trans rfl
theorem rl_M_keep_28 : (am_pg z_M_keep).2 28 = some (.getfield 338, 31, 9, 23, 0, 99, 0, []) := (congrFun pm_M_keep 28).trans rfl
theorem rl_M_keep_31 : (am_pg z_M_keep).2 31 = some (.imul, 32, 0, 0, 0, 0, 0, []) := (congrFun pm_M_keep 31).trans rfl
theorem rl_M_keep_32 : (am_pg z_M_keep).2 32 = some (.iload_n 1, 33, 1, 0, 0, 0, 0, []) := (congrFun pm_M_keep 32).trans rfl
theorem rl_M_keep_33 : (am_pg z_M_keep).2 33 = some (.iadd, 34, 0, 0, 0, 0, 0, []) := (congrFun pm_M_keep 33).trans rfl
theorem rl_M_keep_34 : (am_pg z_M_keep).2 34 = some (.aload_n 0, 35, 0, 0, 0, 0, 0, []) := (congrFun pm_M_keep 34).trans rfl
theorem rl_M_keep_35 : (am_pg z_M_keep).2 35 = some (.getfield 7, 38, 9, 0, 0, 76, 0, []) := (congrFun pm_M_keep 35).trans rfl
theorem rl_M_keep_38 : (am_pg z_M_keep).2 38 = some (.iload_n 1, 39, 1, 0, 0, 0, 0, []) := (congrFun pm_M_keep 38).trans rfl
theorem rl_M_keep_39 : (am_pg z_M_keep).2 39 = some (.iaload, 40, 0, 0, 0, 0, 0, []) := (congrFun pm_M_keep 39).trans rfl
theorem rl_M_keep_40 : (am_pg z_M_keep).2 40 = some (.iconst (1), 41, 0, 0, 0, 0, 1, []) := (congrFun pm_M_keep 40).trans rfl
theorem rl_M_keep_41 : (am_pg z_M_keep).2 41 = some (.iadd, 42, 0, 0, 0, 0, 0, []) := (congrFun pm_M_keep 41).trans rfl
theorem rl_M_keep_42 : (am_pg z_M_keep).2 42 = some (.aload_n 0, 43, 0, 0, 0, 0, 0, []) := (congrFun pm_M_keep 42).trans rfl
theorem rl_M_keep_43 : (am_pg z_M_keep).2 43 = some (.getfield 16, 46, 9, 2, 0, 78, 0, []) := (congrFun pm_M_keep 43).trans rfl
theorem rl_M_keep_46 : (am_pg z_M_keep).2 46 = some (.iload_n 1, 47, 1, 0, 0, 0, 0, []) := (congrFun pm_M_keep 46).trans rfl
theorem rl_M_keep_47 : (am_pg z_M_keep).2 47 = some (.iaload, 48, 0, 0, 0, 0, 0, []) := (congrFun pm_M_keep 47).trans rfl
theorem rl_M_keep_48 : (am_pg z_M_keep).2 48 = some (.iconst (1), 49, 0, 0, 0, 0, 1, []) := (congrFun pm_M_keep 48).trans rfl
theorem rl_M_keep_49 : (am_pg z_M_keep).2 49 = some (.iadd, 50, 0, 0, 0, 0, 0, []) := (congrFun pm_M_keep 49).trans rfl
theorem rl_M_keep_50 : (am_pg z_M_keep).2 50 = some (.iconst (3), 51, 0, 0, 0, 0, 3, []) := (congrFun pm_M_keep 50).trans rfl
theorem rl_M_keep_51 : (am_pg z_M_keep).2 51 = some (.ishl, 52, 0, 0, 0, 0, 0, []) := (congrFun pm_M_keep 51).trans rfl
theorem rl_M_keep_52 : (am_pg z_M_keep).2 52 = some (.ior, 53, 0, 0, 0, 0, 0, []) := (congrFun pm_M_keep 52).trans rfl
theorem rl_M_keep_53 : (am_pg z_M_keep).2 53 = some (.aload_n 0, 54, 0, 0, 0, 0, 0, []) := (congrFun pm_M_keep 53).trans rfl
theorem rl_M_keep_54 : (am_pg z_M_keep).2 54 = some (.getfield 19, 57, 9, 3, 0, 79, 0, []) := (congrFun pm_M_keep 54).trans rfl
theorem rl_M_keep_57 : (am_pg z_M_keep).2 57 = some (.iload_n 1, 58, 1, 0, 0, 0, 0, []) := (congrFun pm_M_keep 57).trans rfl
theorem rl_M_keep_58 : (am_pg z_M_keep).2 58 = some (.iaload, 59, 0, 0, 0, 0, 0, []) := (congrFun pm_M_keep 58).trans rfl
theorem rl_M_keep_59 : (am_pg z_M_keep).2 59 = some (.iconst (1), 60, 0, 0, 0, 0, 1, []) := (congrFun pm_M_keep 59).trans rfl
theorem rl_M_keep_60 : (am_pg z_M_keep).2 60 = some (.iadd, 61, 0, 0, 0, 0, 0, []) := (congrFun pm_M_keep 60).trans rfl
theorem rl_M_keep_61 : (am_pg z_M_keep).2 61 = some (.bipush (6), 63, 0, 0, 0, 0, 6, []) := (congrFun pm_M_keep 61).trans rfl
theorem rl_M_keep_63 : (am_pg z_M_keep).2 63 = some (.ishl, 64, 0, 0, 0, 0, 0, []) := (congrFun pm_M_keep 63).trans rfl
theorem rl_M_keep_64 : (am_pg z_M_keep).2 64 = some (.ior, 65, 0, 0, 0, 0, 0, []) := (congrFun pm_M_keep 64).trans rfl
theorem rl_M_keep_65 : (am_pg z_M_keep).2 65 = some (.aload_n 0, 66, 0, 0, 0, 0, 0, []) := (congrFun pm_M_keep 65).trans rfl
theorem rl_M_keep_66 : (am_pg z_M_keep).2 66 = some (.getfield 13, 69, 9, 1, 0, 77, 0, []) := (congrFun pm_M_keep 66).trans rfl
theorem rl_M_keep_69 : (am_pg z_M_keep).2 69 = some (.iload_n 1, 70, 1, 0, 0, 0, 0, []) := (congrFun pm_M_keep 69).trans rfl
theorem rl_M_keep_70 : (am_pg z_M_keep).2 70 = some (.iaload, 71, 0, 0, 0, 0, 0, []) := (congrFun pm_M_keep 70).trans rfl
theorem rl_M_keep_71 : (am_pg z_M_keep).2 71 = some (.bipush (9), 73, 0, 0, 0, 0, 9, []) := (congrFun pm_M_keep 71).trans rfl
theorem rl_M_keep_73 : (am_pg z_M_keep).2 73 = some (.ishl, 74, 0, 0, 0, 0, 0, []) := (congrFun pm_M_keep 73).trans rfl
theorem rl_M_keep_74 : (am_pg z_M_keep).2 74 = some (.ior, 75, 0, 0, 0, 0, 0, []) := (congrFun pm_M_keep 74).trans rfl
theorem rl_M_keep_75 : (am_pg z_M_keep).2 75 = some (.iastore, 76, 0, 0, 0, 0, 0, []) := (congrFun pm_M_keep 75).trans rfl
theorem rl_M_keep_76 : (am_pg z_M_keep).2 76 = some (.iinc 1 (1), 79, 1, 0, 0, 0, 1, []) := (congrFun pm_M_keep 76).trans rfl
theorem rl_M_keep_79 : (am_pg z_M_keep).2 79 = some (.goto (-66), 82, 13, 0, 0, 0, 0, []) := (congrFun pm_M_keep 79).trans rfl
theorem rl_M_keep_82 : (am_pg z_M_keep).2 82 = some (.iconst (0), 83, 0, 0, 0, 0, 0, []) := (congrFun pm_M_keep 82).trans rfl
theorem rl_M_keep_83 : (am_pg z_M_keep).2 83 = some (.istore_n 1, 84, 1, 0, 0, 0, 0, []) := (congrFun pm_M_keep 83).trans rfl
theorem rl_M_keep_84 : (am_pg z_M_keep).2 84 = some (.iload_n 1, 85, 1, 0, 0, 0, 0, []) := (congrFun pm_M_keep 84).trans rfl
theorem rl_M_keep_85 : (am_pg z_M_keep).2 85 = some (.sipush (258), 88, 0, 0, 0, 0, 258, []) := (congrFun pm_M_keep 85).trans rfl
theorem rl_M_keep_88 : (am_pg z_M_keep).2 88 = some (.if_icmp .ge (30), 91, 118, 0, 0, 0, 0, []) := (congrFun pm_M_keep 88).trans rfl
theorem rl_M_keep_91 : (am_pg z_M_keep).2 91 = some (.aload_n 0, 92, 0, 0, 0, 0, 0, []) := (congrFun pm_M_keep 91).trans rfl
theorem rl_M_keep_92 : (am_pg z_M_keep).2 92 = some (.getfield 53, 95, 9, 25, 0, 101, 0, []) := (congrFun pm_M_keep 92).trans rfl
theorem rl_M_keep_95 : (am_pg z_M_keep).2 95 = some (.sipush (258), 98, 0, 0, 0, 0, 258, []) := (congrFun pm_M_keep 95).trans rfl
theorem rl_M_keep_98 : (am_pg z_M_keep).2 98 = some (.aload_n 0, 99, 0, 0, 0, 0, 0, []) := (congrFun pm_M_keep 98).trans rfl
theorem rl_M_keep_99 : (am_pg z_M_keep).2 99 = some (.getfield 338, 102, 9, 23, 0, 99, 0, []) := (congrFun pm_M_keep 99).trans rfl
theorem rl_M_keep_102 : (am_pg z_M_keep).2 102 = some (.imul, 103, 0, 0, 0, 0, 0, []) := (congrFun pm_M_keep 102).trans rfl
theorem rl_M_keep_103 : (am_pg z_M_keep).2 103 = some (.iload_n 1, 104, 1, 0, 0, 0, 0, []) := (congrFun pm_M_keep 103).trans rfl
theorem rl_M_keep_104 : (am_pg z_M_keep).2 104 = some (.iadd, 105, 0, 0, 0, 0, 0, []) := (congrFun pm_M_keep 104).trans rfl
theorem rl_M_keep_105 : (am_pg z_M_keep).2 105 = some (.aload_n 0, 106, 0, 0, 0, 0, 0, []) := (congrFun pm_M_keep 105).trans rfl
theorem rl_M_keep_106 : (am_pg z_M_keep).2 106 = some (.getfield 22, 109, 9, 4, 0, 80, 0, []) := (congrFun pm_M_keep 106).trans rfl
theorem rl_M_keep_109 : (am_pg z_M_keep).2 109 = some (.iload_n 1, 110, 1, 0, 0, 0, 0, []) := (congrFun pm_M_keep 109).trans rfl
theorem rl_M_keep_110 : (am_pg z_M_keep).2 110 = some (.iaload, 111, 0, 0, 0, 0, 0, []) := (congrFun pm_M_keep 110).trans rfl
theorem rl_M_keep_111 : (am_pg z_M_keep).2 111 = some (.iastore, 112, 0, 0, 0, 0, 0, []) := (congrFun pm_M_keep 111).trans rfl
theorem rl_M_keep_112 : (am_pg z_M_keep).2 112 = some (.iinc 1 (1), 115, 1, 0, 0, 0, 1, []) := (congrFun pm_M_keep 112).trans rfl
theorem rl_M_keep_115 : (am_pg z_M_keep).2 115 = some (.goto (-31), 118, 84, 0, 0, 0, 0, []) := (congrFun pm_M_keep 115).trans rfl
theorem rl_M_keep_118 : (am_pg z_M_keep).2 118 = some (.aload_n 0, 119, 0, 0, 0, 0, 0, []) := (congrFun pm_M_keep 118).trans rfl
theorem rl_M_keep_119 : (am_pg z_M_keep).2 119 = some (.getfield 56, 122, 9, 26, 0, 102, 0, []) := (congrFun pm_M_keep 119).trans rfl
theorem rl_M_keep_122 : (am_pg z_M_keep).2 122 = some (.aload_n 0, 123, 0, 0, 0, 0, 0, []) := (congrFun pm_M_keep 122).trans rfl
theorem rl_M_keep_123 : (am_pg z_M_keep).2 123 = some (.getfield 338, 126, 9, 23, 0, 99, 0, []) := (congrFun pm_M_keep 123).trans rfl
theorem rl_M_keep_126 : (am_pg z_M_keep).2 126 = some (.aload_n 0, 127, 0, 0, 0, 0, 0, []) := (congrFun pm_M_keep 126).trans rfl
theorem rl_M_keep_127 : (am_pg z_M_keep).2 127 = some (.getfield 244, 130, 9, 5, 0, 81, 0, []) := (congrFun pm_M_keep 127).trans rfl
theorem rl_M_keep_130 : (am_pg z_M_keep).2 130 = some (.bastore, 131, 0, 0, 0, 0, 0, []) := (congrFun pm_M_keep 130).trans rfl
theorem rl_M_keep_131 : (am_pg z_M_keep).2 131 = some (.aload_n 0, 132, 0, 0, 0, 0, 0, []) := (congrFun pm_M_keep 131).trans rfl
theorem rl_M_keep_132 : (am_pg z_M_keep).2 132 = some (.aload_n 0, 133, 0, 0, 0, 0, 0, []) := (congrFun pm_M_keep 132).trans rfl
theorem rl_M_keep_133 : (am_pg z_M_keep).2 133 = some (.getfield 338, 136, 9, 23, 0, 99, 0, []) := (congrFun pm_M_keep 133).trans rfl
theorem rl_M_keep_136 : (am_pg z_M_keep).2 136 = some (.iconst (1), 137, 0, 0, 0, 0, 1, []) := (congrFun pm_M_keep 136).trans rfl
theorem rl_M_keep_137 : (am_pg z_M_keep).2 137 = some (.iadd, 138, 0, 0, 0, 0, 0, []) := (congrFun pm_M_keep 137).trans rfl
theorem rl_M_keep_138 : (am_pg z_M_keep).2 138 = some (.putfield 338, 141, 9, 23, 0, 99, 0, []) := (congrFun pm_M_keep 138).trans rfl
theorem rl_M_keep_141 : (am_pg z_M_keep).2 141 = some (.aload_n 0, 142, 0, 0, 0, 0, 0, []) := (congrFun pm_M_keep 141).trans rfl
theorem rl_M_keep_142 : (am_pg z_M_keep).2 142 = some (.getfield 338, 145, 9, 23, 0, 99, 0, []) := (congrFun pm_M_keep 142).trans rfl
theorem rl_M_keep_145 : (am_pg z_M_keep).2 145 = some (.ireturn, 146, 0, 0, 0, 0, 0, []) := (congrFun pm_M_keep 145).trans rfl
theorem rl_J_weigh_0 : (am_pg z_J_weigh).2 0 = some (.aload_n 0, 1, 0, 0, 0, 0, 0, []) := (congrFun pm_J_weigh 0).trans rfl
theorem rl_J_weigh_1 : (am_pg z_J_weigh).2 1 = some (.invokevirtual 32, 4, 212, 0, 0, 101, 0, []) := (congrFun pm_J_weigh 1).trans rfl
theorem rl_J_weigh_4 : (am_pg z_J_weigh).2 4 = some (.aload_n 0, 5, 0, 0, 0, 0, 0, []) := (congrFun pm_J_weigh 4).trans rfl
theorem rl_J_weigh_5 : (am_pg z_J_weigh).2 5 = some (.aload_n 1, 6, 1, 0, 0, 0, 0, []) := (congrFun pm_J_weigh 5).trans rfl
theorem rl_J_weigh_6 : (am_pg z_J_weigh).2 6 = some (.invokevirtual 35, 9, 211, 1, 0, 104, 0, []) := (congrFun pm_J_weigh 6).trans rfl
theorem rl_J_weigh_9 : (am_pg z_J_weigh).2 9 = some (.return_, 10, 0, 0, 0, 0, 0, []) := (congrFun pm_J_weigh 9).trans rfl
theorem rl_J_weighPlaces_0 : (am_pg z_J_weighPlaces).2 0 = some (.aload_n 0, 1, 0, 0, 0, 0, 0, []) := (congrFun pm_J_weighPlaces 0).trans rfl
theorem rl_J_weighPlaces_1 : (am_pg z_J_weighPlaces).2 1 = some (.getfield 9, 4, 0, 2, 0, 57, 0, []) := (congrFun pm_J_weighPlaces 1).trans rfl
theorem rl_J_weighPlaces_4 : (am_pg z_J_weighPlaces).2 4 = some (.aload_n 1, 5, 1, 0, 0, 0, 0, []) := (congrFun pm_J_weighPlaces 4).trans rfl
theorem rl_J_weighPlaces_5 : (am_pg z_J_weighPlaces).2 5 = some (.invokestatic 39, 8, 213, 2, 0, 102, 0, []) := (congrFun pm_J_weighPlaces 5).trans rfl
theorem rl_J_weighPlaces_8 : (am_pg z_J_weighPlaces).2 8 = some (.return_, 9, 0, 0, 0, 0, 0, []) := (congrFun pm_J_weighPlaces 8).trans rfl
theorem rl_J_weighHomes_0 : (am_pg z_J_weighHomes).2 0 = some (.aload_n 0, 1, 0, 0, 0, 0, 0, []) := (congrFun pm_J_weighHomes 0).trans rfl
theorem rl_J_weighHomes_1 : (am_pg z_J_weighHomes).2 1 = some (.getfield 18, 4, 0, 4, 0, 60, 0, []) := (congrFun pm_J_weighHomes 1).trans rfl
theorem rl_J_weighHomes_4 : (am_pg z_J_weighHomes).2 4 = some (.aload_n 0, 5, 0, 0, 0, 0, 0, []) := (congrFun pm_J_weighHomes 4).trans rfl
theorem rl_J_weighHomes_5 : (am_pg z_J_weighHomes).2 5 = some (.getfield 21, 8, 0, 0, 0, 55, 0, []) := (congrFun pm_J_weighHomes 5).trans rfl
theorem rl_J_weighHomes_8 : (am_pg z_J_weighHomes).2 8 = some (.getfield 43, 11, 6, 1, 0, 26, 0, []) := (congrFun pm_J_weighHomes 8).trans rfl
theorem rl_J_weighHomes_11 : (am_pg z_J_weighHomes).2 11 = some (.invokestatic 39, 14, 213, 2, 0, 102, 0, []) := (congrFun pm_J_weighHomes 11).trans rfl
theorem rl_J_weighHomes_14 : (am_pg z_J_weighHomes).2 14 = some (.aload_n 0, 15, 0, 0, 0, 0, 0, []) := (congrFun pm_J_weighHomes 14).trans rfl
theorem rl_J_weighHomes_15 : (am_pg z_J_weighHomes).2 15 = some (.getfield 15, 18, 0, 3, 0, 59, 0, []) := (congrFun pm_J_weighHomes 15).trans rfl
theorem rl_J_weighHomes_18 : (am_pg z_J_weighHomes).2 18 = some (.iconst (0), 19, 0, 0, 0, 0, 0, []) := (congrFun pm_J_weighHomes 18).trans rfl
theorem rl_J_weighHomes_19 : (am_pg z_J_weighHomes).2 19 = some (.invokestatic 47, 22, 287, 2, 0, 103, 0, []) := (congrFun pm_J_weighHomes 19).trans rfl
theorem rl_J_weighHomes_22 : (am_pg z_J_weighHomes).2 22 = some (.iconst (0), 23, 0, 0, 0, 0, 0, []) := (congrFun pm_J_weighHomes 22).trans rfl
theorem rl_J_weighHomes_23 : (am_pg z_J_weighHomes).2 23 = some (.istore_n 1, 24, 1, 0, 0, 0, 0, []) := (congrFun pm_J_weighHomes 23).trans rfl
theorem rl_J_weighHomes_24 : (am_pg z_J_weighHomes).2 24 = some (.iload_n 1, 25, 1, 0, 0, 0, 0, []) := (congrFun pm_J_weighHomes 24).trans rfl
theorem rl_J_weighHomes_25 : (am_pg z_J_weighHomes).2 25 = some (.sipush (1080), 28, 0, 0, 0, 0, 1080, []) := (congrFun pm_J_weighHomes 25).trans rfl
theorem rl_J_weighHomes_28 : (am_pg z_J_weighHomes).2 28 = some (.if_icmp .ge (65), 31, 93, 0, 0, 0, 0, []) := (congrFun pm_J_weighHomes 28).trans rfl
theorem rl_J_weighHomes_31 : (am_pg z_J_weighHomes).2 31 = some (.iload_n 1, 32, 1, 0, 0, 0, 0, []) := (congrFun pm_J_weighHomes 31).trans rfl
theorem rl_J_weighHomes_32 : (am_pg z_J_weighHomes).2 32 = some (.sipush (360), 35, 0, 0, 0, 0, 360, []) := (congrFun pm_J_weighHomes 32).trans rfl
theorem rl_J_weighHomes_35 : (am_pg z_J_weighHomes).2 35 = some (.idiv, 36, 0, 0, 0, 0, 0, []) := (congrFun pm_J_weighHomes 35).trans rfl
theorem rl_J_weighHomes_36 : (am_pg z_J_weighHomes).2 36 = some (.istore_n 2, 37, 2, 0, 0, 0, 0, []) := (congrFun pm_J_weighHomes 36).trans rfl
theorem rl_J_weighHomes_37 : (am_pg z_J_weighHomes).2 37 = some (.aload_n 0, 38, 0, 0, 0, 0, 0, []) := (congrFun pm_J_weighHomes 37).trans rfl
theorem rl_J_weighHomes_38 : (am_pg z_J_weighHomes).2 38 = some (.getfield 21, 41, 0, 0, 0, 55, 0, []) := (congrFun pm_J_weighHomes 38).trans rfl
theorem rl_J_weighHomes_41 : (am_pg z_J_weighHomes).2 41 = some (.getfield 53, 44, 6, 3, 0, 31, 0, []) := (congrFun pm_J_weighHomes 41).trans rfl
theorem rl_J_weighHomes_44 : (am_pg z_J_weighHomes).2 44 = some (.iload_n 1, 45, 1, 0, 0, 0, 0, []) := (congrFun pm_J_weighHomes 44).trans rfl
theorem rl_J_weighHomes_45 : (am_pg z_J_weighHomes).2 45 = some (.iaload, 46, 0, 0, 0, 0, 0, []) := (congrFun pm_J_weighHomes 45).trans rfl
theorem rl_J_weighHomes_46 : (am_pg z_J_weighHomes).2 46 = some (.istore_n 3, 47, 3, 0, 0, 0, 0, []) := (congrFun pm_J_weighHomes 46).trans rfl
theorem rl_J_weighHomes_47 : (am_pg z_J_weighHomes).2 47 = some (.iconst (0), 48, 0, 0, 0, 0, 0, []) := (congrFun pm_J_weighHomes 47).trans rfl
theorem rl_J_weighHomes_48 : (am_pg z_J_weighHomes).2 48 = some (.istore 4, 50, 4, 0, 0, 0, 0, []) := (congrFun pm_J_weighHomes 48).trans rfl
theorem rl_J_weighHomes_50 : (am_pg z_J_weighHomes).2 50 = some (.iload 4, 52, 4, 0, 0, 0, 0, []) := (congrFun pm_J_weighHomes 50).trans rfl
theorem rl_J_weighHomes_52 : (am_pg z_J_weighHomes).2 52 = some (.bipush (6), 54, 0, 0, 0, 0, 6, []) := (congrFun pm_J_weighHomes 52).trans rfl
theorem rl_J_weighHomes_54 : (am_pg z_J_weighHomes).2 54 = some (.if_icmp .ge (33), 57, 87, 0, 0, 0, 0, []) := (congrFun pm_J_weighHomes 54).trans rfl
theorem rl_J_weighHomes_57 : (am_pg z_J_weighHomes).2 57 = some (.iload_n 3, 58, 3, 0, 0, 0, 0, []) := (congrFun pm_J_weighHomes 57).trans rfl
theorem rl_J_weighHomes_58 : (am_pg z_J_weighHomes).2 58 = some (.ifCond .eq (29), 61, 87, 0, 0, 0, 0, []) := (congrFun pm_J_weighHomes 58).trans rfl
theorem rl_J_weighHomes_61 : (am_pg z_J_weighHomes).2 61 = some (.aload_n 0, 62, 0, 0, 0, 0, 0, []) := (congrFun pm_J_weighHomes 61).trans rfl
theorem rl_J_weighHomes_62 : (am_pg z_J_weighHomes).2 62 = some (.getfield 15, 65, 0, 3, 0, 59, 0, []) := (congrFun pm_J_weighHomes 62).trans rfl
theorem rl_J_weighHomes_65 : (am_pg z_J_weighHomes).2 65 = some (.iload 4, 67, 4, 0, 0, 0, 0, []) := (congrFun pm_J_weighHomes 65).trans rfl
theorem rl_J_weighHomes_67 : (am_pg z_J_weighHomes).2 67 = some (.iconst (3), 68, 0, 0, 0, 0, 3, []) := (congrFun pm_J_weighHomes 67).trans rfl
theorem rl_J_weighHomes_68 : (am_pg z_J_weighHomes).2 68 = some (.imul, 69, 0, 0, 0, 0, 0, []) := (congrFun pm_J_weighHomes 68).trans rfl
theorem rl_J_weighHomes_69 : (am_pg z_J_weighHomes).2 69 = some (.iload_n 2, 70, 2, 0, 0, 0, 0, []) := (congrFun pm_J_weighHomes 69).trans rfl
theorem rl_J_weighHomes_70 : (am_pg z_J_weighHomes).2 70 = some (.iadd, 71, 0, 0, 0, 0, 0, []) := (congrFun pm_J_weighHomes 70).trans rfl
theorem rl_J_weighHomes_71 : (am_pg z_J_weighHomes).2 71 = some (.dup2, 72, 0, 0, 0, 0, 0, []) := (congrFun pm_J_weighHomes 71).trans rfl
theorem rl_J_weighHomes_72 : (am_pg z_J_weighHomes).2 72 = some (.iaload, 73, 0, 0, 0, 0, 0, []) := (congrFun pm_J_weighHomes 72).trans rfl
theorem rl_J_weighHomes_73 : (am_pg z_J_weighHomes).2 73 = some (.iload_n 3, 74, 3, 0, 0, 0, 0, []) := (congrFun pm_J_weighHomes 73).trans rfl
theorem rl_J_weighHomes_74 : (am_pg z_J_weighHomes).2 74 = some (.iload 4, 76, 4, 0, 0, 0, 0, []) := (congrFun pm_J_weighHomes 74).trans rfl
theorem rl_J_weighHomes_76 : (am_pg z_J_weighHomes).2 76 = some (.ishr, 77, 0, 0, 0, 0, 0, []) := (congrFun pm_J_weighHomes 76).trans rfl
theorem rl_J_weighHomes_77 : (am_pg z_J_weighHomes).2 77 = some (.iconst (1), 78, 0, 0, 0, 0, 1, []) := (congrFun pm_J_weighHomes 77).trans rfl
theorem rl_J_weighHomes_78 : (am_pg z_J_weighHomes).2 78 = some (.iand, 79, 0, 0, 0, 0, 0, []) := (congrFun pm_J_weighHomes 78).trans rfl
theorem rl_J_weighHomes_79 : (am_pg z_J_weighHomes).2 79 = some (.iadd, 80, 0, 0, 0, 0, 0, []) := (congrFun pm_J_weighHomes 79).trans rfl
theorem rl_J_weighHomes_80 : (am_pg z_J_weighHomes).2 80 = some (.iastore, 81, 0, 0, 0, 0, 0, []) := (congrFun pm_J_weighHomes 80).trans rfl
theorem rl_J_weighHomes_81 : (am_pg z_J_weighHomes).2 81 = some (.iinc 4 (1), 84, 4, 0, 0, 0, 1, []) := (congrFun pm_J_weighHomes 81).trans rfl
theorem rl_J_weighHomes_84 : (am_pg z_J_weighHomes).2 84 = some (.goto (-34), 87, 50, 0, 0, 0, 0, []) := (congrFun pm_J_weighHomes 84).trans rfl
theorem rl_J_weighHomes_87 : (am_pg z_J_weighHomes).2 87 = some (.iinc 1 (1), 90, 1, 0, 0, 0, 1, []) := (congrFun pm_J_weighHomes 87).trans rfl
theorem rl_J_weighHomes_90 : (am_pg z_J_weighHomes).2 90 = some (.goto (-66), 93, 24, 0, 0, 0, 0, []) := (congrFun pm_J_weighHomes 90).trans rfl
theorem rl_J_weighHomes_93 : (am_pg z_J_weighHomes).2 93 = some (.return_, 94, 0, 0, 0, 0, 0, []) := (congrFun pm_J_weighHomes 93).trans rfl
theorem rl_J_countInto_0 : (am_pg z_J_countInto).2 0 = some (.aload_n 0, 1, 0, 0, 0, 0, 0, []) := (congrFun pm_J_countInto 0).trans rfl
theorem rl_J_countInto_1 : (am_pg z_J_countInto).2 1 = some (.iconst (0), 2, 0, 0, 0, 0, 0, []) := (congrFun pm_J_countInto 1).trans rfl
theorem rl_J_countInto_2 : (am_pg z_J_countInto).2 2 = some (.invokestatic 47, 5, 287, 2, 0, 103, 0, []) := (congrFun pm_J_countInto 2).trans rfl
theorem rl_J_countInto_5 : (am_pg z_J_countInto).2 5 = some (.iconst (0), 6, 0, 0, 0, 0, 0, []) := (congrFun pm_J_countInto 5).trans rfl
theorem rl_J_countInto_6 : (am_pg z_J_countInto).2 6 = some (.istore_n 2, 7, 2, 0, 0, 0, 0, []) := (congrFun pm_J_countInto 6).trans rfl
theorem rl_J_countInto_7 : (am_pg z_J_countInto).2 7 = some (.iload_n 2, 8, 2, 0, 0, 0, 0, []) := (congrFun pm_J_countInto 7).trans rfl
theorem rl_J_countInto_8 : (am_pg z_J_countInto).2 8 = some (.sipush (1080), 11, 0, 0, 0, 0, 1080, []) := (congrFun pm_J_countInto 8).trans rfl
theorem rl_J_countInto_11 : (am_pg z_J_countInto).2 11 = some (.if_icmp .ge (41), 14, 52, 0, 0, 0, 0, []) := (congrFun pm_J_countInto 11).trans rfl
theorem rl_J_countInto_14 : (am_pg z_J_countInto).2 14 = some (.aload_n 1, 15, 1, 0, 0, 0, 0, []) := (congrFun pm_J_countInto 14).trans rfl
theorem rl_J_countInto_15 : (am_pg z_J_countInto).2 15 = some (.getfield 56, 18, 1, 0, 0, 2, 0, []) := (congrFun pm_J_countInto 15).trans rfl
theorem rl_J_countInto_18 : (am_pg z_J_countInto).2 18 = some (.iload_n 2, 19, 2, 0, 0, 0, 0, []) := (congrFun pm_J_countInto 18).trans rfl
theorem rl_J_countInto_19 : (am_pg z_J_countInto).2 19 = some (.iaload, 20, 0, 0, 0, 0, 0, []) := (congrFun pm_J_countInto 19).trans rfl
theorem rl_J_countInto_20 : (am_pg z_J_countInto).2 20 = some (.istore_n 3, 21, 3, 0, 0, 0, 0, []) := (congrFun pm_J_countInto 20).trans rfl
theorem rl_J_countInto_21 : (am_pg z_J_countInto).2 21 = some (.iload_n 3, 22, 3, 0, 0, 0, 0, []) := (congrFun pm_J_countInto 21).trans rfl
theorem rl_J_countInto_22 : (am_pg z_J_countInto).2 22 = some (.ifCond .lt (24), 25, 46, 0, 0, 0, 0, []) := (congrFun pm_J_countInto 22).trans rfl
theorem rl_J_countInto_25 : (am_pg z_J_countInto).2 25 = some (.iload_n 3, 26, 3, 0, 0, 0, 0, []) := (congrFun pm_J_countInto 25).trans rfl
theorem rl_J_countInto_26 : (am_pg z_J_countInto).2 26 = some (.bipush (6), 28, 0, 0, 0, 0, 6, []) := (congrFun pm_J_countInto 26).trans rfl
theorem rl_J_countInto_28 : (am_pg z_J_countInto).2 28 = some (.if_icmp .ge (18), 31, 46, 0, 0, 0, 0, []) := (congrFun pm_J_countInto 28).trans rfl
theorem rl_J_countInto_31 : (am_pg z_J_countInto).2 31 = some (.aload_n 0, 32, 0, 0, 0, 0, 0, []) := (congrFun pm_J_countInto 31).trans rfl
theorem rl_J_countInto_32 : (am_pg z_J_countInto).2 32 = some (.iload_n 3, 33, 3, 0, 0, 0, 0, []) := (congrFun pm_J_countInto 32).trans rfl
theorem rl_J_countInto_33 : (am_pg z_J_countInto).2 33 = some (.iconst (3), 34, 0, 0, 0, 0, 3, []) := (congrFun pm_J_countInto 33).trans rfl
theorem rl_J_countInto_34 : (am_pg z_J_countInto).2 34 = some (.imul, 35, 0, 0, 0, 0, 0, []) := (congrFun pm_J_countInto 34).trans rfl
theorem rl_J_countInto_35 : (am_pg z_J_countInto).2 35 = some (.iload_n 2, 36, 2, 0, 0, 0, 0, []) := (congrFun pm_J_countInto 35).trans rfl
theorem rl_J_countInto_36 : (am_pg z_J_countInto).2 36 = some (.sipush (360), 39, 0, 0, 0, 0, 360, []) := (congrFun pm_J_countInto 36).trans rfl
theorem rl_J_countInto_39 : (am_pg z_J_countInto).2 39 = some (.idiv, 40, 0, 0, 0, 0, 0, []) := (congrFun pm_J_countInto 39).trans rfl
theorem rl_J_countInto_40 : (am_pg z_J_countInto).2 40 = some (.iadd, 41, 0, 0, 0, 0, 0, []) := (congrFun pm_J_countInto 40).trans rfl
theorem rl_J_countInto_41 : (am_pg z_J_countInto).2 41 = some (.dup2, 42, 0, 0, 0, 0, 0, []) := (congrFun pm_J_countInto 41).trans rfl
theorem rl_J_countInto_42 : (am_pg z_J_countInto).2 42 = some (.iaload, 43, 0, 0, 0, 0, 0, []) := (congrFun pm_J_countInto 42).trans rfl
theorem rl_J_countInto_43 : (am_pg z_J_countInto).2 43 = some (.iconst (1), 44, 0, 0, 0, 0, 1, []) := (congrFun pm_J_countInto 43).trans rfl
theorem rl_J_countInto_44 : (am_pg z_J_countInto).2 44 = some (.iadd, 45, 0, 0, 0, 0, 0, []) := (congrFun pm_J_countInto 44).trans rfl
theorem rl_J_countInto_45 : (am_pg z_J_countInto).2 45 = some (.iastore, 46, 0, 0, 0, 0, 0, []) := (congrFun pm_J_countInto 45).trans rfl
theorem rl_J_countInto_46 : (am_pg z_J_countInto).2 46 = some (.iinc 2 (1), 49, 2, 0, 0, 0, 1, []) := (congrFun pm_J_countInto 46).trans rfl
theorem rl_J_countInto_49 : (am_pg z_J_countInto).2 49 = some (.goto (-42), 52, 7, 0, 0, 0, 0, []) := (congrFun pm_J_countInto 49).trans rfl
theorem rl_J_countInto_52 : (am_pg z_J_countInto).2 52 = some (.return_, 53, 0, 0, 0, 0, 0, []) := (congrFun pm_J_countInto 52).trans rfl
theorem rl_J_greatest_0 : (am_pg z_J_greatest).2 0 = some (.iload_n 1, 1, 1, 0, 0, 0, 0, []) := (congrFun pm_J_greatest 0).trans rfl
theorem rl_J_greatest_1 : (am_pg z_J_greatest).2 1 = some (.iconst (3), 2, 0, 0, 0, 0, 3, []) := (congrFun pm_J_greatest 1).trans rfl
theorem rl_J_greatest_2 : (am_pg z_J_greatest).2 2 = some (.imul, 3, 0, 0, 0, 0, 0, []) := (congrFun pm_J_greatest 2).trans rfl
theorem rl_J_greatest_3 : (am_pg z_J_greatest).2 3 = some (.iload_n 3, 4, 3, 0, 0, 0, 0, []) := (congrFun pm_J_greatest 3).trans rfl
theorem rl_J_greatest_4 : (am_pg z_J_greatest).2 4 = some (.iadd, 5, 0, 0, 0, 0, 0, []) := (congrFun pm_J_greatest 4).trans rfl
theorem rl_J_greatest_5 : (am_pg z_J_greatest).2 5 = some (.istore 4, 7, 4, 0, 0, 0, 0, []) := (congrFun pm_J_greatest 5).trans rfl
theorem rl_J_greatest_7 : (am_pg z_J_greatest).2 7 = some (.aload_n 0, 8, 0, 0, 0, 0, 0, []) := (congrFun pm_J_greatest 7).trans rfl
theorem rl_J_greatest_8 : (am_pg z_J_greatest).2 8 = some (.getfield 9, 11, 0, 2, 0, 57, 0, []) := (congrFun pm_J_greatest 8).trans rfl
theorem rl_J_greatest_11 : (am_pg z_J_greatest).2 11 = some (.iload 4, 13, 4, 0, 0, 0, 0, []) := (congrFun pm_J_greatest 11).trans rfl
theorem rl_J_greatest_13 : (am_pg z_J_greatest).2 13 = some (.iaload, 14, 0, 0, 0, 0, 0, []) := (congrFun pm_J_greatest 13).trans rfl
theorem rl_J_greatest_14 : (am_pg z_J_greatest).2 14 = some (.istore 5, 16, 5, 0, 0, 0, 0, []) := (congrFun pm_J_greatest 14).trans rfl
theorem rl_J_greatest_16 : (am_pg z_J_greatest).2 16 = some (.iload_n 2, 17, 2, 0, 0, 0, 0, []) := (congrFun pm_J_greatest 16).trans rfl
theorem rl_J_greatest_17 : (am_pg z_J_greatest).2 17 = some (.ifCond .ne (6), 20, 23, 0, 0, 0, 0, []) := (congrFun pm_J_greatest 17).trans rfl
theorem rl_J_greatest_20 : (am_pg z_J_greatest).2 20 = some (.iload 5, 22, 5, 0, 0, 0, 0, []) := (congrFun pm_J_greatest 20).trans rfl
theorem rl_J_greatest_22 : (am_pg z_J_greatest).2 22 = some (.ireturn, 23, 0, 0, 0, 0, 0, []) := (congrFun pm_J_greatest 22).trans rfl
theorem rl_J_greatest_23 : (am_pg z_J_greatest).2 23 = some (.iload_n 2, 24, 2, 0, 0, 0, 0, []) := (congrFun pm_J_greatest 23).trans rfl
theorem rl_J_greatest_24 : (am_pg z_J_greatest).2 24 = some (.iconst (1), 25, 0, 0, 0, 0, 1, []) := (congrFun pm_J_greatest 24).trans rfl
theorem rl_J_greatest_25 : (am_pg z_J_greatest).2 25 = some (.if_icmp .eq (20), 28, 45, 0, 0, 0, 0, []) := (congrFun pm_J_greatest 25).trans rfl
theorem rl_J_greatest_28 : (am_pg z_J_greatest).2 28 = some (.iload 5, 30, 5, 0, 0, 0, 0, []) := (congrFun pm_J_greatest 28).trans rfl
theorem rl_J_greatest_30 : (am_pg z_J_greatest).2 30 = some (.ifCond .ne (7), 33, 37, 0, 0, 0, 0, []) := (congrFun pm_J_greatest 30).trans rfl
theorem rl_J_greatest_33 : (am_pg z_J_greatest).2 33 = some (.iconst (0), 34, 0, 0, 0, 0, 0, []) := (congrFun pm_J_greatest 33).trans rfl
theorem rl_J_greatest_34 : (am_pg z_J_greatest).2 34 = some (.goto (10), 37, 44, 0, 0, 0, 0, []) := (congrFun pm_J_greatest 34).trans rfl
theorem rl_J_greatest_37 : (am_pg z_J_greatest).2 37 = some (.aload_n 0, 38, 0, 0, 0, 0, 0, []) := (congrFun pm_J_greatest 37).trans rfl
theorem rl_J_greatest_38 : (am_pg z_J_greatest).2 38 = some (.getfield 15, 41, 0, 3, 0, 59, 0, []) := (congrFun pm_J_greatest 38).trans rfl
theorem rl_J_greatest_41 : (am_pg z_J_greatest).2 41 = some (.iload 4, 43, 4, 0, 0, 0, 0, []) := (congrFun pm_J_greatest 41).trans rfl
theorem rl_J_greatest_43 : (am_pg z_J_greatest).2 43 = some (.iaload, 44, 0, 0, 0, 0, 0, []) := (congrFun pm_J_greatest 43).trans rfl
theorem rl_J_greatest_44 : (am_pg z_J_greatest).2 44 = some (.ireturn, 45, 0, 0, 0, 0, 0, []) := (congrFun pm_J_greatest 44).trans rfl
theorem rl_J_greatest_45 : (am_pg z_J_greatest).2 45 = some (.iload 5, 47, 5, 0, 0, 0, 0, []) := (congrFun pm_J_greatest 45).trans rfl
theorem rl_J_greatest_47 : (am_pg z_J_greatest).2 47 = some (.bipush (31), 49, 0, 0, 0, 0, 31, []) := (congrFun pm_J_greatest 47).trans rfl
theorem rl_J_greatest_49 : (am_pg z_J_greatest).2 49 = some (.if_icmp .ge (5), 52, 54, 0, 0, 0, 0, []) := (congrFun pm_J_greatest 49).trans rfl
theorem rl_J_greatest_52 : (am_pg z_J_greatest).2 52 = some (.iconst (0), 53, 0, 0, 0, 0, 0, []) := (congrFun pm_J_greatest 52).trans rfl
theorem rl_J_greatest_53 : (am_pg z_J_greatest).2 53 = some (.ireturn, 54, 0, 0, 0, 0, 0, []) := (congrFun pm_J_greatest 53).trans rfl
theorem rl_J_greatest_54 : (am_pg z_J_greatest).2 54 = some (.bipush (6), 56, 0, 0, 0, 0, 6, []) := (congrFun pm_J_greatest 54).trans rfl
theorem rl_J_greatest_56 : (am_pg z_J_greatest).2 56 = some (.iload 5, 58, 5, 0, 0, 0, 0, []) := (congrFun pm_J_greatest 56).trans rfl
theorem rl_J_greatest_58 : (am_pg z_J_greatest).2 58 = some (.imul, 59, 0, 0, 0, 0, 0, []) := (congrFun pm_J_greatest 58).trans rfl
theorem rl_J_greatest_59 : (am_pg z_J_greatest).2 59 = some (.istore 6, 61, 6, 0, 0, 0, 0, []) := (congrFun pm_J_greatest 59).trans rfl
theorem rl_J_greatest_61 : (am_pg z_J_greatest).2 61 = some (.iload 6, 63, 6, 0, 0, 0, 0, []) := (congrFun pm_J_greatest 61).trans rfl
theorem rl_J_greatest_63 : (am_pg z_J_greatest).2 63 = some (.iload_n 3, 64, 3, 0, 0, 0, 0, []) := (congrFun pm_J_greatest 63).trans rfl
theorem rl_J_greatest_64 : (am_pg z_J_greatest).2 64 = some (.ifCond .le (17), 67, 81, 0, 0, 0, 0, []) := (congrFun pm_J_greatest 64).trans rfl
theorem rl_J_greatest_67 : (am_pg z_J_greatest).2 67 = some (.iconst (2), 68, 0, 0, 0, 0, 2, []) := (congrFun pm_J_greatest 67).trans rfl
theorem rl_J_greatest_68 : (am_pg z_J_greatest).2 68 = some (.aload_n 0, 69, 0, 0, 0, 0, 0, []) := (congrFun pm_J_greatest 68).trans rfl
theorem rl_J_greatest_69 : (am_pg z_J_greatest).2 69 = some (.getfield 9, 72, 0, 2, 0, 57, 0, []) := (congrFun pm_J_greatest 69).trans rfl
theorem rl_J_greatest_72 : (am_pg z_J_greatest).2 72 = some (.iload 4, 74, 4, 0, 0, 0, 0, []) := (congrFun pm_J_greatest 72).trans rfl
theorem rl_J_greatest_74 : (am_pg z_J_greatest).2 74 = some (.iconst (1), 75, 0, 0, 0, 0, 1, []) := (congrFun pm_J_greatest 74).trans rfl
theorem rl_J_greatest_75 : (am_pg z_J_greatest).2 75 = some (.isub, 76, 0, 0, 0, 0, 0, []) := (congrFun pm_J_greatest 75).trans rfl
theorem rl_J_greatest_76 : (am_pg z_J_greatest).2 76 = some (.iaload, 77, 0, 0, 0, 0, 0, []) := (congrFun pm_J_greatest 76).trans rfl
theorem rl_J_greatest_77 : (am_pg z_J_greatest).2 77 = some (.imul, 78, 0, 0, 0, 0, 0, []) := (congrFun pm_J_greatest 77).trans rfl
theorem rl_J_greatest_78 : (am_pg z_J_greatest).2 78 = some (.goto (4), 81, 82, 0, 0, 0, 0, []) := (congrFun pm_J_greatest 78).trans rfl
theorem rl_J_greatest_81 : (am_pg z_J_greatest).2 81 = some (.iconst (0), 82, 0, 0, 0, 0, 0, []) := (congrFun pm_J_greatest 81).trans rfl
theorem rl_J_greatest_82 : (am_pg z_J_greatest).2 82 = some (.iadd, 83, 0, 0, 0, 0, 0, []) := (congrFun pm_J_greatest 82).trans rfl
theorem rl_J_greatest_83 : (am_pg z_J_greatest).2 83 = some (.istore 6, 85, 6, 0, 0, 0, 0, []) := (congrFun pm_J_greatest 83).trans rfl
theorem rl_J_greatest_85 : (am_pg z_J_greatest).2 85 = some (.iload 6, 87, 6, 0, 0, 0, 0, []) := (congrFun pm_J_greatest 85).trans rfl
theorem rl_J_greatest_87 : (am_pg z_J_greatest).2 87 = some (.iload_n 3, 88, 3, 0, 0, 0, 0, []) := (congrFun pm_J_greatest 87).trans rfl
theorem rl_J_greatest_88 : (am_pg z_J_greatest).2 88 = some (.iconst (1), 89, 0, 0, 0, 0, 1, []) := (congrFun pm_J_greatest 88).trans rfl
theorem rl_J_greatest_89 : (am_pg z_J_greatest).2 89 = some (.if_icmp .le (15), 92, 104, 0, 0, 0, 0, []) := (congrFun pm_J_greatest 89).trans rfl
theorem rl_J_greatest_92 : (am_pg z_J_greatest).2 92 = some (.aload_n 0, 93, 0, 0, 0, 0, 0, []) := (congrFun pm_J_greatest 92).trans rfl
theorem rl_J_greatest_93 : (am_pg z_J_greatest).2 93 = some (.getfield 9, 96, 0, 2, 0, 57, 0, []) := (congrFun pm_J_greatest 93).trans rfl
theorem rl_J_greatest_96 : (am_pg z_J_greatest).2 96 = some (.iload 4, 98, 4, 0, 0, 0, 0, []) := (congrFun pm_J_greatest 96).trans rfl
theorem rl_J_greatest_98 : (am_pg z_J_greatest).2 98 = some (.iconst (2), 99, 0, 0, 0, 0, 2, []) := (congrFun pm_J_greatest 98).trans rfl
theorem rl_J_greatest_99 : (am_pg z_J_greatest).2 99 = some (.isub, 100, 0, 0, 0, 0, 0, []) := (congrFun pm_J_greatest 99).trans rfl
theorem rl_J_greatest_100 : (am_pg z_J_greatest).2 100 = some (.iaload, 101, 0, 0, 0, 0, 0, []) := (congrFun pm_J_greatest 100).trans rfl
theorem rl_J_greatest_101 : (am_pg z_J_greatest).2 101 = some (.goto (4), 104, 105, 0, 0, 0, 0, []) := (congrFun pm_J_greatest 101).trans rfl
theorem rl_J_greatest_104 : (am_pg z_J_greatest).2 104 = some (.iconst (0), 105, 0, 0, 0, 0, 0, []) := (congrFun pm_J_greatest 104).trans rfl
theorem rl_J_greatest_105 : (am_pg z_J_greatest).2 105 = some (.iadd, 106, 0, 0, 0, 0, 0, []) := (congrFun pm_J_greatest 105).trans rfl
theorem rl_J_greatest_106 : (am_pg z_J_greatest).2 106 = some (.istore 6, 108, 6, 0, 0, 0, 0, []) := (congrFun pm_J_greatest 106).trans rfl
theorem rl_J_greatest_108 : (am_pg z_J_greatest).2 108 = some (.iload 6, 110, 6, 0, 0, 0, 0, []) := (congrFun pm_J_greatest 108).trans rfl
theorem rl_J_greatest_110 : (am_pg z_J_greatest).2 110 = some (.sipush (2160), 113, 0, 0, 0, 0, 2160, []) := (congrFun pm_J_greatest 110).trans rfl
theorem rl_J_greatest_113 : (am_pg z_J_greatest).2 113 = some (.if_icmp .lt (9), 116, 122, 0, 0, 0, 0, []) := (congrFun pm_J_greatest 113).trans rfl
theorem rl_J_greatest_116 : (am_pg z_J_greatest).2 116 = some (.sipush (360), 119, 0, 0, 0, 0, 360, []) := (congrFun pm_J_greatest 116).trans rfl
theorem rl_J_greatest_119 : (am_pg z_J_greatest).2 119 = some (.goto (8), 122, 127, 0, 0, 0, 0, []) := (congrFun pm_J_greatest 119).trans rfl
theorem rl_J_greatest_122 : (am_pg z_J_greatest).2 122 = some (.iload 6, 124, 6, 0, 0, 0, 0, []) := (congrFun pm_J_greatest 122).trans rfl
theorem rl_J_greatest_124 : (am_pg z_J_greatest).2 124 = some (.bipush (6), 126, 0, 0, 0, 0, 6, []) := (congrFun pm_J_greatest 124).trans rfl
theorem rl_J_greatest_126 : (am_pg z_J_greatest).2 126 = some (.idiv, 127, 0, 0, 0, 0, 0, []) := (congrFun pm_J_greatest 126).trans rfl
theorem rl_J_greatest_127 : (am_pg z_J_greatest).2 127 = some (.ireturn, 128, 0, 0, 0, 0, 0, []) := (congrFun pm_J_greatest 127).trans rfl
theorem rl_J_holdingBits_0 : (am_pg z_J_holdingBits).2 0 = some (.iconst (0), 1, 0, 0, 0, 0, 0, []) := (congrFun pm_J_holdingBits 0).trans rfl
theorem rl_J_holdingBits_1 : (am_pg z_J_holdingBits).2 1 = some (.istore_n 3, 2, 3, 0, 0, 0, 0, []) := (congrFun pm_J_holdingBits 1).trans rfl
theorem rl_J_holdingBits_2 : (am_pg z_J_holdingBits).2 2 = some (.iconst (0), 3, 0, 0, 0, 0, 0, []) := (congrFun pm_J_holdingBits 2).trans rfl
theorem rl_J_holdingBits_3 : (am_pg z_J_holdingBits).2 3 = some (.istore 4, 5, 4, 0, 0, 0, 0, []) := (congrFun pm_J_holdingBits 3).trans rfl
theorem rl_J_holdingBits_5 : (am_pg z_J_holdingBits).2 5 = some (.iload 4, 7, 4, 0, 0, 0, 0, []) := (congrFun pm_J_holdingBits 5).trans rfl
theorem rl_J_holdingBits_7 : (am_pg z_J_holdingBits).2 7 = some (.iconst (3), 8, 0, 0, 0, 0, 3, []) := (congrFun pm_J_holdingBits 7).trans rfl
theorem rl_J_holdingBits_8 : (am_pg z_J_holdingBits).2 8 = some (.if_icmp .ge (46), 11, 54, 0, 0, 0, 0, []) := (congrFun pm_J_holdingBits 8).trans rfl
theorem rl_J_holdingBits_11 : (am_pg z_J_holdingBits).2 11 = some (.aload_n 0, 12, 0, 0, 0, 0, 0, []) := (congrFun pm_J_holdingBits 11).trans rfl
theorem rl_J_holdingBits_12 : (am_pg z_J_holdingBits).2 12 = some (.getfield 31, 15, 0, 1, 0, 56, 0, []) := (congrFun pm_J_holdingBits 12).trans rfl
theorem rl_J_holdingBits_15 : (am_pg z_J_holdingBits).2 15 = some (.iload_n 1, 16, 1, 0, 0, 0, 0, []) := (congrFun pm_J_holdingBits 15).trans rfl
theorem rl_J_holdingBits_16 : (am_pg z_J_holdingBits).2 16 = some (.iload 4, 18, 4, 0, 0, 0, 0, []) := (congrFun pm_J_holdingBits 16).trans rfl
theorem rl_J_holdingBits_18 : (am_pg z_J_holdingBits).2 18 = some (.invokevirtual 61, 21, 268, 2, 4, 121, 0, []) := (congrFun pm_J_holdingBits 18).trans rfl
theorem rl_J_holdingBits_21 : (am_pg z_J_holdingBits).2 21 = some (.istore 5, 23, 5, 0, 0, 0, 0, []) := (congrFun pm_J_holdingBits 21).trans rfl
theorem rl_J_holdingBits_23 : (am_pg z_J_holdingBits).2 23 = some (.iload 5, 25, 5, 0, 0, 0, 0, []) := (congrFun pm_J_holdingBits 23).trans rfl
theorem rl_J_holdingBits_25 : (am_pg z_J_holdingBits).2 25 = some (.ifCond .le (23), 28, 48, 0, 0, 0, 0, []) := (congrFun pm_J_holdingBits 25).trans rfl
theorem rl_J_holdingBits_28 : (am_pg z_J_holdingBits).2 28 = some (.aload_n 0, 29, 0, 0, 0, 0, 0, []) := (congrFun pm_J_holdingBits 28).trans rfl
theorem rl_J_holdingBits_29 : (am_pg z_J_holdingBits).2 29 = some (.iload_n 1, 30, 1, 0, 0, 0, 0, []) := (congrFun pm_J_holdingBits 29).trans rfl
theorem rl_J_holdingBits_30 : (am_pg z_J_holdingBits).2 30 = some (.iload 4, 32, 4, 0, 0, 0, 0, []) := (congrFun pm_J_holdingBits 30).trans rfl
theorem rl_J_holdingBits_32 : (am_pg z_J_holdingBits).2 32 = some (.iload_n 2, 33, 2, 0, 0, 0, 0, []) := (congrFun pm_J_holdingBits 32).trans rfl
theorem rl_J_holdingBits_33 : (am_pg z_J_holdingBits).2 33 = some (.invokevirtual 67, 36, 214, 3, 0, 122, 0, []) := (congrFun pm_J_holdingBits 33).trans rfl
theorem rl_J_holdingBits_36 : (am_pg z_J_holdingBits).2 36 = some (.iload 5, 38, 5, 0, 0, 0, 0, []) := (congrFun pm_J_holdingBits 36).trans rfl
theorem rl_J_holdingBits_38 : (am_pg z_J_holdingBits).2 38 = some (.if_icmp .lt (10), 41, 48, 0, 0, 0, 0, []) := (congrFun pm_J_holdingBits 38).trans rfl
theorem rl_J_holdingBits_41 : (am_pg z_J_holdingBits).2 41 = some (.iload_n 3, 42, 3, 0, 0, 0, 0, []) := (congrFun pm_J_holdingBits 41).trans rfl
theorem rl_J_holdingBits_42 : (am_pg z_J_holdingBits).2 42 = some (.iconst (1), 43, 0, 0, 0, 0, 1, []) := (congrFun pm_J_holdingBits 42).trans rfl
theorem rl_J_holdingBits_43 : (am_pg z_J_holdingBits).2 43 = some (.iload 4, 45, 4, 0, 0, 0, 0, []) := (congrFun pm_J_holdingBits 43).trans rfl
theorem rl_J_holdingBits_45 : (am_pg z_J_holdingBits).2 45 = some (.ishl, 46, 0, 0, 0, 0, 0, []) := (congrFun pm_J_holdingBits 45).trans rfl
theorem rl_J_holdingBits_46 : (am_pg z_J_holdingBits).2 46 = some (.ior, 47, 0, 0, 0, 0, 0, []) := (congrFun pm_J_holdingBits 46).trans rfl
theorem rl_J_holdingBits_47 : (am_pg z_J_holdingBits).2 47 = some (.istore_n 3, 48, 3, 0, 0, 0, 0, []) := (congrFun pm_J_holdingBits 47).trans rfl
theorem rl_J_holdingBits_48 : (am_pg z_J_holdingBits).2 48 = some (.iinc 4 (1), 51, 4, 0, 0, 0, 1, []) := (congrFun pm_J_holdingBits 48).trans rfl
theorem rl_J_holdingBits_51 : (am_pg z_J_holdingBits).2 51 = some (.goto (-46), 54, 5, 0, 0, 0, 0, []) := (congrFun pm_J_holdingBits 51).trans rfl
theorem rl_J_holdingBits_54 : (am_pg z_J_holdingBits).2 54 = some (.iload_n 3, 55, 3, 0, 0, 0, 0, []) := (congrFun pm_J_holdingBits 54).trans rfl
theorem rl_J_holdingBits_55 : (am_pg z_J_holdingBits).2 55 = some (.ireturn, 56, 0, 0, 0, 0, 0, []) := (congrFun pm_J_holdingBits 55).trans rfl
theorem rl_J_isClaiming_0 : (am_pg z_J_isClaiming).2 0 = some (.aload_n 0, 1, 0, 0, 0, 0, 0, []) := (congrFun pm_J_isClaiming 0).trans rfl
theorem rl_J_isClaiming_1 : (am_pg z_J_isClaiming).2 1 = some (.iload_n 1, 2, 1, 0, 0, 0, 0, []) := (congrFun pm_J_isClaiming 1).trans rfl
theorem rl_J_isClaiming_2 : (am_pg z_J_isClaiming).2 2 = some (.iload_n 2, 3, 2, 0, 0, 0, 0, []) := (congrFun pm_J_isClaiming 2).trans rfl
theorem rl_J_isClaiming_3 : (am_pg z_J_isClaiming).2 3 = some (.invokevirtual 71, 6, 215, 2, 0, 120, 0, []) := (congrFun pm_J_isClaiming 3).trans rfl
theorem rl_J_isClaiming_6 : (am_pg z_J_isClaiming).2 6 = some (.ifCond .eq (7), 9, 13, 0, 0, 0, 0, []) := (congrFun pm_J_isClaiming 6).trans rfl
theorem rl_J_isClaiming_9 : (am_pg z_J_isClaiming).2 9 = some (.iconst (1), 10, 0, 0, 0, 0, 1, []) := (congrFun pm_J_isClaiming 9).trans rfl
theorem rl_J_isClaiming_10 : (am_pg z_J_isClaiming).2 10 = some (.goto (4), 13, 14, 0, 0, 0, 0, []) := (congrFun pm_J_isClaiming 10).trans rfl
theorem rl_J_isClaiming_13 : (am_pg z_J_isClaiming).2 13 = some (.iconst (0), 14, 0, 0, 0, 0, 0, []) := (congrFun pm_J_isClaiming 13).trans rfl
theorem rl_J_isClaiming_14 : (am_pg z_J_isClaiming).2 14 = some (.ireturn, 15, 0, 0, 1, 0, 0, []) := (congrFun pm_J_isClaiming 14).trans rfl
theorem rl_J_claimBits_0 : (am_pg z_J_claimBits).2 0 = some (.iconst (0), 1, 0, 0, 0, 0, 0, []) := (congrFun pm_J_claimBits 0).trans rfl
theorem rl_J_claimBits_1 : (am_pg z_J_claimBits).2 1 = some (.istore_n 2, 2, 2, 0, 0, 0, 0, []) := (congrFun pm_J_claimBits 1).trans rfl
theorem rl_J_claimBits_2 : (am_pg z_J_claimBits).2 2 = some (.iconst (0), 3, 0, 0, 0, 0, 0, []) := (congrFun pm_J_claimBits 2).trans rfl
theorem rl_J_claimBits_3 : (am_pg z_J_claimBits).2 3 = some (.istore_n 3, 4, 3, 0, 0, 0, 0, []) := (congrFun pm_J_claimBits 3).trans rfl
theorem rl_J_claimBits_4 : (am_pg z_J_claimBits).2 4 = some (.iload_n 3, 5, 3, 0, 0, 0, 0, []) := (congrFun pm_J_claimBits 4).trans rfl
theorem rl_J_claimBits_5 : (am_pg z_J_claimBits).2 5 = some (.bipush (6), 7, 0, 0, 0, 0, 6, []) := (congrFun pm_J_claimBits 5).trans rfl
theorem rl_J_claimBits_7 : (am_pg z_J_claimBits).2 7 = some (.if_icmp .ge (28), 10, 35, 0, 0, 0, 0, []) := (congrFun pm_J_claimBits 7).trans rfl
theorem rl_J_claimBits_10 : (am_pg z_J_claimBits).2 10 = some (.iload_n 2, 11, 2, 0, 0, 0, 0, []) := (congrFun pm_J_claimBits 10).trans rfl
theorem rl_J_claimBits_11 : (am_pg z_J_claimBits).2 11 = some (.aload_n 0, 12, 0, 0, 0, 0, 0, []) := (congrFun pm_J_claimBits 11).trans rfl
theorem rl_J_claimBits_12 : (am_pg z_J_claimBits).2 12 = some (.iload_n 3, 13, 3, 0, 0, 0, 0, []) := (congrFun pm_J_claimBits 12).trans rfl
theorem rl_J_claimBits_13 : (am_pg z_J_claimBits).2 13 = some (.iload_n 1, 14, 1, 0, 0, 0, 0, []) := (congrFun pm_J_claimBits 13).trans rfl
theorem rl_J_claimBits_14 : (am_pg z_J_claimBits).2 14 = some (.invokevirtual 71, 17, 215, 2, 0, 120, 0, []) := (congrFun pm_J_claimBits 14).trans rfl
theorem rl_J_claimBits_17 : (am_pg z_J_claimBits).2 17 = some (.ifCond .eq (9), 20, 26, 0, 0, 0, 0, []) := (congrFun pm_J_claimBits 17).trans rfl
theorem rl_J_claimBits_20 : (am_pg z_J_claimBits).2 20 = some (.iconst (1), 21, 0, 0, 0, 0, 1, []) := (congrFun pm_J_claimBits 20).trans rfl
theorem rl_J_claimBits_21 : (am_pg z_J_claimBits).2 21 = some (.iload_n 3, 22, 3, 0, 0, 0, 0, []) := (congrFun pm_J_claimBits 21).trans rfl
theorem rl_J_claimBits_22 : (am_pg z_J_claimBits).2 22 = some (.ishl, 23, 0, 0, 0, 0, 0, []) := (congrFun pm_J_claimBits 22).trans rfl
theorem rl_J_claimBits_23 : (am_pg z_J_claimBits).2 23 = some (.goto (4), 26, 27, 0, 0, 0, 0, []) := (congrFun pm_J_claimBits 23).trans rfl
theorem rl_J_claimBits_26 : (am_pg z_J_claimBits).2 26 = some (.iconst (0), 27, 0, 0, 0, 0, 0, []) := (congrFun pm_J_claimBits 26).trans rfl
theorem rl_J_claimBits_27 : (am_pg z_J_claimBits).2 27 = some (.ior, 28, 0, 0, 0, 0, 0, []) := (congrFun pm_J_claimBits 27).trans rfl
theorem rl_J_claimBits_28 : (am_pg z_J_claimBits).2 28 = some (.istore_n 2, 29, 2, 0, 0, 0, 0, []) := (congrFun pm_J_claimBits 28).trans rfl
theorem rl_J_claimBits_29 : (am_pg z_J_claimBits).2 29 = some (.iinc 3 (1), 32, 3, 0, 0, 0, 1, []) := (congrFun pm_J_claimBits 29).trans rfl
theorem rl_J_claimBits_32 : (am_pg z_J_claimBits).2 32 = some (.goto (-28), 35, 4, 0, 0, 0, 0, []) := (congrFun pm_J_claimBits 32).trans rfl
theorem rl_J_claimBits_35 : (am_pg z_J_claimBits).2 35 = some (.iload_n 2, 36, 2, 0, 0, 0, 0, []) := (congrFun pm_J_claimBits 35).trans rfl
theorem rl_J_claimBits_36 : (am_pg z_J_claimBits).2 36 = some (.ireturn, 37, 0, 0, 0, 0, 0, []) := (congrFun pm_J_claimBits 36).trans rfl
theorem rl_J_landsAbove_0 : (am_pg z_J_landsAbove).2 0 = some (.aload_n 0, 1, 0, 0, 0, 0, 0, []) := (congrFun pm_J_landsAbove 0).trans rfl
theorem rl_J_landsAbove_1 : (am_pg z_J_landsAbove).2 1 = some (.getfield 9, 4, 0, 2, 0, 57, 0, []) := (congrFun pm_J_landsAbove 1).trans rfl
theorem rl_J_landsAbove_4 : (am_pg z_J_landsAbove).2 4 = some (.iload_n 1, 5, 1, 0, 0, 0, 0, []) := (congrFun pm_J_landsAbove 4).trans rfl
theorem rl_J_landsAbove_5 : (am_pg z_J_landsAbove).2 5 = some (.iload_n 2, 6, 2, 0, 0, 0, 0, []) := (congrFun pm_J_landsAbove 5).trans rfl
theorem rl_J_landsAbove_6 : (am_pg z_J_landsAbove).2 6 = some (.invokestatic 74, 9, 78, 2, 0, 110, 0, []) := (congrFun pm_J_landsAbove 6).trans rfl
theorem rl_J_landsAbove_9 : (am_pg z_J_landsAbove).2 9 = some (.iaload, 10, 0, 0, 0, 0, 0, []) := (congrFun pm_J_landsAbove 9).trans rfl
theorem rl_J_landsAbove_10 : (am_pg z_J_landsAbove).2 10 = some (.istore_n 3, 11, 3, 0, 0, 0, 0, []) := (congrFun pm_J_landsAbove 10).trans rfl
theorem rl_J_landsAbove_11 : (am_pg z_J_landsAbove).2 11 = some (.iconst (0), 12, 0, 0, 0, 0, 0, []) := (congrFun pm_J_landsAbove 11).trans rfl
theorem rl_J_landsAbove_12 : (am_pg z_J_landsAbove).2 12 = some (.istore 4, 14, 4, 0, 0, 0, 0, []) := (congrFun pm_J_landsAbove 12).trans rfl
theorem rl_J_landsAbove_14 : (am_pg z_J_landsAbove).2 14 = some (.iconst (0), 15, 0, 0, 0, 0, 0, []) := (congrFun pm_J_landsAbove 14).trans rfl
theorem rl_J_landsAbove_15 : (am_pg z_J_landsAbove).2 15 = some (.istore 5, 17, 5, 0, 0, 0, 0, []) := (congrFun pm_J_landsAbove 15).trans rfl
theorem rl_J_landsAbove_17 : (am_pg z_J_landsAbove).2 17 = some (.iload 5, 19, 5, 0, 0, 0, 0, []) := (congrFun pm_J_landsAbove 17).trans rfl
theorem rl_J_landsAbove_19 : (am_pg z_J_landsAbove).2 19 = some (.bipush (6), 21, 0, 0, 0, 0, 6, []) := (congrFun pm_J_landsAbove 19).trans rfl
theorem rl_J_landsAbove_21 : (am_pg z_J_landsAbove).2 21 = some (.if_icmp .ge (43), 24, 64, 0, 0, 0, 0, []) := (congrFun pm_J_landsAbove 21).trans rfl
theorem rl_J_landsAbove_24 : (am_pg z_J_landsAbove).2 24 = some (.aload_n 0, 25, 0, 0, 0, 0, 0, []) := (congrFun pm_J_landsAbove 24).trans rfl
theorem rl_J_landsAbove_25 : (am_pg z_J_landsAbove).2 25 = some (.getfield 9, 28, 0, 2, 0, 57, 0, []) := (congrFun pm_J_landsAbove 25).trans rfl
theorem rl_J_landsAbove_28 : (am_pg z_J_landsAbove).2 28 = some (.iload 5, 30, 5, 0, 0, 0, 0, []) := (congrFun pm_J_landsAbove 28).trans rfl
theorem rl_J_landsAbove_30 : (am_pg z_J_landsAbove).2 30 = some (.iload_n 2, 31, 2, 0, 0, 0, 0, []) := (congrFun pm_J_landsAbove 30).trans rfl
theorem rl_J_landsAbove_31 : (am_pg z_J_landsAbove).2 31 = some (.invokestatic 74, 34, 78, 2, 0, 110, 0, []) := (congrFun pm_J_landsAbove 31).trans rfl
theorem rl_J_landsAbove_34 : (am_pg z_J_landsAbove).2 34 = some (.iaload, 35, 0, 0, 0, 0, 0, []) := (congrFun pm_J_landsAbove 34).trans rfl
theorem rl_J_landsAbove_35 : (am_pg z_J_landsAbove).2 35 = some (.istore 6, 37, 6, 0, 0, 0, 0, []) := (congrFun pm_J_landsAbove 35).trans rfl
theorem rl_J_landsAbove_37 : (am_pg z_J_landsAbove).2 37 = some (.iload 6, 39, 6, 0, 0, 0, 0, []) := (congrFun pm_J_landsAbove 37).trans rfl
theorem rl_J_landsAbove_39 : (am_pg z_J_landsAbove).2 39 = some (.iload_n 3, 40, 3, 0, 0, 0, 0, []) := (congrFun pm_J_landsAbove 39).trans rfl
theorem rl_J_landsAbove_40 : (am_pg z_J_landsAbove).2 40 = some (.if_icmp .gt (15), 43, 55, 0, 0, 0, 0, []) := (congrFun pm_J_landsAbove 40).trans rfl
theorem rl_J_landsAbove_43 : (am_pg z_J_landsAbove).2 43 = some (.iload 6, 45, 6, 0, 0, 0, 0, []) := (congrFun pm_J_landsAbove 43).trans rfl
theorem rl_J_landsAbove_45 : (am_pg z_J_landsAbove).2 45 = some (.iload_n 3, 46, 3, 0, 0, 0, 0, []) := (congrFun pm_J_landsAbove 45).trans rfl
theorem rl_J_landsAbove_46 : (am_pg z_J_landsAbove).2 46 = some (.if_icmp .ne (12), 49, 58, 0, 0, 0, 0, []) := (congrFun pm_J_landsAbove 46).trans rfl
theorem rl_J_landsAbove_49 : (am_pg z_J_landsAbove).2 49 = some (.iload 5, 51, 5, 0, 0, 0, 0, []) := (congrFun pm_J_landsAbove 49).trans rfl
theorem rl_J_landsAbove_51 : (am_pg z_J_landsAbove).2 51 = some (.iload_n 1, 52, 1, 0, 0, 0, 0, []) := (congrFun pm_J_landsAbove 51).trans rfl
theorem rl_J_landsAbove_52 : (am_pg z_J_landsAbove).2 52 = some (.if_icmp .ge (6), 55, 58, 0, 0, 0, 0, []) := (congrFun pm_J_landsAbove 52).trans rfl
theorem rl_J_landsAbove_55 : (am_pg z_J_landsAbove).2 55 = some (.iinc 4 (1), 58, 4, 0, 0, 0, 1, []) := (congrFun pm_J_landsAbove 55).trans rfl
theorem rl_J_landsAbove_58 : (am_pg z_J_landsAbove).2 58 = some (.iinc 5 (1), 61, 5, 0, 0, 0, 1, []) := (congrFun pm_J_landsAbove 58).trans rfl
theorem rl_J_landsAbove_61 : (am_pg z_J_landsAbove).2 61 = some (.goto (-44), 64, 17, 0, 0, 0, 0, []) := (congrFun pm_J_landsAbove 61).trans rfl
theorem rl_J_landsAbove_64 : (am_pg z_J_landsAbove).2 64 = some (.iload 4, 66, 4, 0, 0, 0, 0, []) := (congrFun pm_J_landsAbove 64).trans rfl
theorem rl_J_landsAbove_66 : (am_pg z_J_landsAbove).2 66 = some (.ireturn, 67, 0, 0, 0, 0, 0, []) := (congrFun pm_J_landsAbove 66).trans rfl
theorem rl_J_tellingPlace_0 : (am_pg z_J_tellingPlace).2 0 = some (.aload_n 0, 1, 0, 0, 0, 0, 0, []) := (congrFun pm_J_tellingPlace 0).trans rfl
theorem rl_J_tellingPlace_1 : (am_pg z_J_tellingPlace).2 1 = some (.getfield 31, 4, 0, 1, 0, 56, 0, []) := (congrFun pm_J_tellingPlace 1).trans rfl
theorem rl_J_tellingPlace_4 : (am_pg z_J_tellingPlace).2 4 = some (.iload_n 1, 5, 1, 0, 0, 0, 0, []) := (congrFun pm_J_tellingPlace 4).trans rfl
theorem rl_J_tellingPlace_5 : (am_pg z_J_tellingPlace).2 5 = some (.iload_n 2, 6, 2, 0, 0, 0, 0, []) := (congrFun pm_J_tellingPlace 5).trans rfl
theorem rl_J_tellingPlace_6 : (am_pg z_J_tellingPlace).2 6 = some (.invokevirtual 77, 9, 272, 2, 4, 129, 0, []) := (congrFun pm_J_tellingPlace 6).trans rfl
theorem rl_J_tellingPlace_9 : (am_pg z_J_tellingPlace).2 9 = some (.istore 4, 11, 4, 0, 0, 0, 0, []) := (congrFun pm_J_tellingPlace 9).trans rfl
theorem rl_J_tellingPlace_11 : (am_pg z_J_tellingPlace).2 11 = some (.iconst (0), 12, 0, 0, 0, 0, 0, []) := (congrFun pm_J_tellingPlace 11).trans rfl
theorem rl_J_tellingPlace_12 : (am_pg z_J_tellingPlace).2 12 = some (.istore 5, 14, 5, 0, 0, 0, 0, []) := (congrFun pm_J_tellingPlace 12).trans rfl
theorem rl_J_tellingPlace_14 : (am_pg z_J_tellingPlace).2 14 = some (.iload 5, 16, 5, 0, 0, 0, 0, []) := (congrFun pm_J_tellingPlace 14).trans rfl
theorem rl_J_tellingPlace_16 : (am_pg z_J_tellingPlace).2 16 = some (.iconst (4), 17, 0, 0, 0, 0, 4, []) := (congrFun pm_J_tellingPlace 16).trans rfl
theorem rl_J_tellingPlace_17 : (am_pg z_J_tellingPlace).2 17 = some (.if_icmp .ge (39), 20, 56, 0, 0, 0, 0, []) := (congrFun pm_J_tellingPlace 17).trans rfl
theorem rl_J_tellingPlace_20 : (am_pg z_J_tellingPlace).2 20 = some (.iload 5, 22, 5, 0, 0, 0, 0, []) := (congrFun pm_J_tellingPlace 20).trans rfl
theorem rl_J_tellingPlace_22 : (am_pg z_J_tellingPlace).2 22 = some (.iload 4, 24, 4, 0, 0, 0, 0, []) := (congrFun pm_J_tellingPlace 22).trans rfl
theorem rl_J_tellingPlace_24 : (am_pg z_J_tellingPlace).2 24 = some (.invokestatic 80, 27, 80, 1, 0, 130, 0, []) := (congrFun pm_J_tellingPlace 24).trans rfl
theorem rl_J_tellingPlace_27 : (am_pg z_J_tellingPlace).2 27 = some (.if_icmp .ge (29), 30, 56, 0, 0, 0, 0, []) := (congrFun pm_J_tellingPlace 27).trans rfl
theorem rl_J_tellingPlace_30 : (am_pg z_J_tellingPlace).2 30 = some (.aload_n 0, 31, 0, 0, 0, 0, 0, []) := (congrFun pm_J_tellingPlace 30).trans rfl
theorem rl_J_tellingPlace_31 : (am_pg z_J_tellingPlace).2 31 = some (.iload 4, 33, 4, 0, 0, 0, 0, []) := (congrFun pm_J_tellingPlace 31).trans rfl
theorem rl_J_tellingPlace_33 : (am_pg z_J_tellingPlace).2 33 = some (.iload 5, 35, 5, 0, 0, 0, 0, []) := (congrFun pm_J_tellingPlace 33).trans rfl
theorem rl_J_tellingPlace_35 : (am_pg z_J_tellingPlace).2 35 = some (.invokestatic 84, 38, 81, 2, 0, 131, 0, []) := (congrFun pm_J_tellingPlace 35).trans rfl
theorem rl_J_tellingPlace_38 : (am_pg z_J_tellingPlace).2 38 = some (.iload_n 1, 39, 1, 0, 0, 0, 0, []) := (congrFun pm_J_tellingPlace 38).trans rfl
theorem rl_J_tellingPlace_39 : (am_pg z_J_tellingPlace).2 39 = some (.iload_n 2, 40, 2, 0, 0, 0, 0, []) := (congrFun pm_J_tellingPlace 39).trans rfl
theorem rl_J_tellingPlace_40 : (am_pg z_J_tellingPlace).2 40 = some (.iload_n 3, 41, 3, 0, 0, 0, 0, []) := (congrFun pm_J_tellingPlace 40).trans rfl
theorem rl_J_tellingPlace_41 : (am_pg z_J_tellingPlace).2 41 = some (.invokevirtual 87, 44, 221, 4, 0, 132, 0, []) := (congrFun pm_J_tellingPlace 41).trans rfl
theorem rl_J_tellingPlace_44 : (am_pg z_J_tellingPlace).2 44 = some (.ifCond .eq (6), 47, 50, 0, 0, 0, 0, []) := (congrFun pm_J_tellingPlace 44).trans rfl
theorem rl_J_tellingPlace_47 : (am_pg z_J_tellingPlace).2 47 = some (.iload 5, 49, 5, 0, 0, 0, 0, []) := (congrFun pm_J_tellingPlace 47).trans rfl
theorem rl_J_tellingPlace_49 : (am_pg z_J_tellingPlace).2 49 = some (.ireturn, 50, 0, 0, 0, 0, 0, []) := (congrFun pm_J_tellingPlace 49).trans rfl
theorem rl_J_tellingPlace_50 : (am_pg z_J_tellingPlace).2 50 = some (.iinc 5 (1), 53, 5, 0, 0, 0, 1, []) := (congrFun pm_J_tellingPlace 50).trans rfl
theorem rl_J_tellingPlace_53 : (am_pg z_J_tellingPlace).2 53 = some (.goto (-39), 56, 14, 0, 0, 0, 0, []) := (congrFun pm_J_tellingPlace 53).trans rfl
theorem rl_J_tellingPlace_56 : (am_pg z_J_tellingPlace).2 56 = some (.bipush (-2), 58, 0, 0, 0, 0, -2, []) := (congrFun pm_J_tellingPlace 56).trans rfl
theorem rl_J_tellingPlace_58 : (am_pg z_J_tellingPlace).2 58 = some (.ireturn, 59, 0, 0, 0, 0, 0, []) := (congrFun pm_J_tellingPlace 58).trans rfl
theorem rl_J_answerOf_0 : (am_pg z_J_answerOf).2 0 = some (.aload_n 0, 1, 0, 0, 0, 0, 0, []) := (congrFun pm_J_answerOf 0).trans rfl
theorem rl_J_answerOf_1 : (am_pg z_J_answerOf).2 1 = some (.getfield 31, 4, 0, 1, 0, 56, 0, []) := (congrFun pm_J_answerOf 1).trans rfl
theorem rl_J_answerOf_4 : (am_pg z_J_answerOf).2 4 = some (.iload_n 1, 5, 1, 0, 0, 0, 0, []) := (congrFun pm_J_answerOf 4).trans rfl
theorem rl_J_answerOf_5 : (am_pg z_J_answerOf).2 5 = some (.iload_n 2, 6, 2, 0, 0, 0, 0, []) := (congrFun pm_J_answerOf 5).trans rfl
theorem rl_J_answerOf_6 : (am_pg z_J_answerOf).2 6 = some (.invokevirtual 77, 9, 272, 2, 4, 129, 0, []) := (congrFun pm_J_answerOf 6).trans rfl
theorem rl_J_answerOf_9 : (am_pg z_J_answerOf).2 9 = some (.istore 4, 11, 4, 0, 0, 0, 0, []) := (congrFun pm_J_answerOf 9).trans rfl
theorem rl_J_answerOf_11 : (am_pg z_J_answerOf).2 11 = some (.iconst (0), 12, 0, 0, 0, 0, 0, []) := (congrFun pm_J_answerOf 11).trans rfl
theorem rl_J_answerOf_12 : (am_pg z_J_answerOf).2 12 = some (.istore 5, 14, 5, 0, 0, 0, 0, []) := (congrFun pm_J_answerOf 12).trans rfl
theorem rl_J_answerOf_14 : (am_pg z_J_answerOf).2 14 = some (.iconst (0), 15, 0, 0, 0, 0, 0, []) := (congrFun pm_J_answerOf 14).trans rfl
theorem rl_J_answerOf_15 : (am_pg z_J_answerOf).2 15 = some (.istore 6, 17, 6, 0, 0, 0, 0, []) := (congrFun pm_J_answerOf 15).trans rfl
theorem rl_J_answerOf_17 : (am_pg z_J_answerOf).2 17 = some (.iload 6, 19, 6, 0, 0, 0, 0, []) := (congrFun pm_J_answerOf 17).trans rfl
theorem rl_J_answerOf_19 : (am_pg z_J_answerOf).2 19 = some (.iconst (4), 20, 0, 0, 0, 0, 4, []) := (congrFun pm_J_answerOf 19).trans rfl
theorem rl_J_answerOf_20 : (am_pg z_J_answerOf).2 20 = some (.if_icmp .ge (40), 23, 60, 0, 0, 0, 0, []) := (congrFun pm_J_answerOf 20).trans rfl
theorem rl_J_answerOf_23 : (am_pg z_J_answerOf).2 23 = some (.iload 6, 25, 6, 0, 0, 0, 0, []) := (congrFun pm_J_answerOf 23).trans rfl
theorem rl_J_answerOf_25 : (am_pg z_J_answerOf).2 25 = some (.iload 4, 27, 4, 0, 0, 0, 0, []) := (congrFun pm_J_answerOf 25).trans rfl
theorem rl_J_answerOf_27 : (am_pg z_J_answerOf).2 27 = some (.invokestatic 80, 30, 80, 1, 0, 130, 0, []) := (congrFun pm_J_answerOf 27).trans rfl
theorem rl_J_answerOf_30 : (am_pg z_J_answerOf).2 30 = some (.if_icmp .ge (30), 33, 60, 0, 0, 0, 0, []) := (congrFun pm_J_answerOf 30).trans rfl
theorem rl_J_answerOf_33 : (am_pg z_J_answerOf).2 33 = some (.iload 5, 35, 5, 0, 0, 0, 0, []) := (congrFun pm_J_answerOf 33).trans rfl
theorem rl_J_answerOf_35 : (am_pg z_J_answerOf).2 35 = some (.ifCond .ne (25), 38, 60, 0, 0, 0, 0, []) := (congrFun pm_J_answerOf 35).trans rfl
theorem rl_J_answerOf_38 : (am_pg z_J_answerOf).2 38 = some (.aload_n 0, 39, 0, 0, 0, 0, 0, []) := (congrFun pm_J_answerOf 38).trans rfl
theorem rl_J_answerOf_39 : (am_pg z_J_answerOf).2 39 = some (.iload 4, 41, 4, 0, 0, 0, 0, []) := (congrFun pm_J_answerOf 39).trans rfl
theorem rl_J_answerOf_41 : (am_pg z_J_answerOf).2 41 = some (.iload 6, 43, 6, 0, 0, 0, 0, []) := (congrFun pm_J_answerOf 41).trans rfl
theorem rl_J_answerOf_43 : (am_pg z_J_answerOf).2 43 = some (.invokestatic 84, 46, 81, 2, 0, 131, 0, []) := (congrFun pm_J_answerOf 43).trans rfl
theorem rl_J_answerOf_46 : (am_pg z_J_answerOf).2 46 = some (.iload_n 1, 47, 1, 0, 0, 0, 0, []) := (congrFun pm_J_answerOf 46).trans rfl
theorem rl_J_answerOf_47 : (am_pg z_J_answerOf).2 47 = some (.iload_n 2, 48, 2, 0, 0, 0, 0, []) := (congrFun pm_J_answerOf 47).trans rfl
theorem rl_J_answerOf_48 : (am_pg z_J_answerOf).2 48 = some (.iload_n 3, 49, 3, 0, 0, 0, 0, []) := (congrFun pm_J_answerOf 48).trans rfl
theorem rl_J_answerOf_49 : (am_pg z_J_answerOf).2 49 = some (.invokevirtual 87, 52, 221, 4, 0, 132, 0, []) := (congrFun pm_J_answerOf 49).trans rfl
theorem rl_J_answerOf_52 : (am_pg z_J_answerOf).2 52 = some (.istore 5, 54, 5, 0, 0, 0, 0, []) := (congrFun pm_J_answerOf 52).trans rfl
theorem rl_J_answerOf_54 : (am_pg z_J_answerOf).2 54 = some (.iinc 6 (1), 57, 6, 0, 0, 0, 1, []) := (congrFun pm_J_answerOf 54).trans rfl
theorem rl_J_answerOf_57 : (am_pg z_J_answerOf).2 57 = some (.goto (-40), 60, 17, 0, 0, 0, 0, []) := (congrFun pm_J_answerOf 57).trans rfl
theorem rl_J_answerOf_60 : (am_pg z_J_answerOf).2 60 = some (.iload 5, 62, 5, 0, 0, 0, 0, []) := (congrFun pm_J_answerOf 60).trans rfl
theorem rl_J_answerOf_62 : (am_pg z_J_answerOf).2 62 = some (.ifCond .ne (6), 65, 68, 0, 0, 0, 0, []) := (congrFun pm_J_answerOf 62).trans rfl
theorem rl_J_answerOf_65 : (am_pg z_J_answerOf).2 65 = some (.bipush (-2), 67, 0, 0, 0, 0, -2, []) := (congrFun pm_J_answerOf 65).trans rfl
theorem rl_J_answerOf_67 : (am_pg z_J_answerOf).2 67 = some (.ireturn, 68, 0, 0, 0, 0, 0, []) := (congrFun pm_J_answerOf 67).trans rfl
theorem rl_J_answerOf_68 : (am_pg z_J_answerOf).2 68 = some (.iload 5, 70, 5, 0, 0, 0, 0, []) := (congrFun pm_J_answerOf 68).trans rfl
theorem rl_J_answerOf_70 : (am_pg z_J_answerOf).2 70 = some (.ifCond .le (7), 73, 77, 0, 0, 0, 0, []) := (congrFun pm_J_answerOf 70).trans rfl
theorem rl_J_answerOf_73 : (am_pg z_J_answerOf).2 73 = some (.iload_n 1, 74, 1, 0, 0, 0, 0, []) := (congrFun pm_J_answerOf 73).trans rfl
theorem rl_J_answerOf_74 : (am_pg z_J_answerOf).2 74 = some (.goto (4), 77, 78, 0, 0, 0, 0, []) := (congrFun pm_J_answerOf 74).trans rfl
theorem rl_J_answerOf_77 : (am_pg z_J_answerOf).2 77 = some (.iload_n 2, 78, 2, 0, 0, 0, 0, []) := (congrFun pm_J_answerOf 77).trans rfl
theorem rl_J_answerOf_78 : (am_pg z_J_answerOf).2 78 = some (.ireturn, 79, 0, 0, 0, 0, 0, []) := (congrFun pm_J_answerOf 78).trans rfl
theorem rl_J_leaning_0 : (am_pg z_J_leaning).2 0 = some (.iload_n 2, 1, 2, 0, 0, 0, 0, []) := (congrFun pm_J_leaning 0).trans rfl
theorem rl_J_leaning_1 : (am_pg z_J_leaning).2 1 = some (.iconst (3), 2, 0, 0, 0, 0, 3, []) := (congrFun pm_J_leaning 1).trans rfl
theorem rl_J_leaning_2 : (am_pg z_J_leaning).2 2 = some (.imul, 3, 0, 0, 0, 0, 0, []) := (congrFun pm_J_leaning 2).trans rfl
theorem rl_J_leaning_3 : (am_pg z_J_leaning).2 3 = some (.iload 4, 5, 4, 0, 0, 0, 0, []) := (congrFun pm_J_leaning 3).trans rfl
theorem rl_J_leaning_5 : (am_pg z_J_leaning).2 5 = some (.iadd, 6, 0, 0, 0, 0, 0, []) := (congrFun pm_J_leaning 5).trans rfl
theorem rl_J_leaning_6 : (am_pg z_J_leaning).2 6 = some (.istore 5, 8, 5, 0, 0, 0, 0, []) := (congrFun pm_J_leaning 6).trans rfl
theorem rl_J_leaning_8 : (am_pg z_J_leaning).2 8 = some (.iload_n 3, 9, 3, 0, 0, 0, 0, []) := (congrFun pm_J_leaning 8).trans rfl
theorem rl_J_leaning_9 : (am_pg z_J_leaning).2 9 = some (.iconst (3), 10, 0, 0, 0, 0, 3, []) := (congrFun pm_J_leaning 9).trans rfl
theorem rl_J_leaning_10 : (am_pg z_J_leaning).2 10 = some (.imul, 11, 0, 0, 0, 0, 0, []) := (congrFun pm_J_leaning 10).trans rfl
theorem rl_J_leaning_11 : (am_pg z_J_leaning).2 11 = some (.iload 4, 13, 4, 0, 0, 0, 0, []) := (congrFun pm_J_leaning 11).trans rfl
theorem rl_J_leaning_13 : (am_pg z_J_leaning).2 13 = some (.iadd, 14, 0, 0, 0, 0, 0, []) := (congrFun pm_J_leaning 13).trans rfl
theorem rl_J_leaning_14 : (am_pg z_J_leaning).2 14 = some (.istore 6, 16, 6, 0, 0, 0, 0, []) := (congrFun pm_J_leaning 14).trans rfl
theorem rl_J_leaning_16 : (am_pg z_J_leaning).2 16 = some (.iload_n 1, 17, 1, 0, 0, 0, 0, []) := (congrFun pm_J_leaning 16).trans rfl
theorem rl_J_leaning_17 : (am_pg z_J_leaning).2 17 = some (.tableswitch (75) (0) (2) #[27, 43, 59], 44, 92, 0, 0, 0, 0, [(0, 44), (1, 60), (2, 76)]) := (congrFun pm_J_leaning 17).trans rfl
theorem rl_J_leaning_44 : (am_pg z_J_leaning).2 44 = some (.aload_n 0, 45, 0, 0, 0, 0, 0, []) := (congrFun pm_J_leaning 44).trans rfl
theorem rl_J_leaning_45 : (am_pg z_J_leaning).2 45 = some (.getfield 15, 48, 0, 3, 0, 59, 0, []) := (congrFun pm_J_leaning 45).trans rfl
theorem rl_J_leaning_48 : (am_pg z_J_leaning).2 48 = some (.iload 5, 50, 5, 0, 0, 0, 0, []) := (congrFun pm_J_leaning 48).trans rfl
theorem rl_J_leaning_50 : (am_pg z_J_leaning).2 50 = some (.iaload, 51, 0, 0, 0, 0, 0, []) := (congrFun pm_J_leaning 50).trans rfl
theorem rl_J_leaning_51 : (am_pg z_J_leaning).2 51 = some (.aload_n 0, 52, 0, 0, 0, 0, 0, []) := (congrFun pm_J_leaning 51).trans rfl
theorem rl_J_leaning_52 : (am_pg z_J_leaning).2 52 = some (.getfield 15, 55, 0, 3, 0, 59, 0, []) := (congrFun pm_J_leaning 52).trans rfl
theorem rl_J_leaning_55 : (am_pg z_J_leaning).2 55 = some (.iload 6, 57, 6, 0, 0, 0, 0, []) := (congrFun pm_J_leaning 55).trans rfl
theorem rl_J_leaning_57 : (am_pg z_J_leaning).2 57 = some (.iaload, 58, 0, 0, 0, 0, 0, []) := (congrFun pm_J_leaning 57).trans rfl
theorem rl_J_leaning_58 : (am_pg z_J_leaning).2 58 = some (.isub, 59, 0, 0, 0, 0, 0, []) := (congrFun pm_J_leaning 58).trans rfl
theorem rl_J_leaning_59 : (am_pg z_J_leaning).2 59 = some (.ireturn, 60, 0, 0, 0, 0, 0, []) := (congrFun pm_J_leaning 59).trans rfl
theorem rl_J_leaning_60 : (am_pg z_J_leaning).2 60 = some (.aload_n 0, 61, 0, 0, 0, 0, 0, []) := (congrFun pm_J_leaning 60).trans rfl
theorem rl_J_leaning_61 : (am_pg z_J_leaning).2 61 = some (.getfield 18, 64, 0, 4, 0, 60, 0, []) := (congrFun pm_J_leaning 61).trans rfl
theorem rl_J_leaning_64 : (am_pg z_J_leaning).2 64 = some (.iload 5, 66, 5, 0, 0, 0, 0, []) := (congrFun pm_J_leaning 64).trans rfl
theorem rl_J_leaning_66 : (am_pg z_J_leaning).2 66 = some (.iaload, 67, 0, 0, 0, 0, 0, []) := (congrFun pm_J_leaning 66).trans rfl
theorem rl_J_leaning_67 : (am_pg z_J_leaning).2 67 = some (.aload_n 0, 68, 0, 0, 0, 0, 0, []) := (congrFun pm_J_leaning 67).trans rfl
theorem rl_J_leaning_68 : (am_pg z_J_leaning).2 68 = some (.getfield 18, 71, 0, 4, 0, 60, 0, []) := (congrFun pm_J_leaning 68).trans rfl
theorem rl_J_leaning_71 : (am_pg z_J_leaning).2 71 = some (.iload 6, 73, 6, 0, 0, 0, 0, []) := (congrFun pm_J_leaning 71).trans rfl
theorem rl_J_leaning_73 : (am_pg z_J_leaning).2 73 = some (.iaload, 74, 0, 0, 0, 0, 0, []) := (congrFun pm_J_leaning 73).trans rfl
theorem rl_J_leaning_74 : (am_pg z_J_leaning).2 74 = some (.isub, 75, 0, 0, 0, 0, 0, []) := (congrFun pm_J_leaning 74).trans rfl
theorem rl_J_leaning_75 : (am_pg z_J_leaning).2 75 = some (.ireturn, 76, 0, 0, 0, 0, 0, []) := (congrFun pm_J_leaning 75).trans rfl
theorem rl_J_leaning_76 : (am_pg z_J_leaning).2 76 = some (.aload_n 0, 77, 0, 0, 0, 0, 0, []) := (congrFun pm_J_leaning 76).trans rfl
theorem rl_J_leaning_77 : (am_pg z_J_leaning).2 77 = some (.getfield 9, 80, 0, 2, 0, 57, 0, []) := (congrFun pm_J_leaning 77).trans rfl
theorem rl_J_leaning_80 : (am_pg z_J_leaning).2 80 = some (.iload 5, 82, 5, 0, 0, 0, 0, []) := (congrFun pm_J_leaning 80).trans rfl
theorem rl_J_leaning_82 : (am_pg z_J_leaning).2 82 = some (.iaload, 83, 0, 0, 0, 0, 0, []) := (congrFun pm_J_leaning 82).trans rfl
theorem rl_J_leaning_83 : (am_pg z_J_leaning).2 83 = some (.aload_n 0, 84, 0, 0, 0, 0, 0, []) := (congrFun pm_J_leaning 83).trans rfl
theorem rl_J_leaning_84 : (am_pg z_J_leaning).2 84 = some (.getfield 9, 87, 0, 2, 0, 57, 0, []) := (congrFun pm_J_leaning 84).trans rfl
theorem rl_J_leaning_87 : (am_pg z_J_leaning).2 87 = some (.iload 6, 89, 6, 0, 0, 0, 0, []) := (congrFun pm_J_leaning 87).trans rfl
theorem rl_J_leaning_89 : (am_pg z_J_leaning).2 89 = some (.iaload, 90, 0, 0, 0, 0, 0, []) := (congrFun pm_J_leaning 89).trans rfl
theorem rl_J_leaning_90 : (am_pg z_J_leaning).2 90 = some (.isub, 91, 0, 0, 0, 0, 0, []) := (congrFun pm_J_leaning 90).trans rfl
theorem rl_J_leaning_91 : (am_pg z_J_leaning).2 91 = some (.ireturn, 92, 0, 0, 0, 0, 0, []) := (congrFun pm_J_leaning 91).trans rfl
theorem rl_J_leaning_92 : (am_pg z_J_leaning).2 92 = some (.aload_n 0, 93, 0, 0, 0, 0, 0, []) := (congrFun pm_J_leaning 92).trans rfl
theorem rl_J_leaning_93 : (am_pg z_J_leaning).2 93 = some (.getfield 31, 96, 0, 1, 0, 56, 0, []) := (congrFun pm_J_leaning 93).trans rfl
theorem rl_J_leaning_96 : (am_pg z_J_leaning).2 96 = some (.getfield 91, 99, 4, 7, 0, 22, 0, []) := (congrFun pm_J_leaning 96).trans rfl
theorem rl_J_leaning_99 : (am_pg z_J_leaning).2 99 = some (.iload_n 2, 100, 2, 0, 0, 0, 0, []) := (congrFun pm_J_leaning 99).trans rfl
theorem rl_J_leaning_100 : (am_pg z_J_leaning).2 100 = some (.ishr, 101, 0, 0, 0, 0, 0, []) := (congrFun pm_J_leaning 100).trans rfl
theorem rl_J_leaning_101 : (am_pg z_J_leaning).2 101 = some (.iconst (1), 102, 0, 0, 0, 0, 1, []) := (congrFun pm_J_leaning 101).trans rfl
theorem rl_J_leaning_102 : (am_pg z_J_leaning).2 102 = some (.iand, 103, 0, 0, 0, 0, 0, []) := (congrFun pm_J_leaning 102).trans rfl
theorem rl_J_leaning_103 : (am_pg z_J_leaning).2 103 = some (.aload_n 0, 104, 0, 0, 0, 0, 0, []) := (congrFun pm_J_leaning 103).trans rfl
theorem rl_J_leaning_104 : (am_pg z_J_leaning).2 104 = some (.getfield 31, 107, 0, 1, 0, 56, 0, []) := (congrFun pm_J_leaning 104).trans rfl
theorem rl_J_leaning_107 : (am_pg z_J_leaning).2 107 = some (.getfield 91, 110, 4, 7, 0, 22, 0, []) := (congrFun pm_J_leaning 107).trans rfl
theorem rl_J_leaning_110 : (am_pg z_J_leaning).2 110 = some (.iload_n 3, 111, 3, 0, 0, 0, 0, []) := (congrFun pm_J_leaning 110).trans rfl
theorem rl_J_leaning_111 : (am_pg z_J_leaning).2 111 = some (.ishr, 112, 0, 0, 0, 0, 0, []) := (congrFun pm_J_leaning 111).trans rfl
theorem rl_J_leaning_112 : (am_pg z_J_leaning).2 112 = some (.iconst (1), 113, 0, 0, 0, 0, 1, []) := (congrFun pm_J_leaning 112).trans rfl
theorem rl_J_leaning_113 : (am_pg z_J_leaning).2 113 = some (.iand, 114, 0, 0, 0, 0, 0, []) := (congrFun pm_J_leaning 113).trans rfl
theorem rl_J_leaning_114 : (am_pg z_J_leaning).2 114 = some (.isub, 115, 0, 0, 0, 0, 0, []) := (congrFun pm_J_leaning 114).trans rfl
theorem rl_J_leaning_115 : (am_pg z_J_leaning).2 115 = some (.ireturn, 116, 0, 0, 0, 0, 0, []) := (congrFun pm_J_leaning 115).trans rfl
theorem rl_J_isPairOf_0 : (am_pg z_J_isPairOf).2 0 = some (.aload_n 0, 1, 0, 0, 0, 0, 0, []) := (congrFun pm_J_isPairOf 0).trans rfl
theorem rl_J_isPairOf_1 : (am_pg z_J_isPairOf).2 1 = some (.iload_n 1, 2, 1, 0, 0, 0, 0, []) := (congrFun pm_J_isPairOf 1).trans rfl
theorem rl_J_isPairOf_2 : (am_pg z_J_isPairOf).2 2 = some (.iload_n 2, 3, 2, 0, 0, 0, 0, []) := (congrFun pm_J_isPairOf 2).trans rfl
theorem rl_J_isPairOf_3 : (am_pg z_J_isPairOf).2 3 = some (.iload_n 3, 4, 3, 0, 0, 0, 0, []) := (congrFun pm_J_isPairOf 3).trans rfl
theorem rl_J_isPairOf_4 : (am_pg z_J_isPairOf).2 4 = some (.invokevirtual 95, 7, 220, 3, 0, 128, 0, []) := (congrFun pm_J_isPairOf 4).trans rfl
theorem rl_J_isPairOf_7 : (am_pg z_J_isPairOf).2 7 = some (.istore 5, 9, 5, 0, 0, 0, 0, []) := (congrFun pm_J_isPairOf 7).trans rfl
theorem rl_J_isPairOf_9 : (am_pg z_J_isPairOf).2 9 = some (.aload_n 0, 10, 0, 0, 0, 0, 0, []) := (congrFun pm_J_isPairOf 9).trans rfl
theorem rl_J_isPairOf_10 : (am_pg z_J_isPairOf).2 10 = some (.iload_n 2, 11, 2, 0, 0, 0, 0, []) := (congrFun pm_J_isPairOf 10).trans rfl
theorem rl_J_isPairOf_11 : (am_pg z_J_isPairOf).2 11 = some (.iload_n 1, 12, 1, 0, 0, 0, 0, []) := (congrFun pm_J_isPairOf 11).trans rfl
theorem rl_J_isPairOf_12 : (am_pg z_J_isPairOf).2 12 = some (.iload_n 3, 13, 3, 0, 0, 0, 0, []) := (congrFun pm_J_isPairOf 12).trans rfl
theorem rl_J_isPairOf_13 : (am_pg z_J_isPairOf).2 13 = some (.invokevirtual 95, 16, 220, 3, 0, 128, 0, []) := (congrFun pm_J_isPairOf 13).trans rfl
theorem rl_J_isPairOf_16 : (am_pg z_J_isPairOf).2 16 = some (.istore 6, 18, 6, 0, 0, 0, 0, []) := (congrFun pm_J_isPairOf 16).trans rfl
theorem rl_J_isPairOf_18 : (am_pg z_J_isPairOf).2 18 = some (.iload 4, 20, 4, 0, 0, 0, 0, []) := (congrFun pm_J_isPairOf 18).trans rfl
theorem rl_J_isPairOf_20 : (am_pg z_J_isPairOf).2 20 = some (.iconst (1), 21, 0, 0, 0, 0, 1, []) := (congrFun pm_J_isPairOf 20).trans rfl
theorem rl_J_isPairOf_21 : (am_pg z_J_isPairOf).2 21 = some (.if_icmp .ne (16), 24, 37, 0, 0, 0, 0, []) := (congrFun pm_J_isPairOf 21).trans rfl
theorem rl_J_isPairOf_24 : (am_pg z_J_isPairOf).2 24 = some (.iload 5, 26, 5, 0, 0, 0, 0, []) := (congrFun pm_J_isPairOf 24).trans rfl
theorem rl_J_isPairOf_26 : (am_pg z_J_isPairOf).2 26 = some (.iload 6, 28, 6, 0, 0, 0, 0, []) := (congrFun pm_J_isPairOf 26).trans rfl
theorem rl_J_isPairOf_28 : (am_pg z_J_isPairOf).2 28 = some (.if_icmp .eq (7), 31, 35, 0, 0, 0, 0, []) := (congrFun pm_J_isPairOf 28).trans rfl
theorem rl_J_isPairOf_31 : (am_pg z_J_isPairOf).2 31 = some (.iconst (1), 32, 0, 0, 0, 0, 1, []) := (congrFun pm_J_isPairOf 31).trans rfl
theorem rl_J_isPairOf_32 : (am_pg z_J_isPairOf).2 32 = some (.goto (4), 35, 36, 0, 0, 0, 0, []) := (congrFun pm_J_isPairOf 32).trans rfl
theorem rl_J_isPairOf_35 : (am_pg z_J_isPairOf).2 35 = some (.iconst (0), 36, 0, 0, 0, 0, 0, []) := (congrFun pm_J_isPairOf 35).trans rfl
theorem rl_J_isPairOf_36 : (am_pg z_J_isPairOf).2 36 = some (.ireturn, 37, 0, 0, 1, 0, 0, []) := (congrFun pm_J_isPairOf 36).trans rfl
theorem rl_J_isPairOf_37 : (am_pg z_J_isPairOf).2 37 = some (.iload 4, 39, 4, 0, 0, 0, 0, []) := (congrFun pm_J_isPairOf 37).trans rfl
theorem rl_J_isPairOf_39 : (am_pg z_J_isPairOf).2 39 = some (.ifCond .eq (17), 42, 56, 0, 0, 0, 0, []) := (congrFun pm_J_isPairOf 39).trans rfl
theorem rl_J_isPairOf_42 : (am_pg z_J_isPairOf).2 42 = some (.iload 5, 44, 5, 0, 0, 0, 0, []) := (congrFun pm_J_isPairOf 42).trans rfl
theorem rl_J_isPairOf_44 : (am_pg z_J_isPairOf).2 44 = some (.bipush (-2), 46, 0, 0, 0, 0, -2, []) := (congrFun pm_J_isPairOf 44).trans rfl
theorem rl_J_isPairOf_46 : (am_pg z_J_isPairOf).2 46 = some (.if_icmp .ne (14), 49, 60, 0, 0, 0, 0, []) := (congrFun pm_J_isPairOf 46).trans rfl
theorem rl_J_isPairOf_49 : (am_pg z_J_isPairOf).2 49 = some (.iload 6, 51, 6, 0, 0, 0, 0, []) := (congrFun pm_J_isPairOf 49).trans rfl
theorem rl_J_isPairOf_51 : (am_pg z_J_isPairOf).2 51 = some (.bipush (-2), 53, 0, 0, 0, 0, -2, []) := (congrFun pm_J_isPairOf 51).trans rfl
theorem rl_J_isPairOf_53 : (am_pg z_J_isPairOf).2 53 = some (.if_icmp .ne (7), 56, 60, 0, 0, 0, 0, []) := (congrFun pm_J_isPairOf 53).trans rfl
theorem rl_J_isPairOf_56 : (am_pg z_J_isPairOf).2 56 = some (.iconst (1), 57, 0, 0, 0, 0, 1, []) := (congrFun pm_J_isPairOf 56).trans rfl
theorem rl_J_isPairOf_57 : (am_pg z_J_isPairOf).2 57 = some (.goto (4), 60, 61, 0, 0, 0, 0, []) := (congrFun pm_J_isPairOf 57).trans rfl
theorem rl_J_isPairOf_60 : (am_pg z_J_isPairOf).2 60 = some (.iconst (0), 61, 0, 0, 0, 0, 0, []) := (congrFun pm_J_isPairOf 60).trans rfl
theorem rl_J_isPairOf_61 : (am_pg z_J_isPairOf).2 61 = some (.ireturn, 62, 0, 0, 1, 0, 0, []) := (congrFun pm_J_isPairOf 61).trans rfl
theorem rl_J_beaten_0 : (am_pg z_J_beaten).2 0 = some (.iconst (0), 1, 0, 0, 0, 0, 0, []) := (congrFun pm_J_beaten 0).trans rfl
theorem rl_J_beaten_1 : (am_pg z_J_beaten).2 1 = some (.istore 4, 3, 4, 0, 0, 0, 0, []) := (congrFun pm_J_beaten 1).trans rfl
theorem rl_J_beaten_3 : (am_pg z_J_beaten).2 3 = some (.iconst (0), 4, 0, 0, 0, 0, 0, []) := (congrFun pm_J_beaten 3).trans rfl
theorem rl_J_beaten_4 : (am_pg z_J_beaten).2 4 = some (.istore 5, 6, 5, 0, 0, 0, 0, []) := (congrFun pm_J_beaten 4).trans rfl
theorem rl_J_beaten_6 : (am_pg z_J_beaten).2 6 = some (.iload 5, 8, 5, 0, 0, 0, 0, []) := (congrFun pm_J_beaten 6).trans rfl
theorem rl_J_beaten_8 : (am_pg z_J_beaten).2 8 = some (.bipush (6), 10, 0, 0, 0, 0, 6, []) := (congrFun pm_J_beaten 8).trans rfl
theorem rl_J_beaten_10 : (am_pg z_J_beaten).2 10 = some (.if_icmp .ge (51), 13, 61, 0, 0, 0, 0, []) := (congrFun pm_J_beaten 10).trans rfl
theorem rl_J_beaten_13 : (am_pg z_J_beaten).2 13 = some (.iload 5, 15, 5, 0, 0, 0, 0, []) := (congrFun pm_J_beaten 13).trans rfl
theorem rl_J_beaten_15 : (am_pg z_J_beaten).2 15 = some (.iload_n 1, 16, 1, 0, 0, 0, 0, []) := (congrFun pm_J_beaten 15).trans rfl
theorem rl_J_beaten_16 : (am_pg z_J_beaten).2 16 = some (.if_icmp .eq (39), 19, 55, 0, 0, 0, 0, []) := (congrFun pm_J_beaten 16).trans rfl
theorem rl_J_beaten_19 : (am_pg z_J_beaten).2 19 = some (.iload_n 2, 20, 2, 0, 0, 0, 0, []) := (congrFun pm_J_beaten 19).trans rfl
theorem rl_J_beaten_20 : (am_pg z_J_beaten).2 20 = some (.iload 5, 22, 5, 0, 0, 0, 0, []) := (congrFun pm_J_beaten 20).trans rfl
theorem rl_J_beaten_22 : (am_pg z_J_beaten).2 22 = some (.invokestatic 98, 25, 74, 2, 0, 127, 0, []) := (congrFun pm_J_beaten 22).trans rfl
theorem rl_J_beaten_25 : (am_pg z_J_beaten).2 25 = some (.ifCond .eq (30), 28, 55, 0, 0, 0, 0, []) := (congrFun pm_J_beaten 25).trans rfl
