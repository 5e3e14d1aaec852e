theorem rl_J_beaten_28 : (am_pg z_J_beaten).2 28 = some (.aload_n 0, 29, 0, 0, 0, 0, 0, []) := (congrFun pm_J_beaten 28).trans rfl
theorem rl_J_beaten_29 : (am_pg z_J_beaten).2 29 = some (.iload_n 1, 30, 1, 0, 0, 0, 0, []) := (congrFun pm_J_beaten 29).trans rfl
theorem rl_J_beaten_30 : (am_pg z_J_beaten).2 30 = some (.iload 5, 32, 5, 0, 0, 0, 0, []) := (congrFun pm_J_beaten 30).trans rfl
theorem rl_J_beaten_32 : (am_pg z_J_beaten).2 32 = some (.iload_n 3, 33, 3, 0, 0, 0, 0, []) := (congrFun pm_J_beaten 32).trans rfl
theorem rl_J_beaten_33 : (am_pg z_J_beaten).2 33 = some (.invokevirtual 95, 36, 220, 3, 0, 128, 0, []) := (congrFun pm_J_beaten 33).trans rfl
theorem rl_J_beaten_36 : (am_pg z_J_beaten).2 36 = some (.iload_n 1, 37, 1, 0, 0, 0, 0, []) := (congrFun pm_J_beaten 36).trans rfl
theorem rl_J_beaten_37 : (am_pg z_J_beaten).2 37 = some (.if_icmp .ne (18), 40, 55, 0, 0, 0, 0, []) := (congrFun pm_J_beaten 37).trans rfl
theorem rl_J_beaten_40 : (am_pg z_J_beaten).2 40 = some (.aload_n 0, 41, 0, 0, 0, 0, 0, []) := (congrFun pm_J_beaten 40).trans rfl
theorem rl_J_beaten_41 : (am_pg z_J_beaten).2 41 = some (.iload 5, 43, 5, 0, 0, 0, 0, []) := (congrFun pm_J_beaten 41).trans rfl
theorem rl_J_beaten_43 : (am_pg z_J_beaten).2 43 = some (.iload_n 1, 44, 1, 0, 0, 0, 0, []) := (congrFun pm_J_beaten 43).trans rfl
theorem rl_J_beaten_44 : (am_pg z_J_beaten).2 44 = some (.iload_n 3, 45, 3, 0, 0, 0, 0, []) := (congrFun pm_J_beaten 44).trans rfl
theorem rl_J_beaten_45 : (am_pg z_J_beaten).2 45 = some (.invokevirtual 95, 48, 220, 3, 0, 128, 0, []) := (congrFun pm_J_beaten 45).trans rfl
theorem rl_J_beaten_48 : (am_pg z_J_beaten).2 48 = some (.iload_n 1, 49, 1, 0, 0, 0, 0, []) := (congrFun pm_J_beaten 48).trans rfl
theorem rl_J_beaten_49 : (am_pg z_J_beaten).2 49 = some (.if_icmp .ne (6), 52, 55, 0, 0, 0, 0, []) := (congrFun pm_J_beaten 49).trans rfl
theorem rl_J_beaten_52 : (am_pg z_J_beaten).2 52 = some (.iinc 4 (1), 55, 4, 0, 0, 0, 1, []) := (congrFun pm_J_beaten 52).trans rfl
theorem rl_J_beaten_55 : (am_pg z_J_beaten).2 55 = some (.iinc 5 (1), 58, 5, 0, 0, 0, 1, []) := (congrFun pm_J_beaten 55).trans rfl
theorem rl_J_beaten_58 : (am_pg z_J_beaten).2 58 = some (.goto (-52), 61, 6, 0, 0, 0, 0, []) := (congrFun pm_J_beaten 58).trans rfl
theorem rl_J_beaten_61 : (am_pg z_J_beaten).2 61 = some (.iload 4, 63, 4, 0, 0, 0, 0, []) := (congrFun pm_J_beaten 61).trans rfl
theorem rl_J_beaten_63 : (am_pg z_J_beaten).2 63 = some (.ireturn, 64, 0, 0, 0, 0, 0, []) := (congrFun pm_J_beaten 63).trans rfl
theorem rl_J_livesIn_0 : (am_pg z_J_livesIn).2 0 = some (.aload_n 0, 1, 0, 0, 0, 0, 0, []) := (congrFun pm_J_livesIn 0).trans rfl
theorem rl_J_livesIn_1 : (am_pg z_J_livesIn).2 1 = some (.iload_n 1, 2, 1, 0, 0, 0, 0, []) := (congrFun pm_J_livesIn 1).trans rfl
theorem rl_J_livesIn_2 : (am_pg z_J_livesIn).2 2 = some (.invokevirtual 102, 5, 217, 1, 0, 146, 0, []) := (congrFun pm_J_livesIn 2).trans rfl
theorem rl_J_livesIn_5 : (am_pg z_J_livesIn).2 5 = some (.istore_n 2, 6, 2, 0, 0, 0, 0, []) := (congrFun pm_J_livesIn 5).trans rfl
theorem rl_J_livesIn_6 : (am_pg z_J_livesIn).2 6 = some (.iload_n 2, 7, 2, 0, 0, 0, 0, []) := (congrFun pm_J_livesIn 6).trans rfl
theorem rl_J_livesIn_7 : (am_pg z_J_livesIn).2 7 = some (.invokestatic 105, 10, 286, 1, 0, 147, 0, []) := (congrFun pm_J_livesIn 7).trans rfl
theorem rl_J_livesIn_10 : (am_pg z_J_livesIn).2 10 = some (.iconst (1), 11, 0, 0, 0, 0, 1, []) := (congrFun pm_J_livesIn 10).trans rfl
theorem rl_J_livesIn_11 : (am_pg z_J_livesIn).2 11 = some (.isub, 12, 0, 0, 0, 0, 0, []) := (congrFun pm_J_livesIn 11).trans rfl
theorem rl_J_livesIn_12 : (am_pg z_J_livesIn).2 12 = some (.istore_n 3, 13, 3, 0, 0, 0, 0, []) := (congrFun pm_J_livesIn 12).trans rfl
theorem rl_J_livesIn_13 : (am_pg z_J_livesIn).2 13 = some (.iconst (0), 14, 0, 0, 0, 0, 0, []) := (congrFun pm_J_livesIn 13).trans rfl
theorem rl_J_livesIn_14 : (am_pg z_J_livesIn).2 14 = some (.istore 4, 16, 4, 0, 0, 0, 0, []) := (congrFun pm_J_livesIn 14).trans rfl
theorem rl_J_livesIn_16 : (am_pg z_J_livesIn).2 16 = some (.iload 4, 18, 4, 0, 0, 0, 0, []) := (congrFun pm_J_livesIn 16).trans rfl
theorem rl_J_livesIn_18 : (am_pg z_J_livesIn).2 18 = some (.bipush (6), 20, 0, 0, 0, 0, 6, []) := (congrFun pm_J_livesIn 18).trans rfl
theorem rl_J_livesIn_20 : (am_pg z_J_livesIn).2 20 = some (.if_icmp .ge (33), 23, 53, 0, 0, 0, 0, []) := (congrFun pm_J_livesIn 20).trans rfl
theorem rl_J_livesIn_23 : (am_pg z_J_livesIn).2 23 = some (.iload_n 2, 24, 2, 0, 0, 0, 0, []) := (congrFun pm_J_livesIn 23).trans rfl
theorem rl_J_livesIn_24 : (am_pg z_J_livesIn).2 24 = some (.iload 4, 26, 4, 0, 0, 0, 0, []) := (congrFun pm_J_livesIn 24).trans rfl
theorem rl_J_livesIn_26 : (am_pg z_J_livesIn).2 26 = some (.invokestatic 98, 29, 74, 2, 0, 127, 0, []) := (congrFun pm_J_livesIn 26).trans rfl
theorem rl_J_livesIn_29 : (am_pg z_J_livesIn).2 29 = some (.ifCond .eq (18), 32, 47, 0, 0, 0, 0, []) := (congrFun pm_J_livesIn 29).trans rfl
theorem rl_J_livesIn_32 : (am_pg z_J_livesIn).2 32 = some (.aload_n 0, 33, 0, 0, 0, 0, 0, []) := (congrFun pm_J_livesIn 32).trans rfl
theorem rl_J_livesIn_33 : (am_pg z_J_livesIn).2 33 = some (.iload 4, 35, 4, 0, 0, 0, 0, []) := (congrFun pm_J_livesIn 33).trans rfl
theorem rl_J_livesIn_35 : (am_pg z_J_livesIn).2 35 = some (.iload_n 2, 36, 2, 0, 0, 0, 0, []) := (congrFun pm_J_livesIn 35).trans rfl
theorem rl_J_livesIn_36 : (am_pg z_J_livesIn).2 36 = some (.iload_n 1, 37, 1, 0, 0, 0, 0, []) := (congrFun pm_J_livesIn 36).trans rfl
theorem rl_J_livesIn_37 : (am_pg z_J_livesIn).2 37 = some (.invokevirtual 110, 40, 223, 3, 0, 148, 0, []) := (congrFun pm_J_livesIn 37).trans rfl
theorem rl_J_livesIn_40 : (am_pg z_J_livesIn).2 40 = some (.iload_n 3, 41, 3, 0, 0, 0, 0, []) := (congrFun pm_J_livesIn 40).trans rfl
theorem rl_J_livesIn_41 : (am_pg z_J_livesIn).2 41 = some (.if_icmp .ne (6), 44, 47, 0, 0, 0, 0, []) := (congrFun pm_J_livesIn 41).trans rfl
theorem rl_J_livesIn_44 : (am_pg z_J_livesIn).2 44 = some (.iload 4, 46, 4, 0, 0, 0, 0, []) := (congrFun pm_J_livesIn 44).trans rfl
theorem rl_J_livesIn_46 : (am_pg z_J_livesIn).2 46 = some (.ireturn, 47, 0, 0, 0, 0, 0, []) := (congrFun pm_J_livesIn 46).trans rfl
theorem rl_J_livesIn_47 : (am_pg z_J_livesIn).2 47 = some (.iinc 4 (1), 50, 4, 0, 0, 0, 1, []) := (congrFun pm_J_livesIn 47).trans rfl
theorem rl_J_livesIn_50 : (am_pg z_J_livesIn).2 50 = some (.goto (-34), 53, 16, 0, 0, 0, 0, []) := (congrFun pm_J_livesIn 50).trans rfl
theorem rl_J_livesIn_53 : (am_pg z_J_livesIn).2 53 = some (.bipush (-2), 55, 0, 0, 0, 0, -2, []) := (congrFun pm_J_livesIn 53).trans rfl
theorem rl_J_livesIn_55 : (am_pg z_J_livesIn).2 55 = some (.ireturn, 56, 0, 0, 0, 0, 0, []) := (congrFun pm_J_livesIn 55).trans rfl
theorem rl_J_livesIfMoved_0 : (am_pg z_J_livesIfMoved).2 0 = some (.aload_n 0, 1, 0, 0, 0, 0, 0, []) := (congrFun pm_J_livesIfMoved 0).trans rfl
theorem rl_J_livesIfMoved_1 : (am_pg z_J_livesIfMoved).2 1 = some (.iload_n 1, 2, 1, 0, 0, 0, 0, []) := (congrFun pm_J_livesIfMoved 1).trans rfl
theorem rl_J_livesIfMoved_2 : (am_pg z_J_livesIfMoved).2 2 = some (.iload_n 3, 3, 3, 0, 0, 0, 0, []) := (congrFun pm_J_livesIfMoved 2).trans rfl
theorem rl_J_livesIfMoved_3 : (am_pg z_J_livesIfMoved).2 3 = some (.iconst (-1), 4, 0, 0, 0, 0, -1, []) := (congrFun pm_J_livesIfMoved 3).trans rfl
theorem rl_J_livesIfMoved_4 : (am_pg z_J_livesIfMoved).2 4 = some (.invokevirtual 113, 7, 226, 3, 0, 182, 0, []) := (congrFun pm_J_livesIfMoved 4).trans rfl
theorem rl_J_livesIfMoved_7 : (am_pg z_J_livesIfMoved).2 7 = some (.aload_n 0, 8, 0, 0, 0, 0, 0, []) := (congrFun pm_J_livesIfMoved 7).trans rfl
theorem rl_J_livesIfMoved_8 : (am_pg z_J_livesIfMoved).2 8 = some (.iload_n 2, 9, 2, 0, 0, 0, 0, []) := (congrFun pm_J_livesIfMoved 8).trans rfl
theorem rl_J_livesIfMoved_9 : (am_pg z_J_livesIfMoved).2 9 = some (.iload_n 3, 10, 3, 0, 0, 0, 0, []) := (congrFun pm_J_livesIfMoved 9).trans rfl
theorem rl_J_livesIfMoved_10 : (am_pg z_J_livesIfMoved).2 10 = some (.iconst (1), 11, 0, 0, 0, 0, 1, []) := (congrFun pm_J_livesIfMoved 10).trans rfl
theorem rl_J_livesIfMoved_11 : (am_pg z_J_livesIfMoved).2 11 = some (.invokevirtual 113, 14, 226, 3, 0, 182, 0, []) := (congrFun pm_J_livesIfMoved 11).trans rfl
theorem rl_J_livesIfMoved_14 : (am_pg z_J_livesIfMoved).2 14 = some (.aload_n 0, 15, 0, 0, 0, 0, 0, []) := (congrFun pm_J_livesIfMoved 14).trans rfl
theorem rl_J_livesIfMoved_15 : (am_pg z_J_livesIfMoved).2 15 = some (.iload_n 3, 16, 3, 0, 0, 0, 0, []) := (congrFun pm_J_livesIfMoved 15).trans rfl
theorem rl_J_livesIfMoved_16 : (am_pg z_J_livesIfMoved).2 16 = some (.invokevirtual 117, 19, 224, 1, 0, 162, 0, []) := (congrFun pm_J_livesIfMoved 16).trans rfl
theorem rl_J_livesIfMoved_19 : (am_pg z_J_livesIfMoved).2 19 = some (.istore 4, 21, 4, 0, 0, 0, 0, []) := (congrFun pm_J_livesIfMoved 19).trans rfl
theorem rl_J_livesIfMoved_21 : (am_pg z_J_livesIfMoved).2 21 = some (.aload_n 0, 22, 0, 0, 0, 0, 0, []) := (congrFun pm_J_livesIfMoved 21).trans rfl
theorem rl_J_livesIfMoved_22 : (am_pg z_J_livesIfMoved).2 22 = some (.iload_n 2, 23, 2, 0, 0, 0, 0, []) := (congrFun pm_J_livesIfMoved 22).trans rfl
theorem rl_J_livesIfMoved_23 : (am_pg z_J_livesIfMoved).2 23 = some (.iload_n 3, 24, 3, 0, 0, 0, 0, []) := (congrFun pm_J_livesIfMoved 23).trans rfl
theorem rl_J_livesIfMoved_24 : (am_pg z_J_livesIfMoved).2 24 = some (.iconst (-1), 25, 0, 0, 0, 0, -1, []) := (congrFun pm_J_livesIfMoved 24).trans rfl
theorem rl_J_livesIfMoved_25 : (am_pg z_J_livesIfMoved).2 25 = some (.invokevirtual 113, 28, 226, 3, 0, 182, 0, []) := (congrFun pm_J_livesIfMoved 25).trans rfl
theorem rl_J_livesIfMoved_28 : (am_pg z_J_livesIfMoved).2 28 = some (.aload_n 0, 29, 0, 0, 0, 0, 0, []) := (congrFun pm_J_livesIfMoved 28).trans rfl
theorem rl_J_livesIfMoved_29 : (am_pg z_J_livesIfMoved).2 29 = some (.iload_n 1, 30, 1, 0, 0, 0, 0, []) := (congrFun pm_J_livesIfMoved 29).trans rfl
theorem rl_J_livesIfMoved_30 : (am_pg z_J_livesIfMoved).2 30 = some (.iload_n 3, 31, 3, 0, 0, 0, 0, []) := (congrFun pm_J_livesIfMoved 30).trans rfl
theorem rl_J_livesIfMoved_31 : (am_pg z_J_livesIfMoved).2 31 = some (.iconst (1), 32, 0, 0, 0, 0, 1, []) := (congrFun pm_J_livesIfMoved 31).trans rfl
theorem rl_J_livesIfMoved_32 : (am_pg z_J_livesIfMoved).2 32 = some (.invokevirtual 113, 35, 226, 3, 0, 182, 0, []) := (congrFun pm_J_livesIfMoved 32).trans rfl
theorem rl_J_livesIfMoved_35 : (am_pg z_J_livesIfMoved).2 35 = some (.iload 4, 37, 4, 0, 0, 0, 0, []) := (congrFun pm_J_livesIfMoved 35).trans rfl
theorem rl_J_livesIfMoved_37 : (am_pg z_J_livesIfMoved).2 37 = some (.ireturn, 38, 0, 0, 0, 0, 0, []) := (congrFun pm_J_livesIfMoved 37).trans rfl
theorem rl_J_shift_0 : (am_pg z_J_shift).2 0 = some (.iload_n 1, 1, 1, 0, 0, 0, 0, []) := (congrFun pm_J_shift 0).trans rfl
theorem rl_J_shift_1 : (am_pg z_J_shift).2 1 = some (.invokestatic 120, 4, 69, 1, 0, 166, 0, []) := (congrFun pm_J_shift 1).trans rfl
theorem rl_J_shift_4 : (am_pg z_J_shift).2 4 = some (.ifCond .eq (17), 7, 21, 0, 0, 0, 0, []) := (congrFun pm_J_shift 4).trans rfl
theorem rl_J_shift_7 : (am_pg z_J_shift).2 7 = some (.aload_n 0, 8, 0, 0, 0, 0, 0, []) := (congrFun pm_J_shift 7).trans rfl
theorem rl_J_shift_8 : (am_pg z_J_shift).2 8 = some (.getfield 9, 11, 0, 2, 0, 57, 0, []) := (congrFun pm_J_shift 8).trans rfl
theorem rl_J_shift_11 : (am_pg z_J_shift).2 11 = some (.iload_n 1, 12, 1, 0, 0, 0, 0, []) := (congrFun pm_J_shift 11).trans rfl
theorem rl_J_shift_12 : (am_pg z_J_shift).2 12 = some (.iload_n 2, 13, 2, 0, 0, 0, 0, []) := (congrFun pm_J_shift 12).trans rfl
theorem rl_J_shift_13 : (am_pg z_J_shift).2 13 = some (.invokestatic 74, 16, 78, 2, 0, 110, 0, []) := (congrFun pm_J_shift 13).trans rfl
theorem rl_J_shift_16 : (am_pg z_J_shift).2 16 = some (.dup2, 17, 0, 0, 0, 0, 0, []) := (congrFun pm_J_shift 16).trans rfl
theorem rl_J_shift_17 : (am_pg z_J_shift).2 17 = some (.iaload, 18, 0, 0, 0, 0, 0, []) := (congrFun pm_J_shift 17).trans rfl
theorem rl_J_shift_18 : (am_pg z_J_shift).2 18 = some (.iload_n 3, 19, 3, 0, 0, 0, 0, []) := (congrFun pm_J_shift 18).trans rfl
theorem rl_J_shift_19 : (am_pg z_J_shift).2 19 = some (.iadd, 20, 0, 0, 0, 0, 0, []) := (congrFun pm_J_shift 19).trans rfl
theorem rl_J_shift_20 : (am_pg z_J_shift).2 20 = some (.iastore, 21, 0, 0, 0, 0, 0, []) := (congrFun pm_J_shift 20).trans rfl
theorem rl_J_shift_21 : (am_pg z_J_shift).2 21 = some (.return_, 22, 0, 0, 0, 0, 0, []) := (congrFun pm_J_shift 21).trans rfl
theorem rl_J_loosePlaces_0 : (am_pg z_J_loosePlaces).2 0 = some (.aload_n 0, 1, 0, 0, 0, 0, 0, []) := (congrFun pm_J_loosePlaces 0).trans rfl
theorem rl_J_loosePlaces_1 : (am_pg z_J_loosePlaces).2 1 = some (.iload_n 1, 2, 1, 0, 0, 0, 0, []) := (congrFun pm_J_loosePlaces 1).trans rfl
theorem rl_J_loosePlaces_2 : (am_pg z_J_loosePlaces).2 2 = some (.invokevirtual 117, 5, 224, 1, 0, 162, 0, []) := (congrFun pm_J_loosePlaces 2).trans rfl
theorem rl_J_loosePlaces_5 : (am_pg z_J_loosePlaces).2 5 = some (.istore_n 2, 6, 2, 0, 0, 0, 0, []) := (congrFun pm_J_loosePlaces 5).trans rfl
theorem rl_J_loosePlaces_6 : (am_pg z_J_loosePlaces).2 6 = some (.iconst (0), 7, 0, 0, 0, 0, 0, []) := (congrFun pm_J_loosePlaces 6).trans rfl
theorem rl_J_loosePlaces_7 : (am_pg z_J_loosePlaces).2 7 = some (.istore_n 3, 8, 3, 0, 0, 0, 0, []) := (congrFun pm_J_loosePlaces 7).trans rfl
theorem rl_J_loosePlaces_8 : (am_pg z_J_loosePlaces).2 8 = some (.iconst (-1), 9, 0, 0, 0, 0, -1, []) := (congrFun pm_J_loosePlaces 8).trans rfl
theorem rl_J_loosePlaces_9 : (am_pg z_J_loosePlaces).2 9 = some (.istore 4, 11, 4, 0, 0, 0, 0, []) := (congrFun pm_J_loosePlaces 9).trans rfl
theorem rl_J_loosePlaces_11 : (am_pg z_J_loosePlaces).2 11 = some (.iload 4, 13, 4, 0, 0, 0, 0, []) := (congrFun pm_J_loosePlaces 11).trans rfl
theorem rl_J_loosePlaces_13 : (am_pg z_J_loosePlaces).2 13 = some (.bipush (6), 15, 0, 0, 0, 0, 6, []) := (congrFun pm_J_loosePlaces 13).trans rfl
theorem rl_J_loosePlaces_15 : (am_pg z_J_loosePlaces).2 15 = some (.if_icmp .ge (80), 18, 95, 0, 0, 0, 0, []) := (congrFun pm_J_loosePlaces 15).trans rfl
theorem rl_J_loosePlaces_18 : (am_pg z_J_loosePlaces).2 18 = some (.iload 4, 20, 4, 0, 0, 0, 0, []) := (congrFun pm_J_loosePlaces 18).trans rfl
theorem rl_J_loosePlaces_20 : (am_pg z_J_loosePlaces).2 20 = some (.iconst (-1), 21, 0, 0, 0, 0, -1, []) := (congrFun pm_J_loosePlaces 20).trans rfl
theorem rl_J_loosePlaces_21 : (am_pg z_J_loosePlaces).2 21 = some (.if_icmp .eq (20), 24, 41, 0, 0, 0, 0, []) := (congrFun pm_J_loosePlaces 21).trans rfl
theorem rl_J_loosePlaces_24 : (am_pg z_J_loosePlaces).2 24 = some (.aload_n 0, 25, 0, 0, 0, 0, 0, []) := (congrFun pm_J_loosePlaces 24).trans rfl
theorem rl_J_loosePlaces_25 : (am_pg z_J_loosePlaces).2 25 = some (.getfield 9, 28, 0, 2, 0, 57, 0, []) := (congrFun pm_J_loosePlaces 25).trans rfl
theorem rl_J_loosePlaces_28 : (am_pg z_J_loosePlaces).2 28 = some (.iload 4, 30, 4, 0, 0, 0, 0, []) := (congrFun pm_J_loosePlaces 28).trans rfl
theorem rl_J_loosePlaces_30 : (am_pg z_J_loosePlaces).2 30 = some (.iload_n 1, 31, 1, 0, 0, 0, 0, []) := (congrFun pm_J_loosePlaces 30).trans rfl
theorem rl_J_loosePlaces_31 : (am_pg z_J_loosePlaces).2 31 = some (.invokestatic 74, 34, 78, 2, 0, 110, 0, []) := (congrFun pm_J_loosePlaces 31).trans rfl
theorem rl_J_loosePlaces_34 : (am_pg z_J_loosePlaces).2 34 = some (.iaload, 35, 0, 0, 0, 0, 0, []) := (congrFun pm_J_loosePlaces 34).trans rfl
theorem rl_J_loosePlaces_35 : (am_pg z_J_loosePlaces).2 35 = some (.ifCond .ne (6), 38, 41, 0, 0, 0, 0, []) := (congrFun pm_J_loosePlaces 35).trans rfl
theorem rl_J_loosePlaces_38 : (am_pg z_J_loosePlaces).2 38 = some (.goto (51), 41, 89, 0, 0, 0, 0, []) := (congrFun pm_J_loosePlaces 38).trans rfl
theorem rl_J_loosePlaces_41 : (am_pg z_J_loosePlaces).2 41 = some (.iconst (-1), 42, 0, 0, 0, 0, -1, []) := (congrFun pm_J_loosePlaces 41).trans rfl
theorem rl_J_loosePlaces_42 : (am_pg z_J_loosePlaces).2 42 = some (.istore 5, 44, 5, 0, 0, 0, 0, []) := (congrFun pm_J_loosePlaces 42).trans rfl
theorem rl_J_loosePlaces_44 : (am_pg z_J_loosePlaces).2 44 = some (.iload 5, 46, 5, 0, 0, 0, 0, []) := (congrFun pm_J_loosePlaces 44).trans rfl
theorem rl_J_loosePlaces_46 : (am_pg z_J_loosePlaces).2 46 = some (.bipush (6), 48, 0, 0, 0, 0, 6, []) := (congrFun pm_J_loosePlaces 46).trans rfl
theorem rl_J_loosePlaces_48 : (am_pg z_J_loosePlaces).2 48 = some (.if_icmp .ge (41), 51, 89, 0, 0, 0, 0, []) := (congrFun pm_J_loosePlaces 48).trans rfl
theorem rl_J_loosePlaces_51 : (am_pg z_J_loosePlaces).2 51 = some (.iload 5, 53, 5, 0, 0, 0, 0, []) := (congrFun pm_J_loosePlaces 51).trans rfl
theorem rl_J_loosePlaces_53 : (am_pg z_J_loosePlaces).2 53 = some (.iload 4, 55, 4, 0, 0, 0, 0, []) := (congrFun pm_J_loosePlaces 53).trans rfl
theorem rl_J_loosePlaces_55 : (am_pg z_J_loosePlaces).2 55 = some (.if_icmp .eq (28), 58, 83, 0, 0, 0, 0, []) := (congrFun pm_J_loosePlaces 55).trans rfl
theorem rl_J_loosePlaces_58 : (am_pg z_J_loosePlaces).2 58 = some (.aload_n 0, 59, 0, 0, 0, 0, 0, []) := (congrFun pm_J_loosePlaces 58).trans rfl
theorem rl_J_loosePlaces_59 : (am_pg z_J_loosePlaces).2 59 = some (.iload 4, 61, 4, 0, 0, 0, 0, []) := (congrFun pm_J_loosePlaces 59).trans rfl
theorem rl_J_loosePlaces_61 : (am_pg z_J_loosePlaces).2 61 = some (.iload 5, 63, 5, 0, 0, 0, 0, []) := (congrFun pm_J_loosePlaces 61).trans rfl
theorem rl_J_loosePlaces_63 : (am_pg z_J_loosePlaces).2 63 = some (.iload_n 1, 64, 1, 0, 0, 0, 0, []) := (congrFun pm_J_loosePlaces 63).trans rfl
theorem rl_J_loosePlaces_64 : (am_pg z_J_loosePlaces).2 64 = some (.invokevirtual 124, 67, 225, 3, 0, 185, 0, []) := (congrFun pm_J_loosePlaces 64).trans rfl
theorem rl_J_loosePlaces_67 : (am_pg z_J_loosePlaces).2 67 = some (.iload_n 2, 68, 2, 0, 0, 0, 0, []) := (congrFun pm_J_loosePlaces 67).trans rfl
theorem rl_J_loosePlaces_68 : (am_pg z_J_loosePlaces).2 68 = some (.if_icmp .eq (15), 71, 83, 0, 0, 0, 0, []) := (congrFun pm_J_loosePlaces 68).trans rfl
theorem rl_J_loosePlaces_71 : (am_pg z_J_loosePlaces).2 71 = some (.iload_n 3, 72, 3, 0, 0, 0, 0, []) := (congrFun pm_J_loosePlaces 71).trans rfl
theorem rl_J_loosePlaces_72 : (am_pg z_J_loosePlaces).2 72 = some (.iconst (1), 73, 0, 0, 0, 0, 1, []) := (congrFun pm_J_loosePlaces 72).trans rfl
theorem rl_J_loosePlaces_73 : (am_pg z_J_loosePlaces).2 73 = some (.iload 4, 75, 4, 0, 0, 0, 0, []) := (congrFun pm_J_loosePlaces 73).trans rfl
theorem rl_J_loosePlaces_75 : (am_pg z_J_loosePlaces).2 75 = some (.iconst (1), 76, 0, 0, 0, 0, 1, []) := (congrFun pm_J_loosePlaces 75).trans rfl
theorem rl_J_loosePlaces_76 : (am_pg z_J_loosePlaces).2 76 = some (.iadd, 77, 0, 0, 0, 0, 0, []) := (congrFun pm_J_loosePlaces 76).trans rfl
theorem rl_J_loosePlaces_77 : (am_pg z_J_loosePlaces).2 77 = some (.ishl, 78, 0, 0, 0, 0, 0, []) := (congrFun pm_J_loosePlaces 77).trans rfl
theorem rl_J_loosePlaces_78 : (am_pg z_J_loosePlaces).2 78 = some (.ior, 79, 0, 0, 0, 0, 0, []) := (congrFun pm_J_loosePlaces 78).trans rfl
theorem rl_J_loosePlaces_79 : (am_pg z_J_loosePlaces).2 79 = some (.istore_n 3, 80, 3, 0, 0, 0, 0, []) := (congrFun pm_J_loosePlaces 79).trans rfl
theorem rl_J_loosePlaces_80 : (am_pg z_J_loosePlaces).2 80 = some (.goto (9), 83, 89, 0, 0, 0, 0, []) := (congrFun pm_J_loosePlaces 80).trans rfl
theorem rl_J_loosePlaces_83 : (am_pg z_J_loosePlaces).2 83 = some (.iinc 5 (1), 86, 5, 0, 0, 0, 1, []) := (congrFun pm_J_loosePlaces 83).trans rfl
theorem rl_J_loosePlaces_86 : (am_pg z_J_loosePlaces).2 86 = some (.goto (-42), 89, 44, 0, 0, 0, 0, []) := (congrFun pm_J_loosePlaces 86).trans rfl
theorem rl_J_loosePlaces_89 : (am_pg z_J_loosePlaces).2 89 = some (.iinc 4 (1), 92, 4, 0, 0, 0, 1, []) := (congrFun pm_J_loosePlaces 89).trans rfl
theorem rl_J_loosePlaces_92 : (am_pg z_J_loosePlaces).2 92 = some (.goto (-81), 95, 11, 0, 0, 0, 0, []) := (congrFun pm_J_loosePlaces 92).trans rfl
theorem rl_J_loosePlaces_95 : (am_pg z_J_loosePlaces).2 95 = some (.iload_n 3, 96, 3, 0, 0, 0, 0, []) := (congrFun pm_J_loosePlaces 95).trans rfl
theorem rl_J_loosePlaces_96 : (am_pg z_J_loosePlaces).2 96 = some (.ireturn, 97, 0, 0, 0, 0, 0, []) := (congrFun pm_J_loosePlaces 96).trans rfl
theorem rl_J_needOf_0 : (am_pg z_J_needOf).2 0 = some (.iload_n 1, 1, 1, 0, 0, 0, 0, []) := (congrFun pm_J_needOf 0).trans rfl
theorem rl_J_needOf_1 : (am_pg z_J_needOf).2 1 = some (.iload_n 2, 2, 2, 0, 0, 0, 0, []) := (congrFun pm_J_needOf 1).trans rfl
theorem rl_J_needOf_2 : (am_pg z_J_needOf).2 2 = some (.invokestatic 74, 5, 78, 2, 0, 110, 0, []) := (congrFun pm_J_needOf 2).trans rfl
theorem rl_J_needOf_5 : (am_pg z_J_needOf).2 5 = some (.istore_n 3, 6, 3, 0, 0, 0, 0, []) := (congrFun pm_J_needOf 5).trans rfl
theorem rl_J_needOf_6 : (am_pg z_J_needOf).2 6 = some (.aload_n 0, 7, 0, 0, 0, 0, 0, []) := (congrFun pm_J_needOf 6).trans rfl
theorem rl_J_needOf_7 : (am_pg z_J_needOf).2 7 = some (.getfield 9, 10, 0, 2, 0, 57, 0, []) := (congrFun pm_J_needOf 7).trans rfl
theorem rl_J_needOf_10 : (am_pg z_J_needOf).2 10 = some (.iload_n 3, 11, 3, 0, 0, 0, 0, []) := (congrFun pm_J_needOf 10).trans rfl
theorem rl_J_needOf_11 : (am_pg z_J_needOf).2 11 = some (.iaload, 12, 0, 0, 0, 0, 0, []) := (congrFun pm_J_needOf 11).trans rfl
theorem rl_J_needOf_12 : (am_pg z_J_needOf).2 12 = some (.istore 4, 14, 4, 0, 0, 0, 0, []) := (congrFun pm_J_needOf 12).trans rfl
theorem rl_J_needOf_14 : (am_pg z_J_needOf).2 14 = some (.bipush (-2), 16, 0, 0, 0, 0, -2, []) := (congrFun pm_J_needOf 14).trans rfl
theorem rl_J_needOf_16 : (am_pg z_J_needOf).2 16 = some (.istore 5, 18, 5, 0, 0, 0, 0, []) := (congrFun pm_J_needOf 16).trans rfl
theorem rl_J_needOf_18 : (am_pg z_J_needOf).2 18 = some (.iconst (0), 19, 0, 0, 0, 0, 0, []) := (congrFun pm_J_needOf 18).trans rfl
theorem rl_J_needOf_19 : (am_pg z_J_needOf).2 19 = some (.istore 6, 21, 6, 0, 0, 0, 0, []) := (congrFun pm_J_needOf 19).trans rfl
theorem rl_J_needOf_21 : (am_pg z_J_needOf).2 21 = some (.iload 6, 23, 6, 0, 0, 0, 0, []) := (congrFun pm_J_needOf 21).trans rfl
theorem rl_J_needOf_23 : (am_pg z_J_needOf).2 23 = some (.sipush (360), 26, 0, 0, 0, 0, 360, []) := (congrFun pm_J_needOf 23).trans rfl
theorem rl_J_needOf_26 : (am_pg z_J_needOf).2 26 = some (.iload 4, 28, 4, 0, 0, 0, 0, []) := (congrFun pm_J_needOf 26).trans rfl
theorem rl_J_needOf_28 : (am_pg z_J_needOf).2 28 = some (.isub, 29, 0, 0, 0, 0, 0, []) := (congrFun pm_J_needOf 28).trans rfl
theorem rl_J_needOf_29 : (am_pg z_J_needOf).2 29 = some (.if_icmp .gt (40), 32, 69, 0, 0, 0, 0, []) := (congrFun pm_J_needOf 29).trans rfl
theorem rl_J_needOf_32 : (am_pg z_J_needOf).2 32 = some (.iload 5, 34, 5, 0, 0, 0, 0, []) := (congrFun pm_J_needOf 32).trans rfl
theorem rl_J_needOf_34 : (am_pg z_J_needOf).2 34 = some (.bipush (-2), 36, 0, 0, 0, 0, -2, []) := (congrFun pm_J_needOf 34).trans rfl
theorem rl_J_needOf_36 : (am_pg z_J_needOf).2 36 = some (.if_icmp .ne (33), 39, 69, 0, 0, 0, 0, []) := (congrFun pm_J_needOf 36).trans rfl
theorem rl_J_needOf_39 : (am_pg z_J_needOf).2 39 = some (.aload_n 0, 40, 0, 0, 0, 0, 0, []) := (congrFun pm_J_needOf 39).trans rfl
theorem rl_J_needOf_40 : (am_pg z_J_needOf).2 40 = some (.getfield 9, 43, 0, 2, 0, 57, 0, []) := (congrFun pm_J_needOf 40).trans rfl
theorem rl_J_needOf_43 : (am_pg z_J_needOf).2 43 = some (.iload_n 3, 44, 3, 0, 0, 0, 0, []) := (congrFun pm_J_needOf 43).trans rfl
theorem rl_J_needOf_44 : (am_pg z_J_needOf).2 44 = some (.iload 4, 46, 4, 0, 0, 0, 0, []) := (congrFun pm_J_needOf 44).trans rfl
theorem rl_J_needOf_46 : (am_pg z_J_needOf).2 46 = some (.iload 6, 48, 6, 0, 0, 0, 0, []) := (congrFun pm_J_needOf 46).trans rfl
theorem rl_J_needOf_48 : (am_pg z_J_needOf).2 48 = some (.iadd, 49, 0, 0, 0, 0, 0, []) := (congrFun pm_J_needOf 48).trans rfl
theorem rl_J_needOf_49 : (am_pg z_J_needOf).2 49 = some (.iastore, 50, 0, 0, 0, 0, 0, []) := (congrFun pm_J_needOf 49).trans rfl
theorem rl_J_needOf_50 : (am_pg z_J_needOf).2 50 = some (.aload_n 0, 51, 0, 0, 0, 0, 0, []) := (congrFun pm_J_needOf 50).trans rfl
theorem rl_J_needOf_51 : (am_pg z_J_needOf).2 51 = some (.iload_n 1, 52, 1, 0, 0, 0, 0, []) := (congrFun pm_J_needOf 51).trans rfl
theorem rl_J_needOf_52 : (am_pg z_J_needOf).2 52 = some (.iload_n 2, 53, 2, 0, 0, 0, 0, []) := (congrFun pm_J_needOf 52).trans rfl
theorem rl_J_needOf_53 : (am_pg z_J_needOf).2 53 = some (.invokevirtual 127, 56, 216, 2, 0, 154, 0, []) := (congrFun pm_J_needOf 53).trans rfl
theorem rl_J_needOf_56 : (am_pg z_J_needOf).2 56 = some (.ifCond .eq (7), 59, 63, 0, 0, 0, 0, []) := (congrFun pm_J_needOf 56).trans rfl
theorem rl_J_needOf_59 : (am_pg z_J_needOf).2 59 = some (.iload 6, 61, 6, 0, 0, 0, 0, []) := (congrFun pm_J_needOf 59).trans rfl
theorem rl_J_needOf_61 : (am_pg z_J_needOf).2 61 = some (.istore 5, 63, 5, 0, 0, 0, 0, []) := (congrFun pm_J_needOf 61).trans rfl
theorem rl_J_needOf_63 : (am_pg z_J_needOf).2 63 = some (.iinc 6 (1), 66, 6, 0, 0, 0, 1, []) := (congrFun pm_J_needOf 63).trans rfl
theorem rl_J_needOf_66 : (am_pg z_J_needOf).2 66 = some (.goto (-45), 69, 21, 0, 0, 0, 0, []) := (congrFun pm_J_needOf 66).trans rfl
theorem rl_J_needOf_69 : (am_pg z_J_needOf).2 69 = some (.aload_n 0, 70, 0, 0, 0, 0, 0, []) := (congrFun pm_J_needOf 69).trans rfl
theorem rl_J_needOf_70 : (am_pg z_J_needOf).2 70 = some (.getfield 9, 73, 0, 2, 0, 57, 0, []) := (congrFun pm_J_needOf 70).trans rfl
theorem rl_J_needOf_73 : (am_pg z_J_needOf).2 73 = some (.iload_n 3, 74, 3, 0, 0, 0, 0, []) := (congrFun pm_J_needOf 73).trans rfl
theorem rl_J_needOf_74 : (am_pg z_J_needOf).2 74 = some (.iload 4, 76, 4, 0, 0, 0, 0, []) := (congrFun pm_J_needOf 74).trans rfl
theorem rl_J_needOf_76 : (am_pg z_J_needOf).2 76 = some (.iastore, 77, 0, 0, 0, 0, 0, []) := (congrFun pm_J_needOf 76).trans rfl
theorem rl_J_needOf_77 : (am_pg z_J_needOf).2 77 = some (.iload 5, 79, 5, 0, 0, 0, 0, []) := (congrFun pm_J_needOf 77).trans rfl
theorem rl_J_needOf_79 : (am_pg z_J_needOf).2 79 = some (.ireturn, 80, 0, 0, 0, 0, 0, []) := (congrFun pm_J_needOf 79).trans rfl
theorem rl_J_splitFrom_0 : (am_pg z_J_splitFrom).2 0 = some (.iload_n 2, 1, 2, 0, 0, 0, 0, []) := (congrFun pm_J_splitFrom 0).trans rfl
theorem rl_J_splitFrom_1 : (am_pg z_J_splitFrom).2 1 = some (.invokestatic 130, 4, 75, 1, 0, 153, 0, []) := (congrFun pm_J_splitFrom 1).trans rfl
theorem rl_J_splitFrom_4 : (am_pg z_J_splitFrom).2 4 = some (.istore 4, 6, 4, 0, 0, 0, 0, []) := (congrFun pm_J_splitFrom 4).trans rfl
theorem rl_J_splitFrom_6 : (am_pg z_J_splitFrom).2 6 = some (.iload_n 2, 7, 2, 0, 0, 0, 0, []) := (congrFun pm_J_splitFrom 6).trans rfl
theorem rl_J_splitFrom_7 : (am_pg z_J_splitFrom).2 7 = some (.ifCond .le (17), 10, 24, 0, 0, 0, 0, []) := (congrFun pm_J_splitFrom 7).trans rfl
theorem rl_J_splitFrom_10 : (am_pg z_J_splitFrom).2 10 = some (.aload_n 0, 11, 0, 0, 0, 0, 0, []) := (congrFun pm_J_splitFrom 10).trans rfl
theorem rl_J_splitFrom_11 : (am_pg z_J_splitFrom).2 11 = some (.iload_n 1, 12, 1, 0, 0, 0, 0, []) := (congrFun pm_J_splitFrom 11).trans rfl
theorem rl_J_splitFrom_12 : (am_pg z_J_splitFrom).2 12 = some (.iload_n 2, 13, 2, 0, 0, 0, 0, []) := (congrFun pm_J_splitFrom 12).trans rfl
theorem rl_J_splitFrom_13 : (am_pg z_J_splitFrom).2 13 = some (.iconst (1), 14, 0, 0, 0, 0, 1, []) := (congrFun pm_J_splitFrom 13).trans rfl
theorem rl_J_splitFrom_14 : (am_pg z_J_splitFrom).2 14 = some (.isub, 15, 0, 0, 0, 0, 0, []) := (congrFun pm_J_splitFrom 14).trans rfl
theorem rl_J_splitFrom_15 : (am_pg z_J_splitFrom).2 15 = some (.invokevirtual 127, 18, 216, 2, 0, 154, 0, []) := (congrFun pm_J_splitFrom 15).trans rfl
theorem rl_J_splitFrom_18 : (am_pg z_J_splitFrom).2 18 = some (.ifCond .eq (6), 21, 24, 0, 0, 0, 0, []) := (congrFun pm_J_splitFrom 18).trans rfl
theorem rl_J_splitFrom_21 : (am_pg z_J_splitFrom).2 21 = some (.iload 4, 23, 4, 0, 0, 0, 0, []) := (congrFun pm_J_splitFrom 21).trans rfl
theorem rl_J_splitFrom_23 : (am_pg z_J_splitFrom).2 23 = some (.ireturn, 24, 0, 0, 0, 0, 0, []) := (congrFun pm_J_splitFrom 23).trans rfl
theorem rl_J_splitFrom_24 : (am_pg z_J_splitFrom).2 24 = some (.iload 4, 26, 4, 0, 0, 0, 0, []) := (congrFun pm_J_splitFrom 24).trans rfl
theorem rl_J_splitFrom_26 : (am_pg z_J_splitFrom).2 26 = some (.iload_n 2, 27, 2, 0, 0, 0, 0, []) := (congrFun pm_J_splitFrom 26).trans rfl
theorem rl_J_splitFrom_27 : (am_pg z_J_splitFrom).2 27 = some (.invokestatic 133, 30, 76, 1, 0, 155, 0, []) := (congrFun pm_J_splitFrom 27).trans rfl
theorem rl_J_splitFrom_30 : (am_pg z_J_splitFrom).2 30 = some (.if_icmp .ge (20), 33, 50, 0, 0, 0, 0, []) := (congrFun pm_J_splitFrom 30).trans rfl
theorem rl_J_splitFrom_33 : (am_pg z_J_splitFrom).2 33 = some (.aload_n 0, 34, 0, 0, 0, 0, 0, []) := (congrFun pm_J_splitFrom 33).trans rfl
theorem rl_J_splitFrom_34 : (am_pg z_J_splitFrom).2 34 = some (.iload_n 1, 35, 1, 0, 0, 0, 0, []) := (congrFun pm_J_splitFrom 34).trans rfl
theorem rl_J_splitFrom_35 : (am_pg z_J_splitFrom).2 35 = some (.iload 4, 37, 4, 0, 0, 0, 0, []) := (congrFun pm_J_splitFrom 35).trans rfl
theorem rl_J_splitFrom_37 : (am_pg z_J_splitFrom).2 37 = some (.aload_n 3, 38, 3, 0, 0, 0, 0, []) := (congrFun pm_J_splitFrom 37).trans rfl
theorem rl_J_splitFrom_38 : (am_pg z_J_splitFrom).2 38 = some (.invokevirtual 136, 41, 231, 3, 0, 156, 0, []) := (congrFun pm_J_splitFrom 38).trans rfl
theorem rl_J_splitFrom_41 : (am_pg z_J_splitFrom).2 41 = some (.ifCond .ne (9), 44, 50, 0, 0, 0, 0, []) := (congrFun pm_J_splitFrom 41).trans rfl
theorem rl_J_splitFrom_44 : (am_pg z_J_splitFrom).2 44 = some (.iinc 4 (1), 47, 4, 0, 0, 0, 1, []) := (congrFun pm_J_splitFrom 44).trans rfl
theorem rl_J_splitFrom_47 : (am_pg z_J_splitFrom).2 47 = some (.goto (-23), 50, 24, 0, 0, 0, 0, []) := (congrFun pm_J_splitFrom 47).trans rfl
theorem rl_J_splitFrom_50 : (am_pg z_J_splitFrom).2 50 = some (.iload 4, 52, 4, 0, 0, 0, 0, []) := (congrFun pm_J_splitFrom 50).trans rfl
theorem rl_J_splitFrom_52 : (am_pg z_J_splitFrom).2 52 = some (.ireturn, 53, 0, 0, 0, 0, 0, []) := (congrFun pm_J_splitFrom 52).trans rfl
theorem rl_J_splitTill_0 : (am_pg z_J_splitTill).2 0 = some (.iload_n 2, 1, 2, 0, 0, 0, 0, []) := (congrFun pm_J_splitTill 0).trans rfl
theorem rl_J_splitTill_1 : (am_pg z_J_splitTill).2 1 = some (.invokestatic 133, 4, 76, 1, 0, 155, 0, []) := (congrFun pm_J_splitTill 1).trans rfl
theorem rl_J_splitTill_4 : (am_pg z_J_splitTill).2 4 = some (.istore 4, 6, 4, 0, 0, 0, 0, []) := (congrFun pm_J_splitTill 4).trans rfl
theorem rl_J_splitTill_6 : (am_pg z_J_splitTill).2 6 = some (.iload_n 2, 7, 2, 0, 0, 0, 0, []) := (congrFun pm_J_splitTill 6).trans rfl
theorem rl_J_splitTill_7 : (am_pg z_J_splitTill).2 7 = some (.iconst (2), 8, 0, 0, 0, 0, 2, []) := (congrFun pm_J_splitTill 7).trans rfl
theorem rl_J_splitTill_8 : (am_pg z_J_splitTill).2 8 = some (.if_icmp .ge (17), 11, 25, 0, 0, 0, 0, []) := (congrFun pm_J_splitTill 8).trans rfl
theorem rl_J_splitTill_11 : (am_pg z_J_splitTill).2 11 = some (.aload_n 0, 12, 0, 0, 0, 0, 0, []) := (congrFun pm_J_splitTill 11).trans rfl
theorem rl_J_splitTill_12 : (am_pg z_J_splitTill).2 12 = some (.iload_n 1, 13, 1, 0, 0, 0, 0, []) := (congrFun pm_J_splitTill 12).trans rfl
theorem rl_J_splitTill_13 : (am_pg z_J_splitTill).2 13 = some (.iload_n 2, 14, 2, 0, 0, 0, 0, []) := (congrFun pm_J_splitTill 13).trans rfl
theorem rl_J_splitTill_14 : (am_pg z_J_splitTill).2 14 = some (.iconst (1), 15, 0, 0, 0, 0, 1, []) := (congrFun pm_J_splitTill 14).trans rfl
theorem rl_J_splitTill_15 : (am_pg z_J_splitTill).2 15 = some (.iadd, 16, 0, 0, 0, 0, 0, []) := (congrFun pm_J_splitTill 15).trans rfl
theorem rl_J_splitTill_16 : (am_pg z_J_splitTill).2 16 = some (.invokevirtual 127, 19, 216, 2, 0, 154, 0, []) := (congrFun pm_J_splitTill 16).trans rfl
theorem rl_J_splitTill_19 : (am_pg z_J_splitTill).2 19 = some (.ifCond .eq (6), 22, 25, 0, 0, 0, 0, []) := (congrFun pm_J_splitTill 19).trans rfl
theorem rl_J_splitTill_22 : (am_pg z_J_splitTill).2 22 = some (.iload 4, 24, 4, 0, 0, 0, 0, []) := (congrFun pm_J_splitTill 22).trans rfl
theorem rl_J_splitTill_24 : (am_pg z_J_splitTill).2 24 = some (.ireturn, 25, 0, 0, 0, 0, 0, []) := (congrFun pm_J_splitTill 24).trans rfl
theorem rl_J_splitTill_25 : (am_pg z_J_splitTill).2 25 = some (.iload 4, 27, 4, 0, 0, 0, 0, []) := (congrFun pm_J_splitTill 25).trans rfl
theorem rl_J_splitTill_27 : (am_pg z_J_splitTill).2 27 = some (.iload_n 2, 28, 2, 0, 0, 0, 0, []) := (congrFun pm_J_splitTill 27).trans rfl
theorem rl_J_splitTill_28 : (am_pg z_J_splitTill).2 28 = some (.invokestatic 130, 31, 75, 1, 0, 153, 0, []) := (congrFun pm_J_splitTill 28).trans rfl
theorem rl_J_splitTill_31 : (am_pg z_J_splitTill).2 31 = some (.if_icmp .le (20), 34, 51, 0, 0, 0, 0, []) := (congrFun pm_J_splitTill 31).trans rfl
theorem rl_J_splitTill_34 : (am_pg z_J_splitTill).2 34 = some (.aload_n 0, 35, 0, 0, 0, 0, 0, []) := (congrFun pm_J_splitTill 34).trans rfl
theorem rl_J_splitTill_35 : (am_pg z_J_splitTill).2 35 = some (.iload_n 1, 36, 1, 0, 0, 0, 0, []) := (congrFun pm_J_splitTill 35).trans rfl
theorem rl_J_splitTill_36 : (am_pg z_J_splitTill).2 36 = some (.iload 4, 38, 4, 0, 0, 0, 0, []) := (congrFun pm_J_splitTill 36).trans rfl
theorem rl_J_splitTill_38 : (am_pg z_J_splitTill).2 38 = some (.aload_n 3, 39, 3, 0, 0, 0, 0, []) := (congrFun pm_J_splitTill 38).trans rfl
theorem rl_J_splitTill_39 : (am_pg z_J_splitTill).2 39 = some (.invokevirtual 136, 42, 231, 3, 0, 156, 0, []) := (congrFun pm_J_splitTill 39).trans rfl
theorem rl_J_splitTill_42 : (am_pg z_J_splitTill).2 42 = some (.ifCond .ne (9), 45, 51, 0, 0, 0, 0, []) := (congrFun pm_J_splitTill 42).trans rfl
theorem rl_J_splitTill_45 : (am_pg z_J_splitTill).2 45 = some (.iinc 4 (-1), 48, 4, 0, 0, 0, -1, []) := (congrFun pm_J_splitTill 45).trans rfl
theorem rl_J_splitTill_48 : (am_pg z_J_splitTill).2 48 = some (.goto (-23), 51, 25, 0, 0, 0, 0, []) := (congrFun pm_J_splitTill 48).trans rfl
theorem rl_J_splitTill_51 : (am_pg z_J_splitTill).2 51 = some (.iload 4, 53, 4, 0, 0, 0, 0, []) := (congrFun pm_J_splitTill 51).trans rfl
theorem rl_J_splitTill_53 : (am_pg z_J_splitTill).2 53 = some (.ireturn, 54, 0, 0, 0, 0, 0, []) := (congrFun pm_J_splitTill 53).trans rfl
theorem rl_J_isBound_0 : (am_pg z_J_isBound).2 0 = some (.aload_n 3, 1, 3, 0, 0, 0, 0, []) := (congrFun pm_J_isBound 0).trans rfl
theorem rl_J_isBound_1 : (am_pg z_J_isBound).2 1 = some (.iload_n 2, 2, 2, 0, 0, 0, 0, []) := (congrFun pm_J_isBound 1).trans rfl
theorem rl_J_isBound_2 : (am_pg z_J_isBound).2 2 = some (.invokevirtual 140, 5, 237, 1, 1, 157, 0, []) := (congrFun pm_J_isBound 2).trans rfl
theorem rl_J_isBound_5 : (am_pg z_J_isBound).2 5 = some (.iload_n 1, 6, 1, 0, 0, 0, 0, []) := (congrFun pm_J_isBound 5).trans rfl
theorem rl_J_isBound_6 : (am_pg z_J_isBound).2 6 = some (.if_icmp .eq (15), 9, 21, 0, 0, 0, 0, []) := (congrFun pm_J_isBound 6).trans rfl
theorem rl_J_isBound_9 : (am_pg z_J_isBound).2 9 = some (.aload_n 0, 10, 0, 0, 0, 0, 0, []) := (congrFun pm_J_isBound 9).trans rfl
theorem rl_J_isBound_10 : (am_pg z_J_isBound).2 10 = some (.getfield 21, 13, 0, 0, 0, 55, 0, []) := (congrFun pm_J_isBound 10).trans rfl
theorem rl_J_isBound_13 : (am_pg z_J_isBound).2 13 = some (.iload_n 1, 14, 1, 0, 0, 0, 0, []) := (congrFun pm_J_isBound 13).trans rfl
theorem rl_J_isBound_14 : (am_pg z_J_isBound).2 14 = some (.iload_n 2, 15, 2, 0, 0, 0, 0, []) := (congrFun pm_J_isBound 14).trans rfl
theorem rl_J_isBound_15 : (am_pg z_J_isBound).2 15 = some (.invokevirtual 143, 18, 280, 2, 6, 158, 0, []) := (congrFun pm_J_isBound 15).trans rfl
theorem rl_J_isBound_18 : (am_pg z_J_isBound).2 18 = some (.ifCond .eq (7), 21, 25, 0, 0, 0, 0, []) := (congrFun pm_J_isBound 18).trans rfl
theorem rl_J_isBound_21 : (am_pg z_J_isBound).2 21 = some (.iconst (1), 22, 0, 0, 0, 0, 1, []) := (congrFun pm_J_isBound 21).trans rfl
theorem rl_J_isBound_22 : (am_pg z_J_isBound).2 22 = some (.goto (4), 25, 26, 0, 0, 0, 0, []) := (congrFun pm_J_isBound 22).trans rfl
theorem rl_J_isBound_25 : (am_pg z_J_isBound).2 25 = some (.iconst (0), 26, 0, 0, 0, 0, 0, []) := (congrFun pm_J_isBound 25).trans rfl
theorem rl_J_isBound_26 : (am_pg z_J_isBound).2 26 = some (.ireturn, 27, 0, 0, 1, 0, 0, []) := (congrFun pm_J_isBound 26).trans rfl
theorem rl_J_owedIn_0 : (am_pg z_J_owedIn).2 0 = some (.aload_n 0, 1, 0, 0, 0, 0, 0, []) := (congrFun pm_J_owedIn 0).trans rfl
theorem rl_J_owedIn_1 : (am_pg z_J_owedIn).2 1 = some (.iload_n 1, 2, 1, 0, 0, 0, 0, []) := (congrFun pm_J_owedIn 1).trans rfl
theorem rl_J_owedIn_2 : (am_pg z_J_owedIn).2 2 = some (.invokevirtual 117, 5, 224, 1, 0, 162, 0, []) := (congrFun pm_J_owedIn 2).trans rfl
theorem rl_J_owedIn_5 : (am_pg z_J_owedIn).2 5 = some (.istore_n 3, 6, 3, 0, 0, 0, 0, []) := (congrFun pm_J_owedIn 5).trans rfl
theorem rl_J_owedIn_6 : (am_pg z_J_owedIn).2 6 = some (.iload_n 3, 7, 3, 0, 0, 0, 0, []) := (congrFun pm_J_owedIn 6).trans rfl
theorem rl_J_owedIn_7 : (am_pg z_J_owedIn).2 7 = some (.bipush (-2), 9, 0, 0, 0, 0, -2, []) := (congrFun pm_J_owedIn 7).trans rfl
theorem rl_J_owedIn_9 : (am_pg z_J_owedIn).2 9 = some (.if_icmp .ne (9), 12, 18, 0, 0, 0, 0, []) := (congrFun pm_J_owedIn 9).trans rfl
theorem rl_J_owedIn_12 : (am_pg z_J_owedIn).2 12 = some (.sipush (1080), 15, 0, 0, 0, 0, 1080, []) := (congrFun pm_J_owedIn 12).trans rfl
theorem rl_J_owedIn_15 : (am_pg z_J_owedIn).2 15 = some (.goto (10), 18, 25, 0, 0, 0, 0, []) := (congrFun pm_J_owedIn 15).trans rfl
theorem rl_J_owedIn_18 : (am_pg z_J_owedIn).2 18 = some (.aload_n 0, 19, 0, 0, 0, 0, 0, []) := (congrFun pm_J_owedIn 18).trans rfl
theorem rl_J_owedIn_19 : (am_pg z_J_owedIn).2 19 = some (.iload_n 3, 20, 3, 0, 0, 0, 0, []) := (congrFun pm_J_owedIn 19).trans rfl
theorem rl_J_owedIn_20 : (am_pg z_J_owedIn).2 20 = some (.iload_n 1, 21, 1, 0, 0, 0, 0, []) := (congrFun pm_J_owedIn 20).trans rfl
theorem rl_J_owedIn_21 : (am_pg z_J_owedIn).2 21 = some (.aload_n 2, 22, 2, 0, 0, 0, 0, []) := (congrFun pm_J_owedIn 21).trans rfl
theorem rl_J_owedIn_22 : (am_pg z_J_owedIn).2 22 = some (.invokevirtual 146, 25, 229, 3, 0, 163, 0, []) := (congrFun pm_J_owedIn 22).trans rfl
theorem rl_J_owedIn_25 : (am_pg z_J_owedIn).2 25 = some (.istore 4, 27, 4, 0, 0, 0, 0, []) := (congrFun pm_J_owedIn 25).trans rfl
theorem rl_J_owedIn_27 : (am_pg z_J_owedIn).2 27 = some (.iload_n 3, 28, 3, 0, 0, 0, 0, []) := (congrFun pm_J_owedIn 27).trans rfl
theorem rl_J_owedIn_28 : (am_pg z_J_owedIn).2 28 = some (.bipush (-2), 30, 0, 0, 0, 0, -2, []) := (congrFun pm_J_owedIn 28).trans rfl
theorem rl_J_owedIn_30 : (am_pg z_J_owedIn).2 30 = some (.if_icmp .ne (7), 33, 37, 0, 0, 0, 0, []) := (congrFun pm_J_owedIn 30).trans rfl
theorem rl_J_owedIn_33 : (am_pg z_J_owedIn).2 33 = some (.iconst (-1), 34, 0, 0, 0, 0, -1, []) := (congrFun pm_J_owedIn 33).trans rfl
theorem rl_J_owedIn_34 : (am_pg z_J_owedIn).2 34 = some (.goto (10), 37, 44, 0, 0, 0, 0, []) := (congrFun pm_J_owedIn 34).trans rfl
theorem rl_J_owedIn_37 : (am_pg z_J_owedIn).2 37 = some (.aload_n 0, 38, 0, 0, 0, 0, 0, []) := (congrFun pm_J_owedIn 37).trans rfl
theorem rl_J_owedIn_38 : (am_pg z_J_owedIn).2 38 = some (.iload_n 3, 39, 3, 0, 0, 0, 0, []) := (congrFun pm_J_owedIn 38).trans rfl
theorem rl_J_owedIn_39 : (am_pg z_J_owedIn).2 39 = some (.iload_n 1, 40, 1, 0, 0, 0, 0, []) := (congrFun pm_J_owedIn 39).trans rfl
theorem rl_J_owedIn_40 : (am_pg z_J_owedIn).2 40 = some (.aload_n 2, 41, 2, 0, 0, 0, 0, []) := (congrFun pm_J_owedIn 40).trans rfl
theorem rl_J_owedIn_41 : (am_pg z_J_owedIn).2 41 = some (.invokevirtual 150, 44, 230, 3, 0, 164, 0, []) := (congrFun pm_J_owedIn 41).trans rfl
theorem rl_J_owedIn_44 : (am_pg z_J_owedIn).2 44 = some (.istore 5, 46, 5, 0, 0, 0, 0, []) := (congrFun pm_J_owedIn 44).trans rfl
theorem rl_J_owedIn_46 : (am_pg z_J_owedIn).2 46 = some (.iconst (0), 47, 0, 0, 0, 0, 0, []) := (congrFun pm_J_owedIn 46).trans rfl
theorem rl_J_owedIn_47 : (am_pg z_J_owedIn).2 47 = some (.istore 6, 49, 6, 0, 0, 0, 0, []) := (congrFun pm_J_owedIn 47).trans rfl
theorem rl_J_owedIn_49 : (am_pg z_J_owedIn).2 49 = some (.iload_n 1, 50, 1, 0, 0, 0, 0, []) := (congrFun pm_J_owedIn 49).trans rfl
theorem rl_J_owedIn_50 : (am_pg z_J_owedIn).2 50 = some (.invokestatic 130, 53, 75, 1, 0, 153, 0, []) := (congrFun pm_J_owedIn 50).trans rfl
theorem rl_J_owedIn_53 : (am_pg z_J_owedIn).2 53 = some (.istore 7, 55, 7, 0, 0, 0, 0, []) := (congrFun pm_J_owedIn 53).trans rfl
theorem rl_J_owedIn_55 : (am_pg z_J_owedIn).2 55 = some (.iload 7, 57, 7, 0, 0, 0, 0, []) := (congrFun pm_J_owedIn 55).trans rfl
theorem rl_J_owedIn_57 : (am_pg z_J_owedIn).2 57 = some (.iload_n 1, 58, 1, 0, 0, 0, 0, []) := (congrFun pm_J_owedIn 57).trans rfl
theorem rl_J_owedIn_58 : (am_pg z_J_owedIn).2 58 = some (.invokestatic 133, 61, 76, 1, 0, 155, 0, []) := (congrFun pm_J_owedIn 58).trans rfl
theorem rl_J_owedIn_61 : (am_pg z_J_owedIn).2 61 = some (.if_icmp .gt (60), 64, 121, 0, 0, 0, 0, []) := (congrFun pm_J_owedIn 61).trans rfl
theorem rl_J_owedIn_64 : (am_pg z_J_owedIn).2 64 = some (.iload 7, 66, 7, 0, 0, 0, 0, []) := (congrFun pm_J_owedIn 64).trans rfl
theorem rl_J_owedIn_66 : (am_pg z_J_owedIn).2 66 = some (.iload 4, 68, 4, 0, 0, 0, 0, []) := (congrFun pm_J_owedIn 66).trans rfl
theorem rl_J_owedIn_68 : (am_pg z_J_owedIn).2 68 = some (.iload 5, 70, 5, 0, 0, 0, 0, []) := (congrFun pm_J_owedIn 68).trans rfl
theorem rl_J_owedIn_70 : (am_pg z_J_owedIn).2 70 = some (.invokestatic 153, 73, 65, 3, 0, 165, 0, []) := (congrFun pm_J_owedIn 70).trans rfl
theorem rl_J_owedIn_73 : (am_pg z_J_owedIn).2 73 = some (.ifCond .eq (7), 76, 80, 0, 0, 0, 0, []) := (congrFun pm_J_owedIn 73).trans rfl
theorem rl_J_owedIn_76 : (am_pg z_J_owedIn).2 76 = some (.iload_n 3, 77, 3, 0, 0, 0, 0, []) := (congrFun pm_J_owedIn 76).trans rfl
theorem rl_J_owedIn_77 : (am_pg z_J_owedIn).2 77 = some (.goto (9), 80, 86, 0, 0, 0, 0, []) := (congrFun pm_J_owedIn 77).trans rfl
theorem rl_J_owedIn_80 : (am_pg z_J_owedIn).2 80 = some (.aload_n 2, 81, 2, 0, 0, 0, 0, []) := (congrFun pm_J_owedIn 80).trans rfl
theorem rl_J_owedIn_81 : (am_pg z_J_owedIn).2 81 = some (.iload 7, 83, 7, 0, 0, 0, 0, []) := (congrFun pm_J_owedIn 81).trans rfl
theorem rl_J_owedIn_83 : (am_pg z_J_owedIn).2 83 = some (.invokevirtual 140, 86, 237, 1, 1, 157, 0, []) := (congrFun pm_J_owedIn 83).trans rfl
theorem rl_J_owedIn_86 : (am_pg z_J_owedIn).2 86 = some (.istore 8, 88, 8, 0, 0, 0, 0, []) := (congrFun pm_J_owedIn 86).trans rfl
theorem rl_J_owedIn_88 : (am_pg z_J_owedIn).2 88 = some (.iload 6, 90, 6, 0, 0, 0, 0, []) := (congrFun pm_J_owedIn 88).trans rfl
theorem rl_J_owedIn_90 : (am_pg z_J_owedIn).2 90 = some (.iload 8, 92, 8, 0, 0, 0, 0, []) := (congrFun pm_J_owedIn 90).trans rfl
theorem rl_J_owedIn_92 : (am_pg z_J_owedIn).2 92 = some (.invokestatic 120, 95, 69, 1, 0, 166, 0, []) := (congrFun pm_J_owedIn 92).trans rfl
theorem rl_J_owedIn_95 : (am_pg z_J_owedIn).2 95 = some (.ifCond .eq (16), 98, 111, 0, 0, 0, 0, []) := (congrFun pm_J_owedIn 95).trans rfl
theorem rl_J_owedIn_98 : (am_pg z_J_owedIn).2 98 = some (.aload_n 0, 99, 0, 0, 0, 0, 0, []) := (congrFun pm_J_owedIn 98).trans rfl
theorem rl_J_owedIn_99 : (am_pg z_J_owedIn).2 99 = some (.getfield 31, 102, 0, 1, 0, 56, 0, []) := (congrFun pm_J_owedIn 99).trans rfl
theorem rl_J_owedIn_102 : (am_pg z_J_owedIn).2 102 = some (.getfield 157, 105, 4, 3, 0, 14, 0, []) := (congrFun pm_J_owedIn 102).trans rfl
theorem rl_J_owedIn_105 : (am_pg z_J_owedIn).2 105 = some (.iload 8, 107, 8, 0, 0, 0, 0, []) := (congrFun pm_J_owedIn 105).trans rfl
theorem rl_J_owedIn_107 : (am_pg z_J_owedIn).2 107 = some (.iaload, 108, 0, 0, 0, 0, 0, []) := (congrFun pm_J_owedIn 107).trans rfl
theorem rl_J_owedIn_108 : (am_pg z_J_owedIn).2 108 = some (.goto (4), 111, 112, 0, 0, 0, 0, []) := (congrFun pm_J_owedIn 108).trans rfl
theorem rl_J_owedIn_111 : (am_pg z_J_owedIn).2 111 = some (.iconst (0), 112, 0, 0, 0, 0, 0, []) := (congrFun pm_J_owedIn 111).trans rfl
theorem rl_J_owedIn_112 : (am_pg z_J_owedIn).2 112 = some (.iadd, 113, 0, 0, 0, 0, 0, []) := (congrFun pm_J_owedIn 112).trans rfl
theorem rl_J_owedIn_113 : (am_pg z_J_owedIn).2 113 = some (.istore 6, 115, 6, 0, 0, 0, 0, []) := (congrFun pm_J_owedIn 113).trans rfl
theorem rl_J_owedIn_115 : (am_pg z_J_owedIn).2 115 = some (.iinc 7 (1), 118, 7, 0, 0, 0, 1, []) := (congrFun pm_J_owedIn 115).trans rfl
theorem rl_J_owedIn_118 : (am_pg z_J_owedIn).2 118 = some (.goto (-63), 121, 55, 0, 0, 0, 0, []) := (congrFun pm_J_owedIn 118).trans rfl
theorem rl_J_owedIn_121 : (am_pg z_J_owedIn).2 121 = some (.iload 6, 123, 6, 0, 0, 0, 0, []) := (congrFun pm_J_owedIn 121).trans rfl
theorem rl_J_owedIn_123 : (am_pg z_J_owedIn).2 123 = some (.ireturn, 124, 0, 0, 0, 0, 0, []) := (congrFun pm_J_owedIn 123).trans rfl
theorem rl_P_copyFrom_0 : (am_pg z_P_copyFrom).2 0 = some (.aload_n 1, 1, 1, 0, 0, 0, 0, []) := (congrFun pm_P_copyFrom 0).trans rfl
theorem rl_P_copyFrom_1 : (am_pg z_P_copyFrom).2 1 = some (.getfield 9, 4, 1, 0, 0, 0, 0, []) := (congrFun pm_P_copyFrom 1).trans rfl
theorem rl_P_copyFrom_4 : (am_pg z_P_copyFrom).2 4 = some (.iconst (0), 5, 0, 0, 0, 0, 0, []) := (congrFun pm_P_copyFrom 4).trans rfl
theorem rl_P_copyFrom_5 : (am_pg z_P_copyFrom).2 5 = some (.aload_n 0, 6, 0, 0, 0, 0, 0, []) := (congrFun pm_P_copyFrom 5).trans rfl
theorem rl_P_copyFrom_6 : (am_pg z_P_copyFrom).2 6 = some (.getfield 9, 9, 1, 0, 0, 0, 0, []) := (congrFun pm_P_copyFrom 6).trans rfl
theorem rl_P_copyFrom_9 : (am_pg z_P_copyFrom).2 9 = some (.iconst (0), 10, 0, 0, 0, 0, 0, []) := (congrFun pm_P_copyFrom 9).trans rfl
theorem rl_P_copyFrom_10 : (am_pg z_P_copyFrom).2 10 = some (.sipush (1080), 13, 0, 0, 0, 0, 1080, []) := (congrFun pm_P_copyFrom 10).trans rfl
theorem rl_P_copyFrom_13 : (am_pg z_P_copyFrom).2 13 = some (.invokestatic 21, 16, 0, 5, 1, 0, 0, []) := (congrFun pm_P_copyFrom 13).trans rfl
theorem rl_P_copyFrom_16 : (am_pg z_P_copyFrom).2 16 = some (.return_, 17, 0, 0, 0, 0, 0, []) := (congrFun pm_P_copyFrom 16).trans rfl
theorem rl_P_becomeLike_0 : (am_pg z_P_becomeLike).2 0 = some (.iconst (0), 1, 0, 0, 0, 0, 0, []) := (congrFun pm_P_becomeLike 0).trans rfl
theorem rl_P_becomeLike_1 : (am_pg z_P_becomeLike).2 1 = some (.istore_n 2, 2, 2, 0, 0, 0, 0, []) := (congrFun pm_P_becomeLike 1).trans rfl
theorem rl_P_becomeLike_2 : (am_pg z_P_becomeLike).2 2 = some (.iconst (0), 3, 0, 0, 0, 0, 0, []) := (congrFun pm_P_becomeLike 2).trans rfl
theorem rl_P_becomeLike_3 : (am_pg z_P_becomeLike).2 3 = some (.istore_n 3, 4, 3, 0, 0, 0, 0, []) := (congrFun pm_P_becomeLike 3).trans rfl
theorem rl_P_becomeLike_4 : (am_pg z_P_becomeLike).2 4 = some (.iload_n 3, 5, 3, 0, 0, 0, 0, []) := (congrFun pm_P_becomeLike 4).trans rfl
theorem rl_P_becomeLike_5 : (am_pg z_P_becomeLike).2 5 = some (.sipush (1080), 8, 0, 0, 0, 0, 1080, []) := (congrFun pm_P_becomeLike 5).trans rfl
theorem rl_P_becomeLike_8 : (am_pg z_P_becomeLike).2 8 = some (.if_icmp .ge (39), 11, 47, 0, 0, 0, 0, []) := (congrFun pm_P_becomeLike 8).trans rfl
theorem rl_P_becomeLike_11 : (am_pg z_P_becomeLike).2 11 = some (.aload_n 0, 12, 0, 0, 0, 0, 0, []) := (congrFun pm_P_becomeLike 11).trans rfl
theorem rl_P_becomeLike_12 : (am_pg z_P_becomeLike).2 12 = some (.getfield 9, 15, 1, 0, 0, 0, 0, []) := (congrFun pm_P_becomeLike 12).trans rfl
theorem rl_P_becomeLike_15 : (am_pg z_P_becomeLike).2 15 = some (.iload_n 3, 16, 3, 0, 0, 0, 0, []) := (congrFun pm_P_becomeLike 15).trans rfl
theorem rl_P_becomeLike_16 : (am_pg z_P_becomeLike).2 16 = some (.iaload, 17, 0, 0, 0, 0, 0, []) := (congrFun pm_P_becomeLike 16).trans rfl
theorem rl_P_becomeLike_17 : (am_pg z_P_becomeLike).2 17 = some (.aload_n 1, 18, 1, 0, 0, 0, 0, []) := (congrFun pm_P_becomeLike 17).trans rfl
theorem rl_P_becomeLike_18 : (am_pg z_P_becomeLike).2 18 = some (.getfield 9, 21, 1, 0, 0, 0, 0, []) := (congrFun pm_P_becomeLike 18).trans rfl
theorem rl_P_becomeLike_21 : (am_pg z_P_becomeLike).2 21 = some (.iload_n 3, 22, 3, 0, 0, 0, 0, []) := (congrFun pm_P_becomeLike 21).trans rfl
theorem rl_P_becomeLike_22 : (am_pg z_P_becomeLike).2 22 = some (.iaload, 23, 0, 0, 0, 0, 0, []) := (congrFun pm_P_becomeLike 22).trans rfl
theorem rl_P_becomeLike_23 : (am_pg z_P_becomeLike).2 23 = some (.if_icmp .eq (18), 26, 41, 0, 0, 0, 0, []) := (congrFun pm_P_becomeLike 23).trans rfl
theorem rl_P_becomeLike_26 : (am_pg z_P_becomeLike).2 26 = some (.aload_n 0, 27, 0, 0, 0, 0, 0, []) := (congrFun pm_P_becomeLike 26).trans rfl
theorem rl_P_becomeLike_27 : (am_pg z_P_becomeLike).2 27 = some (.getfield 9, 30, 1, 0, 0, 0, 0, []) := (congrFun pm_P_becomeLike 27).trans rfl
theorem rl_P_becomeLike_30 : (am_pg z_P_becomeLike).2 30 = some (.iload_n 3, 31, 3, 0, 0, 0, 0, []) := (congrFun pm_P_becomeLike 30).trans rfl
theorem rl_P_becomeLike_31 : (am_pg z_P_becomeLike).2 31 = some (.aload_n 1, 32, 1, 0, 0, 0, 0, []) := (congrFun pm_P_becomeLike 31).trans rfl
theorem rl_P_becomeLike_32 : (am_pg z_P_becomeLike).2 32 = some (.getfield 9, 35, 1, 0, 0, 0, 0, []) := (congrFun pm_P_becomeLike 32).trans rfl
theorem rl_P_becomeLike_35 : (am_pg z_P_becomeLike).2 35 = some (.iload_n 3, 36, 3, 0, 0, 0, 0, []) := (congrFun pm_P_becomeLike 35).trans rfl
theorem rl_P_becomeLike_36 : (am_pg z_P_becomeLike).2 36 = some (.iaload, 37, 0, 0, 0, 0, 0, []) := (congrFun pm_P_becomeLike 36).trans rfl
theorem rl_P_becomeLike_37 : (am_pg z_P_becomeLike).2 37 = some (.iastore, 38, 0, 0, 0, 0, 0, []) := (congrFun pm_P_becomeLike 37).trans rfl
theorem rl_P_becomeLike_38 : (am_pg z_P_becomeLike).2 38 = some (.iinc 2 (1), 41, 2, 0, 0, 0, 1, []) := (congrFun pm_P_becomeLike 38).trans rfl
theorem rl_P_becomeLike_41 : (am_pg z_P_becomeLike).2 41 = some (.iinc 3 (1), 44, 3, 0, 0, 0, 1, []) := (congrFun pm_P_becomeLike 41).trans rfl
theorem rl_P_becomeLike_44 : (am_pg z_P_becomeLike).2 44 = some (.goto (-40), 47, 4, 0, 0, 0, 0, []) := (congrFun pm_P_becomeLike 44).trans rfl
theorem rl_P_becomeLike_47 : (am_pg z_P_becomeLike).2 47 = some (.iload_n 2, 48, 2, 0, 0, 0, 0, []) := (congrFun pm_P_becomeLike 47).trans rfl
theorem rl_P_becomeLike_48 : (am_pg z_P_becomeLike).2 48 = some (.ireturn, 49, 0, 0, 0, 0, 0, []) := (congrFun pm_P_becomeLike 48).trans rfl
theorem rl_P_put_0 : (am_pg z_P_put).2 0 = some (.iconst (0), 1, 0, 0, 0, 0, 0, []) := (congrFun pm_P_put 0).trans rfl
theorem rl_P_put_1 : (am_pg z_P_put).2 1 = some (.istore 4, 3, 4, 0, 0, 0, 0, []) := (congrFun pm_P_put 1).trans rfl
theorem rl_P_put_3 : (am_pg z_P_put).2 3 = some (.iload_n 2, 4, 2, 0, 0, 0, 0, []) := (congrFun pm_P_put 3).trans rfl
theorem rl_P_put_4 : (am_pg z_P_put).2 4 = some (.iconst (0), 5, 0, 0, 0, 0, 0, []) := (congrFun pm_P_put 4).trans rfl
theorem rl_P_put_5 : (am_pg z_P_put).2 5 = some (.invokestatic 27, 8, 0, 2, 2, 1, 0, []) := (congrFun pm_P_put 5).trans rfl
theorem rl_P_put_8 : (am_pg z_P_put).2 8 = some (.istore 5, 10, 5, 0, 0, 0, 0, []) := (congrFun pm_P_put 8).trans rfl
theorem rl_P_put_10 : (am_pg z_P_put).2 10 = some (.iload 5, 12, 5, 0, 0, 0, 0, []) := (congrFun pm_P_put 10).trans rfl
theorem rl_P_put_12 : (am_pg z_P_put).2 12 = some (.iload_n 3, 13, 3, 0, 0, 0, 0, []) := (congrFun pm_P_put 12).trans rfl
theorem rl_P_put_13 : (am_pg z_P_put).2 13 = some (.if_icmp .gt (39), 16, 52, 0, 0, 0, 0, []) := (congrFun pm_P_put 13).trans rfl
theorem rl_P_put_16 : (am_pg z_P_put).2 16 = some (.iload 5, 18, 5, 0, 0, 0, 0, []) := (congrFun pm_P_put 16).trans rfl
theorem rl_P_put_18 : (am_pg z_P_put).2 18 = some (.sipush (1080), 21, 0, 0, 0, 0, 1080, []) := (congrFun pm_P_put 18).trans rfl
theorem rl_P_put_21 : (am_pg z_P_put).2 21 = some (.if_icmp .ge (31), 24, 52, 0, 0, 0, 0, []) := (congrFun pm_P_put 21).trans rfl
theorem rl_P_put_24 : (am_pg z_P_put).2 24 = some (.aload_n 0, 25, 0, 0, 0, 0, 0, []) := (congrFun pm_P_put 24).trans rfl
theorem rl_P_put_25 : (am_pg z_P_put).2 25 = some (.getfield 9, 28, 1, 0, 0, 0, 0, []) := (congrFun pm_P_put 25).trans rfl
theorem rl_P_put_28 : (am_pg z_P_put).2 28 = some (.iload 5, 30, 5, 0, 0, 0, 0, []) := (congrFun pm_P_put 28).trans rfl
theorem rl_P_put_30 : (am_pg z_P_put).2 30 = some (.iaload, 31, 0, 0, 0, 0, 0, []) := (congrFun pm_P_put 30).trans rfl
theorem rl_P_put_31 : (am_pg z_P_put).2 31 = some (.iload_n 1, 32, 1, 0, 0, 0, 0, []) := (congrFun pm_P_put 31).trans rfl
theorem rl_P_put_32 : (am_pg z_P_put).2 32 = some (.if_icmp .eq (14), 35, 46, 0, 0, 0, 0, []) := (congrFun pm_P_put 32).trans rfl
theorem rl_P_put_35 : (am_pg z_P_put).2 35 = some (.aload_n 0, 36, 0, 0, 0, 0, 0, []) := (congrFun pm_P_put 35).trans rfl
theorem rl_P_put_36 : (am_pg z_P_put).2 36 = some (.getfield 9, 39, 1, 0, 0, 0, 0, []) := (congrFun pm_P_put 36).trans rfl
theorem rl_P_put_39 : (am_pg z_P_put).2 39 = some (.iload 5, 41, 5, 0, 0, 0, 0, []) := (congrFun pm_P_put 39).trans rfl
theorem rl_P_put_41 : (am_pg z_P_put).2 41 = some (.iload_n 1, 42, 1, 0, 0, 0, 0, []) := (congrFun pm_P_put 41).trans rfl
theorem rl_P_put_42 : (am_pg z_P_put).2 42 = some (.iastore, 43, 0, 0, 0, 0, 0, []) := (congrFun pm_P_put 42).trans rfl
theorem rl_P_put_43 : (am_pg z_P_put).2 43 = some (.iinc 4 (1), 46, 4, 0, 0, 0, 1, []) := (congrFun pm_P_put 43).trans rfl
theorem rl_P_put_46 : (am_pg z_P_put).2 46 = some (.iinc 5 (1), 49, 5, 0, 0, 0, 1, []) := (congrFun pm_P_put 46).trans rfl
theorem rl_P_put_49 : (am_pg z_P_put).2 49 = some (.goto (-39), 52, 10, 0, 0, 0, 0, []) := (congrFun pm_P_put 49).trans rfl
theorem rl_P_put_52 : (am_pg z_P_put).2 52 = some (.iload 4, 54, 4, 0, 0, 0, 0, []) := (congrFun pm_P_put 52).trans rfl
theorem rl_P_put_54 : (am_pg z_P_put).2 54 = some (.ireturn, 55, 0, 0, 0, 0, 0, []) := (congrFun pm_P_put 54).trans rfl
theorem rl_P_landOn_0 : (am_pg z_P_landOn).2 0 = some (.iload_n 1, 1, 1, 0, 0, 0, 0, []) := (congrFun pm_P_landOn 0).trans rfl
theorem rl_P_landOn_1 : (am_pg z_P_landOn).2 1 = some (.ifCond .lt (19), 4, 20, 0, 0, 0, 0, []) := (congrFun pm_P_landOn 1).trans rfl
theorem rl_P_landOn_4 : (am_pg z_P_landOn).2 4 = some (.iload_n 1, 5, 1, 0, 0, 0, 0, []) := (congrFun pm_P_landOn 4).trans rfl
theorem rl_P_landOn_5 : (am_pg z_P_landOn).2 5 = some (.sipush (1080), 8, 0, 0, 0, 0, 1080, []) := (congrFun pm_P_landOn 5).trans rfl
theorem rl_P_landOn_8 : (am_pg z_P_landOn).2 8 = some (.if_icmp .ge (12), 11, 20, 0, 0, 0, 0, []) := (congrFun pm_P_landOn 8).trans rfl
theorem rl_P_landOn_11 : (am_pg z_P_landOn).2 11 = some (.aload_n 0, 12, 0, 0, 0, 0, 0, []) := (congrFun pm_P_landOn 11).trans rfl
theorem rl_P_landOn_12 : (am_pg z_P_landOn).2 12 = some (.getfield 9, 15, 1, 0, 0, 0, 0, []) := (congrFun pm_P_landOn 12).trans rfl
theorem rl_P_landOn_15 : (am_pg z_P_landOn).2 15 = some (.iload_n 1, 16, 1, 0, 0, 0, 0, []) := (congrFun pm_P_landOn 15).trans rfl
theorem rl_P_landOn_16 : (am_pg z_P_landOn).2 16 = some (.iaload, 17, 0, 0, 0, 0, 0, []) := (congrFun pm_P_landOn 16).trans rfl
theorem rl_P_landOn_17 : (am_pg z_P_landOn).2 17 = some (.goto (4), 20, 21, 0, 0, 0, 0, []) := (congrFun pm_P_landOn 17).trans rfl
theorem rl_P_landOn_20 : (am_pg z_P_landOn).2 20 = some (.iconst (-1), 21, 0, 0, 0, 0, -1, []) := (congrFun pm_P_landOn 20).trans rfl
theorem rl_P_landOn_21 : (am_pg z_P_landOn).2 21 = some (.ireturn, 22, 0, 0, 0, 0, 0, []) := (congrFun pm_P_landOn 21).trans rfl
theorem rl_P_startsStay_0 : (am_pg z_P_startsStay).2 0 = some (.aload_n 0, 1, 0, 0, 0, 0, 0, []) := (congrFun pm_P_startsStay 0).trans rfl
theorem rl_P_startsStay_1 : (am_pg z_P_startsStay).2 1 = some (.iload_n 1, 2, 1, 0, 0, 0, 0, []) := (congrFun pm_P_startsStay 1).trans rfl
theorem rl_P_startsStay_2 : (am_pg z_P_startsStay).2 2 = some (.invokevirtual 33, 5, 237, 1, 1, 51, 0, []) := (congrFun pm_P_startsStay 2).trans rfl
theorem rl_P_startsStay_5 : (am_pg z_P_startsStay).2 5 = some (.iconst (-1), 6, 0, 0, 0, 0, -1, []) := (congrFun pm_P_startsStay 5).trans rfl
theorem rl_P_startsStay_6 : (am_pg z_P_startsStay).2 6 = some (.if_icmp .eq (22), 9, 28, 0, 0, 0, 0, []) := (congrFun pm_P_startsStay 6).trans rfl
theorem rl_P_startsStay_9 : (am_pg z_P_startsStay).2 9 = some (.aload_n 0, 10, 0, 0, 0, 0, 0, []) := (congrFun pm_P_startsStay 9).trans rfl
theorem rl_P_startsStay_10 : (am_pg z_P_startsStay).2 10 = some (.iload_n 1, 11, 1, 0, 0, 0, 0, []) := (congrFun pm_P_startsStay 10).trans rfl
theorem rl_P_startsStay_11 : (am_pg z_P_startsStay).2 11 = some (.invokevirtual 33, 14, 237, 1, 1, 51, 0, []) := (congrFun pm_P_startsStay 11).trans rfl
theorem rl_P_startsStay_14 : (am_pg z_P_startsStay).2 14 = some (.aload_n 0, 15, 0, 0, 0, 0, 0, []) := (congrFun pm_P_startsStay 14).trans rfl
theorem rl_P_startsStay_15 : (am_pg z_P_startsStay).2 15 = some (.iload_n 1, 16, 1, 0, 0, 0, 0, []) := (congrFun pm_P_startsStay 15).trans rfl
theorem rl_P_startsStay_16 : (am_pg z_P_startsStay).2 16 = some (.iconst (1), 17, 0, 0, 0, 0, 1, []) := (congrFun pm_P_startsStay 16).trans rfl
theorem rl_P_startsStay_17 : (am_pg z_P_startsStay).2 17 = some (.isub, 18, 0, 0, 0, 0, 0, []) := (congrFun pm_P_startsStay 17).trans rfl
theorem rl_P_startsStay_18 : (am_pg z_P_startsStay).2 18 = some (.invokevirtual 33, 21, 237, 1, 1, 51, 0, []) := (congrFun pm_P_startsStay 18).trans rfl
theorem rl_P_startsStay_21 : (am_pg z_P_startsStay).2 21 = some (.if_icmp .eq (7), 24, 28, 0, 0, 0, 0, []) := (congrFun pm_P_startsStay 21).trans rfl
theorem rl_P_startsStay_24 : (am_pg z_P_startsStay).2 24 = some (.iconst (1), 25, 0, 0, 0, 0, 1, []) := (congrFun pm_P_startsStay 24).trans rfl
theorem rl_P_startsStay_25 : (am_pg z_P_startsStay).2 25 = some (.goto (4), 28, 29, 0, 0, 0, 0, []) := (congrFun pm_P_startsStay 25).trans rfl
theorem rl_P_startsStay_28 : (am_pg z_P_startsStay).2 28 = some (.iconst (0), 29, 0, 0, 0, 0, 0, []) := (congrFun pm_P_startsStay 28).trans rfl
theorem rl_P_startsStay_29 : (am_pg z_P_startsStay).2 29 = some (.ireturn, 30, 0, 0, 1, 0, 0, []) := (congrFun pm_P_startsStay 29).trans rfl
theorem rl_P_lastOfStay_0 : (am_pg z_P_lastOfStay).2 0 = some (.iload_n 1, 1, 1, 0, 0, 0, 0, []) := (congrFun pm_P_lastOfStay 0).trans rfl
theorem rl_P_lastOfStay_1 : (am_pg z_P_lastOfStay).2 1 = some (.istore_n 2, 2, 2, 0, 0, 0, 0, []) := (congrFun pm_P_lastOfStay 1).trans rfl
theorem rl_P_lastOfStay_2 : (am_pg z_P_lastOfStay).2 2 = some (.aload_n 0, 3, 0, 0, 0, 0, 0, []) := (congrFun pm_P_lastOfStay 2).trans rfl
theorem rl_P_lastOfStay_3 : (am_pg z_P_lastOfStay).2 3 = some (.iload_n 1, 4, 1, 0, 0, 0, 0, []) := (congrFun pm_P_lastOfStay 3).trans rfl
theorem rl_P_lastOfStay_4 : (am_pg z_P_lastOfStay).2 4 = some (.invokevirtual 33, 7, 237, 1, 1, 51, 0, []) := (congrFun pm_P_lastOfStay 4).trans rfl
theorem rl_P_lastOfStay_7 : (am_pg z_P_lastOfStay).2 7 = some (.istore_n 3, 8, 3, 0, 0, 0, 0, []) := (congrFun pm_P_lastOfStay 7).trans rfl
theorem rl_P_lastOfStay_8 : (am_pg z_P_lastOfStay).2 8 = some (.iload_n 1, 9, 1, 0, 0, 0, 0, []) := (congrFun pm_P_lastOfStay 8).trans rfl
theorem rl_P_lastOfStay_9 : (am_pg z_P_lastOfStay).2 9 = some (.iconst (1), 10, 0, 0, 0, 0, 1, []) := (congrFun pm_P_lastOfStay 9).trans rfl
theorem rl_P_lastOfStay_10 : (am_pg z_P_lastOfStay).2 10 = some (.iadd, 11, 0, 0, 0, 0, 0, []) := (congrFun pm_P_lastOfStay 10).trans rfl
theorem rl_P_lastOfStay_11 : (am_pg z_P_lastOfStay).2 11 = some (.istore 4, 13, 4, 0, 0, 0, 0, []) := (congrFun pm_P_lastOfStay 11).trans rfl
theorem rl_P_lastOfStay_13 : (am_pg z_P_lastOfStay).2 13 = some (.iload 4, 15, 4, 0, 0, 0, 0, []) := (congrFun pm_P_lastOfStay 13).trans rfl
theorem rl_P_lastOfStay_15 : (am_pg z_P_lastOfStay).2 15 = some (.sipush (1080), 18, 0, 0, 0, 0, 1080, []) := (congrFun pm_P_lastOfStay 15).trans rfl
theorem rl_P_lastOfStay_18 : (am_pg z_P_lastOfStay).2 18 = some (.if_icmp .ge (23), 21, 41, 0, 0, 0, 0, []) := (congrFun pm_P_lastOfStay 18).trans rfl
theorem rl_P_lastOfStay_21 : (am_pg z_P_lastOfStay).2 21 = some (.aload_n 0, 22, 0, 0, 0, 0, 0, []) := (congrFun pm_P_lastOfStay 21).trans rfl
theorem rl_P_lastOfStay_22 : (am_pg z_P_lastOfStay).2 22 = some (.getfield 9, 25, 1, 0, 0, 0, 0, []) := (congrFun pm_P_lastOfStay 22).trans rfl
theorem rl_P_lastOfStay_25 : (am_pg z_P_lastOfStay).2 25 = some (.iload 4, 27, 4, 0, 0, 0, 0, []) := (congrFun pm_P_lastOfStay 25).trans rfl
theorem rl_P_lastOfStay_27 : (am_pg z_P_lastOfStay).2 27 = some (.iaload, 28, 0, 0, 0, 0, 0, []) := (congrFun pm_P_lastOfStay 27).trans rfl
theorem rl_P_lastOfStay_28 : (am_pg z_P_lastOfStay).2 28 = some (.iload_n 3, 29, 3, 0, 0, 0, 0, []) := (congrFun pm_P_lastOfStay 28).trans rfl
theorem rl_P_lastOfStay_29 : (am_pg z_P_lastOfStay).2 29 = some (.if_icmp .ne (12), 32, 41, 0, 0, 0, 0, []) := (congrFun pm_P_lastOfStay 29).trans rfl
theorem rl_P_lastOfStay_32 : (am_pg z_P_lastOfStay).2 32 = some (.iload 4, 34, 4, 0, 0, 0, 0, []) := (congrFun pm_P_lastOfStay 32).trans rfl
theorem rl_P_lastOfStay_34 : (am_pg z_P_lastOfStay).2 34 = some (.istore_n 2, 35, 2, 0, 0, 0, 0, []) := (congrFun pm_P_lastOfStay 34).trans rfl
theorem rl_P_lastOfStay_35 : (am_pg z_P_lastOfStay).2 35 = some (.iinc 4 (1), 38, 4, 0, 0, 0, 1, []) := (congrFun pm_P_lastOfStay 35).trans rfl
theorem rl_P_lastOfStay_38 : (am_pg z_P_lastOfStay).2 38 = some (.goto (-25), 41, 13, 0, 0, 0, 0, []) := (congrFun pm_P_lastOfStay 38).trans rfl
theorem rl_P_lastOfStay_41 : (am_pg z_P_lastOfStay).2 41 = some (.iload_n 2, 42, 2, 0, 0, 0, 0, []) := (congrFun pm_P_lastOfStay 41).trans rfl
theorem rl_P_lastOfStay_42 : (am_pg z_P_lastOfStay).2 42 = some (.ireturn, 43, 0, 0, 0, 0, 0, []) := (congrFun pm_P_lastOfStay 42).trans rfl
theorem rl_P_stayCount_0 : (am_pg z_P_stayCount).2 0 = some (.iconst (0), 1, 0, 0, 0, 0, 0, []) := (congrFun pm_P_stayCount 0).trans rfl
theorem rl_P_stayCount_1 : (am_pg z_P_stayCount).2 1 = some (.istore_n 1, 2, 1, 0, 0, 0, 0, []) := (congrFun pm_P_stayCount 1).trans rfl
theorem rl_P_stayCount_2 : (am_pg z_P_stayCount).2 2 = some (.iconst (0), 3, 0, 0, 0, 0, 0, []) := (congrFun pm_P_stayCount 2).trans rfl
theorem rl_P_stayCount_3 : (am_pg z_P_stayCount).2 3 = some (.istore_n 2, 4, 2, 0, 0, 0, 0, []) := (congrFun pm_P_stayCount 3).trans rfl
theorem rl_P_stayCount_4 : (am_pg z_P_stayCount).2 4 = some (.iload_n 2, 5, 2, 0, 0, 0, 0, []) := (congrFun pm_P_stayCount 4).trans rfl
theorem rl_P_stayCount_5 : (am_pg z_P_stayCount).2 5 = some (.sipush (1080), 8, 0, 0, 0, 0, 1080, []) := (congrFun pm_P_stayCount 5).trans rfl
theorem rl_P_stayCount_8 : (am_pg z_P_stayCount).2 8 = some (.if_icmp .ge (20), 11, 28, 0, 0, 0, 0, []) := (congrFun pm_P_stayCount 8).trans rfl
theorem rl_P_stayCount_11 : (am_pg z_P_stayCount).2 11 = some (.aload_n 0, 12, 0, 0, 0, 0, 0, []) := (congrFun pm_P_stayCount 11).trans rfl
theorem rl_P_stayCount_12 : (am_pg z_P_stayCount).2 12 = some (.iload_n 2, 13, 2, 0, 0, 0, 0, []) := (congrFun pm_P_stayCount 12).trans rfl
theorem rl_P_stayCount_13 : (am_pg z_P_stayCount).2 13 = some (.invokevirtual 37, 16, 238, 1, 1, 135, 0, []) := (congrFun pm_P_stayCount 13).trans rfl
theorem rl_P_stayCount_16 : (am_pg z_P_stayCount).2 16 = some (.ifCond .eq (6), 19, 22, 0, 0, 0, 0, []) := (congrFun pm_P_stayCount 16).trans rfl
theorem rl_P_stayCount_19 : (am_pg z_P_stayCount).2 19 = some (.iinc 1 (1), 22, 1, 0, 0, 0, 1, []) := (congrFun pm_P_stayCount 19).trans rfl
theorem rl_P_stayCount_22 : (am_pg z_P_stayCount).2 22 = some (.iinc 2 (1), 25, 2, 0, 0, 0, 1, []) := (congrFun pm_P_stayCount 22).trans rfl
theorem rl_P_stayCount_25 : (am_pg z_P_stayCount).2 25 = some (.goto (-21), 28, 4, 0, 0, 0, 0, []) := (congrFun pm_P_stayCount 25).trans rfl
theorem rl_P_stayCount_28 : (am_pg z_P_stayCount).2 28 = some (.iload_n 1, 29, 1, 0, 0, 0, 0, []) := (congrFun pm_P_stayCount 28).trans rfl
theorem rl_P_stayCount_29 : (am_pg z_P_stayCount).2 29 = some (.ireturn, 30, 0, 0, 0, 0, 0, []) := (congrFun pm_P_stayCount 29).trans rfl
theorem rl_P_countOf_0 : (am_pg z_P_countOf).2 0 = some (.iconst (0), 1, 0, 0, 0, 0, 0, []) := (congrFun pm_P_countOf 0).trans rfl
theorem rl_P_countOf_1 : (am_pg z_P_countOf).2 1 = some (.istore 4, 3, 4, 0, 0, 0, 0, []) := (congrFun pm_P_countOf 1).trans rfl
theorem rl_P_countOf_3 : (am_pg z_P_countOf).2 3 = some (.iload_n 2, 4, 2, 0, 0, 0, 0, []) := (congrFun pm_P_countOf 3).trans rfl
theorem rl_P_countOf_4 : (am_pg z_P_countOf).2 4 = some (.istore 5, 6, 5, 0, 0, 0, 0, []) := (congrFun pm_P_countOf 4).trans rfl
theorem rl_P_countOf_6 : (am_pg z_P_countOf).2 6 = some (.iload 5, 8, 5, 0, 0, 0, 0, []) := (congrFun pm_P_countOf 6).trans rfl
theorem rl_P_countOf_8 : (am_pg z_P_countOf).2 8 = some (.iload_n 3, 9, 3, 0, 0, 0, 0, []) := (congrFun pm_P_countOf 8).trans rfl
theorem rl_P_countOf_9 : (am_pg z_P_countOf).2 9 = some (.if_icmp .gt (22), 12, 31, 0, 0, 0, 0, []) := (congrFun pm_P_countOf 9).trans rfl
theorem rl_P_countOf_12 : (am_pg z_P_countOf).2 12 = some (.aload_n 0, 13, 0, 0, 0, 0, 0, []) := (congrFun pm_P_countOf 12).trans rfl
theorem rl_P_countOf_13 : (am_pg z_P_countOf).2 13 = some (.iload 5, 15, 5, 0, 0, 0, 0, []) := (congrFun pm_P_countOf 13).trans rfl
theorem rl_P_countOf_15 : (am_pg z_P_countOf).2 15 = some (.invokevirtual 33, 18, 237, 1, 1, 51, 0, []) := (congrFun pm_P_countOf 15).trans rfl
theorem rl_P_countOf_18 : (am_pg z_P_countOf).2 18 = some (.iload_n 1, 19, 1, 0, 0, 0, 0, []) := (congrFun pm_P_countOf 18).trans rfl
theorem rl_P_countOf_19 : (am_pg z_P_countOf).2 19 = some (.if_icmp .ne (6), 22, 25, 0, 0, 0, 0, []) := (congrFun pm_P_countOf 19).trans rfl
theorem rl_P_countOf_22 : (am_pg z_P_countOf).2 22 = some (.iinc 4 (1), 25, 4, 0, 0, 0, 1, []) := (congrFun pm_P_countOf 22).trans rfl
theorem rl_P_countOf_25 : (am_pg z_P_countOf).2 25 = some (.iinc 5 (1), 28, 5, 0, 0, 0, 1, []) := (congrFun pm_P_countOf 25).trans rfl
theorem rl_P_countOf_28 : (am_pg z_P_countOf).2 28 = some (.goto (-22), 31, 6, 0, 0, 0, 0, []) := (congrFun pm_P_countOf 28).trans rfl
theorem rl_P_countOf_31 : (am_pg z_P_countOf).2 31 = some (.iload 4, 33, 4, 0, 0, 0, 0, []) := (congrFun pm_P_countOf 31).trans rfl
theorem rl_P_countOf_33 : (am_pg z_P_countOf).2 33 = some (.ireturn, 34, 0, 0, 0, 0, 0, []) := (congrFun pm_P_countOf 33).trans rfl
theorem rl_P_rowsOf_0 : (am_pg z_P_rowsOf).2 0 = some (.iconst (0), 1, 0, 0, 0, 0, 0, []) := (congrFun pm_P_rowsOf 0).trans rfl
theorem rl_P_rowsOf_1 : (am_pg z_P_rowsOf).2 1 = some (.istore 4, 3, 4, 0, 0, 0, 0, []) := (congrFun pm_P_rowsOf 1).trans rfl
theorem rl_P_rowsOf_3 : (am_pg z_P_rowsOf).2 3 = some (.iload_n 2, 4, 2, 0, 0, 0, 0, []) := (congrFun pm_P_rowsOf 3).trans rfl
theorem rl_P_rowsOf_4 : (am_pg z_P_rowsOf).2 4 = some (.istore 5, 6, 5, 0, 0, 0, 0, []) := (congrFun pm_P_rowsOf 4).trans rfl
theorem rl_P_rowsOf_6 : (am_pg z_P_rowsOf).2 6 = some (.iload 5, 8, 5, 0, 0, 0, 0, []) := (congrFun pm_P_rowsOf 6).trans rfl
theorem rl_P_rowsOf_8 : (am_pg z_P_rowsOf).2 8 = some (.iload_n 3, 9, 3, 0, 0, 0, 0, []) := (congrFun pm_P_rowsOf 8).trans rfl
theorem rl_P_rowsOf_9 : (am_pg z_P_rowsOf).2 9 = some (.if_icmp .gt (40), 12, 49, 0, 0, 0, 0, []) := (congrFun pm_P_rowsOf 9).trans rfl
theorem rl_P_rowsOf_12 : (am_pg z_P_rowsOf).2 12 = some (.aload_n 0, 13, 0, 0, 0, 0, 0, []) := (congrFun pm_P_rowsOf 12).trans rfl
theorem rl_P_rowsOf_13 : (am_pg z_P_rowsOf).2 13 = some (.iload 5, 15, 5, 0, 0, 0, 0, []) := (congrFun pm_P_rowsOf 13).trans rfl
theorem rl_P_rowsOf_15 : (am_pg z_P_rowsOf).2 15 = some (.invokevirtual 33, 18, 237, 1, 1, 51, 0, []) := (congrFun pm_P_rowsOf 15).trans rfl
theorem rl_P_rowsOf_18 : (am_pg z_P_rowsOf).2 18 = some (.iload_n 1, 19, 1, 0, 0, 0, 0, []) := (congrFun pm_P_rowsOf 18).trans rfl
theorem rl_P_rowsOf_19 : (am_pg z_P_rowsOf).2 19 = some (.if_icmp .ne (24), 22, 43, 0, 0, 0, 0, []) := (congrFun pm_P_rowsOf 19).trans rfl
theorem rl_P_rowsOf_22 : (am_pg z_P_rowsOf).2 22 = some (.iload 5, 24, 5, 0, 0, 0, 0, []) := (congrFun pm_P_rowsOf 22).trans rfl
theorem rl_P_rowsOf_24 : (am_pg z_P_rowsOf).2 24 = some (.iload_n 2, 25, 2, 0, 0, 0, 0, []) := (congrFun pm_P_rowsOf 24).trans rfl
theorem rl_P_rowsOf_25 : (am_pg z_P_rowsOf).2 25 = some (.if_icmp .eq (15), 28, 40, 0, 0, 0, 0, []) := (congrFun pm_P_rowsOf 25).trans rfl
theorem rl_P_rowsOf_28 : (am_pg z_P_rowsOf).2 28 = some (.aload_n 0, 29, 0, 0, 0, 0, 0, []) := (congrFun pm_P_rowsOf 28).trans rfl
theorem rl_P_rowsOf_29 : (am_pg z_P_rowsOf).2 29 = some (.iload 5, 31, 5, 0, 0, 0, 0, []) := (congrFun pm_P_rowsOf 29).trans rfl
theorem rl_P_rowsOf_31 : (am_pg z_P_rowsOf).2 31 = some (.iconst (1), 32, 0, 0, 0, 0, 1, []) := (congrFun pm_P_rowsOf 31).trans rfl
theorem rl_P_rowsOf_32 : (am_pg z_P_rowsOf).2 32 = some (.isub, 33, 0, 0, 0, 0, 0, []) := (congrFun pm_P_rowsOf 32).trans rfl
theorem rl_P_rowsOf_33 : (am_pg z_P_rowsOf).2 33 = some (.invokevirtual 33, 36, 237, 1, 1, 51, 0, []) := (congrFun pm_P_rowsOf 33).trans rfl
theorem rl_P_rowsOf_36 : (am_pg z_P_rowsOf).2 36 = some (.iload_n 1, 37, 1, 0, 0, 0, 0, []) := (congrFun pm_P_rowsOf 36).trans rfl
theorem rl_P_rowsOf_37 : (am_pg z_P_rowsOf).2 37 = some (.if_icmp .eq (6), 40, 43, 0, 0, 0, 0, []) := (congrFun pm_P_rowsOf 37).trans rfl
theorem rl_P_rowsOf_40 : (am_pg z_P_rowsOf).2 40 = some (.iinc 4 (1), 43, 4, 0, 0, 0, 1, []) := (congrFun pm_P_rowsOf 40).trans rfl
theorem rl_P_rowsOf_43 : (am_pg z_P_rowsOf).2 43 = some (.iinc 5 (1), 46, 5, 0, 0, 0, 1, []) := (congrFun pm_P_rowsOf 43).trans rfl
theorem rl_P_rowsOf_46 : (am_pg z_P_rowsOf).2 46 = some (.goto (-40), 49, 6, 0, 0, 0, 0, []) := (congrFun pm_P_rowsOf 46).trans rfl
theorem rl_P_rowsOf_49 : (am_pg z_P_rowsOf).2 49 = some (.iload 4, 51, 4, 0, 0, 0, 0, []) := (congrFun pm_P_rowsOf 49).trans rfl
theorem rl_P_rowsOf_51 : (am_pg z_P_rowsOf).2 51 = some (.ireturn, 52, 0, 0, 0, 0, 0, []) := (congrFun pm_P_rowsOf 51).trans rfl
theorem rl_P_longestRow_0 : (am_pg z_P_longestRow).2 0 = some (.iconst (0), 1, 0, 0, 0, 0, 0, []) := (congrFun pm_P_longestRow 0).trans rfl
theorem rl_P_longestRow_1 : (am_pg z_P_longestRow).2 1 = some (.istore 4, 3, 4, 0, 0, 0, 0, []) := (congrFun pm_P_longestRow 1).trans rfl
theorem rl_P_longestRow_3 : (am_pg z_P_longestRow).2 3 = some (.iconst (0), 4, 0, 0, 0, 0, 0, []) := (congrFun pm_P_longestRow 3).trans rfl
theorem rl_P_longestRow_4 : (am_pg z_P_longestRow).2 4 = some (.istore 5, 6, 5, 0, 0, 0, 0, []) := (congrFun pm_P_longestRow 4).trans rfl
theorem rl_P_longestRow_6 : (am_pg z_P_longestRow).2 6 = some (.iload_n 2, 7, 2, 0, 0, 0, 0, []) := (congrFun pm_P_longestRow 6).trans rfl
theorem rl_P_longestRow_7 : (am_pg z_P_longestRow).2 7 = some (.istore 6, 9, 6, 0, 0, 0, 0, []) := (congrFun pm_P_longestRow 7).trans rfl
theorem rl_P_longestRow_9 : (am_pg z_P_longestRow).2 9 = some (.iload 6, 11, 6, 0, 0, 0, 0, []) := (congrFun pm_P_longestRow 9).trans rfl
theorem rl_P_longestRow_11 : (am_pg z_P_longestRow).2 11 = some (.iload_n 3, 12, 3, 0, 0, 0, 0, []) := (congrFun pm_P_longestRow 11).trans rfl
theorem rl_P_longestRow_12 : (am_pg z_P_longestRow).2 12 = some (.if_icmp .gt (38), 15, 50, 0, 0, 0, 0, []) := (congrFun pm_P_longestRow 12).trans rfl
theorem rl_P_longestRow_15 : (am_pg z_P_longestRow).2 15 = some (.aload_n 0, 16, 0, 0, 0, 0, 0, []) := (congrFun pm_P_longestRow 15).trans rfl
theorem rl_P_longestRow_16 : (am_pg z_P_longestRow).2 16 = some (.iload 6, 18, 6, 0, 0, 0, 0, []) := (congrFun pm_P_longestRow 16).trans rfl
theorem rl_P_longestRow_18 : (am_pg z_P_longestRow).2 18 = some (.invokevirtual 33, 21, 237, 1, 1, 51, 0, []) := (congrFun pm_P_longestRow 18).trans rfl
theorem rl_P_longestRow_21 : (am_pg z_P_longestRow).2 21 = some (.iload_n 1, 22, 1, 0, 0, 0, 0, []) := (congrFun pm_P_longestRow 21).trans rfl
theorem rl_P_longestRow_22 : (am_pg z_P_longestRow).2 22 = some (.if_icmp .ne (10), 25, 32, 0, 0, 0, 0, []) := (congrFun pm_P_longestRow 22).trans rfl
theorem rl_P_longestRow_25 : (am_pg z_P_longestRow).2 25 = some (.iload 5, 27, 5, 0, 0, 0, 0, []) := (congrFun pm_P_longestRow 25).trans rfl
theorem rl_P_longestRow_27 : (am_pg z_P_longestRow).2 27 = some (.iconst (1), 28, 0, 0, 0, 0, 1, []) := (congrFun pm_P_longestRow 27).trans rfl
theorem rl_P_longestRow_28 : (am_pg z_P_longestRow).2 28 = some (.iadd, 29, 0, 0, 0, 0, 0, []) := (congrFun pm_P_longestRow 28).trans rfl
theorem rl_P_longestRow_29 : (am_pg z_P_longestRow).2 29 = some (.goto (4), 32, 33, 0, 0, 0, 0, []) := (congrFun pm_P_longestRow 29).trans rfl
theorem rl_P_longestRow_32 : (am_pg z_P_longestRow).2 32 = some (.iconst (0), 33, 0, 0, 0, 0, 0, []) := (congrFun pm_P_longestRow 32).trans rfl
theorem rl_P_longestRow_33 : (am_pg z_P_longestRow).2 33 = some (.istore 5, 35, 5, 0, 0, 0, 0, []) := (congrFun pm_P_longestRow 33).trans rfl
theorem rl_P_longestRow_35 : (am_pg z_P_longestRow).2 35 = some (.iload 4, 37, 4, 0, 0, 0, 0, []) := (congrFun pm_P_longestRow 35).trans rfl
theorem rl_P_longestRow_37 : (am_pg z_P_longestRow).2 37 = some (.iload 5, 39, 5, 0, 0, 0, 0, []) := (congrFun pm_P_longestRow 37).trans rfl
theorem rl_P_longestRow_39 : (am_pg z_P_longestRow).2 39 = some (.invokestatic 27, 42, 0, 2, 2, 1, 0, []) := (congrFun pm_P_longestRow 39).trans rfl
theorem rl_P_longestRow_42 : (am_pg z_P_longestRow).2 42 = some (.istore 4, 44, 4, 0, 0, 0, 0, []) := (congrFun pm_P_longestRow 42).trans rfl
theorem rl_P_longestRow_44 : (am_pg z_P_longestRow).2 44 = some (.iinc 6 (1), 47, 6, 0, 0, 0, 1, []) := (congrFun pm_P_longestRow 44).trans rfl
theorem rl_P_longestRow_47 : (am_pg z_P_longestRow).2 47 = some (.goto (-38), 50, 9, 0, 0, 0, 0, []) := (congrFun pm_P_longestRow 47).trans rfl
theorem rl_P_longestRow_50 : (am_pg z_P_longestRow).2 50 = some (.iload 4, 52, 4, 0, 0, 0, 0, []) := (congrFun pm_P_longestRow 50).trans rfl
theorem rl_P_longestRow_52 : (am_pg z_P_longestRow).2 52 = some (.ireturn, 53, 0, 0, 0, 0, 0, []) := (congrFun pm_P_longestRow 52).trans rfl
theorem rl_D_readText_0 : (am_pg z_D_readText).2 0 = some (.aload_n 0, 1, 0, 0, 0, 0, 0, []) := (congrFun pm_D_readText 0).trans rfl
theorem rl_D_readText_1 : (am_pg z_D_readText).2 1 = some (.iload_n 1, 2, 1, 0, 0, 0, 0, []) := (congrFun pm_D_readText 1).trans rfl
theorem rl_D_readText_2 : (am_pg z_D_readText).2 2 = some (.aload_n 0, 3, 0, 0, 0, 0, 0, []) := (congrFun pm_D_readText 2).trans rfl
theorem rl_D_readText_3 : (am_pg z_D_readText).2 3 = some (.getfield 34, 6, 2, 0, 0, 42, 0, []) := (congrFun pm_D_readText 3).trans rfl
theorem rl_D_readText_6 : (am_pg z_D_readText).2 6 = some (.arraylength, 7, 0, 0, 0, 0, 0, []) := (congrFun pm_D_readText 6).trans rfl
theorem rl_D_readText_7 : (am_pg z_D_readText).2 7 = some (.invokestatic 37, 10, 0, 2, 3, 0, 0, []) := (congrFun pm_D_readText 7).trans rfl
theorem rl_D_readText_10 : (am_pg z_D_readText).2 10 = some (.putfield 21, 13, 2, 4, 0, 46, 0, []) := (congrFun pm_D_readText 10).trans rfl
theorem rl_D_readText_13 : (am_pg z_D_readText).2 13 = some (.aload_n 0, 14, 0, 0, 0, 0, 0, []) := (congrFun pm_D_readText 13).trans rfl
theorem rl_D_readText_14 : (am_pg z_D_readText).2 14 = some (.iconst (0), 15, 0, 0, 0, 0, 0, []) := (congrFun pm_D_readText 14).trans rfl
theorem rl_D_readText_15 : (am_pg z_D_readText).2 15 = some (.putfield 25, 18, 2, 5, 0, 47, 0, []) := (congrFun pm_D_readText 15).trans rfl
theorem rl_D_readText_18 : (am_pg z_D_readText).2 18 = some (.aload_n 0, 19, 0, 0, 0, 0, 0, []) := (congrFun pm_D_readText 18).trans rfl
theorem rl_D_readText_19 : (am_pg z_D_readText).2 19 = some (.iconst (0), 20, 0, 0, 0, 0, 0, []) := (congrFun pm_D_readText 19).trans rfl
theorem rl_D_readText_20 : (am_pg z_D_readText).2 20 = some (.putfield 28, 23, 2, 6, 0, 48, 0, []) := (congrFun pm_D_readText 20).trans rfl
theorem rl_D_readText_23 : (am_pg z_D_readText).2 23 = some (.aload_n 0, 24, 0, 0, 0, 0, 0, []) := (congrFun pm_D_readText 23).trans rfl
theorem rl_D_readText_24 : (am_pg z_D_readText).2 24 = some (.iconst (0), 25, 0, 0, 0, 0, 0, []) := (congrFun pm_D_readText 24).trans rfl
theorem rl_D_readText_25 : (am_pg z_D_readText).2 25 = some (.putfield 31, 28, 2, 7, 0, 49, 0, []) := (congrFun pm_D_readText 25).trans rfl
theorem rl_D_readText_28 : (am_pg z_D_readText).2 28 = some (.iconst (1), 29, 0, 0, 0, 0, 1, []) := (congrFun pm_D_readText 28).trans rfl
theorem rl_D_readText_29 : (am_pg z_D_readText).2 29 = some (.istore_n 2, 30, 2, 0, 0, 0, 0, []) := (congrFun pm_D_readText 29).trans rfl
theorem rl_D_readText_30 : (am_pg z_D_readText).2 30 = some (.iconst (0), 31, 0, 0, 0, 0, 0, []) := (congrFun pm_D_readText 30).trans rfl
theorem rl_D_readText_31 : (am_pg z_D_readText).2 31 = some (.istore_n 3, 32, 3, 0, 0, 0, 0, []) := (congrFun pm_D_readText 31).trans rfl
theorem rl_D_readText_32 : (am_pg z_D_readText).2 32 = some (.iload_n 3, 33, 3, 0, 0, 0, 0, []) := (congrFun pm_D_readText 32).trans rfl
theorem rl_D_readText_33 : (am_pg z_D_readText).2 33 = some (.bipush (80), 35, 0, 0, 0, 0, 80, []) := (congrFun pm_D_readText 33).trans rfl
theorem rl_D_readText_35 : (am_pg z_D_readText).2 35 = some (.if_icmp .ge (38), 38, 73, 0, 0, 0, 0, []) := (congrFun pm_D_readText 35).trans rfl
theorem rl_D_readText_38 : (am_pg z_D_readText).2 38 = some (.iload_n 2, 39, 2, 0, 0, 0, 0, []) := (congrFun pm_D_readText 38).trans rfl
theorem rl_D_readText_39 : (am_pg z_D_readText).2 39 = some (.ifCond .eq (34), 42, 73, 0, 0, 0, 0, []) := (congrFun pm_D_readText 39).trans rfl
theorem rl_D_readText_42 : (am_pg z_D_readText).2 42 = some (.aload_n 0, 43, 0, 0, 0, 0, 0, []) := (congrFun pm_D_readText 42).trans rfl
theorem rl_D_readText_43 : (am_pg z_D_readText).2 43 = some (.iload_n 3, 44, 3, 0, 0, 0, 0, []) := (congrFun pm_D_readText 43).trans rfl
theorem rl_D_readText_44 : (am_pg z_D_readText).2 44 = some (.invokevirtual 43, 47, 247, 1, 2, 18, 0, []) := (congrFun pm_D_readText 44).trans rfl
theorem rl_D_readText_47 : (am_pg z_D_readText).2 47 = some (.aload_n 0, 48, 0, 0, 0, 0, 0, []) := (congrFun pm_D_readText 47).trans rfl
theorem rl_D_readText_48 : (am_pg z_D_readText).2 48 = some (.getfield 31, 51, 2, 7, 0, 49, 0, []) := (congrFun pm_D_readText 48).trans rfl
theorem rl_D_readText_51 : (am_pg z_D_readText).2 51 = some (.ifCond .ne (14), 54, 65, 0, 0, 0, 0, []) := (congrFun pm_D_readText 51).trans rfl
theorem rl_D_readText_54 : (am_pg z_D_readText).2 54 = some (.aload_n 0, 55, 0, 0, 0, 0, 0, []) := (congrFun pm_D_readText 54).trans rfl
theorem rl_D_readText_55 : (am_pg z_D_readText).2 55 = some (.invokevirtual 47, 58, 250, 0, 2, 28, 0, []) := (congrFun pm_D_readText 55).trans rfl
theorem rl_D_readText_58 : (am_pg z_D_readText).2 58 = some (.ifCond .eq (7), 61, 65, 0, 0, 0, 0, []) := (congrFun pm_D_readText 58).trans rfl
theorem rl_D_readText_61 : (am_pg z_D_readText).2 61 = some (.iconst (1), 62, 0, 0, 0, 0, 1, []) := (congrFun pm_D_readText 61).trans rfl
theorem rl_D_readText_62 : (am_pg z_D_readText).2 62 = some (.goto (4), 65, 66, 0, 0, 0, 0, []) := (congrFun pm_D_readText 62).trans rfl
theorem rl_D_readText_65 : (am_pg z_D_readText).2 65 = some (.iconst (0), 66, 0, 0, 0, 0, 0, []) := (congrFun pm_D_readText 65).trans rfl
theorem rl_D_readText_66 : (am_pg z_D_readText).2 66 = some (.istore_n 2, 67, 2, 0, 0, 0, 0, []) := (congrFun pm_D_readText 66).trans rfl
theorem rl_D_readText_67 : (am_pg z_D_readText).2 67 = some (.iinc 3 (1), 70, 3, 0, 0, 0, 1, []) := (congrFun pm_D_readText 67).trans rfl
theorem rl_D_readText_70 : (am_pg z_D_readText).2 70 = some (.goto (-38), 73, 32, 0, 0, 0, 0, []) := (congrFun pm_D_readText 70).trans rfl
theorem rl_D_readText_73 : (am_pg z_D_readText).2 73 = some (.aload_n 0, 74, 0, 0, 0, 0, 0, []) := (congrFun pm_D_readText 73).trans rfl
theorem rl_D_readText_74 : (am_pg z_D_readText).2 74 = some (.getfield 31, 77, 2, 7, 0, 49, 0, []) := (congrFun pm_D_readText 74).trans rfl
theorem rl_D_readText_77 : (am_pg z_D_readText).2 77 = some (.ifCond .eq (10), 80, 87, 0, 0, 0, 0, []) := (congrFun pm_D_readText 77).trans rfl
theorem rl_D_readText_80 : (am_pg z_D_readText).2 80 = some (.aload_n 0, 81, 0, 0, 0, 0, 0, []) := (congrFun pm_D_readText 80).trans rfl
theorem rl_D_readText_81 : (am_pg z_D_readText).2 81 = some (.getfield 31, 84, 2, 7, 0, 49, 0, []) := (congrFun pm_D_readText 81).trans rfl
theorem rl_D_readText_84 : (am_pg z_D_readText).2 84 = some (.goto (7), 87, 91, 0, 0, 0, 0, []) := (congrFun pm_D_readText 84).trans rfl
theorem rl_D_readText_87 : (am_pg z_D_readText).2 87 = some (.aload_n 0, 88, 0, 0, 0, 0, 0, []) := (congrFun pm_D_readText 87).trans rfl
theorem rl_D_readText_88 : (am_pg z_D_readText).2 88 = some (.getfield 25, 91, 2, 5, 0, 47, 0, []) := (congrFun pm_D_readText 88).trans rfl
theorem rl_D_readText_91 : (am_pg z_D_readText).2 91 = some (.ireturn, 92, 0, 0, 0, 0, 0, []) := (congrFun pm_D_readText 91).trans rfl
theorem rl_D_layOver_0 : (am_pg z_D_layOver).2 0 = some (.iconst (0), 1, 0, 0, 0, 0, 0, []) := (congrFun pm_D_layOver 0).trans rfl
theorem rl_D_layOver_1 : (am_pg z_D_layOver).2 1 = some (.istore_n 2, 2, 2, 0, 0, 0, 0, []) := (congrFun pm_D_layOver 1).trans rfl
theorem rl_D_layOver_2 : (am_pg z_D_layOver).2 2 = some (.iload_n 2, 3, 2, 0, 0, 0, 0, []) := (congrFun pm_D_layOver 2).trans rfl
theorem rl_D_layOver_3 : (am_pg z_D_layOver).2 3 = some (.aload_n 0, 4, 0, 0, 0, 0, 0, []) := (congrFun pm_D_layOver 3).trans rfl
theorem rl_D_layOver_4 : (am_pg z_D_layOver).2 4 = some (.getfield 25, 7, 2, 5, 0, 47, 0, []) := (congrFun pm_D_layOver 4).trans rfl
theorem rl_D_layOver_7 : (am_pg z_D_layOver).2 7 = some (.if_icmp .ge (38), 10, 45, 0, 0, 0, 0, []) := (congrFun pm_D_layOver 7).trans rfl
theorem rl_D_layOver_10 : (am_pg z_D_layOver).2 10 = some (.iload_n 2, 11, 2, 0, 0, 0, 0, []) := (congrFun pm_D_layOver 10).trans rfl
theorem rl_D_layOver_11 : (am_pg z_D_layOver).2 11 = some (.bipush (80), 13, 0, 0, 0, 0, 80, []) := (congrFun pm_D_layOver 11).trans rfl
theorem rl_D_layOver_13 : (am_pg z_D_layOver).2 13 = some (.if_icmp .ge (32), 16, 45, 0, 0, 0, 0, []) := (congrFun pm_D_layOver 13).trans rfl
theorem rl_D_layOver_16 : (am_pg z_D_layOver).2 16 = some (.aload_n 1, 17, 1, 0, 0, 0, 0, []) := (congrFun pm_D_layOver 16).trans rfl
theorem rl_D_layOver_17 : (am_pg z_D_layOver).2 17 = some (.aload_n 0, 18, 0, 0, 0, 0, 0, []) := (congrFun pm_D_layOver 17).trans rfl
theorem rl_D_layOver_18 : (am_pg z_D_layOver).2 18 = some (.getfield 11, 21, 2, 1, 0, 43, 0, []) := (congrFun pm_D_layOver 18).trans rfl
theorem rl_D_layOver_21 : (am_pg z_D_layOver).2 21 = some (.iload_n 2, 22, 2, 0, 0, 0, 0, []) := (congrFun pm_D_layOver 21).trans rfl
theorem rl_D_layOver_22 : (am_pg z_D_layOver).2 22 = some (.iaload, 23, 0, 0, 0, 0, 0, []) := (congrFun pm_D_layOver 22).trans rfl
theorem rl_D_layOver_23 : (am_pg z_D_layOver).2 23 = some (.aload_n 0, 24, 0, 0, 0, 0, 0, []) := (congrFun pm_D_layOver 23).trans rfl
theorem rl_D_layOver_24 : (am_pg z_D_layOver).2 24 = some (.getfield 15, 27, 2, 2, 0, 44, 0, []) := (congrFun pm_D_layOver 24).trans rfl
theorem rl_D_layOver_27 : (am_pg z_D_layOver).2 27 = some (.iload_n 2, 28, 2, 0, 0, 0, 0, []) := (congrFun pm_D_layOver 27).trans rfl
theorem rl_D_layOver_28 : (am_pg z_D_layOver).2 28 = some (.iaload, 29, 0, 0, 0, 0, 0, []) := (congrFun pm_D_layOver 28).trans rfl
theorem rl_D_layOver_29 : (am_pg z_D_layOver).2 29 = some (.aload_n 0, 30, 0, 0, 0, 0, 0, []) := (congrFun pm_D_layOver 29).trans rfl
theorem rl_D_layOver_30 : (am_pg z_D_layOver).2 30 = some (.getfield 18, 33, 2, 3, 0, 45, 0, []) := (congrFun pm_D_layOver 30).trans rfl
theorem rl_D_layOver_33 : (am_pg z_D_layOver).2 33 = some (.iload_n 2, 34, 2, 0, 0, 0, 0, []) := (congrFun pm_D_layOver 33).trans rfl
theorem rl_D_layOver_34 : (am_pg z_D_layOver).2 34 = some (.iaload, 35, 0, 0, 0, 0, 0, []) := (congrFun pm_D_layOver 34).trans rfl
theorem rl_D_layOver_35 : (am_pg z_D_layOver).2 35 = some (.invokevirtual 51, 38, 236, 3, 1, 30, 0, []) := (congrFun pm_D_layOver 35).trans rfl
theorem rl_D_layOver_38 : (am_pg z_D_layOver).2 38 = some (.pop, 39, 0, 0, 0, 0, 0, []) := (congrFun pm_D_layOver 38).trans rfl
theorem rl_D_layOver_39 : (am_pg z_D_layOver).2 39 = some (.iinc 2 (1), 42, 2, 0, 0, 0, 1, []) := (congrFun pm_D_layOver 39).trans rfl
theorem rl_D_layOver_42 : (am_pg z_D_layOver).2 42 = some (.goto (-40), 45, 2, 0, 0, 0, 0, []) := (congrFun pm_D_layOver 42).trans rfl
theorem rl_D_layOver_45 : (am_pg z_D_layOver).2 45 = some (.return_, 46, 0, 0, 0, 0, 0, []) := (congrFun pm_D_layOver 45).trans rfl
theorem rl_D_readStay_0 : (am_pg z_D_readStay).2 0 = some (.aload_n 0, 1, 0, 0, 0, 0, 0, []) := (congrFun pm_D_readStay 0).trans rfl
theorem rl_D_readStay_1 : (am_pg z_D_readStay).2 1 = some (.invokevirtual 57, 4, 251, 0, 2, 19, 0, []) := (congrFun pm_D_readStay 1).trans rfl
theorem rl_D_readStay_4 : (am_pg z_D_readStay).2 4 = some (.aload_n 0, 5, 0, 0, 0, 0, 0, []) := (congrFun pm_D_readStay 4).trans rfl
theorem rl_D_readStay_5 : (am_pg z_D_readStay).2 5 = some (.invokevirtual 60, 8, 252, 0, 2, 20, 0, []) := (congrFun pm_D_readStay 5).trans rfl
theorem rl_D_readStay_8 : (am_pg z_D_readStay).2 8 = some (.invokestatic 64, 11, 255, 1, 0, 21, 0, []) := (congrFun pm_D_readStay 8).trans rfl
theorem rl_D_readStay_11 : (am_pg z_D_readStay).2 11 = some (.istore_n 2, 12, 2, 0, 0, 0, 0, []) := (congrFun pm_D_readStay 11).trans rfl
theorem rl_D_readStay_12 : (am_pg z_D_readStay).2 12 = some (.iload_n 2, 13, 2, 0, 0, 0, 0, []) := (congrFun pm_D_readStay 12).trans rfl
theorem rl_D_readStay_13 : (am_pg z_D_readStay).2 13 = some (.bipush (-2), 15, 0, 0, 0, 0, -2, []) := (congrFun pm_D_readStay 13).trans rfl
theorem rl_D_readStay_15 : (am_pg z_D_readStay).2 15 = some (.if_icmp .ne (13), 18, 28, 0, 0, 0, 0, []) := (congrFun pm_D_readStay 15).trans rfl
theorem rl_D_readStay_18 : (am_pg z_D_readStay).2 18 = some (.aload_n 0, 19, 0, 0, 0, 0, 0, []) := (congrFun pm_D_readStay 18).trans rfl
theorem rl_D_readStay_19 : (am_pg z_D_readStay).2 19 = some (.iconst (1), 20, 0, 0, 0, 0, 1, []) := (congrFun pm_D_readStay 19).trans rfl
theorem rl_D_readStay_20 : (am_pg z_D_readStay).2 20 = some (.aload_n 0, 21, 0, 0, 0, 0, 0, []) := (congrFun pm_D_readStay 20).trans rfl
theorem rl_D_readStay_21 : (am_pg z_D_readStay).2 21 = some (.getfield 28, 24, 2, 6, 0, 48, 0, []) := (congrFun pm_D_readStay 21).trans rfl
theorem rl_D_readStay_24 : (am_pg z_D_readStay).2 24 = some (.invokevirtual 68, 27, 253, 2, 2, 23, 0, []) := (congrFun pm_D_readStay 24).trans rfl
theorem rl_D_readStay_27 : (am_pg z_D_readStay).2 27 = some (.return_, 28, 0, 0, 0, 0, 0, []) := (congrFun pm_D_readStay 27).trans rfl
theorem rl_D_readStay_28 : (am_pg z_D_readStay).2 28 = some (.aload_n 0, 29, 0, 0, 0, 0, 0, []) := (congrFun pm_D_readStay 28).trans rfl
theorem rl_D_readStay_29 : (am_pg z_D_readStay).2 29 = some (.dup, 30, 0, 0, 0, 0, 0, []) := (congrFun pm_D_readStay 29).trans rfl
theorem rl_D_readStay_30 : (am_pg z_D_readStay).2 30 = some (.getfield 28, 33, 2, 6, 0, 48, 0, []) := (congrFun pm_D_readStay 30).trans rfl
theorem rl_D_readStay_33 : (am_pg z_D_readStay).2 33 = some (.iconst (1), 34, 0, 0, 0, 0, 1, []) := (congrFun pm_D_readStay 33).trans rfl
theorem rl_D_readStay_34 : (am_pg z_D_readStay).2 34 = some (.iadd, 35, 0, 0, 0, 0, 0, []) := (congrFun pm_D_readStay 34).trans rfl
theorem rl_D_readStay_35 : (am_pg z_D_readStay).2 35 = some (.putfield 28, 38, 2, 6, 0, 48, 0, []) := (congrFun pm_D_readStay 35).trans rfl
theorem rl_D_readStay_38 : (am_pg z_D_readStay).2 38 = some (.aload_n 0, 39, 0, 0, 0, 0, 0, []) := (congrFun pm_D_readStay 38).trans rfl
theorem rl_D_readStay_39 : (am_pg z_D_readStay).2 39 = some (.invokevirtual 57, 42, 251, 0, 2, 19, 0, []) := (congrFun pm_D_readStay 39).trans rfl
theorem rl_D_readStay_42 : (am_pg z_D_readStay).2 42 = some (.aload_n 0, 43, 0, 0, 0, 0, 0, []) := (congrFun pm_D_readStay 42).trans rfl
theorem rl_D_readStay_43 : (am_pg z_D_readStay).2 43 = some (.iconst (0), 44, 0, 0, 0, 0, 0, []) := (congrFun pm_D_readStay 43).trans rfl
theorem rl_D_readStay_44 : (am_pg z_D_readStay).2 44 = some (.invokevirtual 72, 47, 249, 1, 2, 24, 0, []) := (congrFun pm_D_readStay 44).trans rfl
theorem rl_D_readStay_47 : (am_pg z_D_readStay).2 47 = some (.istore_n 3, 48, 3, 0, 0, 0, 0, []) := (congrFun pm_D_readStay 47).trans rfl
theorem rl_D_readStay_48 : (am_pg z_D_readStay).2 48 = some (.iload_n 3, 49, 3, 0, 0, 0, 0, []) := (congrFun pm_D_readStay 48).trans rfl
theorem rl_D_readStay_49 : (am_pg z_D_readStay).2 49 = some (.istore 4, 51, 4, 0, 0, 0, 0, []) := (congrFun pm_D_readStay 49).trans rfl
theorem rl_D_readStay_51 : (am_pg z_D_readStay).2 51 = some (.aload_n 0, 52, 0, 0, 0, 0, 0, []) := (congrFun pm_D_readStay 51).trans rfl
theorem rl_D_readStay_52 : (am_pg z_D_readStay).2 52 = some (.invokevirtual 57, 55, 251, 0, 2, 19, 0, []) := (congrFun pm_D_readStay 52).trans rfl
theorem rl_D_readStay_55 : (am_pg z_D_readStay).2 55 = some (.aload_n 0, 56, 0, 0, 0, 0, 0, []) := (congrFun pm_D_readStay 55).trans rfl
theorem rl_D_readStay_56 : (am_pg z_D_readStay).2 56 = some (.getfield 31, 59, 2, 7, 0, 49, 0, []) := (congrFun pm_D_readStay 56).trans rfl
theorem rl_D_readStay_59 : (am_pg z_D_readStay).2 59 = some (.ifCond .ne (31), 62, 90, 0, 0, 0, 0, []) := (congrFun pm_D_readStay 59).trans rfl
theorem rl_D_readStay_62 : (am_pg z_D_readStay).2 62 = some (.aload_n 0, 63, 0, 0, 0, 0, 0, []) := (congrFun pm_D_readStay 62).trans rfl
theorem rl_D_readStay_63 : (am_pg z_D_readStay).2 63 = some (.invokevirtual 60, 66, 252, 0, 2, 20, 0, []) := (congrFun pm_D_readStay 63).trans rfl
theorem rl_D_readStay_66 : (am_pg z_D_readStay).2 66 = some (.bipush (46), 68, 0, 0, 0, 0, 46, []) := (congrFun pm_D_readStay 66).trans rfl
theorem rl_D_readStay_68 : (am_pg z_D_readStay).2 68 = some (.if_icmp .ne (22), 71, 90, 0, 0, 0, 0, []) := (congrFun pm_D_readStay 68).trans rfl
theorem rl_D_readStay_71 : (am_pg z_D_readStay).2 71 = some (.aload_n 0, 72, 0, 0, 0, 0, 0, []) := (congrFun pm_D_readStay 71).trans rfl
theorem rl_D_readStay_72 : (am_pg z_D_readStay).2 72 = some (.invokevirtual 75, 75, 248, 0, 2, 27, 0, []) := (congrFun pm_D_readStay 72).trans rfl
theorem rl_D_readStay_75 : (am_pg z_D_readStay).2 75 = some (.aload_n 0, 76, 0, 0, 0, 0, 0, []) := (congrFun pm_D_readStay 75).trans rfl
theorem rl_D_readStay_76 : (am_pg z_D_readStay).2 76 = some (.invokevirtual 57, 79, 251, 0, 2, 19, 0, []) := (congrFun pm_D_readStay 76).trans rfl
theorem rl_D_readStay_79 : (am_pg z_D_readStay).2 79 = some (.aload_n 0, 80, 0, 0, 0, 0, 0, []) := (congrFun pm_D_readStay 79).trans rfl
theorem rl_D_readStay_80 : (am_pg z_D_readStay).2 80 = some (.iload_n 3, 81, 3, 0, 0, 0, 0, []) := (congrFun pm_D_readStay 80).trans rfl
theorem rl_D_readStay_81 : (am_pg z_D_readStay).2 81 = some (.invokevirtual 72, 84, 249, 1, 2, 24, 0, []) := (congrFun pm_D_readStay 81).trans rfl
theorem rl_D_readStay_84 : (am_pg z_D_readStay).2 84 = some (.istore 4, 86, 4, 0, 0, 0, 0, []) := (congrFun pm_D_readStay 84).trans rfl
theorem rl_D_readStay_86 : (am_pg z_D_readStay).2 86 = some (.aload_n 0, 87, 0, 0, 0, 0, 0, []) := (congrFun pm_D_readStay 86).trans rfl
theorem rl_D_readStay_87 : (am_pg z_D_readStay).2 87 = some (.invokevirtual 57, 90, 251, 0, 2, 19, 0, []) := (congrFun pm_D_readStay 87).trans rfl
theorem rl_D_readStay_90 : (am_pg z_D_readStay).2 90 = some (.aload_n 0, 91, 0, 0, 0, 0, 0, []) := (congrFun pm_D_readStay 90).trans rfl
theorem rl_D_readStay_91 : (am_pg z_D_readStay).2 91 = some (.getfield 31, 94, 2, 7, 0, 49, 0, []) := (congrFun pm_D_readStay 91).trans rfl
theorem rl_D_readStay_94 : (am_pg z_D_readStay).2 94 = some (.ifCond .ne (32), 97, 126, 0, 0, 0, 0, []) := (congrFun pm_D_readStay 94).trans rfl
theorem rl_D_readStay_97 : (am_pg z_D_readStay).2 97 = some (.aload_n 0, 98, 0, 0, 0, 0, 0, []) := (congrFun pm_D_readStay 97).trans rfl
theorem rl_D_readStay_98 : (am_pg z_D_readStay).2 98 = some (.getfield 11, 101, 2, 1, 0, 43, 0, []) := (congrFun pm_D_readStay 98).trans rfl
theorem rl_D_readStay_101 : (am_pg z_D_readStay).2 101 = some (.iload_n 1, 102, 1, 0, 0, 0, 0, []) := (congrFun pm_D_readStay 101).trans rfl
theorem rl_D_readStay_102 : (am_pg z_D_readStay).2 102 = some (.iload_n 2, 103, 2, 0, 0, 0, 0, []) := (congrFun pm_D_readStay 102).trans rfl
theorem rl_D_readStay_103 : (am_pg z_D_readStay).2 103 = some (.iastore, 104, 0, 0, 0, 0, 0, []) := (congrFun pm_D_readStay 103).trans rfl
theorem rl_D_readStay_104 : (am_pg z_D_readStay).2 104 = some (.aload_n 0, 105, 0, 0, 0, 0, 0, []) := (congrFun pm_D_readStay 104).trans rfl
theorem rl_D_readStay_105 : (am_pg z_D_readStay).2 105 = some (.getfield 15, 108, 2, 2, 0, 44, 0, []) := (congrFun pm_D_readStay 105).trans rfl
theorem rl_D_readStay_108 : (am_pg z_D_readStay).2 108 = some (.iload_n 1, 109, 1, 0, 0, 0, 0, []) := (congrFun pm_D_readStay 108).trans rfl
theorem rl_D_readStay_109 : (am_pg z_D_readStay).2 109 = some (.iload_n 3, 110, 3, 0, 0, 0, 0, []) := (congrFun pm_D_readStay 109).trans rfl
theorem rl_D_readStay_110 : (am_pg z_D_readStay).2 110 = some (.iastore, 111, 0, 0, 0, 0, 0, []) := (congrFun pm_D_readStay 110).trans rfl
theorem rl_D_readStay_111 : (am_pg z_D_readStay).2 111 = some (.aload_n 0, 112, 0, 0, 0, 0, 0, []) := (congrFun pm_D_readStay 111).trans rfl
theorem rl_D_readStay_112 : (am_pg z_D_readStay).2 112 = some (.getfield 18, 115, 2, 3, 0, 45, 0, []) := (congrFun pm_D_readStay 112).trans rfl
theorem rl_D_readStay_115 : (am_pg z_D_readStay).2 115 = some (.iload_n 1, 116, 1, 0, 0, 0, 0, []) := (congrFun pm_D_readStay 115).trans rfl
theorem rl_D_readStay_116 : (am_pg z_D_readStay).2 116 = some (.iload 4, 118, 4, 0, 0, 0, 0, []) := (congrFun pm_D_readStay 116).trans rfl
theorem rl_D_readStay_118 : (am_pg z_D_readStay).2 118 = some (.iastore, 119, 0, 0, 0, 0, 0, []) := (congrFun pm_D_readStay 118).trans rfl
theorem rl_D_readStay_119 : (am_pg z_D_readStay).2 119 = some (.aload_n 0, 120, 0, 0, 0, 0, 0, []) := (congrFun pm_D_readStay 119).trans rfl
theorem rl_D_readStay_120 : (am_pg z_D_readStay).2 120 = some (.iload_n 1, 121, 1, 0, 0, 0, 0, []) := (congrFun pm_D_readStay 120).trans rfl
theorem rl_D_readStay_121 : (am_pg z_D_readStay).2 121 = some (.iconst (1), 122, 0, 0, 0, 0, 1, []) := (congrFun pm_D_readStay 121).trans rfl
theorem rl_D_readStay_122 : (am_pg z_D_readStay).2 122 = some (.iadd, 123, 0, 0, 0, 0, 0, []) := (congrFun pm_D_readStay 122).trans rfl
theorem rl_D_readStay_123 : (am_pg z_D_readStay).2 123 = some (.putfield 25, 126, 2, 5, 0, 47, 0, []) := (congrFun pm_D_readStay 123).trans rfl
theorem rl_D_readStay_126 : (am_pg z_D_readStay).2 126 = some (.return_, 127, 0, 0, 0, 0, 0, []) := (congrFun pm_D_readStay 126).trans rfl
theorem rl_D_readPoints_0 : (am_pg z_D_readPoints).2 0 = some (.aload_n 0, 1, 0, 0, 0, 0, 0, []) := (congrFun pm_D_readPoints 0).trans rfl
theorem rl_D_readPoints_1 : (am_pg z_D_readPoints).2 1 = some (.dup, 2, 0, 0, 0, 0, 0, []) := (congrFun pm_D_readPoints 1).trans rfl
theorem rl_D_readPoints_2 : (am_pg z_D_readPoints).2 2 = some (.getfield 28, 5, 2, 6, 0, 48, 0, []) := (congrFun pm_D_readPoints 2).trans rfl
theorem rl_D_readPoints_5 : (am_pg z_D_readPoints).2 5 = some (.iconst (1), 6, 0, 0, 0, 0, 1, []) := (congrFun pm_D_readPoints 5).trans rfl
theorem rl_D_readPoints_6 : (am_pg z_D_readPoints).2 6 = some (.iadd, 7, 0, 0, 0, 0, 0, []) := (congrFun pm_D_readPoints 6).trans rfl
theorem rl_D_readPoints_7 : (am_pg z_D_readPoints).2 7 = some (.putfield 28, 10, 2, 6, 0, 48, 0, []) := (congrFun pm_D_readPoints 7).trans rfl
theorem rl_D_readPoints_10 : (am_pg z_D_readPoints).2 10 = some (.aload_n 0, 11, 0, 0, 0, 0, 0, []) := (congrFun pm_D_readPoints 10).trans rfl
theorem rl_D_readPoints_11 : (am_pg z_D_readPoints).2 11 = some (.invokevirtual 60, 14, 252, 0, 2, 20, 0, []) := (congrFun pm_D_readPoints 11).trans rfl
theorem rl_D_readPoints_14 : (am_pg z_D_readPoints).2 14 = some (.bipush (46), 16, 0, 0, 0, 0, 46, []) := (congrFun pm_D_readPoints 14).trans rfl
theorem rl_D_readPoints_16 : (am_pg z_D_readPoints).2 16 = some (.if_icmp .ne (16), 19, 32, 0, 0, 0, 0, []) := (congrFun pm_D_readPoints 16).trans rfl
theorem rl_D_readPoints_19 : (am_pg z_D_readPoints).2 19 = some (.aload_n 0, 20, 0, 0, 0, 0, 0, []) := (congrFun pm_D_readPoints 19).trans rfl
theorem rl_D_readPoints_20 : (am_pg z_D_readPoints).2 20 = some (.dup, 21, 0, 0, 0, 0, 0, []) := (congrFun pm_D_readPoints 20).trans rfl
theorem rl_D_readPoints_21 : (am_pg z_D_readPoints).2 21 = some (.getfield 28, 24, 2, 6, 0, 48, 0, []) := (congrFun pm_D_readPoints 21).trans rfl
theorem rl_D_readPoints_24 : (am_pg z_D_readPoints).2 24 = some (.iconst (1), 25, 0, 0, 0, 0, 1, []) := (congrFun pm_D_readPoints 24).trans rfl
theorem rl_D_readPoints_25 : (am_pg z_D_readPoints).2 25 = some (.iadd, 26, 0, 0, 0, 0, 0, []) := (congrFun pm_D_readPoints 25).trans rfl
theorem rl_D_readPoints_26 : (am_pg z_D_readPoints).2 26 = some (.putfield 28, 29, 2, 6, 0, 48, 0, []) := (congrFun pm_D_readPoints 26).trans rfl
theorem rl_D_readPoints_29 : (am_pg z_D_readPoints).2 29 = some (.goto (12), 32, 41, 0, 0, 0, 0, []) := (congrFun pm_D_readPoints 29).trans rfl
theorem rl_D_readPoints_32 : (am_pg z_D_readPoints).2 32 = some (.aload_n 0, 33, 0, 0, 0, 0, 0, []) := (congrFun pm_D_readPoints 32).trans rfl
theorem rl_D_readPoints_33 : (am_pg z_D_readPoints).2 33 = some (.iconst (1), 34, 0, 0, 0, 0, 1, []) := (congrFun pm_D_readPoints 33).trans rfl
theorem rl_D_readPoints_34 : (am_pg z_D_readPoints).2 34 = some (.aload_n 0, 35, 0, 0, 0, 0, 0, []) := (congrFun pm_D_readPoints 34).trans rfl
theorem rl_D_readPoints_35 : (am_pg z_D_readPoints).2 35 = some (.getfield 28, 38, 2, 6, 0, 48, 0, []) := (congrFun pm_D_readPoints 35).trans rfl
theorem rl_D_readPoints_38 : (am_pg z_D_readPoints).2 38 = some (.invokevirtual 68, 41, 253, 2, 2, 23, 0, []) := (congrFun pm_D_readPoints 38).trans rfl
theorem rl_D_readPoints_41 : (am_pg z_D_readPoints).2 41 = some (.return_, 42, 0, 0, 0, 0, 0, []) := (congrFun pm_D_readPoints 41).trans rfl
theorem rl_D_readDay_0 : (am_pg z_D_readDay).2 0 = some (.aload_n 0, 1, 0, 0, 0, 0, 0, []) := (congrFun pm_D_readDay 0).trans rfl
theorem rl_D_readDay_1 : (am_pg z_D_readDay).2 1 = some (.getfield 28, 4, 2, 6, 0, 48, 0, []) := (congrFun pm_D_readDay 1).trans rfl
theorem rl_D_readDay_4 : (am_pg z_D_readDay).2 4 = some (.istore_n 2, 5, 2, 0, 0, 0, 0, []) := (congrFun pm_D_readDay 4).trans rfl
theorem rl_D_readDay_5 : (am_pg z_D_readDay).2 5 = some (.iconst (0), 6, 0, 0, 0, 0, 0, []) := (congrFun pm_D_readDay 5).trans rfl
theorem rl_D_readDay_6 : (am_pg z_D_readDay).2 6 = some (.istore_n 3, 7, 3, 0, 0, 0, 0, []) := (congrFun pm_D_readDay 6).trans rfl
theorem rl_D_readDay_7 : (am_pg z_D_readDay).2 7 = some (.iconst (0), 8, 0, 0, 0, 0, 0, []) := (congrFun pm_D_readDay 7).trans rfl
theorem rl_D_readDay_8 : (am_pg z_D_readDay).2 8 = some (.istore 4, 10, 4, 0, 0, 0, 0, []) := (congrFun pm_D_readDay 8).trans rfl
theorem rl_D_readDay_10 : (am_pg z_D_readDay).2 10 = some (.iload 4, 12, 4, 0, 0, 0, 0, []) := (congrFun pm_D_readDay 10).trans rfl
theorem rl_D_readDay_12 : (am_pg z_D_readDay).2 12 = some (.iconst (4), 13, 0, 0, 0, 0, 4, []) := (congrFun pm_D_readDay 12).trans rfl
theorem rl_D_readDay_13 : (am_pg z_D_readDay).2 13 = some (.if_icmp .ge (42), 16, 55, 0, 0, 0, 0, []) := (congrFun pm_D_readDay 13).trans rfl
theorem rl_D_readDay_16 : (am_pg z_D_readDay).2 16 = some (.aload_n 0, 17, 0, 0, 0, 0, 0, []) := (congrFun pm_D_readDay 16).trans rfl
theorem rl_D_readDay_17 : (am_pg z_D_readDay).2 17 = some (.invokevirtual 60, 20, 252, 0, 2, 20, 0, []) := (congrFun pm_D_readDay 17).trans rfl
theorem rl_D_readDay_20 : (am_pg z_D_readDay).2 20 = some (.invokestatic 78, 23, 254, 1, 0, 25, 0, []) := (congrFun pm_D_readDay 20).trans rfl
theorem rl_D_readDay_23 : (am_pg z_D_readDay).2 23 = some (.ifCond .eq (32), 26, 55, 0, 0, 0, 0, []) := (congrFun pm_D_readDay 23).trans rfl
theorem rl_D_readDay_26 : (am_pg z_D_readDay).2 26 = some (.iload_n 3, 27, 3, 0, 0, 0, 0, []) := (congrFun pm_D_readDay 26).trans rfl
theorem rl_D_readDay_27 : (am_pg z_D_readDay).2 27 = some (.bipush (10), 29, 0, 0, 0, 0, 10, []) := (congrFun pm_D_readDay 27).trans rfl
theorem rl_D_readDay_29 : (am_pg z_D_readDay).2 29 = some (.imul, 30, 0, 0, 0, 0, 0, []) := (congrFun pm_D_readDay 29).trans rfl
theorem rl_D_readDay_30 : (am_pg z_D_readDay).2 30 = some (.aload_n 0, 31, 0, 0, 0, 0, 0, []) := (congrFun pm_D_readDay 30).trans rfl
theorem rl_D_readDay_31 : (am_pg z_D_readDay).2 31 = some (.invokevirtual 60, 34, 252, 0, 2, 20, 0, []) := (congrFun pm_D_readDay 31).trans rfl
theorem rl_D_readDay_34 : (am_pg z_D_readDay).2 34 = some (.iadd, 35, 0, 0, 0, 0, 0, []) := (congrFun pm_D_readDay 34).trans rfl
theorem rl_D_readDay_35 : (am_pg z_D_readDay).2 35 = some (.bipush (48), 37, 0, 0, 0, 0, 48, []) := (congrFun pm_D_readDay 35).trans rfl
theorem rl_D_readDay_37 : (am_pg z_D_readDay).2 37 = some (.isub, 38, 0, 0, 0, 0, 0, []) := (congrFun pm_D_readDay 37).trans rfl
theorem rl_D_readDay_38 : (am_pg z_D_readDay).2 38 = some (.istore_n 3, 39, 3, 0, 0, 0, 0, []) := (congrFun pm_D_readDay 38).trans rfl
theorem rl_D_readDay_39 : (am_pg z_D_readDay).2 39 = some (.aload_n 0, 40, 0, 0, 0, 0, 0, []) := (congrFun pm_D_readDay 39).trans rfl
theorem rl_D_readDay_40 : (am_pg z_D_readDay).2 40 = some (.dup, 41, 0, 0, 0, 0, 0, []) := (congrFun pm_D_readDay 40).trans rfl
theorem rl_D_readDay_41 : (am_pg z_D_readDay).2 41 = some (.getfield 28, 44, 2, 6, 0, 48, 0, []) := (congrFun pm_D_readDay 41).trans rfl
theorem rl_D_readDay_44 : (am_pg z_D_readDay).2 44 = some (.iconst (1), 45, 0, 0, 0, 0, 1, []) := (congrFun pm_D_readDay 44).trans rfl
theorem rl_D_readDay_45 : (am_pg z_D_readDay).2 45 = some (.iadd, 46, 0, 0, 0, 0, 0, []) := (congrFun pm_D_readDay 45).trans rfl
theorem rl_D_readDay_46 : (am_pg z_D_readDay).2 46 = some (.putfield 28, 49, 2, 6, 0, 48, 0, []) := (congrFun pm_D_readDay 46).trans rfl
theorem rl_D_readDay_49 : (am_pg z_D_readDay).2 49 = some (.iinc 4 (1), 52, 4, 0, 0, 0, 1, []) := (congrFun pm_D_readDay 49).trans rfl
theorem rl_D_readDay_52 : (am_pg z_D_readDay).2 52 = some (.goto (-42), 55, 10, 0, 0, 0, 0, []) := (congrFun pm_D_readDay 52).trans rfl
theorem rl_D_readDay_55 : (am_pg z_D_readDay).2 55 = some (.aload_n 0, 56, 0, 0, 0, 0, 0, []) := (congrFun pm_D_readDay 55).trans rfl
theorem rl_D_readDay_56 : (am_pg z_D_readDay).2 56 = some (.getfield 28, 59, 2, 6, 0, 48, 0, []) := (congrFun pm_D_readDay 56).trans rfl
theorem rl_D_readDay_59 : (am_pg z_D_readDay).2 59 = some (.iload_n 2, 60, 2, 0, 0, 0, 0, []) := (congrFun pm_D_readDay 59).trans rfl
theorem rl_D_readDay_60 : (am_pg z_D_readDay).2 60 = some (.if_icmp .eq (13), 63, 73, 0, 0, 0, 0, []) := (congrFun pm_D_readDay 60).trans rfl
theorem rl_D_readDay_63 : (am_pg z_D_readDay).2 63 = some (.aload_n 0, 64, 0, 0, 0, 0, 0, []) := (congrFun pm_D_readDay 63).trans rfl
theorem rl_D_readDay_64 : (am_pg z_D_readDay).2 64 = some (.invokevirtual 60, 67, 252, 0, 2, 20, 0, []) := (congrFun pm_D_readDay 64).trans rfl
theorem rl_D_readDay_67 : (am_pg z_D_readDay).2 67 = some (.invokestatic 78, 70, 254, 1, 0, 25, 0, []) := (congrFun pm_D_readDay 67).trans rfl
theorem rl_D_readDay_70 : (am_pg z_D_readDay).2 70 = some (.ifCond .eq (15), 73, 85, 0, 0, 0, 0, []) := (congrFun pm_D_readDay 70).trans rfl
theorem rl_D_readDay_73 : (am_pg z_D_readDay).2 73 = some (.aload_n 0, 74, 0, 0, 0, 0, 0, []) := (congrFun pm_D_readDay 73).trans rfl
theorem rl_D_readDay_74 : (am_pg z_D_readDay).2 74 = some (.iconst (1), 75, 0, 0, 0, 0, 1, []) := (congrFun pm_D_readDay 74).trans rfl
theorem rl_D_readDay_75 : (am_pg z_D_readDay).2 75 = some (.aload_n 0, 76, 0, 0, 0, 0, 0, []) := (congrFun pm_D_readDay 75).trans rfl
theorem rl_D_readDay_76 : (am_pg z_D_readDay).2 76 = some (.getfield 28, 79, 2, 6, 0, 48, 0, []) := (congrFun pm_D_readDay 76).trans rfl
theorem rl_D_readDay_79 : (am_pg z_D_readDay).2 79 = some (.invokevirtual 68, 82, 253, 2, 2, 23, 0, []) := (congrFun pm_D_readDay 79).trans rfl
theorem rl_D_readDay_82 : (am_pg z_D_readDay).2 82 = some (.goto (21), 85, 103, 0, 0, 0, 0, []) := (congrFun pm_D_readDay 82).trans rfl
theorem rl_D_readDay_85 : (am_pg z_D_readDay).2 85 = some (.iload_n 3, 86, 3, 0, 0, 0, 0, []) := (congrFun pm_D_readDay 85).trans rfl
theorem rl_D_readDay_86 : (am_pg z_D_readDay).2 86 = some (.sipush (1080), 89, 0, 0, 0, 0, 1080, []) := (congrFun pm_D_readDay 86).trans rfl
theorem rl_D_readDay_89 : (am_pg z_D_readDay).2 89 = some (.if_icmp .ge (8), 92, 97, 0, 0, 0, 0, []) := (congrFun pm_D_readDay 89).trans rfl
theorem rl_D_readDay_92 : (am_pg z_D_readDay).2 92 = some (.iload_n 3, 93, 3, 0, 0, 0, 0, []) := (congrFun pm_D_readDay 92).trans rfl
theorem rl_D_readDay_93 : (am_pg z_D_readDay).2 93 = some (.iload_n 1, 94, 1, 0, 0, 0, 0, []) := (congrFun pm_D_readDay 93).trans rfl
theorem rl_D_readDay_94 : (am_pg z_D_readDay).2 94 = some (.if_icmp .ge (9), 97, 103, 0, 0, 0, 0, []) := (congrFun pm_D_readDay 94).trans rfl
theorem rl_D_readDay_97 : (am_pg z_D_readDay).2 97 = some (.aload_n 0, 98, 0, 0, 0, 0, 0, []) := (congrFun pm_D_readDay 97).trans rfl
theorem rl_D_readDay_98 : (am_pg z_D_readDay).2 98 = some (.iconst (2), 99, 0, 0, 0, 0, 2, []) := (congrFun pm_D_readDay 98).trans rfl
theorem rl_D_readDay_99 : (am_pg z_D_readDay).2 99 = some (.iload_n 2, 100, 2, 0, 0, 0, 0, []) := (congrFun pm_D_readDay 99).trans rfl
theorem rl_D_readDay_100 : (am_pg z_D_readDay).2 100 = some (.invokevirtual 68, 103, 253, 2, 2, 23, 0, []) := (congrFun pm_D_readDay 100).trans rfl
theorem rl_D_readDay_103 : (am_pg z_D_readDay).2 103 = some (.iload_n 3, 104, 3, 0, 0, 0, 0, []) := (congrFun pm_D_readDay 103).trans rfl
theorem rl_D_readDay_104 : (am_pg z_D_readDay).2 104 = some (.ireturn, 105, 0, 0, 0, 0, 0, []) := (congrFun pm_D_readDay 104).trans rfl
theorem rl_D_readComma_0 : (am_pg z_D_readComma).2 0 = some (.aload_n 0, 1, 0, 0, 0, 0, 0, []) := (congrFun pm_D_readComma 0).trans rfl
theorem rl_D_readComma_1 : (am_pg z_D_readComma).2 1 = some (.invokevirtual 60, 4, 252, 0, 2, 20, 0, []) := (congrFun pm_D_readComma 1).trans rfl
theorem rl_D_readComma_4 : (am_pg z_D_readComma).2 4 = some (.iconst (-1), 5, 0, 0, 0, 0, -1, []) := (congrFun pm_D_readComma 4).trans rfl
theorem rl_D_readComma_5 : (am_pg z_D_readComma).2 5 = some (.if_icmp .ne (5), 8, 10, 0, 0, 0, 0, []) := (congrFun pm_D_readComma 5).trans rfl
theorem rl_D_readComma_8 : (am_pg z_D_readComma).2 8 = some (.iconst (0), 9, 0, 0, 0, 0, 0, []) := (congrFun pm_D_readComma 8).trans rfl
theorem rl_D_readComma_9 : (am_pg z_D_readComma).2 9 = some (.ireturn, 10, 0, 0, 1, 0, 0, []) := (congrFun pm_D_readComma 9).trans rfl
theorem rl_D_readComma_10 : (am_pg z_D_readComma).2 10 = some (.aload_n 0, 11, 0, 0, 0, 0, 0, []) := (congrFun pm_D_readComma 10).trans rfl
theorem rl_D_readComma_11 : (am_pg z_D_readComma).2 11 = some (.invokevirtual 60, 14, 252, 0, 2, 20, 0, []) := (congrFun pm_D_readComma 11).trans rfl
theorem rl_D_readComma_14 : (am_pg z_D_readComma).2 14 = some (.bipush (44), 16, 0, 0, 0, 0, 44, []) := (congrFun pm_D_readComma 14).trans rfl
theorem rl_D_readComma_16 : (am_pg z_D_readComma).2 16 = some (.if_icmp .eq (14), 19, 30, 0, 0, 0, 0, []) := (congrFun pm_D_readComma 16).trans rfl
theorem rl_D_readComma_19 : (am_pg z_D_readComma).2 19 = some (.aload_n 0, 20, 0, 0, 0, 0, 0, []) := (congrFun pm_D_readComma 19).trans rfl
theorem rl_D_readComma_20 : (am_pg z_D_readComma).2 20 = some (.iconst (1), 21, 0, 0, 0, 0, 1, []) := (congrFun pm_D_readComma 20).trans rfl
theorem rl_D_readComma_21 : (am_pg z_D_readComma).2 21 = some (.aload_n 0, 22, 0, 0, 0, 0, 0, []) := (congrFun pm_D_readComma 21).trans rfl
theorem rl_D_readComma_22 : (am_pg z_D_readComma).2 22 = some (.getfield 28, 25, 2, 6, 0, 48, 0, []) := (congrFun pm_D_readComma 22).trans rfl
theorem rl_D_readComma_25 : (am_pg z_D_readComma).2 25 = some (.invokevirtual 68, 28, 253, 2, 2, 23, 0, []) := (congrFun pm_D_readComma 25).trans rfl
theorem rl_D_readComma_28 : (am_pg z_D_readComma).2 28 = some (.iconst (0), 29, 0, 0, 0, 0, 0, []) := (congrFun pm_D_readComma 28).trans rfl
theorem rl_D_readComma_29 : (am_pg z_D_readComma).2 29 = some (.ireturn, 30, 0, 0, 1, 0, 0, []) := (congrFun pm_D_readComma 29).trans rfl
theorem rl_D_readComma_30 : (am_pg z_D_readComma).2 30 = some (.aload_n 0, 31, 0, 0, 0, 0, 0, []) := (congrFun pm_D_readComma 30).trans rfl
theorem rl_D_readComma_31 : (am_pg z_D_readComma).2 31 = some (.dup, 32, 0, 0, 0, 0, 0, []) := (congrFun pm_D_readComma 31).trans rfl
theorem rl_D_readComma_32 : (am_pg z_D_readComma).2 32 = some (.getfield 28, 35, 2, 6, 0, 48, 0, []) := (congrFun pm_D_readComma 32).trans rfl
theorem rl_D_readComma_35 : (am_pg z_D_readComma).2 35 = some (.iconst (1), 36, 0, 0, 0, 0, 1, []) := (congrFun pm_D_readComma 35).trans rfl
theorem rl_D_readComma_36 : (am_pg z_D_readComma).2 36 = some (.iadd, 37, 0, 0, 0, 0, 0, []) := (congrFun pm_D_readComma 36).trans rfl
theorem rl_D_readComma_37 : (am_pg z_D_readComma).2 37 = some (.putfield 28, 40, 2, 6, 0, 48, 0, []) := (congrFun pm_D_readComma 37).trans rfl
theorem rl_D_readComma_40 : (am_pg z_D_readComma).2 40 = some (.iconst (1), 41, 0, 0, 0, 0, 1, []) := (congrFun pm_D_readComma 40).trans rfl
theorem rl_D_readComma_41 : (am_pg z_D_readComma).2 41 = some (.ireturn, 42, 0, 0, 1, 0, 0, []) := (congrFun pm_D_readComma 41).trans rfl
theorem rl_D_skipBlanks_0 : (am_pg z_D_skipBlanks).2 0 = some (.aload_n 0, 1, 0, 0, 0, 0, 0, []) := (congrFun pm_D_skipBlanks 0).trans rfl
theorem rl_D_skipBlanks_1 : (am_pg z_D_skipBlanks).2 1 = some (.getfield 28, 4, 2, 6, 0, 48, 0, []) := (congrFun pm_D_skipBlanks 1).trans rfl
theorem rl_D_skipBlanks_4 : (am_pg z_D_skipBlanks).2 4 = some (.istore_n 1, 5, 1, 0, 0, 0, 0, []) := (congrFun pm_D_skipBlanks 4).trans rfl
theorem rl_D_skipBlanks_5 : (am_pg z_D_skipBlanks).2 5 = some (.iload_n 1, 6, 1, 0, 0, 0, 0, []) := (congrFun pm_D_skipBlanks 5).trans rfl
theorem rl_D_skipBlanks_6 : (am_pg z_D_skipBlanks).2 6 = some (.aload_n 0, 7, 0, 0, 0, 0, 0, []) := (congrFun pm_D_skipBlanks 6).trans rfl
theorem rl_D_skipBlanks_7 : (am_pg z_D_skipBlanks).2 7 = some (.getfield 21, 10, 2, 4, 0, 46, 0, []) := (congrFun pm_D_skipBlanks 7).trans rfl
theorem rl_D_skipBlanks_10 : (am_pg z_D_skipBlanks).2 10 = some (.if_icmp .ge (27), 13, 37, 0, 0, 0, 0, []) := (congrFun pm_D_skipBlanks 10).trans rfl
theorem rl_D_skipBlanks_13 : (am_pg z_D_skipBlanks).2 13 = some (.aload_n 0, 14, 0, 0, 0, 0, 0, []) := (congrFun pm_D_skipBlanks 13).trans rfl
theorem rl_D_skipBlanks_14 : (am_pg z_D_skipBlanks).2 14 = some (.getfield 34, 17, 2, 0, 0, 42, 0, []) := (congrFun pm_D_skipBlanks 14).trans rfl
theorem rl_D_skipBlanks_17 : (am_pg z_D_skipBlanks).2 17 = some (.iload_n 1, 18, 1, 0, 0, 0, 0, []) := (congrFun pm_D_skipBlanks 17).trans rfl
theorem rl_D_skipBlanks_18 : (am_pg z_D_skipBlanks).2 18 = some (.iaload, 19, 0, 0, 0, 0, 0, []) := (congrFun pm_D_skipBlanks 18).trans rfl
theorem rl_D_skipBlanks_19 : (am_pg z_D_skipBlanks).2 19 = some (.bipush (32), 21, 0, 0, 0, 0, 32, []) := (congrFun pm_D_skipBlanks 19).trans rfl
theorem rl_D_skipBlanks_21 : (am_pg z_D_skipBlanks).2 21 = some (.if_icmp .ne (16), 24, 37, 0, 0, 0, 0, []) := (congrFun pm_D_skipBlanks 21).trans rfl
theorem rl_D_skipBlanks_24 : (am_pg z_D_skipBlanks).2 24 = some (.aload_n 0, 25, 0, 0, 0, 0, 0, []) := (congrFun pm_D_skipBlanks 24).trans rfl
theorem rl_D_skipBlanks_25 : (am_pg z_D_skipBlanks).2 25 = some (.iload_n 1, 26, 1, 0, 0, 0, 0, []) := (congrFun pm_D_skipBlanks 25).trans rfl
theorem rl_D_skipBlanks_26 : (am_pg z_D_skipBlanks).2 26 = some (.iconst (1), 27, 0, 0, 0, 0, 1, []) := (congrFun pm_D_skipBlanks 26).trans rfl
theorem rl_D_skipBlanks_27 : (am_pg z_D_skipBlanks).2 27 = some (.iadd, 28, 0, 0, 0, 0, 0, []) := (congrFun pm_D_skipBlanks 27).trans rfl
theorem rl_D_skipBlanks_28 : (am_pg z_D_skipBlanks).2 28 = some (.putfield 28, 31, 2, 6, 0, 48, 0, []) := (congrFun pm_D_skipBlanks 28).trans rfl
theorem rl_D_skipBlanks_31 : (am_pg z_D_skipBlanks).2 31 = some (.iinc 1 (1), 34, 1, 0, 0, 0, 1, []) := (congrFun pm_D_skipBlanks 31).trans rfl
theorem rl_D_skipBlanks_34 : (am_pg z_D_skipBlanks).2 34 = some (.goto (-29), 37, 5, 0, 0, 0, 0, []) := (congrFun pm_D_skipBlanks 34).trans rfl
theorem rl_D_skipBlanks_37 : (am_pg z_D_skipBlanks).2 37 = some (.return_, 38, 0, 0, 0, 0, 0, []) := (congrFun pm_D_skipBlanks 37).trans rfl
theorem rl_D_sign_0 : (am_pg z_D_sign).2 0 = some (.aload_n 0, 1, 0, 0, 0, 0, 0, []) := (congrFun pm_D_sign 0).trans rfl
theorem rl_D_sign_1 : (am_pg z_D_sign).2 1 = some (.getfield 28, 4, 2, 6, 0, 48, 0, []) := (congrFun pm_D_sign 1).trans rfl
theorem rl_D_sign_4 : (am_pg z_D_sign).2 4 = some (.aload_n 0, 5, 0, 0, 0, 0, 0, []) := (congrFun pm_D_sign 4).trans rfl
theorem rl_D_sign_5 : (am_pg z_D_sign).2 5 = some (.getfield 21, 8, 2, 4, 0, 46, 0, []) := (congrFun pm_D_sign 5).trans rfl
theorem rl_D_sign_8 : (am_pg z_D_sign).2 8 = some (.if_icmp .ge (15), 11, 23, 0, 0, 0, 0, []) := (congrFun pm_D_sign 8).trans rfl
theorem rl_D_sign_11 : (am_pg z_D_sign).2 11 = some (.aload_n 0, 12, 0, 0, 0, 0, 0, []) := (congrFun pm_D_sign 11).trans rfl
theorem rl_D_sign_12 : (am_pg z_D_sign).2 12 = some (.getfield 34, 15, 2, 0, 0, 42, 0, []) := (congrFun pm_D_sign 12).trans rfl
theorem rl_D_sign_15 : (am_pg z_D_sign).2 15 = some (.aload_n 0, 16, 0, 0, 0, 0, 0, []) := (congrFun pm_D_sign 15).trans rfl
theorem rl_D_sign_16 : (am_pg z_D_sign).2 16 = some (.getfield 28, 19, 2, 6, 0, 48, 0, []) := (congrFun pm_D_sign 16).trans rfl
theorem rl_D_sign_19 : (am_pg z_D_sign).2 19 = some (.iaload, 20, 0, 0, 0, 0, 0, []) := (congrFun pm_D_sign 19).trans rfl
theorem rl_D_sign_20 : (am_pg z_D_sign).2 20 = some (.goto (4), 23, 24, 0, 0, 0, 0, []) := (congrFun pm_D_sign 20).trans rfl
theorem rl_D_sign_23 : (am_pg z_D_sign).2 23 = some (.iconst (-1), 24, 0, 0, 0, 0, -1, []) := (congrFun pm_D_sign 23).trans rfl
theorem rl_D_sign_24 : (am_pg z_D_sign).2 24 = some (.ireturn, 25, 0, 0, 0, 0, 0, []) := (congrFun pm_D_sign 24).trans rfl
theorem rl_D_fail_0 : (am_pg z_D_fail).2 0 = some (.aload_n 0, 1, 0, 0, 0, 0, 0, []) := (congrFun pm_D_fail 0).trans rfl
theorem rl_D_fail_1 : (am_pg z_D_fail).2 1 = some (.getfield 31, 4, 2, 7, 0, 49, 0, []) := (congrFun pm_D_fail 1).trans rfl
theorem rl_D_fail_4 : (am_pg z_D_fail).2 4 = some (.ifCond .ne (14), 7, 18, 0, 0, 0, 0, []) := (congrFun pm_D_fail 4).trans rfl
theorem rl_D_fail_7 : (am_pg z_D_fail).2 7 = some (.aload_n 0, 8, 0, 0, 0, 0, 0, []) := (congrFun pm_D_fail 7).trans rfl
theorem rl_D_fail_8 : (am_pg z_D_fail).2 8 = some (.sipush (-1000), 11, 0, 0, 0, 0, -1000, []) := (congrFun pm_D_fail 8).trans rfl
theorem rl_D_fail_11 : (am_pg z_D_fail).2 11 = some (.iload_n 1, 12, 1, 0, 0, 0, 0, []) := (congrFun pm_D_fail 11).trans rfl
theorem rl_D_fail_12 : (am_pg z_D_fail).2 12 = some (.imul, 13, 0, 0, 0, 0, 0, []) := (congrFun pm_D_fail 12).trans rfl
theorem rl_D_fail_13 : (am_pg z_D_fail).2 13 = some (.iload_n 2, 14, 2, 0, 0, 0, 0, []) := (congrFun pm_D_fail 13).trans rfl
theorem rl_D_fail_14 : (am_pg z_D_fail).2 14 = some (.isub, 15, 0, 0, 0, 0, 0, []) := (congrFun pm_D_fail 14).trans rfl
theorem rl_D_fail_15 : (am_pg z_D_fail).2 15 = some (.putfield 31, 18, 2, 7, 0, 49, 0, []) := (congrFun pm_D_fail 15).trans rfl
theorem rl_D_fail_18 : (am_pg z_D_fail).2 18 = some (.return_, 19, 0, 0, 0, 0, 0, []) := (congrFun pm_D_fail 18).trans rfl
theorem rl_D_isDigit_0 : (am_pg z_D_isDigit).2 0 = some (.iload_n 0, 1, 0, 0, 0, 0, 0, []) := (congrFun pm_D_isDigit 0).trans rfl
theorem rl_D_isDigit_1 : (am_pg z_D_isDigit).2 1 = some (.bipush (48), 3, 0, 0, 0, 0, 48, []) := (congrFun pm_D_isDigit 1).trans rfl
theorem rl_D_isDigit_3 : (am_pg z_D_isDigit).2 3 = some (.bipush (57), 5, 0, 0, 0, 0, 57, []) := (congrFun pm_D_isDigit 3).trans rfl
theorem rl_D_isDigit_5 : (am_pg z_D_isDigit).2 5 = some (.invokestatic 82, 8, 65, 3, 0, 26, 0, []) := (congrFun pm_D_isDigit 5).trans rfl
theorem rl_D_isDigit_8 : (am_pg z_D_isDigit).2 8 = some (.ireturn, 9, 0, 0, 1, 0, 0, []) := (congrFun pm_D_isDigit 8).trans rfl
theorem rl_D_landOf_0 : (am_pg z_D_landOf).2 0 = some (.iload_n 0, 1, 0, 0, 0, 0, 0, []) := (congrFun pm_D_landOf 0).trans rfl
theorem rl_D_landOf_1 : (am_pg z_D_landOf).2 1 = some (.bipush (45), 3, 0, 0, 0, 0, 45, []) := (congrFun pm_D_landOf 1).trans rfl
theorem rl_D_landOf_3 : (am_pg z_D_landOf).2 3 = some (.if_icmp .ne (5), 6, 8, 0, 0, 0, 0, []) := (congrFun pm_D_landOf 3).trans rfl
theorem rl_D_landOf_6 : (am_pg z_D_landOf).2 6 = some (.iconst (-1), 7, 0, 0, 0, 0, -1, []) := (congrFun pm_D_landOf 6).trans rfl
theorem rl_D_landOf_7 : (am_pg z_D_landOf).2 7 = some (.ireturn, 8, 0, 0, 0, 0, 0, []) := (congrFun pm_D_landOf 7).trans rfl
theorem rl_D_landOf_8 : (am_pg z_D_landOf).2 8 = some (.iload_n 0, 9, 0, 0, 0, 0, 0, []) := (congrFun pm_D_landOf 8).trans rfl
theorem rl_D_landOf_9 : (am_pg z_D_landOf).2 9 = some (.bipush (97), 11, 0, 0, 0, 0, 97, []) := (congrFun pm_D_landOf 9).trans rfl
theorem rl_D_landOf_11 : (am_pg z_D_landOf).2 11 = some (.isub, 12, 0, 0, 0, 0, 0, []) := (congrFun pm_D_landOf 11).trans rfl
theorem rl_D_landOf_12 : (am_pg z_D_landOf).2 12 = some (.invokestatic 86, 15, 69, 1, 0, 22, 0, []) := (congrFun pm_D_landOf 12).trans rfl
theorem rl_D_landOf_15 : (am_pg z_D_landOf).2 15 = some (.ifCond .eq (10), 18, 25, 0, 0, 0, 0, []) := (congrFun pm_D_landOf 15).trans rfl
theorem rl_D_landOf_18 : (am_pg z_D_landOf).2 18 = some (.iload_n 0, 19, 0, 0, 0, 0, 0, []) := (congrFun pm_D_landOf 18).trans rfl
theorem rl_D_landOf_19 : (am_pg z_D_landOf).2 19 = some (.bipush (97), 21, 0, 0, 0, 0, 97, []) := (congrFun pm_D_landOf 19).trans rfl
theorem rl_D_landOf_21 : (am_pg z_D_landOf).2 21 = some (.isub, 22, 0, 0, 0, 0, 0, []) := (congrFun pm_D_landOf 21).trans rfl
theorem rl_D_landOf_22 : (am_pg z_D_landOf).2 22 = some (.goto (5), 25, 27, 0, 0, 0, 0, []) := (congrFun pm_D_landOf 22).trans rfl
theorem rl_D_landOf_25 : (am_pg z_D_landOf).2 25 = some (.bipush (-2), 27, 0, 0, 0, 0, -2, []) := (congrFun pm_D_landOf 25).trans rfl
theorem rl_D_landOf_27 : (am_pg z_D_landOf).2 27 = some (.ireturn, 28, 0, 0, 0, 0, 0, []) := (congrFun pm_D_landOf 27).trans rfl
theorem rl_O_read_0 : (am_pg z_O_read).2 0 = some (.aload_n 0, 1, 0, 0, 0, 0, 0, []) := (congrFun pm_O_read 0).trans rfl
theorem rl_O_read_1 : (am_pg z_O_read).2 1 = some (.aload_n 0, 2, 0, 0, 0, 0, 0, []) := (congrFun pm_O_read 1).trans rfl
theorem rl_O_read_2 : (am_pg z_O_read).2 2 = some (.getfield 28, 5, 3, 0, 0, 61, 0, []) := (congrFun pm_O_read 2).trans rfl
theorem rl_O_read_5 : (am_pg z_O_read).2 5 = some (.getfield 32, 8, 4, 0, 0, 5, 0, []) := (congrFun pm_O_read 5).trans rfl
theorem rl_O_read_8 : (am_pg z_O_read).2 8 = some (.iload_n 2, 9, 2, 0, 0, 0, 0, []) := (congrFun pm_O_read 8).trans rfl
theorem rl_O_read_9 : (am_pg z_O_read).2 9 = some (.iaload, 10, 0, 0, 0, 0, 0, []) := (congrFun pm_O_read 9).trans rfl
theorem rl_O_read_10 : (am_pg z_O_read).2 10 = some (.putfield 21, 13, 3, 4, 0, 65, 0, []) := (congrFun pm_O_read 10).trans rfl
theorem rl_O_read_13 : (am_pg z_O_read).2 13 = some (.aload_n 0, 14, 0, 0, 0, 0, 0, []) := (congrFun pm_O_read 13).trans rfl
theorem rl_O_read_14 : (am_pg z_O_read).2 14 = some (.aload_n 0, 15, 0, 0, 0, 0, 0, []) := (congrFun pm_O_read 14).trans rfl
theorem rl_O_read_15 : (am_pg z_O_read).2 15 = some (.getfield 28, 18, 3, 0, 0, 61, 0, []) := (congrFun pm_O_read 15).trans rfl
theorem rl_O_read_18 : (am_pg z_O_read).2 18 = some (.getfield 37, 21, 4, 1, 0, 8, 0, []) := (congrFun pm_O_read 18).trans rfl
theorem rl_O_read_21 : (am_pg z_O_read).2 21 = some (.iload_n 2, 22, 2, 0, 0, 0, 0, []) := (congrFun pm_O_read 21).trans rfl
theorem rl_O_read_22 : (am_pg z_O_read).2 22 = some (.iaload, 23, 0, 0, 0, 0, 0, []) := (congrFun pm_O_read 22).trans rfl
theorem rl_O_read_23 : (am_pg z_O_read).2 23 = some (.putfield 25, 26, 3, 5, 0, 66, 0, []) := (congrFun pm_O_read 23).trans rfl
theorem rl_O_read_26 : (am_pg z_O_read).2 26 = some (.iconst (0), 27, 0, 0, 0, 0, 0, []) := (congrFun pm_O_read 26).trans rfl
theorem rl_O_read_27 : (am_pg z_O_read).2 27 = some (.istore_n 3, 28, 3, 0, 0, 0, 0, []) := (congrFun pm_O_read 27).trans rfl
theorem rl_O_read_28 : (am_pg z_O_read).2 28 = some (.iload_n 3, 29, 3, 0, 0, 0, 0, []) := (congrFun pm_O_read 28).trans rfl
theorem rl_O_read_29 : (am_pg z_O_read).2 29 = some (.sipush (1080), 32, 0, 0, 0, 0, 1080, []) := (congrFun pm_O_read 29).trans rfl
theorem rl_O_read_32 : (am_pg z_O_read).2 32 = some (.if_icmp .ge (39), 35, 71, 0, 0, 0, 0, []) := (congrFun pm_O_read 32).trans rfl
theorem rl_O_read_35 : (am_pg z_O_read).2 35 = some (.aload_n 0, 36, 0, 0, 0, 0, 0, []) := (congrFun pm_O_read 35).trans rfl
theorem rl_O_read_36 : (am_pg z_O_read).2 36 = some (.getfield 9, 39, 3, 1, 0, 62, 0, []) := (congrFun pm_O_read 36).trans rfl
theorem rl_O_read_39 : (am_pg z_O_read).2 39 = some (.iload_n 3, 40, 3, 0, 0, 0, 0, []) := (congrFun pm_O_read 39).trans rfl
theorem rl_O_read_40 : (am_pg z_O_read).2 40 = some (.iconst (1), 41, 0, 0, 0, 0, 1, []) := (congrFun pm_O_read 40).trans rfl
theorem rl_O_read_41 : (am_pg z_O_read).2 41 = some (.iadd, 42, 0, 0, 0, 0, 0, []) := (congrFun pm_O_read 41).trans rfl
theorem rl_O_read_42 : (am_pg z_O_read).2 42 = some (.aload_n 0, 43, 0, 0, 0, 0, 0, []) := (congrFun pm_O_read 42).trans rfl
theorem rl_O_read_43 : (am_pg z_O_read).2 43 = some (.getfield 9, 46, 3, 1, 0, 62, 0, []) := (congrFun pm_O_read 43).trans rfl
theorem rl_O_read_46 : (am_pg z_O_read).2 46 = some (.iload_n 3, 47, 3, 0, 0, 0, 0, []) := (congrFun pm_O_read 46).trans rfl
theorem rl_O_read_47 : (am_pg z_O_read).2 47 = some (.iaload, 48, 0, 0, 0, 0, 0, []) := (congrFun pm_O_read 47).trans rfl
theorem rl_O_read_48 : (am_pg z_O_read).2 48 = some (.aload_n 1, 49, 1, 0, 0, 0, 0, []) := (congrFun pm_O_read 48).trans rfl
theorem rl_O_read_49 : (am_pg z_O_read).2 49 = some (.getfield 40, 52, 1, 0, 0, 1, 0, []) := (congrFun pm_O_read 49).trans rfl
theorem rl_O_read_52 : (am_pg z_O_read).2 52 = some (.iload_n 3, 53, 3, 0, 0, 0, 0, []) := (congrFun pm_O_read 52).trans rfl
theorem rl_O_read_53 : (am_pg z_O_read).2 53 = some (.iaload, 54, 0, 0, 0, 0, 0, []) := (congrFun pm_O_read 53).trans rfl
theorem rl_O_read_54 : (am_pg z_O_read).2 54 = some (.iload_n 2, 55, 2, 0, 0, 0, 0, []) := (congrFun pm_O_read 54).trans rfl
theorem rl_O_read_55 : (am_pg z_O_read).2 55 = some (.if_icmp .ne (7), 58, 62, 0, 0, 0, 0, []) := (congrFun pm_O_read 55).trans rfl
theorem rl_O_read_58 : (am_pg z_O_read).2 58 = some (.iconst (1), 59, 0, 0, 0, 0, 1, []) := (congrFun pm_O_read 58).trans rfl
theorem rl_O_read_59 : (am_pg z_O_read).2 59 = some (.goto (4), 62, 63, 0, 0, 0, 0, []) := (congrFun pm_O_read 59).trans rfl
theorem rl_O_read_62 : (am_pg z_O_read).2 62 = some (.iconst (0), 63, 0, 0, 0, 0, 0, []) := (congrFun pm_O_read 62).trans rfl
theorem rl_O_read_63 : (am_pg z_O_read).2 63 = some (.iadd, 64, 0, 0, 0, 0, 0, []) := (congrFun pm_O_read 63).trans rfl
theorem rl_O_read_64 : (am_pg z_O_read).2 64 = some (.iastore, 65, 0, 0, 0, 0, 0, []) := (congrFun pm_O_read 64).trans rfl
theorem rl_O_read_65 : (am_pg z_O_read).2 65 = some (.iinc 3 (1), 68, 3, 0, 0, 0, 1, []) := (congrFun pm_O_read 65).trans rfl
theorem rl_O_read_68 : (am_pg z_O_read).2 68 = some (.goto (-40), 71, 28, 0, 0, 0, 0, []) := (congrFun pm_O_read 68).trans rfl
theorem rl_O_read_71 : (am_pg z_O_read).2 71 = some (.return_, 72, 0, 0, 0, 0, 0, []) := (congrFun pm_O_read 71).trans rfl
theorem rl_O_between_0 : (am_pg z_O_between).2 0 = some (.iload_n 1, 1, 1, 0, 0, 0, 0, []) := (congrFun pm_O_between 0).trans rfl
theorem rl_O_between_1 : (am_pg z_O_between).2 1 = some (.iconst (0), 2, 0, 0, 0, 0, 0, []) := (congrFun pm_O_between 1).trans rfl
theorem rl_O_between_2 : (am_pg z_O_between).2 2 = some (.invokestatic 45, 5, 0, 2, 2, 4, 0, []) := (congrFun pm_O_between 2).trans rfl
theorem rl_O_between_5 : (am_pg z_O_between).2 5 = some (.istore_n 3, 6, 3, 0, 0, 0, 0, []) := (congrFun pm_O_between 5).trans rfl
theorem rl_O_between_6 : (am_pg z_O_between).2 6 = some (.iload_n 3, 7, 3, 0, 0, 0, 0, []) := (congrFun pm_O_between 6).trans rfl
theorem rl_O_between_7 : (am_pg z_O_between).2 7 = some (.iload_n 2, 8, 2, 0, 0, 0, 0, []) := (congrFun pm_O_between 7).trans rfl
theorem rl_O_between_8 : (am_pg z_O_between).2 8 = some (.if_icmp .gt (28), 11, 36, 0, 0, 0, 0, []) := (congrFun pm_O_between 8).trans rfl
theorem rl_O_between_11 : (am_pg z_O_between).2 11 = some (.iload_n 2, 12, 2, 0, 0, 0, 0, []) := (congrFun pm_O_between 11).trans rfl
theorem rl_O_between_12 : (am_pg z_O_between).2 12 = some (.sipush (1080), 15, 0, 0, 0, 0, 1080, []) := (congrFun pm_O_between 12).trans rfl
theorem rl_O_between_15 : (am_pg z_O_between).2 15 = some (.if_icmp .ge (21), 18, 36, 0, 0, 0, 0, []) := (congrFun pm_O_between 15).trans rfl
theorem rl_O_between_18 : (am_pg z_O_between).2 18 = some (.aload_n 0, 19, 0, 0, 0, 0, 0, []) := (congrFun pm_O_between 18).trans rfl
theorem rl_O_between_19 : (am_pg z_O_between).2 19 = some (.getfield 9, 22, 3, 1, 0, 62, 0, []) := (congrFun pm_O_between 19).trans rfl
theorem rl_O_between_22 : (am_pg z_O_between).2 22 = some (.iload_n 2, 23, 2, 0, 0, 0, 0, []) := (congrFun pm_O_between 22).trans rfl
theorem rl_O_between_23 : (am_pg z_O_between).2 23 = some (.iconst (1), 24, 0, 0, 0, 0, 1, []) := (congrFun pm_O_between 23).trans rfl
theorem rl_O_between_24 : (am_pg z_O_between).2 24 = some (.iadd, 25, 0, 0, 0, 0, 0, []) := (congrFun pm_O_between 24).trans rfl
theorem rl_O_between_25 : (am_pg z_O_between).2 25 = some (.iaload, 26, 0, 0, 0, 0, 0, []) := (congrFun pm_O_between 25).trans rfl
theorem rl_O_between_26 : (am_pg z_O_between).2 26 = some (.aload_n 0, 27, 0, 0, 0, 0, 0, []) := (congrFun pm_O_between 26).trans rfl
theorem rl_O_between_27 : (am_pg z_O_between).2 27 = some (.getfield 9, 30, 3, 1, 0, 62, 0, []) := (congrFun pm_O_between 27).trans rfl
theorem rl_O_between_30 : (am_pg z_O_between).2 30 = some (.iload_n 3, 31, 3, 0, 0, 0, 0, []) := (congrFun pm_O_between 30).trans rfl
theorem rl_O_between_31 : (am_pg z_O_between).2 31 = some (.iaload, 32, 0, 0, 0, 0, 0, []) := (congrFun pm_O_between 31).trans rfl
theorem rl_O_between_32 : (am_pg z_O_between).2 32 = some (.isub, 33, 0, 0, 0, 0, 0, []) := (congrFun pm_O_between 32).trans rfl
theorem rl_O_between_33 : (am_pg z_O_between).2 33 = some (.goto (4), 36, 37, 0, 0, 0, 0, []) := (congrFun pm_O_between 33).trans rfl
theorem rl_O_between_36 : (am_pg z_O_between).2 36 = some (.iconst (0), 37, 0, 0, 0, 0, 0, []) := (congrFun pm_O_between 36).trans rfl
theorem rl_O_between_37 : (am_pg z_O_between).2 37 = some (.ireturn, 38, 0, 0, 0, 0, 0, []) := (congrFun pm_O_between 37).trans rfl
theorem rl_O_isThere_0 : (am_pg z_O_isThere).2 0 = some (.aload_n 0, 1, 0, 0, 0, 0, 0, []) := (congrFun pm_O_isThere 0).trans rfl
theorem rl_O_isThere_1 : (am_pg z_O_isThere).2 1 = some (.iload_n 1, 2, 1, 0, 0, 0, 0, []) := (congrFun pm_O_isThere 1).trans rfl
theorem rl_O_isThere_2 : (am_pg z_O_isThere).2 2 = some (.iload_n 1, 3, 1, 0, 0, 0, 0, []) := (congrFun pm_O_isThere 2).trans rfl
theorem rl_O_isThere_3 : (am_pg z_O_isThere).2 3 = some (.invokevirtual 51, 6, 258, 2, 3, 94, 0, []) := (congrFun pm_O_isThere 3).trans rfl
theorem rl_O_isThere_6 : (am_pg z_O_isThere).2 6 = some (.iconst (1), 7, 0, 0, 0, 0, 1, []) := (congrFun pm_O_isThere 6).trans rfl
theorem rl_O_isThere_7 : (am_pg z_O_isThere).2 7 = some (.if_icmp .ne (7), 10, 14, 0, 0, 0, 0, []) := (congrFun pm_O_isThere 7).trans rfl
theorem rl_O_isThere_10 : (am_pg z_O_isThere).2 10 = some (.iconst (1), 11, 0, 0, 0, 0, 1, []) := (congrFun pm_O_isThere 10).trans rfl
theorem rl_O_isThere_11 : (am_pg z_O_isThere).2 11 = some (.goto (4), 14, 15, 0, 0, 0, 0, []) := (congrFun pm_O_isThere 11).trans rfl
theorem rl_O_isThere_14 : (am_pg z_O_isThere).2 14 = some (.iconst (0), 15, 0, 0, 0, 0, 0, []) := (congrFun pm_O_isThere 14).trans rfl
theorem rl_O_isThere_15 : (am_pg z_O_isThere).2 15 = some (.ireturn, 16, 0, 0, 1, 0, 0, []) := (congrFun pm_O_isThere 15).trans rfl
theorem rl_O_beyond_0 : (am_pg z_O_beyond).2 0 = some (.aload_n 0, 1, 0, 0, 0, 0, 0, []) := (congrFun pm_O_beyond 0).trans rfl
theorem rl_O_beyond_1 : (am_pg z_O_beyond).2 1 = some (.getfield 21, 4, 3, 4, 0, 65, 0, []) := (congrFun pm_O_beyond 1).trans rfl
theorem rl_O_beyond_4 : (am_pg z_O_beyond).2 4 = some (.ifCond .eq (11), 7, 15, 0, 0, 0, 0, []) := (congrFun pm_O_beyond 4).trans rfl
theorem rl_O_beyond_7 : (am_pg z_O_beyond).2 7 = some (.aload_n 0, 8, 0, 0, 0, 0, 0, []) := (congrFun pm_O_beyond 7).trans rfl
theorem rl_O_beyond_8 : (am_pg z_O_beyond).2 8 = some (.iload_n 1, 9, 1, 0, 0, 0, 0, []) := (congrFun pm_O_beyond 8).trans rfl
theorem rl_O_beyond_9 : (am_pg z_O_beyond).2 9 = some (.invokevirtual 54, 12, 259, 1, 3, 93, 0, []) := (congrFun pm_O_beyond 9).trans rfl
theorem rl_O_beyond_12 : (am_pg z_O_beyond).2 12 = some (.ifCond .ne (5), 15, 17, 0, 0, 0, 0, []) := (congrFun pm_O_beyond 12).trans rfl
theorem rl_O_beyond_15 : (am_pg z_O_beyond).2 15 = some (.iconst (0), 16, 0, 0, 0, 0, 0, []) := (congrFun pm_O_beyond 15).trans rfl
theorem rl_O_beyond_16 : (am_pg z_O_beyond).2 16 = some (.ireturn, 17, 0, 0, 0, 0, 0, []) := (congrFun pm_O_beyond 16).trans rfl
theorem rl_O_beyond_17 : (am_pg z_O_beyond).2 17 = some (.aload_n 0, 18, 0, 0, 0, 0, 0, []) := (congrFun pm_O_beyond 17).trans rfl
theorem rl_O_beyond_18 : (am_pg z_O_beyond).2 18 = some (.iload_n 1, 19, 1, 0, 0, 0, 0, []) := (congrFun pm_O_beyond 18).trans rfl
theorem rl_O_beyond_19 : (am_pg z_O_beyond).2 19 = some (.aload_n 0, 20, 0, 0, 0, 0, 0, []) := (congrFun pm_O_beyond 19).trans rfl
theorem rl_O_beyond_20 : (am_pg z_O_beyond).2 20 = some (.getfield 21, 23, 3, 4, 0, 65, 0, []) := (congrFun pm_O_beyond 20).trans rfl
theorem rl_O_beyond_23 : (am_pg z_O_beyond).2 23 = some (.isub, 24, 0, 0, 0, 0, 0, []) := (congrFun pm_O_beyond 23).trans rfl
theorem rl_O_beyond_24 : (am_pg z_O_beyond).2 24 = some (.iconst (1), 25, 0, 0, 0, 0, 1, []) := (congrFun pm_O_beyond 24).trans rfl
theorem rl_O_beyond_25 : (am_pg z_O_beyond).2 25 = some (.iadd, 26, 0, 0, 0, 0, 0, []) := (congrFun pm_O_beyond 25).trans rfl
theorem rl_O_beyond_26 : (am_pg z_O_beyond).2 26 = some (.iload_n 1, 27, 1, 0, 0, 0, 0, []) := (congrFun pm_O_beyond 26).trans rfl
theorem rl_O_beyond_27 : (am_pg z_O_beyond).2 27 = some (.invokevirtual 51, 30, 258, 2, 3, 94, 0, []) := (congrFun pm_O_beyond 27).trans rfl
theorem rl_O_beyond_30 : (am_pg z_O_beyond).2 30 = some (.aload_n 0, 31, 0, 0, 0, 0, 0, []) := (congrFun pm_O_beyond 30).trans rfl
theorem rl_O_beyond_31 : (am_pg z_O_beyond).2 31 = some (.getfield 25, 34, 3, 5, 0, 66, 0, []) := (congrFun pm_O_beyond 31).trans rfl
theorem rl_O_beyond_34 : (am_pg z_O_beyond).2 34 = some (.isub, 35, 0, 0, 0, 0, 0, []) := (congrFun pm_O_beyond 34).trans rfl
theorem rl_O_beyond_35 : (am_pg z_O_beyond).2 35 = some (.iconst (0), 36, 0, 0, 0, 0, 0, []) := (congrFun pm_O_beyond 35).trans rfl
theorem rl_O_beyond_36 : (am_pg z_O_beyond).2 36 = some (.invokestatic 45, 39, 0, 2, 2, 4, 0, []) := (congrFun pm_O_beyond 36).trans rfl
theorem rl_O_beyond_39 : (am_pg z_O_beyond).2 39 = some (.ireturn, 40, 0, 0, 0, 0, 0, []) := (congrFun pm_O_beyond 39).trans rfl
theorem rl_O_overstayDays_0 : (am_pg z_O_overstayDays).2 0 = some (.iconst (0), 1, 0, 0, 0, 0, 0, []) := (congrFun pm_O_overstayDays 0).trans rfl
theorem rl_O_overstayDays_1 : (am_pg z_O_overstayDays).2 1 = some (.istore_n 1, 2, 1, 0, 0, 0, 0, []) := (congrFun pm_O_overstayDays 1).trans rfl
theorem rl_O_overstayDays_2 : (am_pg z_O_overstayDays).2 2 = some (.iconst (0), 3, 0, 0, 0, 0, 0, []) := (congrFun pm_O_overstayDays 2).trans rfl
theorem rl_O_overstayDays_3 : (am_pg z_O_overstayDays).2 3 = some (.istore_n 2, 4, 2, 0, 0, 0, 0, []) := (congrFun pm_O_overstayDays 3).trans rfl
theorem rl_O_overstayDays_4 : (am_pg z_O_overstayDays).2 4 = some (.iload_n 2, 5, 2, 0, 0, 0, 0, []) := (congrFun pm_O_overstayDays 4).trans rfl
theorem rl_O_overstayDays_5 : (am_pg z_O_overstayDays).2 5 = some (.sipush (1080), 8, 0, 0, 0, 0, 1080, []) := (congrFun pm_O_overstayDays 5).trans rfl
theorem rl_O_overstayDays_8 : (am_pg z_O_overstayDays).2 8 = some (.if_icmp .ge (27), 11, 35, 0, 0, 0, 0, []) := (congrFun pm_O_overstayDays 8).trans rfl
theorem rl_O_overstayDays_11 : (am_pg z_O_overstayDays).2 11 = some (.aload_n 0, 12, 0, 0, 0, 0, 0, []) := (congrFun pm_O_overstayDays 11).trans rfl
theorem rl_O_overstayDays_12 : (am_pg z_O_overstayDays).2 12 = some (.getfield 21, 15, 3, 4, 0, 65, 0, []) := (congrFun pm_O_overstayDays 12).trans rfl
theorem rl_O_overstayDays_15 : (am_pg z_O_overstayDays).2 15 = some (.ifCond .le (20), 18, 35, 0, 0, 0, 0, []) := (congrFun pm_O_overstayDays 15).trans rfl
theorem rl_O_overstayDays_18 : (am_pg z_O_overstayDays).2 18 = some (.aload_n 0, 19, 0, 0, 0, 0, 0, []) := (congrFun pm_O_overstayDays 18).trans rfl
theorem rl_O_overstayDays_19 : (am_pg z_O_overstayDays).2 19 = some (.iload_n 2, 20, 2, 0, 0, 0, 0, []) := (congrFun pm_O_overstayDays 19).trans rfl
theorem rl_O_overstayDays_20 : (am_pg z_O_overstayDays).2 20 = some (.invokevirtual 58, 23, 260, 1, 3, 192, 0, []) := (congrFun pm_O_overstayDays 20).trans rfl
theorem rl_O_overstayDays_23 : (am_pg z_O_overstayDays).2 23 = some (.ifCond .le (6), 26, 29, 0, 0, 0, 0, []) := (congrFun pm_O_overstayDays 23).trans rfl
theorem rl_O_overstayDays_26 : (am_pg z_O_overstayDays).2 26 = some (.iinc 1 (1), 29, 1, 0, 0, 0, 1, []) := (congrFun pm_O_overstayDays 26).trans rfl
theorem rl_O_overstayDays_29 : (am_pg z_O_overstayDays).2 29 = some (.iinc 2 (1), 32, 2, 0, 0, 0, 1, []) := (congrFun pm_O_overstayDays 29).trans rfl
theorem rl_O_overstayDays_32 : (am_pg z_O_overstayDays).2 32 = some (.goto (-28), 35, 4, 0, 0, 0, 0, []) := (congrFun pm_O_overstayDays 32).trans rfl
theorem rl_O_overstayDays_35 : (am_pg z_O_overstayDays).2 35 = some (.iload_n 1, 36, 1, 0, 0, 0, 0, []) := (congrFun pm_O_overstayDays 35).trans rfl
theorem rl_O_overstayDays_36 : (am_pg z_O_overstayDays).2 36 = some (.ireturn, 37, 0, 0, 0, 0, 0, []) := (congrFun pm_O_overstayDays 36).trans rfl
theorem rl_O_isTooLong_0 : (am_pg z_O_isTooLong).2 0 = some (.iload_n 2, 1, 2, 0, 0, 0, 0, []) := (congrFun pm_O_isTooLong 0).trans rfl
theorem rl_O_isTooLong_1 : (am_pg z_O_isTooLong).2 1 = some (.aload_n 0, 2, 0, 0, 0, 0, 0, []) := (congrFun pm_O_isTooLong 1).trans rfl
theorem rl_O_isTooLong_2 : (am_pg z_O_isTooLong).2 2 = some (.getfield 21, 5, 3, 4, 0, 65, 0, []) := (congrFun pm_O_isTooLong 2).trans rfl
theorem rl_O_isTooLong_5 : (am_pg z_O_isTooLong).2 5 = some (.isub, 6, 0, 0, 0, 0, 0, []) := (congrFun pm_O_isTooLong 5).trans rfl
theorem rl_O_isTooLong_6 : (am_pg z_O_isTooLong).2 6 = some (.iconst (1), 7, 0, 0, 0, 0, 1, []) := (congrFun pm_O_isTooLong 6).trans rfl
theorem rl_O_isTooLong_7 : (am_pg z_O_isTooLong).2 7 = some (.iadd, 8, 0, 0, 0, 0, 0, []) := (congrFun pm_O_isTooLong 7).trans rfl
theorem rl_O_isTooLong_8 : (am_pg z_O_isTooLong).2 8 = some (.istore_n 3, 9, 3, 0, 0, 0, 0, []) := (congrFun pm_O_isTooLong 8).trans rfl
theorem rl_O_isTooLong_9 : (am_pg z_O_isTooLong).2 9 = some (.iload_n 2, 10, 2, 0, 0, 0, 0, []) := (congrFun pm_O_isTooLong 9).trans rfl
theorem rl_O_isTooLong_10 : (am_pg z_O_isTooLong).2 10 = some (.iload_n 1, 11, 1, 0, 0, 0, 0, []) := (congrFun pm_O_isTooLong 10).trans rfl
theorem rl_O_isTooLong_11 : (am_pg z_O_isTooLong).2 11 = some (.iload_n 3, 12, 3, 0, 0, 0, 0, []) := (congrFun pm_O_isTooLong 11).trans rfl
theorem rl_O_isTooLong_12 : (am_pg z_O_isTooLong).2 12 = some (.invokestatic 45, 15, 0, 2, 2, 4, 0, []) := (congrFun pm_O_isTooLong 12).trans rfl
theorem rl_O_isTooLong_15 : (am_pg z_O_isTooLong).2 15 = some (.isub, 16, 0, 0, 0, 0, 0, []) := (congrFun pm_O_isTooLong 15).trans rfl
theorem rl_O_isTooLong_16 : (am_pg z_O_isTooLong).2 16 = some (.iconst (1), 17, 0, 0, 0, 0, 1, []) := (congrFun pm_O_isTooLong 16).trans rfl
theorem rl_O_isTooLong_17 : (am_pg z_O_isTooLong).2 17 = some (.iadd, 18, 0, 0, 0, 0, 0, []) := (congrFun pm_O_isTooLong 17).trans rfl
theorem rl_O_isTooLong_18 : (am_pg z_O_isTooLong).2 18 = some (.istore 4, 20, 4, 0, 0, 0, 0, []) := (congrFun pm_O_isTooLong 18).trans rfl
theorem rl_O_isTooLong_20 : (am_pg z_O_isTooLong).2 20 = some (.aload_n 0, 21, 0, 0, 0, 0, 0, []) := (congrFun pm_O_isTooLong 20).trans rfl
theorem rl_O_isTooLong_21 : (am_pg z_O_isTooLong).2 21 = some (.getfield 21, 24, 3, 4, 0, 65, 0, []) := (congrFun pm_O_isTooLong 21).trans rfl
theorem rl_O_isTooLong_24 : (am_pg z_O_isTooLong).2 24 = some (.ifCond .le (25), 27, 49, 0, 0, 0, 0, []) := (congrFun pm_O_isTooLong 24).trans rfl
theorem rl_O_isTooLong_27 : (am_pg z_O_isTooLong).2 27 = some (.aload_n 0, 28, 0, 0, 0, 0, 0, []) := (congrFun pm_O_isTooLong 27).trans rfl
theorem rl_O_isTooLong_28 : (am_pg z_O_isTooLong).2 28 = some (.iload_n 3, 29, 3, 0, 0, 0, 0, []) := (congrFun pm_O_isTooLong 28).trans rfl
theorem rl_O_isTooLong_29 : (am_pg z_O_isTooLong).2 29 = some (.iload_n 1, 30, 1, 0, 0, 0, 0, []) := (congrFun pm_O_isTooLong 29).trans rfl
theorem rl_O_isTooLong_30 : (am_pg z_O_isTooLong).2 30 = some (.iconst (1), 31, 0, 0, 0, 0, 1, []) := (congrFun pm_O_isTooLong 30).trans rfl
theorem rl_O_isTooLong_31 : (am_pg z_O_isTooLong).2 31 = some (.isub, 32, 0, 0, 0, 0, 0, []) := (congrFun pm_O_isTooLong 31).trans rfl
theorem rl_O_isTooLong_32 : (am_pg z_O_isTooLong).2 32 = some (.invokevirtual 51, 35, 258, 2, 3, 94, 0, []) := (congrFun pm_O_isTooLong 32).trans rfl
theorem rl_O_isTooLong_35 : (am_pg z_O_isTooLong).2 35 = some (.iload 4, 37, 4, 0, 0, 0, 0, []) := (congrFun pm_O_isTooLong 35).trans rfl
theorem rl_O_isTooLong_37 : (am_pg z_O_isTooLong).2 37 = some (.iadd, 38, 0, 0, 0, 0, 0, []) := (congrFun pm_O_isTooLong 37).trans rfl
theorem rl_O_isTooLong_38 : (am_pg z_O_isTooLong).2 38 = some (.aload_n 0, 39, 0, 0, 0, 0, 0, []) := (congrFun pm_O_isTooLong 38).trans rfl
theorem rl_O_isTooLong_39 : (am_pg z_O_isTooLong).2 39 = some (.getfield 25, 42, 3, 5, 0, 66, 0, []) := (congrFun pm_O_isTooLong 39).trans rfl
theorem rl_O_isTooLong_42 : (am_pg z_O_isTooLong).2 42 = some (.if_icmp .le (7), 45, 49, 0, 0, 0, 0, []) := (congrFun pm_O_isTooLong 42).trans rfl
theorem rl_O_isTooLong_45 : (am_pg z_O_isTooLong).2 45 = some (.iconst (1), 46, 0, 0, 0, 0, 1, []) := (congrFun pm_O_isTooLong 45).trans rfl
theorem rl_O_isTooLong_46 : (am_pg z_O_isTooLong).2 46 = some (.goto (4), 49, 50, 0, 0, 0, 0, []) := (congrFun pm_O_isTooLong 46).trans rfl
theorem rl_O_isTooLong_49 : (am_pg z_O_isTooLong).2 49 = some (.iconst (0), 50, 0, 0, 0, 0, 0, []) := (congrFun pm_O_isTooLong 49).trans rfl
theorem rl_O_isTooLong_50 : (am_pg z_O_isTooLong).2 50 = some (.ireturn, 51, 0, 0, 1, 0, 0, []) := (congrFun pm_O_isTooLong 50).trans rfl
theorem rl_O_fillUp_0 : (am_pg z_O_fillUp).2 0 = some (.aload_n 0, 1, 0, 0, 0, 0, 0, []) := (congrFun pm_O_fillUp 0).trans rfl
theorem rl_O_fillUp_1 : (am_pg z_O_fillUp).2 1 = some (.getfield 21, 4, 3, 4, 0, 65, 0, []) := (congrFun pm_O_fillUp 1).trans rfl
theorem rl_O_fillUp_4 : (am_pg z_O_fillUp).2 4 = some (.ifCond .ne (7), 7, 11, 0, 0, 0, 0, []) := (congrFun pm_O_fillUp 4).trans rfl
theorem rl_O_fillUp_7 : (am_pg z_O_fillUp).2 7 = some (.iload_n 2, 8, 2, 0, 0, 0, 0, []) := (congrFun pm_O_fillUp 7).trans rfl
theorem rl_O_fillUp_8 : (am_pg z_O_fillUp).2 8 = some (.iload_n 1, 9, 1, 0, 0, 0, 0, []) := (congrFun pm_O_fillUp 8).trans rfl
theorem rl_O_fillUp_9 : (am_pg z_O_fillUp).2 9 = some (.isub, 10, 0, 0, 0, 0, 0, []) := (congrFun pm_O_fillUp 9).trans rfl
theorem rl_O_fillUp_10 : (am_pg z_O_fillUp).2 10 = some (.ireturn, 11, 0, 0, 0, 0, 0, []) := (congrFun pm_O_fillUp 10).trans rfl
theorem rl_O_fillUp_11 : (am_pg z_O_fillUp).2 11 = some (.aload_n 0, 12, 0, 0, 0, 0, 0, []) := (congrFun pm_O_fillUp 11).trans rfl
theorem rl_O_fillUp_12 : (am_pg z_O_fillUp).2 12 = some (.getfield 18, 15, 3, 3, 0, 64, 0, []) := (congrFun pm_O_fillUp 12).trans rfl
theorem rl_O_fillUp_15 : (am_pg z_O_fillUp).2 15 = some (.iconst (-1), 16, 0, 0, 0, 0, -1, []) := (congrFun pm_O_fillUp 15).trans rfl
theorem rl_O_fillUp_16 : (am_pg z_O_fillUp).2 16 = some (.invokestatic 62, 19, 287, 2, 0, 169, 0, []) := (congrFun pm_O_fillUp 16).trans rfl
theorem rl_O_fillUp_19 : (am_pg z_O_fillUp).2 19 = some (.iload_n 1, 20, 1, 0, 0, 0, 0, []) := (congrFun pm_O_fillUp 19).trans rfl
theorem rl_O_fillUp_20 : (am_pg z_O_fillUp).2 20 = some (.istore_n 3, 21, 3, 0, 0, 0, 0, []) := (congrFun pm_O_fillUp 20).trans rfl
theorem rl_O_fillUp_21 : (am_pg z_O_fillUp).2 21 = some (.iload_n 3, 22, 3, 0, 0, 0, 0, []) := (congrFun pm_O_fillUp 21).trans rfl
theorem rl_O_fillUp_22 : (am_pg z_O_fillUp).2 22 = some (.iload_n 1, 23, 1, 0, 0, 0, 0, []) := (congrFun pm_O_fillUp 22).trans rfl
theorem rl_O_fillUp_23 : (am_pg z_O_fillUp).2 23 = some (.aload_n 0, 24, 0, 0, 0, 0, 0, []) := (congrFun pm_O_fillUp 23).trans rfl
theorem rl_O_fillUp_24 : (am_pg z_O_fillUp).2 24 = some (.getfield 21, 27, 3, 4, 0, 65, 0, []) := (congrFun pm_O_fillUp 24).trans rfl
theorem rl_O_fillUp_27 : (am_pg z_O_fillUp).2 27 = some (.iadd, 28, 0, 0, 0, 0, 0, []) := (congrFun pm_O_fillUp 27).trans rfl
theorem rl_O_fillUp_28 : (am_pg z_O_fillUp).2 28 = some (.iconst (1), 29, 0, 0, 0, 0, 1, []) := (congrFun pm_O_fillUp 28).trans rfl
theorem rl_O_fillUp_29 : (am_pg z_O_fillUp).2 29 = some (.isub, 30, 0, 0, 0, 0, 0, []) := (congrFun pm_O_fillUp 29).trans rfl
theorem rl_O_fillUp_30 : (am_pg z_O_fillUp).2 30 = some (.if_icmp .ge (15), 33, 45, 0, 0, 0, 0, []) := (congrFun pm_O_fillUp 30).trans rfl
theorem rl_O_fillUp_33 : (am_pg z_O_fillUp).2 33 = some (.aload_n 0, 34, 0, 0, 0, 0, 0, []) := (congrFun pm_O_fillUp 33).trans rfl
theorem rl_O_fillUp_34 : (am_pg z_O_fillUp).2 34 = some (.iload_n 3, 35, 3, 0, 0, 0, 0, []) := (congrFun pm_O_fillUp 34).trans rfl
theorem rl_O_fillUp_35 : (am_pg z_O_fillUp).2 35 = some (.iconst (0), 36, 0, 0, 0, 0, 0, []) := (congrFun pm_O_fillUp 35).trans rfl
theorem rl_O_fillUp_36 : (am_pg z_O_fillUp).2 36 = some (.invokevirtual 68, 39, 264, 2, 3, 170, 0, []) := (congrFun pm_O_fillUp 36).trans rfl
theorem rl_O_fillUp_39 : (am_pg z_O_fillUp).2 39 = some (.iinc 3 (1), 42, 3, 0, 0, 0, 1, []) := (congrFun pm_O_fillUp 39).trans rfl
theorem rl_O_fillUp_42 : (am_pg z_O_fillUp).2 42 = some (.goto (-21), 45, 21, 0, 0, 0, 0, []) := (congrFun pm_O_fillUp 42).trans rfl
theorem rl_O_fillUp_45 : (am_pg z_O_fillUp).2 45 = some (.iconst (0), 46, 0, 0, 0, 0, 0, []) := (congrFun pm_O_fillUp 45).trans rfl
theorem rl_O_fillUp_46 : (am_pg z_O_fillUp).2 46 = some (.istore_n 3, 47, 3, 0, 0, 0, 0, []) := (congrFun pm_O_fillUp 46).trans rfl
theorem rl_O_fillUp_47 : (am_pg z_O_fillUp).2 47 = some (.iconst (0), 48, 0, 0, 0, 0, 0, []) := (congrFun pm_O_fillUp 47).trans rfl
theorem rl_O_fillUp_48 : (am_pg z_O_fillUp).2 48 = some (.istore 4, 50, 4, 0, 0, 0, 0, []) := (congrFun pm_O_fillUp 48).trans rfl
theorem rl_O_fillUp_50 : (am_pg z_O_fillUp).2 50 = some (.iconst (-1), 51, 0, 0, 0, 0, -1, []) := (congrFun pm_O_fillUp 50).trans rfl
theorem rl_O_fillUp_51 : (am_pg z_O_fillUp).2 51 = some (.istore 5, 53, 5, 0, 0, 0, 0, []) := (congrFun pm_O_fillUp 51).trans rfl
theorem rl_O_fillUp_53 : (am_pg z_O_fillUp).2 53 = some (.iload_n 1, 54, 1, 0, 0, 0, 0, []) := (congrFun pm_O_fillUp 53).trans rfl
theorem rl_O_fillUp_54 : (am_pg z_O_fillUp).2 54 = some (.istore 6, 56, 6, 0, 0, 0, 0, []) := (congrFun pm_O_fillUp 54).trans rfl
theorem rl_O_fillUp_56 : (am_pg z_O_fillUp).2 56 = some (.iload 6, 58, 6, 0, 0, 0, 0, []) := (congrFun pm_O_fillUp 56).trans rfl
theorem rl_O_fillUp_58 : (am_pg z_O_fillUp).2 58 = some (.iload_n 2, 59, 2, 0, 0, 0, 0, []) := (congrFun pm_O_fillUp 58).trans rfl
theorem rl_O_fillUp_59 : (am_pg z_O_fillUp).2 59 = some (.if_icmp .ge (93), 62, 152, 0, 0, 0, 0, []) := (congrFun pm_O_fillUp 59).trans rfl
theorem rl_O_fillUp_62 : (am_pg z_O_fillUp).2 62 = some (.aload_n 0, 63, 0, 0, 0, 0, 0, []) := (congrFun pm_O_fillUp 62).trans rfl
theorem rl_O_fillUp_63 : (am_pg z_O_fillUp).2 63 = some (.iload 6, 65, 6, 0, 0, 0, 0, []) := (congrFun pm_O_fillUp 63).trans rfl
theorem rl_O_fillUp_65 : (am_pg z_O_fillUp).2 65 = some (.aload_n 0, 66, 0, 0, 0, 0, 0, []) := (congrFun pm_O_fillUp 65).trans rfl
theorem rl_O_fillUp_66 : (am_pg z_O_fillUp).2 66 = some (.getfield 21, 69, 3, 4, 0, 65, 0, []) := (congrFun pm_O_fillUp 66).trans rfl
theorem rl_O_fillUp_69 : (am_pg z_O_fillUp).2 69 = some (.iadd, 70, 0, 0, 0, 0, 0, []) := (congrFun pm_O_fillUp 69).trans rfl
theorem rl_O_fillUp_70 : (am_pg z_O_fillUp).2 70 = some (.iconst (1), 71, 0, 0, 0, 0, 1, []) := (congrFun pm_O_fillUp 70).trans rfl
theorem rl_O_fillUp_71 : (am_pg z_O_fillUp).2 71 = some (.isub, 72, 0, 0, 0, 0, 0, []) := (congrFun pm_O_fillUp 71).trans rfl
theorem rl_O_fillUp_72 : (am_pg z_O_fillUp).2 72 = some (.iload 4, 74, 4, 0, 0, 0, 0, []) := (congrFun pm_O_fillUp 72).trans rfl
theorem rl_O_fillUp_74 : (am_pg z_O_fillUp).2 74 = some (.invokevirtual 68, 77, 264, 2, 3, 170, 0, []) := (congrFun pm_O_fillUp 74).trans rfl
theorem rl_O_fillUp_77 : (am_pg z_O_fillUp).2 77 = some (.iload 5, 79, 5, 0, 0, 0, 0, []) := (congrFun pm_O_fillUp 77).trans rfl
theorem rl_O_fillUp_79 : (am_pg z_O_fillUp).2 79 = some (.aload_n 0, 80, 0, 0, 0, 0, 0, []) := (congrFun pm_O_fillUp 79).trans rfl
theorem rl_O_fillUp_80 : (am_pg z_O_fillUp).2 80 = some (.getfield 18, 83, 3, 3, 0, 64, 0, []) := (congrFun pm_O_fillUp 80).trans rfl
theorem rl_O_fillUp_83 : (am_pg z_O_fillUp).2 83 = some (.iload 4, 85, 4, 0, 0, 0, 0, []) := (congrFun pm_O_fillUp 83).trans rfl
theorem rl_O_fillUp_85 : (am_pg z_O_fillUp).2 85 = some (.sipush (720), 88, 0, 0, 0, 0, 720, []) := (congrFun pm_O_fillUp 85).trans rfl
theorem rl_O_fillUp_88 : (am_pg z_O_fillUp).2 88 = some (.invokestatic 72, 91, 0, 2, 3, 5, 0, []) := (congrFun pm_O_fillUp 88).trans rfl
theorem rl_O_fillUp_91 : (am_pg z_O_fillUp).2 91 = some (.iaload, 92, 0, 0, 0, 0, 0, []) := (congrFun pm_O_fillUp 91).trans rfl
theorem rl_O_fillUp_92 : (am_pg z_O_fillUp).2 92 = some (.invokestatic 45, 95, 0, 2, 2, 4, 0, []) := (congrFun pm_O_fillUp 92).trans rfl
theorem rl_O_fillUp_95 : (am_pg z_O_fillUp).2 95 = some (.istore 5, 97, 5, 0, 0, 0, 0, []) := (congrFun pm_O_fillUp 95).trans rfl
theorem rl_O_fillUp_97 : (am_pg z_O_fillUp).2 97 = some (.aload_n 0, 98, 0, 0, 0, 0, 0, []) := (congrFun pm_O_fillUp 97).trans rfl
theorem rl_O_fillUp_98 : (am_pg z_O_fillUp).2 98 = some (.getfield 15, 101, 3, 2, 0, 63, 0, []) := (congrFun pm_O_fillUp 98).trans rfl
theorem rl_O_fillUp_101 : (am_pg z_O_fillUp).2 101 = some (.iload 6, 103, 6, 0, 0, 0, 0, []) := (congrFun pm_O_fillUp 101).trans rfl
theorem rl_O_fillUp_103 : (am_pg z_O_fillUp).2 103 = some (.iload 4, 105, 4, 0, 0, 0, 0, []) := (congrFun pm_O_fillUp 103).trans rfl
theorem rl_O_fillUp_105 : (am_pg z_O_fillUp).2 105 = some (.iastore, 106, 0, 0, 0, 0, 0, []) := (congrFun pm_O_fillUp 105).trans rfl
theorem rl_O_fillUp_106 : (am_pg z_O_fillUp).2 106 = some (.aload_n 0, 107, 0, 0, 0, 0, 0, []) := (congrFun pm_O_fillUp 106).trans rfl
theorem rl_O_fillUp_107 : (am_pg z_O_fillUp).2 107 = some (.iload 6, 109, 6, 0, 0, 0, 0, []) := (congrFun pm_O_fillUp 107).trans rfl
theorem rl_O_fillUp_109 : (am_pg z_O_fillUp).2 109 = some (.invokevirtual 54, 112, 259, 1, 3, 93, 0, []) := (congrFun pm_O_fillUp 109).trans rfl
theorem rl_O_fillUp_112 : (am_pg z_O_fillUp).2 112 = some (.ifCond .eq (9), 115, 121, 0, 0, 0, 0, []) := (congrFun pm_O_fillUp 112).trans rfl
theorem rl_O_fillUp_115 : (am_pg z_O_fillUp).2 115 = some (.iinc 3 (1), 118, 3, 0, 0, 0, 1, []) := (congrFun pm_O_fillUp 115).trans rfl
theorem rl_O_fillUp_118 : (am_pg z_O_fillUp).2 118 = some (.goto (28), 121, 146, 0, 0, 0, 0, []) := (congrFun pm_O_fillUp 118).trans rfl
theorem rl_O_fillUp_121 : (am_pg z_O_fillUp).2 121 = some (.iload 6, 123, 6, 0, 0, 0, 0, []) := (congrFun pm_O_fillUp 121).trans rfl
theorem rl_O_fillUp_123 : (am_pg z_O_fillUp).2 123 = some (.iload 5, 125, 5, 0, 0, 0, 0, []) := (congrFun pm_O_fillUp 123).trans rfl
theorem rl_O_fillUp_125 : (am_pg z_O_fillUp).2 125 = some (.if_icmp .le (21), 128, 146, 0, 0, 0, 0, []) := (congrFun pm_O_fillUp 125).trans rfl
theorem rl_O_fillUp_128 : (am_pg z_O_fillUp).2 128 = some (.aload_n 0, 129, 0, 0, 0, 0, 0, []) := (congrFun pm_O_fillUp 128).trans rfl
theorem rl_O_fillUp_129 : (am_pg z_O_fillUp).2 129 = some (.iload 6, 131, 6, 0, 0, 0, 0, []) := (congrFun pm_O_fillUp 129).trans rfl
theorem rl_O_fillUp_131 : (am_pg z_O_fillUp).2 131 = some (.iload_n 1, 132, 1, 0, 0, 0, 0, []) := (congrFun pm_O_fillUp 131).trans rfl
theorem rl_O_fillUp_132 : (am_pg z_O_fillUp).2 132 = some (.iload 4, 134, 4, 0, 0, 0, 0, []) := (congrFun pm_O_fillUp 132).trans rfl
theorem rl_O_fillUp_134 : (am_pg z_O_fillUp).2 134 = some (.invokevirtual 75, 137, 265, 3, 3, 171, 0, []) := (congrFun pm_O_fillUp 134).trans rfl
theorem rl_O_fillUp_137 : (am_pg z_O_fillUp).2 137 = some (.ifCond .eq (9), 140, 146, 0, 0, 0, 0, []) := (congrFun pm_O_fillUp 137).trans rfl
theorem rl_O_fillUp_140 : (am_pg z_O_fillUp).2 140 = some (.iinc 4 (1), 143, 4, 0, 0, 0, 1, []) := (congrFun pm_O_fillUp 140).trans rfl
theorem rl_O_fillUp_143 : (am_pg z_O_fillUp).2 143 = some (.iinc 3 (1), 146, 3, 0, 0, 0, 1, []) := (congrFun pm_O_fillUp 143).trans rfl
theorem rl_O_fillUp_146 : (am_pg z_O_fillUp).2 146 = some (.iinc 6 (1), 149, 6, 0, 0, 0, 1, []) := (congrFun pm_O_fillUp 146).trans rfl
theorem rl_O_fillUp_149 : (am_pg z_O_fillUp).2 149 = some (.goto (-93), 152, 56, 0, 0, 0, 0, []) := (congrFun pm_O_fillUp 149).trans rfl
theorem rl_O_fillUp_152 : (am_pg z_O_fillUp).2 152 = some (.iload_n 3, 153, 3, 0, 0, 0, 0, []) := (congrFun pm_O_fillUp 152).trans rfl
theorem rl_O_fillUp_153 : (am_pg z_O_fillUp).2 153 = some (.ireturn, 154, 0, 0, 0, 0, 0, []) := (congrFun pm_O_fillUp 153).trans rfl
theorem rl_O_noteShutter_0 : (am_pg z_O_noteShutter).2 0 = some (.aload_n 0, 1, 0, 0, 0, 0, 0, []) := (congrFun pm_O_noteShutter 0).trans rfl
theorem rl_O_noteShutter_1 : (am_pg z_O_noteShutter).2 1 = some (.getfield 25, 4, 3, 5, 0, 66, 0, []) := (congrFun pm_O_noteShutter 1).trans rfl
theorem rl_O_noteShutter_4 : (am_pg z_O_noteShutter).2 4 = some (.aload_n 0, 5, 0, 0, 0, 0, 0, []) := (congrFun pm_O_noteShutter 4).trans rfl
theorem rl_O_noteShutter_5 : (am_pg z_O_noteShutter).2 5 = some (.iload_n 1, 6, 1, 0, 0, 0, 0, []) := (congrFun pm_O_noteShutter 5).trans rfl
theorem rl_O_noteShutter_6 : (am_pg z_O_noteShutter).2 6 = some (.aload_n 0, 7, 0, 0, 0, 0, 0, []) := (congrFun pm_O_noteShutter 6).trans rfl
theorem rl_O_noteShutter_7 : (am_pg z_O_noteShutter).2 7 = some (.getfield 21, 10, 3, 4, 0, 65, 0, []) := (congrFun pm_O_noteShutter 7).trans rfl
theorem rl_O_noteShutter_10 : (am_pg z_O_noteShutter).2 10 = some (.isub, 11, 0, 0, 0, 0, 0, []) := (congrFun pm_O_noteShutter 10).trans rfl
theorem rl_O_noteShutter_11 : (am_pg z_O_noteShutter).2 11 = some (.iconst (1), 12, 0, 0, 0, 0, 1, []) := (congrFun pm_O_noteShutter 11).trans rfl
theorem rl_O_noteShutter_12 : (am_pg z_O_noteShutter).2 12 = some (.iadd, 13, 0, 0, 0, 0, 0, []) := (congrFun pm_O_noteShutter 12).trans rfl
theorem rl_O_noteShutter_13 : (am_pg z_O_noteShutter).2 13 = some (.iload_n 1, 14, 1, 0, 0, 0, 0, []) := (congrFun pm_O_noteShutter 13).trans rfl
theorem rl_O_noteShutter_14 : (am_pg z_O_noteShutter).2 14 = some (.invokevirtual 51, 17, 258, 2, 3, 94, 0, []) := (congrFun pm_O_noteShutter 14).trans rfl
theorem rl_O_noteShutter_17 : (am_pg z_O_noteShutter).2 17 = some (.isub, 18, 0, 0, 0, 0, 0, []) := (congrFun pm_O_noteShutter 17).trans rfl
theorem rl_O_noteShutter_18 : (am_pg z_O_noteShutter).2 18 = some (.istore_n 3, 19, 3, 0, 0, 0, 0, []) := (congrFun pm_O_noteShutter 18).trans rfl
theorem rl_O_noteShutter_19 : (am_pg z_O_noteShutter).2 19 = some (.iload_n 2, 20, 2, 0, 0, 0, 0, []) := (congrFun pm_O_noteShutter 19).trans rfl
theorem rl_O_noteShutter_20 : (am_pg z_O_noteShutter).2 20 = some (.iload_n 3, 21, 3, 0, 0, 0, 0, []) := (congrFun pm_O_noteShutter 20).trans rfl
theorem rl_O_noteShutter_21 : (am_pg z_O_noteShutter).2 21 = some (.iadd, 22, 0, 0, 0, 0, 0, []) := (congrFun pm_O_noteShutter 21).trans rfl
theorem rl_O_noteShutter_22 : (am_pg z_O_noteShutter).2 22 = some (.istore 4, 24, 4, 0, 0, 0, 0, []) := (congrFun pm_O_noteShutter 22).trans rfl
theorem rl_O_noteShutter_24 : (am_pg z_O_noteShutter).2 24 = some (.iload_n 1, 25, 1, 0, 0, 0, 0, []) := (congrFun pm_O_noteShutter 24).trans rfl
theorem rl_O_noteShutter_25 : (am_pg z_O_noteShutter).2 25 = some (.sipush (1080), 28, 0, 0, 0, 0, 1080, []) := (congrFun pm_O_noteShutter 25).trans rfl
theorem rl_O_noteShutter_28 : (am_pg z_O_noteShutter).2 28 = some (.if_icmp .ge (43), 31, 71, 0, 0, 0, 0, []) := (congrFun pm_O_noteShutter 28).trans rfl
theorem rl_O_noteShutter_31 : (am_pg z_O_noteShutter).2 31 = some (.aload_n 0, 32, 0, 0, 0, 0, 0, []) := (congrFun pm_O_noteShutter 31).trans rfl
theorem rl_O_noteShutter_32 : (am_pg z_O_noteShutter).2 32 = some (.iload_n 1, 33, 1, 0, 0, 0, 0, []) := (congrFun pm_O_noteShutter 32).trans rfl
theorem rl_O_noteShutter_33 : (am_pg z_O_noteShutter).2 33 = some (.invokevirtual 54, 36, 259, 1, 3, 93, 0, []) := (congrFun pm_O_noteShutter 33).trans rfl
theorem rl_O_noteShutter_36 : (am_pg z_O_noteShutter).2 36 = some (.ifCond .eq (35), 39, 71, 0, 0, 0, 0, []) := (congrFun pm_O_noteShutter 36).trans rfl
theorem rl_O_noteShutter_39 : (am_pg z_O_noteShutter).2 39 = some (.iload_n 3, 40, 3, 0, 0, 0, 0, []) := (congrFun pm_O_noteShutter 39).trans rfl
theorem rl_O_noteShutter_40 : (am_pg z_O_noteShutter).2 40 = some (.ifCond .lt (31), 43, 71, 0, 0, 0, 0, []) := (congrFun pm_O_noteShutter 40).trans rfl
theorem rl_O_noteShutter_43 : (am_pg z_O_noteShutter).2 43 = some (.iload 4, 45, 4, 0, 0, 0, 0, []) := (congrFun pm_O_noteShutter 43).trans rfl
theorem rl_O_noteShutter_45 : (am_pg z_O_noteShutter).2 45 = some (.aload_n 0, 46, 0, 0, 0, 0, 0, []) := (congrFun pm_O_noteShutter 45).trans rfl
theorem rl_O_noteShutter_46 : (am_pg z_O_noteShutter).2 46 = some (.getfield 18, 49, 3, 3, 0, 64, 0, []) := (congrFun pm_O_noteShutter 46).trans rfl
theorem rl_O_noteShutter_49 : (am_pg z_O_noteShutter).2 49 = some (.arraylength, 50, 0, 0, 0, 0, 0, []) := (congrFun pm_O_noteShutter 49).trans rfl
theorem rl_O_noteShutter_50 : (am_pg z_O_noteShutter).2 50 = some (.if_icmp .ge (21), 53, 71, 0, 0, 0, 0, []) := (congrFun pm_O_noteShutter 50).trans rfl
theorem rl_O_noteShutter_53 : (am_pg z_O_noteShutter).2 53 = some (.aload_n 0, 54, 0, 0, 0, 0, 0, []) := (congrFun pm_O_noteShutter 53).trans rfl
theorem rl_O_noteShutter_54 : (am_pg z_O_noteShutter).2 54 = some (.getfield 18, 57, 3, 3, 0, 64, 0, []) := (congrFun pm_O_noteShutter 54).trans rfl
theorem rl_O_noteShutter_57 : (am_pg z_O_noteShutter).2 57 = some (.iload 4, 59, 4, 0, 0, 0, 0, []) := (congrFun pm_O_noteShutter 57).trans rfl
theorem rl_O_noteShutter_59 : (am_pg z_O_noteShutter).2 59 = some (.aload_n 0, 60, 0, 0, 0, 0, 0, []) := (congrFun pm_O_noteShutter 59).trans rfl
theorem rl_O_noteShutter_60 : (am_pg z_O_noteShutter).2 60 = some (.getfield 18, 63, 3, 3, 0, 64, 0, []) := (congrFun pm_O_noteShutter 60).trans rfl
theorem rl_O_noteShutter_63 : (am_pg z_O_noteShutter).2 63 = some (.iload 4, 65, 4, 0, 0, 0, 0, []) := (congrFun pm_O_noteShutter 63).trans rfl
theorem rl_O_noteShutter_65 : (am_pg z_O_noteShutter).2 65 = some (.iaload, 66, 0, 0, 0, 0, 0, []) := (congrFun pm_O_noteShutter 65).trans rfl
theorem rl_O_noteShutter_66 : (am_pg z_O_noteShutter).2 66 = some (.iload_n 1, 67, 1, 0, 0, 0, 0, []) := (congrFun pm_O_noteShutter 66).trans rfl
theorem rl_O_noteShutter_67 : (am_pg z_O_noteShutter).2 67 = some (.invokestatic 45, 70, 0, 2, 2, 4, 0, []) := (congrFun pm_O_noteShutter 67).trans rfl
theorem rl_O_noteShutter_70 : (am_pg z_O_noteShutter).2 70 = some (.iastore, 71, 0, 0, 0, 0, 0, []) := (congrFun pm_O_noteShutter 70).trans rfl
theorem rl_O_noteShutter_71 : (am_pg z_O_noteShutter).2 71 = some (.return_, 72, 0, 0, 0, 0, 0, []) := (congrFun pm_O_noteShutter 71).trans rfl
theorem rl_O_hasRoom_0 : (am_pg z_O_hasRoom).2 0 = some (.iload_n 1, 1, 1, 0, 0, 0, 0, []) := (congrFun pm_O_hasRoom 0).trans rfl
theorem rl_O_hasRoom_1 : (am_pg z_O_hasRoom).2 1 = some (.aload_n 0, 2, 0, 0, 0, 0, 0, []) := (congrFun pm_O_hasRoom 1).trans rfl
theorem rl_O_hasRoom_2 : (am_pg z_O_hasRoom).2 2 = some (.getfield 21, 5, 3, 4, 0, 65, 0, []) := (congrFun pm_O_hasRoom 2).trans rfl
theorem rl_O_hasRoom_5 : (am_pg z_O_hasRoom).2 5 = some (.isub, 6, 0, 0, 0, 0, 0, []) := (congrFun pm_O_hasRoom 5).trans rfl
theorem rl_O_hasRoom_6 : (am_pg z_O_hasRoom).2 6 = some (.iconst (1), 7, 0, 0, 0, 0, 1, []) := (congrFun pm_O_hasRoom 6).trans rfl
theorem rl_O_hasRoom_7 : (am_pg z_O_hasRoom).2 7 = some (.iadd, 8, 0, 0, 0, 0, 0, []) := (congrFun pm_O_hasRoom 7).trans rfl
theorem rl_O_hasRoom_8 : (am_pg z_O_hasRoom).2 8 = some (.istore 4, 10, 4, 0, 0, 0, 0, []) := (congrFun pm_O_hasRoom 8).trans rfl
theorem rl_O_hasRoom_10 : (am_pg z_O_hasRoom).2 10 = some (.iload 4, 12, 4, 0, 0, 0, 0, []) := (congrFun pm_O_hasRoom 10).trans rfl
theorem rl_O_hasRoom_12 : (am_pg z_O_hasRoom).2 12 = some (.iload_n 2, 13, 2, 0, 0, 0, 0, []) := (congrFun pm_O_hasRoom 12).trans rfl
theorem rl_O_hasRoom_13 : (am_pg z_O_hasRoom).2 13 = some (.if_icmp .le (13), 16, 26, 0, 0, 0, 0, []) := (congrFun pm_O_hasRoom 13).trans rfl
theorem rl_O_hasRoom_16 : (am_pg z_O_hasRoom).2 16 = some (.aload_n 0, 17, 0, 0, 0, 0, 0, []) := (congrFun pm_O_hasRoom 16).trans rfl
theorem rl_O_hasRoom_17 : (am_pg z_O_hasRoom).2 17 = some (.getfield 15, 20, 3, 2, 0, 63, 0, []) := (congrFun pm_O_hasRoom 17).trans rfl
theorem rl_O_hasRoom_20 : (am_pg z_O_hasRoom).2 20 = some (.iload 4, 22, 4, 0, 0, 0, 0, []) := (congrFun pm_O_hasRoom 20).trans rfl
theorem rl_O_hasRoom_22 : (am_pg z_O_hasRoom).2 22 = some (.iaload, 23, 0, 0, 0, 0, 0, []) := (congrFun pm_O_hasRoom 22).trans rfl
theorem rl_O_hasRoom_23 : (am_pg z_O_hasRoom).2 23 = some (.goto (4), 26, 27, 0, 0, 0, 0, []) := (congrFun pm_O_hasRoom 23).trans rfl
theorem rl_O_hasRoom_26 : (am_pg z_O_hasRoom).2 26 = some (.iconst (0), 27, 0, 0, 0, 0, 0, []) := (congrFun pm_O_hasRoom 26).trans rfl
theorem rl_O_hasRoom_27 : (am_pg z_O_hasRoom).2 27 = some (.istore 5, 29, 5, 0, 0, 0, 0, []) := (congrFun pm_O_hasRoom 27).trans rfl
theorem rl_O_hasRoom_29 : (am_pg z_O_hasRoom).2 29 = some (.aload_n 0, 30, 0, 0, 0, 0, 0, []) := (congrFun pm_O_hasRoom 29).trans rfl
theorem rl_O_hasRoom_30 : (am_pg z_O_hasRoom).2 30 = some (.iload 4, 32, 4, 0, 0, 0, 0, []) := (congrFun pm_O_hasRoom 30).trans rfl
theorem rl_O_hasRoom_32 : (am_pg z_O_hasRoom).2 32 = some (.iload_n 1, 33, 1, 0, 0, 0, 0, []) := (congrFun pm_O_hasRoom 32).trans rfl
theorem rl_O_hasRoom_33 : (am_pg z_O_hasRoom).2 33 = some (.invokevirtual 51, 36, 258, 2, 3, 94, 0, []) := (congrFun pm_O_hasRoom 33).trans rfl
theorem rl_O_hasRoom_36 : (am_pg z_O_hasRoom).2 36 = some (.iload_n 3, 37, 3, 0, 0, 0, 0, []) := (congrFun pm_O_hasRoom 36).trans rfl
theorem rl_O_hasRoom_37 : (am_pg z_O_hasRoom).2 37 = some (.iadd, 38, 0, 0, 0, 0, 0, []) := (congrFun pm_O_hasRoom 37).trans rfl
theorem rl_O_hasRoom_38 : (am_pg z_O_hasRoom).2 38 = some (.iload 5, 40, 5, 0, 0, 0, 0, []) := (congrFun pm_O_hasRoom 38).trans rfl
theorem rl_O_hasRoom_40 : (am_pg z_O_hasRoom).2 40 = some (.isub, 41, 0, 0, 0, 0, 0, []) := (congrFun pm_O_hasRoom 40).trans rfl
theorem rl_O_hasRoom_41 : (am_pg z_O_hasRoom).2 41 = some (.aload_n 0, 42, 0, 0, 0, 0, 0, []) := (congrFun pm_O_hasRoom 41).trans rfl
theorem rl_O_hasRoom_42 : (am_pg z_O_hasRoom).2 42 = some (.getfield 25, 45, 3, 5, 0, 66, 0, []) := (congrFun pm_O_hasRoom 42).trans rfl
theorem rl_O_hasRoom_45 : (am_pg z_O_hasRoom).2 45 = some (.if_icmp .ge (7), 48, 52, 0, 0, 0, 0, []) := (congrFun pm_O_hasRoom 45).trans rfl
theorem rl_O_hasRoom_48 : (am_pg z_O_hasRoom).2 48 = some (.iconst (1), 49, 0, 0, 0, 0, 1, []) := (congrFun pm_O_hasRoom 48).trans rfl
theorem rl_O_hasRoom_49 : (am_pg z_O_hasRoom).2 49 = some (.goto (4), 52, 53, 0, 0, 0, 0, []) := (congrFun pm_O_hasRoom 49).trans rfl
theorem rl_O_hasRoom_52 : (am_pg z_O_hasRoom).2 52 = some (.iconst (0), 53, 0, 0, 0, 0, 0, []) := (congrFun pm_O_hasRoom 52).trans rfl
theorem rl_O_hasRoom_53 : (am_pg z_O_hasRoom).2 53 = some (.ireturn, 54, 0, 0, 1, 0, 0, []) := (congrFun pm_O_hasRoom 53).trans rfl
theorem rl_R_needed_0 : (am_pg z_R_needed).2 0 = some (.aload_n 0, 1, 0, 0, 0, 0, 0, []) := (congrFun pm_R_needed 0).trans rfl
theorem rl_R_needed_1 : (am_pg z_R_needed).2 1 = some (.getfield 18, 4, 4, 2, 0, 10, 0, []) := (congrFun pm_R_needed 1).trans rfl
theorem rl_R_needed_4 : (am_pg z_R_needed).2 4 = some (.iload_n 1, 5, 1, 0, 0, 0, 0, []) := (congrFun pm_R_needed 4).trans rfl
theorem rl_R_needed_5 : (am_pg z_R_needed).2 5 = some (.iconst (3), 6, 0, 0, 0, 0, 3, []) := (congrFun pm_R_needed 5).trans rfl
theorem rl_R_needed_6 : (am_pg z_R_needed).2 6 = some (.imul, 7, 0, 0, 0, 0, 0, []) := (congrFun pm_R_needed 6).trans rfl
theorem rl_R_needed_7 : (am_pg z_R_needed).2 7 = some (.iload_n 2, 8, 2, 0, 0, 0, 0, []) := (congrFun pm_R_needed 7).trans rfl
theorem rl_R_needed_8 : (am_pg z_R_needed).2 8 = some (.iadd, 9, 0, 0, 0, 0, 0, []) := (congrFun pm_R_needed 8).trans rfl
theorem rl_R_needed_9 : (am_pg z_R_needed).2 9 = some (.iaload, 10, 0, 0, 0, 0, 0, []) := (congrFun pm_R_needed 9).trans rfl
theorem rl_R_needed_10 : (am_pg z_R_needed).2 10 = some (.ireturn, 11, 0, 0, 0, 0, 0, []) := (congrFun pm_R_needed 10).trans rfl
theorem rl_R_isNation_0 : (am_pg z_R_isNation).2 0 = some (.aload_n 0, 1, 0, 0, 0, 0, 0, []) := (congrFun pm_R_isNation 0).trans rfl
theorem rl_R_isNation_1 : (am_pg z_R_isNation).2 1 = some (.getfield 33, 4, 4, 7, 0, 20, 0, []) := (congrFun pm_R_isNation 1).trans rfl
theorem rl_R_isNation_4 : (am_pg z_R_isNation).2 4 = some (.iload_n 1, 5, 1, 0, 0, 0, 0, []) := (congrFun pm_R_isNation 4).trans rfl
theorem rl_R_isNation_5 : (am_pg z_R_isNation).2 5 = some (.invokestatic 49, 8, 74, 2, 0, 43, 0, []) := (congrFun pm_R_isNation 5).trans rfl
theorem rl_R_isNation_8 : (am_pg z_R_isNation).2 8 = some (.ireturn, 9, 0, 0, 1, 0, 0, []) := (congrFun pm_R_isNation 8).trans rfl
theorem rl_R_treatyRow_0 : (am_pg z_R_treatyRow).2 0 = some (.aload_n 0, 1, 0, 0, 0, 0, 0, []) := (congrFun pm_R_treatyRow 0).trans rfl
theorem rl_R_treatyRow_1 : (am_pg z_R_treatyRow).2 1 = some (.getfield 30, 4, 4, 6, 0, 19, 0, []) := (congrFun pm_R_treatyRow 1).trans rfl
theorem rl_R_treatyRow_4 : (am_pg z_R_treatyRow).2 4 = some (.iload_n 1, 5, 1, 0, 0, 0, 0, []) := (congrFun pm_R_treatyRow 4).trans rfl
theorem rl_R_treatyRow_5 : (am_pg z_R_treatyRow).2 5 = some (.bipush (6), 7, 0, 0, 0, 0, 6, []) := (congrFun pm_R_treatyRow 5).trans rfl
theorem rl_R_treatyRow_7 : (am_pg z_R_treatyRow).2 7 = some (.imul, 8, 0, 0, 0, 0, 0, []) := (congrFun pm_R_treatyRow 7).trans rfl
theorem rl_R_treatyRow_8 : (am_pg z_R_treatyRow).2 8 = some (.iload_n 2, 9, 2, 0, 0, 0, 0, []) := (congrFun pm_R_treatyRow 8).trans rfl
theorem rl_R_treatyRow_9 : (am_pg z_R_treatyRow).2 9 = some (.iadd, 10, 0, 0, 0, 0, 0, []) := (congrFun pm_R_treatyRow 9).trans rfl
theorem rl_R_treatyRow_10 : (am_pg z_R_treatyRow).2 10 = some (.iaload, 11, 0, 0, 0, 0, 0, []) := (congrFun pm_R_treatyRow 10).trans rfl
theorem rl_R_treatyRow_11 : (am_pg z_R_treatyRow).2 11 = some (.ireturn, 12, 0, 0, 0, 0, 0, []) := (congrFun pm_R_treatyRow 11).trans rfl
theorem rl_R_setTreaty_0 : (am_pg z_R_setTreaty).2 0 = some (.aload_n 0, 1, 0, 0, 0, 0, 0, []) := (congrFun pm_R_setTreaty 0).trans rfl
theorem rl_R_setTreaty_1 : (am_pg z_R_setTreaty).2 1 = some (.getfield 30, 4, 4, 6, 0, 19, 0, []) := (congrFun pm_R_setTreaty 1).trans rfl
theorem rl_R_setTreaty_4 : (am_pg z_R_setTreaty).2 4 = some (.iload_n 1, 5, 1, 0, 0, 0, 0, []) := (congrFun pm_R_setTreaty 4).trans rfl
theorem rl_R_setTreaty_5 : (am_pg z_R_setTreaty).2 5 = some (.bipush (6), 7, 0, 0, 0, 0, 6, []) := (congrFun pm_R_setTreaty 5).trans rfl
theorem rl_R_setTreaty_7 : (am_pg z_R_setTreaty).2 7 = some (.imul, 8, 0, 0, 0, 0, 0, []) := (congrFun pm_R_setTreaty 7).trans rfl
theorem rl_R_setTreaty_8 : (am_pg z_R_setTreaty).2 8 = some (.iload_n 2, 9, 2, 0, 0, 0, 0, []) := (congrFun pm_R_setTreaty 8).trans rfl
theorem rl_R_setTreaty_9 : (am_pg z_R_setTreaty).2 9 = some (.iadd, 10, 0, 0, 0, 0, 0, []) := (congrFun pm_R_setTreaty 9).trans rfl
theorem rl_R_setTreaty_10 : (am_pg z_R_setTreaty).2 10 = some (.iload_n 3, 11, 3, 0, 0, 0, 0, []) := (congrFun pm_R_setTreaty 10).trans rfl
theorem rl_R_setTreaty_11 : (am_pg z_R_setTreaty).2 11 = some (.iastore, 12, 0, 0, 0, 0, 0, []) := (congrFun pm_R_setTreaty 11).trans rfl
theorem rl_R_setTreaty_12 : (am_pg z_R_setTreaty).2 12 = some (.aload_n 0, 13, 0, 0, 0, 0, 0, []) := (congrFun pm_R_setTreaty 12).trans rfl
theorem rl_R_setTreaty_13 : (am_pg z_R_setTreaty).2 13 = some (.getfield 30, 16, 4, 6, 0, 19, 0, []) := (congrFun pm_R_setTreaty 13).trans rfl
theorem rl_R_setTreaty_16 : (am_pg z_R_setTreaty).2 16 = some (.iload_n 2, 17, 2, 0, 0, 0, 0, []) := (congrFun pm_R_setTreaty 16).trans rfl
theorem rl_R_setTreaty_17 : (am_pg z_R_setTreaty).2 17 = some (.bipush (6), 19, 0, 0, 0, 0, 6, []) := (congrFun pm_R_setTreaty 17).trans rfl
theorem rl_R_setTreaty_19 : (am_pg z_R_setTreaty).2 19 = some (.imul, 20, 0, 0, 0, 0, 0, []) := (congrFun pm_R_setTreaty 19).trans rfl
theorem rl_R_setTreaty_20 : (am_pg z_R_setTreaty).2 20 = some (.iload_n 1, 21, 1, 0, 0, 0, 0, []) := (congrFun pm_R_setTreaty 20).trans rfl
theorem rl_R_setTreaty_21 : (am_pg z_R_setTreaty).2 21 = some (.iadd, 22, 0, 0, 0, 0, 0, []) := (congrFun pm_R_setTreaty 21).trans rfl
theorem rl_R_setTreaty_22 : (am_pg z_R_setTreaty).2 22 = some (.iload_n 3, 23, 3, 0, 0, 0, 0, []) := (congrFun pm_R_setTreaty 22).trans rfl
theorem rl_R_setTreaty_23 : (am_pg z_R_setTreaty).2 23 = some (.iastore, 24, 0, 0, 0, 0, 0, []) := (congrFun pm_R_setTreaty 23).trans rfl
theorem rl_R_setTreaty_24 : (am_pg z_R_setTreaty).2 24 = some (.return_, 25, 0, 0, 0, 0, 0, []) := (congrFun pm_R_setTreaty 24).trans rfl
theorem rl_R_answerRow_0 : (am_pg z_R_answerRow).2 0 = some (.aload_n 0, 1, 0, 0, 0, 0, 0, []) := (congrFun pm_R_answerRow 0).trans rfl
theorem rl_R_answerRow_1 : (am_pg z_R_answerRow).2 1 = some (.getfield 30, 4, 4, 6, 0, 19, 0, []) := (congrFun pm_R_answerRow 1).trans rfl
theorem rl_R_answerRow_4 : (am_pg z_R_answerRow).2 4 = some (.iload_n 1, 5, 1, 0, 0, 0, 0, []) := (congrFun pm_R_answerRow 4).trans rfl
theorem rl_R_answerRow_5 : (am_pg z_R_answerRow).2 5 = some (.bipush (6), 7, 0, 0, 0, 0, 6, []) := (congrFun pm_R_answerRow 5).trans rfl
theorem rl_R_answerRow_7 : (am_pg z_R_answerRow).2 7 = some (.imul, 8, 0, 0, 0, 0, 0, []) := (congrFun pm_R_answerRow 7).trans rfl
theorem rl_R_answerRow_8 : (am_pg z_R_answerRow).2 8 = some (.iload_n 2, 9, 2, 0, 0, 0, 0, []) := (congrFun pm_R_answerRow 8).trans rfl
theorem rl_R_answerRow_9 : (am_pg z_R_answerRow).2 9 = some (.iadd, 10, 0, 0, 0, 0, 0, []) := (congrFun pm_R_answerRow 9).trans rfl
theorem rl_R_answerRow_10 : (am_pg z_R_answerRow).2 10 = some (.iaload, 11, 0, 0, 0, 0, 0, []) := (congrFun pm_R_answerRow 10).trans rfl
theorem rl_R_answerRow_11 : (am_pg z_R_answerRow).2 11 = some (.istore_n 3, 12, 3, 0, 0, 0, 0, []) := (congrFun pm_R_answerRow 11).trans rfl
theorem rl_R_answerRow_12 : (am_pg z_R_answerRow).2 12 = some (.iload_n 3, 13, 3, 0, 0, 0, 0, []) := (congrFun pm_R_answerRow 12).trans rfl
theorem rl_R_answerRow_13 : (am_pg z_R_answerRow).2 13 = some (.iconst (-1), 14, 0, 0, 0, 0, -1, []) := (congrFun pm_R_answerRow 13).trans rfl
theorem rl_R_answerRow_14 : (am_pg z_R_answerRow).2 14 = some (.if_icmp .ne (12), 17, 26, 0, 0, 0, 0, []) := (congrFun pm_R_answerRow 14).trans rfl
theorem rl_R_answerRow_17 : (am_pg z_R_answerRow).2 17 = some (.aload_n 0, 18, 0, 0, 0, 0, 0, []) := (congrFun pm_R_answerRow 17).trans rfl
theorem rl_R_answerRow_18 : (am_pg z_R_answerRow).2 18 = some (.getfield 27, 21, 4, 5, 0, 17, 0, []) := (congrFun pm_R_answerRow 18).trans rfl
theorem rl_R_answerRow_21 : (am_pg z_R_answerRow).2 21 = some (.iload_n 1, 22, 1, 0, 0, 0, 0, []) := (congrFun pm_R_answerRow 21).trans rfl
theorem rl_R_answerRow_22 : (am_pg z_R_answerRow).2 22 = some (.iaload, 23, 0, 0, 0, 0, 0, []) := (congrFun pm_R_answerRow 22).trans rfl
theorem rl_R_answerRow_23 : (am_pg z_R_answerRow).2 23 = some (.goto (4), 26, 27, 0, 0, 0, 0, []) := (congrFun pm_R_answerRow 23).trans rfl
theorem rl_R_answerRow_26 : (am_pg z_R_answerRow).2 26 = some (.iload_n 3, 27, 3, 0, 0, 0, 0, []) := (congrFun pm_R_answerRow 26).trans rfl
theorem rl_R_answerRow_27 : (am_pg z_R_answerRow).2 27 = some (.ireturn, 28, 0, 0, 0, 0, 0, []) := (congrFun pm_R_answerRow 27).trans rfl
theorem rl_E_spell_0 : (am_pg z_E_spell).2 0 = some (.aload_n 0, 1, 0, 0, 0, 0, 0, []) := (congrFun pm_E_spell 0).trans rfl
theorem rl_E_spell_1 : (am_pg z_E_spell).2 1 = some (.iconst (0), 2, 0, 0, 0, 0, 0, []) := (congrFun pm_E_spell 1).trans rfl
theorem rl_E_spell_2 : (am_pg z_E_spell).2 2 = some (.putfield 9, 5, 5, 0, 0, 50, 0, []) := (congrFun pm_E_spell 2).trans rfl
theorem rl_E_spell_5 : (am_pg z_E_spell).2 5 = some (.aload_n 0, 6, 0, 0, 0, 0, 0, []) := (congrFun pm_E_spell 5).trans rfl
theorem rl_E_spell_6 : (am_pg z_E_spell).2 6 = some (.iload_n 2, 7, 2, 0, 0, 0, 0, []) := (congrFun pm_E_spell 6).trans rfl
theorem rl_E_spell_7 : (am_pg z_E_spell).2 7 = some (.putfield 15, 10, 5, 1, 0, 52, 0, []) := (congrFun pm_E_spell 7).trans rfl
theorem rl_E_spell_10 : (am_pg z_E_spell).2 10 = some (.aload_n 0, 11, 0, 0, 0, 0, 0, []) := (congrFun pm_E_spell 10).trans rfl
theorem rl_E_spell_11 : (am_pg z_E_spell).2 11 = some (.bipush (-2), 13, 0, 0, 0, 0, -2, []) := (congrFun pm_E_spell 11).trans rfl
theorem rl_E_spell_13 : (am_pg z_E_spell).2 13 = some (.putfield 18, 16, 5, 2, 0, 53, 0, []) := (congrFun pm_E_spell 13).trans rfl
theorem rl_E_spell_16 : (am_pg z_E_spell).2 16 = some (.iconst (0), 17, 0, 0, 0, 0, 0, []) := (congrFun pm_E_spell 16).trans rfl
theorem rl_E_spell_17 : (am_pg z_E_spell).2 17 = some (.istore_n 3, 18, 3, 0, 0, 0, 0, []) := (congrFun pm_E_spell 17).trans rfl
theorem rl_E_spell_18 : (am_pg z_E_spell).2 18 = some (.iload_n 3, 19, 3, 0, 0, 0, 0, []) := (congrFun pm_E_spell 18).trans rfl
theorem rl_E_spell_19 : (am_pg z_E_spell).2 19 = some (.sipush (1080), 22, 0, 0, 0, 0, 1080, []) := (congrFun pm_E_spell 19).trans rfl
theorem rl_E_spell_22 : (am_pg z_E_spell).2 22 = some (.if_icmp .ge (32), 25, 54, 0, 0, 0, 0, []) := (congrFun pm_E_spell 22).trans rfl
theorem rl_E_spell_25 : (am_pg z_E_spell).2 25 = some (.aload_n 1, 26, 1, 0, 0, 0, 0, []) := (congrFun pm_E_spell 25).trans rfl
theorem rl_E_spell_26 : (am_pg z_E_spell).2 26 = some (.iload_n 3, 27, 3, 0, 0, 0, 0, []) := (congrFun pm_E_spell 26).trans rfl
theorem rl_E_spell_27 : (am_pg z_E_spell).2 27 = some (.invokevirtual 21, 30, 238, 1, 1, 50, 0, []) := (congrFun pm_E_spell 27).trans rfl
theorem rl_E_spell_30 : (am_pg z_E_spell).2 30 = some (.ifCond .eq (18), 33, 48, 0, 0, 0, 0, []) := (congrFun pm_E_spell 30).trans rfl
theorem rl_E_spell_33 : (am_pg z_E_spell).2 33 = some (.aload_n 0, 34, 0, 0, 0, 0, 0, []) := (congrFun pm_E_spell 33).trans rfl
theorem rl_E_spell_34 : (am_pg z_E_spell).2 34 = some (.aload_n 1, 35, 1, 0, 0, 0, 0, []) := (congrFun pm_E_spell 34).trans rfl
theorem rl_E_spell_35 : (am_pg z_E_spell).2 35 = some (.iload_n 3, 36, 3, 0, 0, 0, 0, []) := (congrFun pm_E_spell 35).trans rfl
theorem rl_E_spell_36 : (am_pg z_E_spell).2 36 = some (.invokevirtual 27, 39, 237, 1, 1, 52, 0, []) := (congrFun pm_E_spell 36).trans rfl
theorem rl_E_spell_39 : (am_pg z_E_spell).2 39 = some (.iload_n 3, 40, 3, 0, 0, 0, 0, []) := (congrFun pm_E_spell 39).trans rfl
theorem rl_E_spell_40 : (am_pg z_E_spell).2 40 = some (.aload_n 1, 41, 1, 0, 0, 0, 0, []) := (congrFun pm_E_spell 40).trans rfl
theorem rl_E_spell_41 : (am_pg z_E_spell).2 41 = some (.iload_n 3, 42, 3, 0, 0, 0, 0, []) := (congrFun pm_E_spell 41).trans rfl
theorem rl_E_spell_42 : (am_pg z_E_spell).2 42 = some (.invokevirtual 31, 45, 239, 1, 1, 53, 0, []) := (congrFun pm_E_spell 42).trans rfl
theorem rl_E_spell_45 : (am_pg z_E_spell).2 45 = some (.invokevirtual 34, 48, 275, 3, 5, 54, 0, []) := (congrFun pm_E_spell 45).trans rfl
theorem rl_E_spell_48 : (am_pg z_E_spell).2 48 = some (.iinc 3 (1), 51, 3, 0, 0, 0, 1, []) := (congrFun pm_E_spell 48).trans rfl
theorem rl_E_spell_51 : (am_pg z_E_spell).2 51 = some (.goto (-33), 54, 18, 0, 0, 0, 0, []) := (congrFun pm_E_spell 51).trans rfl
theorem rl_E_spell_54 : (am_pg z_E_spell).2 54 = some (.return_, 55, 0, 0, 0, 0, 0, []) := (congrFun pm_E_spell 54).trans rfl
theorem rl_E_putStay_0 : (am_pg z_E_putStay).2 0 = some (.aload_n 0, 1, 0, 0, 0, 0, 0, []) := (congrFun pm_E_putStay 0).trans rfl
theorem rl_E_putStay_1 : (am_pg z_E_putStay).2 1 = some (.getfield 9, 4, 5, 0, 0, 50, 0, []) := (congrFun pm_E_putStay 1).trans rfl
theorem rl_E_putStay_4 : (am_pg z_E_putStay).2 4 = some (.ifCond .le (9), 7, 13, 0, 0, 0, 0, []) := (congrFun pm_E_putStay 4).trans rfl
theorem rl_E_putStay_7 : (am_pg z_E_putStay).2 7 = some (.aload_n 0, 8, 0, 0, 0, 0, 0, []) := (congrFun pm_E_putStay 7).trans rfl
theorem rl_E_putStay_8 : (am_pg z_E_putStay).2 8 = some (.bipush (44), 10, 0, 0, 0, 0, 44, []) := (congrFun pm_E_putStay 8).trans rfl
theorem rl_E_putStay_10 : (am_pg z_E_putStay).2 10 = some (.invokevirtual 38, 13, 277, 1, 5, 55, 0, []) := (congrFun pm_E_putStay 10).trans rfl
theorem rl_E_putStay_13 : (am_pg z_E_putStay).2 13 = some (.aload_n 0, 14, 0, 0, 0, 0, 0, []) := (congrFun pm_E_putStay 13).trans rfl
theorem rl_E_putStay_14 : (am_pg z_E_putStay).2 14 = some (.bipush (97), 16, 0, 0, 0, 0, 97, []) := (congrFun pm_E_putStay 14).trans rfl
theorem rl_E_putStay_16 : (am_pg z_E_putStay).2 16 = some (.iload_n 1, 17, 1, 0, 0, 0, 0, []) := (congrFun pm_E_putStay 16).trans rfl
theorem rl_E_putStay_17 : (am_pg z_E_putStay).2 17 = some (.iadd, 18, 0, 0, 0, 0, 0, []) := (congrFun pm_E_putStay 17).trans rfl
theorem rl_E_putStay_18 : (am_pg z_E_putStay).2 18 = some (.invokevirtual 38, 21, 277, 1, 5, 55, 0, []) := (congrFun pm_E_putStay 18).trans rfl
theorem rl_E_putStay_21 : (am_pg z_E_putStay).2 21 = some (.aload_n 0, 22, 0, 0, 0, 0, 0, []) := (congrFun pm_E_putStay 21).trans rfl
theorem rl_E_putStay_22 : (am_pg z_E_putStay).2 22 = some (.iload_n 2, 23, 2, 0, 0, 0, 0, []) := (congrFun pm_E_putStay 22).trans rfl
theorem rl_E_putStay_23 : (am_pg z_E_putStay).2 23 = some (.invokevirtual 42, 26, 276, 1, 5, 56, 0, []) := (congrFun pm_E_putStay 23).trans rfl
theorem rl_E_putStay_26 : (am_pg z_E_putStay).2 26 = some (.iload_n 3, 27, 3, 0, 0, 0, 0, []) := (congrFun pm_E_putStay 26).trans rfl
theorem rl_E_putStay_27 : (am_pg z_E_putStay).2 27 = some (.iload_n 2, 28, 2, 0, 0, 0, 0, []) := (congrFun pm_E_putStay 27).trans rfl
theorem rl_E_putStay_28 : (am_pg z_E_putStay).2 28 = some (.if_icmp .le (20), 31, 48, 0, 0, 0, 0, []) := (congrFun pm_E_putStay 28).trans rfl
theorem rl_E_putStay_31 : (am_pg z_E_putStay).2 31 = some (.aload_n 0, 32, 0, 0, 0, 0, 0, []) := (congrFun pm_E_putStay 31).trans rfl
theorem rl_E_putStay_32 : (am_pg z_E_putStay).2 32 = some (.bipush (46), 34, 0, 0, 0, 0, 46, []) := (congrFun pm_E_putStay 32).trans rfl
theorem rl_E_putStay_34 : (am_pg z_E_putStay).2 34 = some (.invokevirtual 38, 37, 277, 1, 5, 55, 0, []) := (congrFun pm_E_putStay 34).trans rfl
theorem rl_E_putStay_37 : (am_pg z_E_putStay).2 37 = some (.aload_n 0, 38, 0, 0, 0, 0, 0, []) := (congrFun pm_E_putStay 37).trans rfl
theorem rl_E_putStay_38 : (am_pg z_E_putStay).2 38 = some (.bipush (46), 40, 0, 0, 0, 0, 46, []) := (congrFun pm_E_putStay 38).trans rfl
theorem rl_E_putStay_40 : (am_pg z_E_putStay).2 40 = some (.invokevirtual 38, 43, 277, 1, 5, 55, 0, []) := (congrFun pm_E_putStay 40).trans rfl
theorem rl_E_putStay_43 : (am_pg z_E_putStay).2 43 = some (.aload_n 0, 44, 0, 0, 0, 0, 0, []) := (congrFun pm_E_putStay 43).trans rfl
theorem rl_E_putStay_44 : (am_pg z_E_putStay).2 44 = some (.iload_n 3, 45, 3, 0, 0, 0, 0, []) := (congrFun pm_E_putStay 44).trans rfl
theorem rl_E_putStay_45 : (am_pg z_E_putStay).2 45 = some (.invokevirtual 42, 48, 276, 1, 5, 56, 0, []) := (congrFun pm_E_putStay 45).trans rfl
theorem rl_E_putStay_48 : (am_pg z_E_putStay).2 48 = some (.return_, 49, 0, 0, 0, 0, 0, []) := (congrFun pm_E_putStay 48).trans rfl
theorem rl_E_putNumber_0 : (am_pg z_E_putNumber).2 0 = some (.sipush (1000), 3, 0, 0, 0, 0, 1000, []) := (congrFun pm_E_putNumber 0).trans rfl
theorem rl_E_putNumber_3 : (am_pg z_E_putNumber).2 3 = some (.istore_n 2, 4, 2, 0, 0, 0, 0, []) := (congrFun pm_E_putNumber 3).trans rfl
theorem rl_E_putNumber_4 : (am_pg z_E_putNumber).2 4 = some (.iload_n 2, 5, 2, 0, 0, 0, 0, []) := (congrFun pm_E_putNumber 4).trans rfl
theorem rl_E_putNumber_5 : (am_pg z_E_putNumber).2 5 = some (.iconst (1), 6, 0, 0, 0, 0, 1, []) := (congrFun pm_E_putNumber 5).trans rfl
theorem rl_E_putNumber_6 : (am_pg z_E_putNumber).2 6 = some (.if_icmp .lt (34), 9, 40, 0, 0, 0, 0, []) := (congrFun pm_E_putNumber 6).trans rfl
theorem rl_E_putNumber_9 : (am_pg z_E_putNumber).2 9 = some (.iload_n 1, 10, 1, 0, 0, 0, 0, []) := (congrFun pm_E_putNumber 9).trans rfl
theorem rl_E_putNumber_10 : (am_pg z_E_putNumber).2 10 = some (.iload_n 2, 11, 2, 0, 0, 0, 0, []) := (congrFun pm_E_putNumber 10).trans rfl
theorem rl_E_putNumber_11 : (am_pg z_E_putNumber).2 11 = some (.if_icmp .ge (8), 14, 19, 0, 0, 0, 0, []) := (congrFun pm_E_putNumber 11).trans rfl
theorem rl_E_putNumber_14 : (am_pg z_E_putNumber).2 14 = some (.iload_n 2, 15, 2, 0, 0, 0, 0, []) := (congrFun pm_E_putNumber 14).trans rfl
theorem rl_E_putNumber_15 : (am_pg z_E_putNumber).2 15 = some (.iconst (1), 16, 0, 0, 0, 0, 1, []) := (congrFun pm_E_putNumber 15).trans rfl
theorem rl_E_putNumber_16 : (am_pg z_E_putNumber).2 16 = some (.if_icmp .ne (16), 19, 32, 0, 0, 0, 0, []) := (congrFun pm_E_putNumber 16).trans rfl
theorem rl_E_putNumber_19 : (am_pg z_E_putNumber).2 19 = some (.aload_n 0, 20, 0, 0, 0, 0, 0, []) := (congrFun pm_E_putNumber 19).trans rfl
theorem rl_E_putNumber_20 : (am_pg z_E_putNumber).2 20 = some (.bipush (48), 22, 0, 0, 0, 0, 48, []) := (congrFun pm_E_putNumber 20).trans rfl
theorem rl_E_putNumber_22 : (am_pg z_E_putNumber).2 22 = some (.iload_n 1, 23, 1, 0, 0, 0, 0, []) := (congrFun pm_E_putNumber 22).trans rfl
theorem rl_E_putNumber_23 : (am_pg z_E_putNumber).2 23 = some (.iload_n 2, 24, 2, 0, 0, 0, 0, []) := (congrFun pm_E_putNumber 23).trans rfl
theorem rl_E_putNumber_24 : (am_pg z_E_putNumber).2 24 = some (.idiv, 25, 0, 0, 0, 0, 0, []) := (congrFun pm_E_putNumber 24).trans rfl
theorem rl_E_putNumber_25 : (am_pg z_E_putNumber).2 25 = some (.bipush (10), 27, 0, 0, 0, 0, 10, []) := (congrFun pm_E_putNumber 25).trans rfl
theorem rl_E_putNumber_27 : (am_pg z_E_putNumber).2 27 = some (.irem, 28, 0, 0, 0, 0, 0, []) := (congrFun pm_E_putNumber 27).trans rfl
theorem rl_E_putNumber_28 : (am_pg z_E_putNumber).2 28 = some (.iadd, 29, 0, 0, 0, 0, 0, []) := (congrFun pm_E_putNumber 28).trans rfl
theorem rl_E_putNumber_29 : (am_pg z_E_putNumber).2 29 = some (.invokevirtual 38, 32, 277, 1, 5, 55, 0, []) := (congrFun pm_E_putNumber 29).trans rfl
theorem rl_E_putNumber_32 : (am_pg z_E_putNumber).2 32 = some (.iload_n 2, 33, 2, 0, 0, 0, 0, []) := (congrFun pm_E_putNumber 32).trans rfl
theorem rl_E_putNumber_33 : (am_pg z_E_putNumber).2 33 = some (.bipush (10), 35, 0, 0, 0, 0, 10, []) := (congrFun pm_E_putNumber 33).trans rfl
theorem rl_E_putNumber_35 : (am_pg z_E_putNumber).2 35 = some (.idiv, 36, 0, 0, 0, 0, 0, []) := (congrFun pm_E_putNumber 35).trans rfl
theorem rl_E_putNumber_36 : (am_pg z_E_putNumber).2 36 = some (.istore_n 2, 37, 2, 0, 0, 0, 0, []) := (congrFun pm_E_putNumber 36).trans rfl
theorem rl_E_putNumber_37 : (am_pg z_E_putNumber).2 37 = some (.goto (-33), 40, 4, 0, 0, 0, 0, []) := (congrFun pm_E_putNumber 37).trans rfl
theorem rl_E_putNumber_40 : (am_pg z_E_putNumber).2 40 = some (.return_, 41, 0, 0, 0, 0, 0, []) := (congrFun pm_E_putNumber 40).trans rfl
theorem rl_E_putSign_0 : (am_pg z_E_putSign).2 0 = some (.aload_n 0, 1, 0, 0, 0, 0, 0, []) := (congrFun pm_E_putSign 0).trans rfl
theorem rl_E_putSign_1 : (am_pg z_E_putSign).2 1 = some (.getfield 9, 4, 5, 0, 0, 50, 0, []) := (congrFun pm_E_putSign 1).trans rfl
theorem rl_E_putSign_4 : (am_pg z_E_putSign).2 4 = some (.aload_n 0, 5, 0, 0, 0, 0, 0, []) := (congrFun pm_E_putSign 4).trans rfl
theorem rl_E_putSign_5 : (am_pg z_E_putSign).2 5 = some (.getfield 15, 8, 5, 1, 0, 52, 0, []) := (congrFun pm_E_putSign 5).trans rfl
theorem rl_E_putSign_8 : (am_pg z_E_putSign).2 8 = some (.if_icmp .ne (8), 11, 16, 0, 0, 0, 0, []) := (congrFun pm_E_putSign 8).trans rfl
theorem rl_E_putSign_11 : (am_pg z_E_putSign).2 11 = some (.aload_n 0, 12, 0, 0, 0, 0, 0, []) := (congrFun pm_E_putSign 11).trans rfl
theorem rl_E_putSign_12 : (am_pg z_E_putSign).2 12 = some (.iload_n 1, 13, 1, 0, 0, 0, 0, []) := (congrFun pm_E_putSign 12).trans rfl
theorem rl_E_putSign_13 : (am_pg z_E_putSign).2 13 = some (.putfield 18, 16, 5, 2, 0, 53, 0, []) := (congrFun pm_E_putSign 13).trans rfl
theorem rl_E_putSign_16 : (am_pg z_E_putSign).2 16 = some (.aload_n 0, 17, 0, 0, 0, 0, 0, []) := (congrFun pm_E_putSign 16).trans rfl
theorem rl_E_putSign_17 : (am_pg z_E_putSign).2 17 = some (.dup, 18, 0, 0, 0, 0, 0, []) := (congrFun pm_E_putSign 17).trans rfl
theorem rl_E_putSign_18 : (am_pg z_E_putSign).2 18 = some (.getfield 9, 21, 5, 0, 0, 50, 0, []) := (congrFun pm_E_putSign 18).trans rfl
theorem rl_E_putSign_21 : (am_pg z_E_putSign).2 21 = some (.iconst (1), 22, 0, 0, 0, 0, 1, []) := (congrFun pm_E_putSign 21).trans rfl
theorem rl_E_putSign_22 : (am_pg z_E_putSign).2 22 = some (.iadd, 23, 0, 0, 0, 0, 0, []) := (congrFun pm_E_putSign 22).trans rfl
theorem rl_E_putSign_23 : (am_pg z_E_putSign).2 23 = some (.putfield 9, 26, 5, 0, 0, 50, 0, []) := (congrFun pm_E_putSign 23).trans rfl
theorem rl_E_putSign_26 : (am_pg z_E_putSign).2 26 = some (.return_, 27, 0, 0, 0, 0, 0, []) := (congrFun pm_E_putSign 26).trans rfl
theorem rl_S_hasHome_0 : (am_pg z_S_hasHome).2 0 = some (.aload_n 0, 1, 0, 0, 0, 0, 0, []) := (congrFun pm_S_hasHome 0).trans rfl
theorem rl_S_hasHome_1 : (am_pg z_S_hasHome).2 1 = some (.getfield 24, 4, 6, 3, 0, 30, 0, []) := (congrFun pm_S_hasHome 1).trans rfl
theorem rl_S_hasHome_4 : (am_pg z_S_hasHome).2 4 = some (.iload_n 2, 5, 2, 0, 0, 0, 0, []) := (congrFun pm_S_hasHome 4).trans rfl
theorem rl_S_hasHome_5 : (am_pg z_S_hasHome).2 5 = some (.iaload, 6, 0, 0, 0, 0, 0, []) := (congrFun pm_S_hasHome 5).trans rfl
theorem rl_S_hasHome_6 : (am_pg z_S_hasHome).2 6 = some (.iload_n 1, 7, 1, 0, 0, 0, 0, []) := (congrFun pm_S_hasHome 6).trans rfl
theorem rl_S_hasHome_7 : (am_pg z_S_hasHome).2 7 = some (.invokestatic 52, 10, 74, 2, 0, 39, 0, []) := (congrFun pm_S_hasHome 7).trans rfl
theorem rl_S_hasHome_10 : (am_pg z_S_hasHome).2 10 = some (.ireturn, 11, 0, 0, 1, 0, 0, []) := (congrFun pm_S_hasHome 10).trans rfl
theorem rl_S_homeDays_0 : (am_pg z_S_homeDays).2 0 = some (.iconst (0), 1, 0, 0, 0, 0, 0, []) := (congrFun pm_S_homeDays 0).trans rfl
theorem rl_S_homeDays_1 : (am_pg z_S_homeDays).2 1 = some (.istore 4, 3, 4, 0, 0, 0, 0, []) := (congrFun pm_S_homeDays 1).trans rfl
theorem rl_S_homeDays_3 : (am_pg z_S_homeDays).2 3 = some (.iload_n 2, 4, 2, 0, 0, 0, 0, []) := (congrFun pm_S_homeDays 3).trans rfl
theorem rl_S_homeDays_4 : (am_pg z_S_homeDays).2 4 = some (.istore 5, 6, 5, 0, 0, 0, 0, []) := (congrFun pm_S_homeDays 4).trans rfl
theorem rl_S_homeDays_6 : (am_pg z_S_homeDays).2 6 = some (.iload 5, 8, 5, 0, 0, 0, 0, []) := (congrFun pm_S_homeDays 6).trans rfl
theorem rl_S_homeDays_8 : (am_pg z_S_homeDays).2 8 = some (.iload_n 3, 9, 3, 0, 0, 0, 0, []) := (congrFun pm_S_homeDays 8).trans rfl
theorem rl_S_homeDays_9 : (am_pg z_S_homeDays).2 9 = some (.if_icmp .gt (22), 12, 31, 0, 0, 0, 0, []) := (congrFun pm_S_homeDays 9).trans rfl
theorem rl_S_homeDays_12 : (am_pg z_S_homeDays).2 12 = some (.aload_n 0, 13, 0, 0, 0, 0, 0, []) := (congrFun pm_S_homeDays 12).trans rfl
theorem rl_S_homeDays_13 : (am_pg z_S_homeDays).2 13 = some (.iload_n 1, 14, 1, 0, 0, 0, 0, []) := (congrFun pm_S_homeDays 13).trans rfl
theorem rl_S_homeDays_14 : (am_pg z_S_homeDays).2 14 = some (.iload 5, 16, 5, 0, 0, 0, 0, []) := (congrFun pm_S_homeDays 14).trans rfl
theorem rl_S_homeDays_16 : (am_pg z_S_homeDays).2 16 = some (.invokevirtual 56, 19, 280, 2, 6, 85, 0, []) := (congrFun pm_S_homeDays 16).trans rfl
theorem rl_S_homeDays_19 : (am_pg z_S_homeDays).2 19 = some (.ifCond .eq (6), 22, 25, 0, 0, 0, 0, []) := (congrFun pm_S_homeDays 19).trans rfl
theorem rl_S_homeDays_22 : (am_pg z_S_homeDays).2 22 = some (.iinc 4 (1), 25, 4, 0, 0, 0, 1, []) := (congrFun pm_S_homeDays 22).trans rfl
theorem rl_S_homeDays_25 : (am_pg z_S_homeDays).2 25 = some (.iinc 5 (1), 28, 5, 0, 0, 0, 1, []) := (congrFun pm_S_homeDays 25).trans rfl
theorem rl_S_homeDays_28 : (am_pg z_S_homeDays).2 28 = some (.goto (-22), 31, 6, 0, 0, 0, 0, []) := (congrFun pm_S_homeDays 28).trans rfl
theorem rl_S_homeDays_31 : (am_pg z_S_homeDays).2 31 = some (.iload 4, 33, 4, 0, 0, 0, 0, []) := (congrFun pm_S_homeDays 31).trans rfl
theorem rl_S_homeDays_33 : (am_pg z_S_homeDays).2 33 = some (.ireturn, 34, 0, 0, 0, 0, 0, []) := (congrFun pm_S_homeDays 33).trans rfl
theorem rl_T_putWord_0 : (am_pg z_T_putWord).2 0 = some (.bipush (24), 2, 0, 0, 0, 0, 24, []) := (congrFun pm_T_putWord 0).trans rfl
theorem rl_T_putWord_2 : (am_pg z_T_putWord).2 2 = some (.istore_n 2, 3, 2, 0, 0, 0, 0, []) := (congrFun pm_T_putWord 2).trans rfl
theorem rl_T_putWord_3 : (am_pg z_T_putWord).2 3 = some (.iload_n 2, 4, 2, 0, 0, 0, 0, []) := (congrFun pm_T_putWord 3).trans rfl
theorem rl_T_putWord_4 : (am_pg z_T_putWord).2 4 = some (.ifCond .lt (45), 7, 49, 0, 0, 0, 0, []) := (congrFun pm_T_putWord 4).trans rfl
theorem rl_T_putWord_7 : (am_pg z_T_putWord).2 7 = some (.aload_n 0, 8, 0, 0, 0, 0, 0, []) := (congrFun pm_T_putWord 7).trans rfl
theorem rl_T_putWord_8 : (am_pg z_T_putWord).2 8 = some (.getfield 15, 11, 7, 1, 0, 40, 0, []) := (congrFun pm_T_putWord 8).trans rfl
theorem rl_T_putWord_11 : (am_pg z_T_putWord).2 11 = some (.sipush (320), 14, 0, 0, 0, 0, 320, []) := (congrFun pm_T_putWord 11).trans rfl
theorem rl_T_putWord_14 : (am_pg z_T_putWord).2 14 = some (.if_icmp .ge (35), 17, 49, 0, 0, 0, 0, []) := (congrFun pm_T_putWord 14).trans rfl
theorem rl_T_putWord_17 : (am_pg z_T_putWord).2 17 = some (.aload_n 0, 18, 0, 0, 0, 0, 0, []) := (congrFun pm_T_putWord 17).trans rfl
theorem rl_T_putWord_18 : (am_pg z_T_putWord).2 18 = some (.getfield 9, 21, 7, 0, 0, 38, 0, []) := (congrFun pm_T_putWord 18).trans rfl
theorem rl_T_putWord_21 : (am_pg z_T_putWord).2 21 = some (.aload_n 0, 22, 0, 0, 0, 0, 0, []) := (congrFun pm_T_putWord 21).trans rfl
theorem rl_T_putWord_22 : (am_pg z_T_putWord).2 22 = some (.getfield 15, 25, 7, 1, 0, 40, 0, []) := (congrFun pm_T_putWord 22).trans rfl
theorem rl_T_putWord_25 : (am_pg z_T_putWord).2 25 = some (.iload_n 1, 26, 1, 0, 0, 0, 0, []) := (congrFun pm_T_putWord 25).trans rfl
theorem rl_T_putWord_26 : (am_pg z_T_putWord).2 26 = some (.iload_n 2, 27, 2, 0, 0, 0, 0, []) := (congrFun pm_T_putWord 26).trans rfl
theorem rl_T_putWord_27 : (am_pg z_T_putWord).2 27 = some (.ishr, 28, 0, 0, 0, 0, 0, []) := (congrFun pm_T_putWord 27).trans rfl
theorem rl_T_putWord_28 : (am_pg z_T_putWord).2 28 = some (.sipush (255), 31, 0, 0, 0, 0, 255, []) := (congrFun pm_T_putWord 28).trans rfl
theorem rl_T_putWord_31 : (am_pg z_T_putWord).2 31 = some (.iand, 32, 0, 0, 0, 0, 0, []) := (congrFun pm_T_putWord 31).trans rfl
theorem rl_T_putWord_32 : (am_pg z_T_putWord).2 32 = some (.iastore, 33, 0, 0, 0, 0, 0, []) := (congrFun pm_T_putWord 32).trans rfl
theorem rl_T_putWord_33 : (am_pg z_T_putWord).2 33 = some (.aload_n 0, 34, 0, 0, 0, 0, 0, []) := (congrFun pm_T_putWord 33).trans rfl
theorem rl_T_putWord_34 : (am_pg z_T_putWord).2 34 = some (.dup, 35, 0, 0, 0, 0, 0, []) := (congrFun pm_T_putWord 34).trans rfl
theorem rl_T_putWord_35 : (am_pg z_T_putWord).2 35 = some (.getfield 15, 38, 7, 1, 0, 40, 0, []) := (congrFun pm_T_putWord 35).trans rfl
theorem rl_T_putWord_38 : (am_pg z_T_putWord).2 38 = some (.iconst (1), 39, 0, 0, 0, 0, 1, []) := (congrFun pm_T_putWord 38).trans rfl
theorem rl_T_putWord_39 : (am_pg z_T_putWord).2 39 = some (.iadd, 40, 0, 0, 0, 0, 0, []) := (congrFun pm_T_putWord 39).trans rfl
theorem rl_T_putWord_40 : (am_pg z_T_putWord).2 40 = some (.putfield 15, 43, 7, 1, 0, 40, 0, []) := (congrFun pm_T_putWord 40).trans rfl
theorem rl_T_putWord_43 : (am_pg z_T_putWord).2 43 = some (.iinc 2 (-8), 46, 2, 0, 0, 0, -8, []) := (congrFun pm_T_putWord 43).trans rfl
theorem rl_T_putWord_46 : (am_pg z_T_putWord).2 46 = some (.goto (-43), 49, 3, 0, 0, 0, 0, []) := (congrFun pm_T_putWord 46).trans rfl
theorem rl_T_putWord_49 : (am_pg z_T_putWord).2 49 = some (.return_, 50, 0, 0, 0, 0, 0, []) := (congrFun pm_T_putWord 49).trans rfl
theorem rl_T_takeRow_0 : (am_pg z_T_takeRow).2 0 = some (.iconst (0), 1, 0, 0, 0, 0, 0, []) := (congrFun pm_T_takeRow 0).trans rfl
theorem rl_T_takeRow_1 : (am_pg z_T_takeRow).2 1 = some (.istore_n 2, 2, 2, 0, 0, 0, 0, []) := (congrFun pm_T_takeRow 1).trans rfl
theorem rl_T_takeRow_2 : (am_pg z_T_takeRow).2 2 = some (.iconst (0), 3, 0, 0, 0, 0, 0, []) := (congrFun pm_T_takeRow 2).trans rfl
theorem rl_T_takeRow_3 : (am_pg z_T_takeRow).2 3 = some (.istore_n 3, 4, 3, 0, 0, 0, 0, []) := (congrFun pm_T_takeRow 3).trans rfl
theorem rl_T_takeRow_4 : (am_pg z_T_takeRow).2 4 = some (.iconst (0), 5, 0, 0, 0, 0, 0, []) := (congrFun pm_T_takeRow 4).trans rfl
theorem rl_T_takeRow_5 : (am_pg z_T_takeRow).2 5 = some (.istore 4, 7, 4, 0, 0, 0, 0, []) := (congrFun pm_T_takeRow 5).trans rfl
theorem rl_T_takeRow_7 : (am_pg z_T_takeRow).2 7 = some (.iload 4, 9, 4, 0, 0, 0, 0, []) := (congrFun pm_T_takeRow 7).trans rfl
theorem rl_T_takeRow_9 : (am_pg z_T_takeRow).2 9 = some (.iload_n 1, 10, 1, 0, 0, 0, 0, []) := (congrFun pm_T_takeRow 9).trans rfl
theorem rl_T_takeRow_10 : (am_pg z_T_takeRow).2 10 = some (.if_icmp .ge (61), 13, 71, 0, 0, 0, 0, []) := (congrFun pm_T_takeRow 10).trans rfl
theorem rl_T_takeRow_13 : (am_pg z_T_takeRow).2 13 = some (.iload 4, 15, 4, 0, 0, 0, 0, []) := (congrFun pm_T_takeRow 13).trans rfl
theorem rl_T_takeRow_15 : (am_pg z_T_takeRow).2 15 = some (.iconst (4), 16, 0, 0, 0, 0, 4, []) := (congrFun pm_T_takeRow 15).trans rfl
theorem rl_T_takeRow_16 : (am_pg z_T_takeRow).2 16 = some (.if_icmp .ge (55), 19, 71, 0, 0, 0, 0, []) := (congrFun pm_T_takeRow 16).trans rfl
theorem rl_T_takeRow_19 : (am_pg z_T_takeRow).2 19 = some (.aload_n 0, 20, 0, 0, 0, 0, 0, []) := (congrFun pm_T_takeRow 19).trans rfl
theorem rl_T_takeRow_20 : (am_pg z_T_takeRow).2 20 = some (.getfield 9, 23, 7, 0, 0, 38, 0, []) := (congrFun pm_T_takeRow 20).trans rfl
theorem rl_T_takeRow_23 : (am_pg z_T_takeRow).2 23 = some (.iload 4, 25, 4, 0, 0, 0, 0, []) := (congrFun pm_T_takeRow 23).trans rfl
theorem rl_T_takeRow_25 : (am_pg z_T_takeRow).2 25 = some (.iaload, 26, 0, 0, 0, 0, 0, []) := (congrFun pm_T_takeRow 25).trans rfl
theorem rl_T_takeRow_26 : (am_pg z_T_takeRow).2 26 = some (.invokestatic 19, 29, 285, 1, 0, 64, 0, []) := (congrFun pm_T_takeRow 26).trans rfl
theorem rl_T_takeRow_29 : (am_pg z_T_takeRow).2 29 = some (.istore 5, 31, 5, 0, 0, 0, 0, []) := (congrFun pm_T_takeRow 29).trans rfl
theorem rl_T_takeRow_31 : (am_pg z_T_takeRow).2 31 = some (.iload 5, 33, 5, 0, 0, 0, 0, []) := (congrFun pm_T_takeRow 31).trans rfl
theorem rl_T_takeRow_33 : (am_pg z_T_takeRow).2 33 = some (.iconst (-1), 34, 0, 0, 0, 0, -1, []) := (congrFun pm_T_takeRow 33).trans rfl
theorem rl_T_takeRow_34 : (am_pg z_T_takeRow).2 34 = some (.if_icmp .eq (12), 37, 46, 0, 0, 0, 0, []) := (congrFun pm_T_takeRow 34).trans rfl
theorem rl_T_takeRow_37 : (am_pg z_T_takeRow).2 37 = some (.iload_n 3, 38, 3, 0, 0, 0, 0, []) := (congrFun pm_T_takeRow 37).trans rfl
theorem rl_T_takeRow_38 : (am_pg z_T_takeRow).2 38 = some (.iload 5, 40, 5, 0, 0, 0, 0, []) := (congrFun pm_T_takeRow 38).trans rfl
theorem rl_T_takeRow_40 : (am_pg z_T_takeRow).2 40 = some (.invokestatic 23, 43, 74, 2, 0, 65, 0, []) := (congrFun pm_T_takeRow 40).trans rfl
theorem rl_T_takeRow_43 : (am_pg z_T_takeRow).2 43 = some (.ifCond .eq (8), 46, 51, 0, 0, 0, 0, []) := (congrFun pm_T_takeRow 43).trans rfl
theorem rl_T_takeRow_46 : (am_pg z_T_takeRow).2 46 = some (.iconst (-1), 47, 0, 0, 0, 0, -1, []) := (congrFun pm_T_takeRow 46).trans rfl
theorem rl_T_takeRow_47 : (am_pg z_T_takeRow).2 47 = some (.istore_n 2, 48, 2, 0, 0, 0, 0, []) := (congrFun pm_T_takeRow 47).trans rfl
theorem rl_T_takeRow_48 : (am_pg z_T_takeRow).2 48 = some (.goto (23), 51, 71, 0, 0, 0, 0, []) := (congrFun pm_T_takeRow 48).trans rfl
theorem rl_T_takeRow_51 : (am_pg z_T_takeRow).2 51 = some (.iload_n 3, 52, 3, 0, 0, 0, 0, []) := (congrFun pm_T_takeRow 51).trans rfl
theorem rl_T_takeRow_52 : (am_pg z_T_takeRow).2 52 = some (.iconst (1), 53, 0, 0, 0, 0, 1, []) := (congrFun pm_T_takeRow 52).trans rfl
theorem rl_T_takeRow_53 : (am_pg z_T_takeRow).2 53 = some (.iload 5, 55, 5, 0, 0, 0, 0, []) := (congrFun pm_T_takeRow 53).trans rfl
theorem rl_T_takeRow_55 : (am_pg z_T_takeRow).2 55 = some (.ishl, 56, 0, 0, 0, 0, 0, []) := (congrFun pm_T_takeRow 55).trans rfl
theorem rl_T_takeRow_56 : (am_pg z_T_takeRow).2 56 = some (.ior, 57, 0, 0, 0, 0, 0, []) := (congrFun pm_T_takeRow 56).trans rfl
theorem rl_T_takeRow_57 : (am_pg z_T_takeRow).2 57 = some (.istore_n 3, 58, 3, 0, 0, 0, 0, []) := (congrFun pm_T_takeRow 57).trans rfl
theorem rl_T_takeRow_58 : (am_pg z_T_takeRow).2 58 = some (.iload_n 2, 59, 2, 0, 0, 0, 0, []) := (congrFun pm_T_takeRow 58).trans rfl
theorem rl_T_takeRow_59 : (am_pg z_T_takeRow).2 59 = some (.iload 5, 61, 5, 0, 0, 0, 0, []) := (congrFun pm_T_takeRow 59).trans rfl
theorem rl_T_takeRow_61 : (am_pg z_T_takeRow).2 61 = some (.invokestatic 27, 64, 82, 2, 0, 66, 0, []) := (congrFun pm_T_takeRow 61).trans rfl
theorem rl_T_takeRow_64 : (am_pg z_T_takeRow).2 64 = some (.istore_n 2, 65, 2, 0, 0, 0, 0, []) := (congrFun pm_T_takeRow 64).trans rfl
theorem rl_T_takeRow_65 : (am_pg z_T_takeRow).2 65 = some (.iinc 4 (1), 68, 4, 0, 0, 0, 1, []) := (congrFun pm_T_takeRow 65).trans rfl
theorem rl_T_takeRow_68 : (am_pg z_T_takeRow).2 68 = some (.goto (-61), 71, 7, 0, 0, 0, 0, []) := (congrFun pm_T_takeRow 68).trans rfl
theorem rl_T_takeRow_71 : (am_pg z_T_takeRow).2 71 = some (.aload_n 0, 72, 0, 0, 0, 0, 0, []) := (congrFun pm_T_takeRow 71).trans rfl
theorem rl_T_takeRow_72 : (am_pg z_T_takeRow).2 72 = some (.iconst (0), 73, 0, 0, 0, 0, 0, []) := (congrFun pm_T_takeRow 72).trans rfl
theorem rl_T_takeRow_73 : (am_pg z_T_takeRow).2 73 = some (.putfield 15, 76, 7, 1, 0, 40, 0, []) := (congrFun pm_T_takeRow 73).trans rfl
theorem rl_T_takeRow_76 : (am_pg z_T_takeRow).2 76 = some (.iload_n 2, 77, 2, 0, 0, 0, 0, []) := (congrFun pm_T_takeRow 76).trans rfl
theorem rl_T_takeRow_77 : (am_pg z_T_takeRow).2 77 = some (.ireturn, 78, 0, 0, 0, 0, 0, []) := (congrFun pm_T_takeRow 77).trans rfl
theorem rl_T_letterOf_0 : (am_pg z_T_letterOf).2 0 = some (.iload_n 0, 1, 0, 0, 0, 0, 0, []) := (congrFun pm_T_letterOf 0).trans rfl
theorem rl_T_letterOf_1 : (am_pg z_T_letterOf).2 1 = some (.lookupswitch (51) #[(99, 45), (100, 47), (104, 43), (110, 49)], 44, 52, 0, 0, 0, 0, [(99, 46), (100, 48), (104, 44), (110, 50)]) := (congrFun pm_T_letterOf 1).trans rfl
theorem rl_T_letterOf_44 : (am_pg z_T_letterOf).2 44 = some (.iconst (0), 45, 0, 0, 0, 0, 0, []) := (congrFun pm_T_letterOf 44).trans rfl
theorem rl_T_letterOf_45 : (am_pg z_T_letterOf).2 45 = some (.ireturn, 46, 0, 0, 0, 0, 0, []) := (congrFun pm_T_letterOf 45).trans rfl
theorem rl_T_letterOf_46 : (am_pg z_T_letterOf).2 46 = some (.iconst (1), 47, 0, 0, 0, 0, 1, []) := (congrFun pm_T_letterOf 46).trans rfl
theorem rl_T_letterOf_47 : (am_pg z_T_letterOf).2 47 = some (.ireturn, 48, 0, 0, 0, 0, 0, []) := (congrFun pm_T_letterOf 47).trans rfl
theorem rl_T_letterOf_48 : (am_pg z_T_letterOf).2 48 = some (.iconst (2), 49, 0, 0, 0, 0, 2, []) := (congrFun pm_T_letterOf 48).trans rfl
theorem rl_T_letterOf_49 : (am_pg z_T_letterOf).2 49 = some (.ireturn, 50, 0, 0, 0, 0, 0, []) := (congrFun pm_T_letterOf 49).trans rfl
theorem rl_T_letterOf_50 : (am_pg z_T_letterOf).2 50 = some (.iconst (3), 51, 0, 0, 0, 0, 3, []) := (congrFun pm_T_letterOf 50).trans rfl
theorem rl_T_letterOf_51 : (am_pg z_T_letterOf).2 51 = some (.ireturn, 52, 0, 0, 0, 0, 0, []) := (congrFun pm_T_letterOf 51).trans rfl
theorem rl_T_letterOf_52 : (am_pg z_T_letterOf).2 52 = some (.iconst (-1), 53, 0, 0, 0, 0, -1, []) := (congrFun pm_T_letterOf 52).trans rfl
theorem rl_T_letterOf_53 : (am_pg z_T_letterOf).2 53 = some (.ireturn, 54, 0, 0, 0, 0, 0, []) := (congrFun pm_T_letterOf 53).trans rfl
theorem rl_X_bitCount_0 : (am_pg z_X_bitCount).2 0 = some (.iload_n 0, 1, 0, 0, 0, 0, 0, []) := (congrFun pm_X_bitCount 0).trans rfl
theorem rl_X_bitCount_1 : (am_pg z_X_bitCount).2 1 = some (.iload_n 0, 2, 0, 0, 0, 0, 0, []) := (congrFun pm_X_bitCount 1).trans rfl
theorem rl_X_bitCount_2 : (am_pg z_X_bitCount).2 2 = some (.iconst (1), 3, 0, 0, 0, 0, 1, []) := (congrFun pm_X_bitCount 2).trans rfl
theorem rl_X_bitCount_3 : (am_pg z_X_bitCount).2 3 = some (.iushr, 4, 0, 0, 0, 0, 0, []) := (congrFun pm_X_bitCount 3).trans rfl
theorem rl_X_bitCount_4 : (am_pg z_X_bitCount).2 4 = some (.ldc_w 265, 7, 0, 0, 0, 1, 1431655765, []) := (congrFun pm_X_bitCount 4).trans rfl
theorem rl_X_bitCount_7 : (am_pg z_X_bitCount).2 7 = some (.iand, 8, 0, 0, 0, 0, 0, []) := (congrFun pm_X_bitCount 7).trans rfl
theorem rl_X_bitCount_8 : (am_pg z_X_bitCount).2 8 = some (.isub, 9, 0, 0, 0, 0, 0, []) := (congrFun pm_X_bitCount 8).trans rfl
theorem rl_X_bitCount_9 : (am_pg z_X_bitCount).2 9 = some (.istore_n 0, 10, 0, 0, 0, 0, 0, []) := (congrFun pm_X_bitCount 9).trans rfl
theorem rl_X_bitCount_10 : (am_pg z_X_bitCount).2 10 = some (.iload_n 0, 11, 0, 0, 0, 0, 0, []) := (congrFun pm_X_bitCount 10).trans rfl
theorem rl_X_bitCount_11 : (am_pg z_X_bitCount).2 11 = some (.ldc_w 266, 14, 0, 0, 0, 2, 858993459, []) := (congrFun pm_X_bitCount 11).trans rfl
theorem rl_X_bitCount_14 : (am_pg z_X_bitCount).2 14 = some (.iand, 15, 0, 0, 0, 0, 0, []) := (congrFun pm_X_bitCount 14).trans rfl
theorem rl_X_bitCount_15 : (am_pg z_X_bitCount).2 15 = some (.iload_n 0, 16, 0, 0, 0, 0, 0, []) := (congrFun pm_X_bitCount 15).trans rfl
theorem rl_X_bitCount_16 : (am_pg z_X_bitCount).2 16 = some (.iconst (2), 17, 0, 0, 0, 0, 2, []) := (congrFun pm_X_bitCount 16).trans rfl
theorem rl_X_bitCount_17 : (am_pg z_X_bitCount).2 17 = some (.iushr, 18, 0, 0, 0, 0, 0, []) := (congrFun pm_X_bitCount 17).trans rfl
theorem rl_X_bitCount_18 : (am_pg z_X_bitCount).2 18 = some (.ldc_w 266, 21, 0, 0, 0, 2, 858993459, []) := (congrFun pm_X_bitCount 18).trans rfl
theorem rl_X_bitCount_21 : (am_pg z_X_bitCount).2 21 = some (.iand, 22, 0, 0, 0, 0, 0, []) := (congrFun pm_X_bitCount 21).trans rfl
theorem rl_X_bitCount_22 : (am_pg z_X_bitCount).2 22 = some (.iadd, 23, 0, 0, 0, 0, 0, []) := (congrFun pm_X_bitCount 22).trans rfl
theorem rl_X_bitCount_23 : (am_pg z_X_bitCount).2 23 = some (.istore_n 0, 24, 0, 0, 0, 0, 0, []) := (congrFun pm_X_bitCount 23).trans rfl
theorem rl_X_bitCount_24 : (am_pg z_X_bitCount).2 24 = some (.iload_n 0, 25, 0, 0, 0, 0, 0, []) := (congrFun pm_X_bitCount 24).trans rfl
theorem rl_X_bitCount_25 : (am_pg z_X_bitCount).2 25 = some (.iload_n 0, 26, 0, 0, 0, 0, 0, []) := (congrFun pm_X_bitCount 25).trans rfl
theorem rl_X_bitCount_26 : (am_pg z_X_bitCount).2 26 = some (.iconst (4), 27, 0, 0, 0, 0, 4, []) := (congrFun pm_X_bitCount 26).trans rfl
theorem rl_X_bitCount_27 : (am_pg z_X_bitCount).2 27 = some (.iushr, 28, 0, 0, 0, 0, 0, []) := (congrFun pm_X_bitCount 27).trans rfl
theorem rl_X_bitCount_28 : (am_pg z_X_bitCount).2 28 = some (.iadd, 29, 0, 0, 0, 0, 0, []) := (congrFun pm_X_bitCount 28).trans rfl
theorem rl_X_bitCount_29 : (am_pg z_X_bitCount).2 29 = some (.ldc_w 267, 32, 0, 0, 0, 3, 252645135, []) := (congrFun pm_X_bitCount 29).trans rfl
theorem rl_X_bitCount_32 : (am_pg z_X_bitCount).2 32 = some (.iand, 33, 0, 0, 0, 0, 0, []) := (congrFun pm_X_bitCount 32).trans rfl
theorem rl_X_bitCount_33 : (am_pg z_X_bitCount).2 33 = some (.istore_n 0, 34, 0, 0, 0, 0, 0, []) := (congrFun pm_X_bitCount 33).trans rfl
theorem rl_X_bitCount_34 : (am_pg z_X_bitCount).2 34 = some (.iload_n 0, 35, 0, 0, 0, 0, 0, []) := (congrFun pm_X_bitCount 34).trans rfl
theorem rl_X_bitCount_35 : (am_pg z_X_bitCount).2 35 = some (.iload_n 0, 36, 0, 0, 0, 0, 0, []) := (congrFun pm_X_bitCount 35).trans rfl
theorem rl_X_bitCount_36 : (am_pg z_X_bitCount).2 36 = some (.bipush (8), 38, 0, 0, 0, 0, 8, []) := (congrFun pm_X_bitCount 36).trans rfl
theorem rl_X_bitCount_38 : (am_pg z_X_bitCount).2 38 = some (.iushr, 39, 0, 0, 0, 0, 0, []) := (congrFun pm_X_bitCount 38).trans rfl
theorem rl_X_bitCount_39 : (am_pg z_X_bitCount).2 39 = some (.iadd, 40, 0, 0, 0, 0, 0, []) := (congrFun pm_X_bitCount 39).trans rfl
theorem rl_X_bitCount_40 : (am_pg z_X_bitCount).2 40 = some (.istore_n 0, 41, 0, 0, 0, 0, 0, []) := (congrFun pm_X_bitCount 40).trans rfl
theorem rl_X_bitCount_41 : (am_pg z_X_bitCount).2 41 = some (.iload_n 0, 42, 0, 0, 0, 0, 0, []) := (congrFun pm_X_bitCount 41).trans rfl
theorem rl_X_bitCount_42 : (am_pg z_X_bitCount).2 42 = some (.iload_n 0, 43, 0, 0, 0, 0, 0, []) := (congrFun pm_X_bitCount 42).trans rfl
theorem rl_X_bitCount_43 : (am_pg z_X_bitCount).2 43 = some (.bipush (16), 45, 0, 0, 0, 0, 16, []) := (congrFun pm_X_bitCount 43).trans rfl
theorem rl_X_bitCount_45 : (am_pg z_X_bitCount).2 45 = some (.iushr, 46, 0, 0, 0, 0, 0, []) := (congrFun pm_X_bitCount 45).trans rfl
theorem rl_X_bitCount_46 : (am_pg z_X_bitCount).2 46 = some (.iadd, 47, 0, 0, 0, 0, 0, []) := (congrFun pm_X_bitCount 46).trans rfl
theorem rl_X_bitCount_47 : (am_pg z_X_bitCount).2 47 = some (.istore_n 0, 48, 0, 0, 0, 0, 0, []) := (congrFun pm_X_bitCount 47).trans rfl
theorem rl_X_bitCount_48 : (am_pg z_X_bitCount).2 48 = some (.iload_n 0, 49, 0, 0, 0, 0, 0, []) := (congrFun pm_X_bitCount 48).trans rfl
theorem rl_X_bitCount_49 : (am_pg z_X_bitCount).2 49 = some (.bipush (63), 51, 0, 0, 0, 0, 63, []) := (congrFun pm_X_bitCount 49).trans rfl
theorem rl_X_bitCount_51 : (am_pg z_X_bitCount).2 51 = some (.iand, 52, 0, 0, 0, 0, 0, []) := (congrFun pm_X_bitCount 51).trans rfl
theorem rl_X_bitCount_52 : (am_pg z_X_bitCount).2 52 = some (.ireturn, 53, 0, 0, 0, 0, 0, []) := (congrFun pm_X_bitCount 52).trans rfl
theorem rl_X_fill_0 : (am_pg z_X_fill).2 0 = some (.iconst (0), 1, 0, 0, 0, 0, 0, []) := (congrFun pm_X_fill 0).trans rfl
theorem rl_X_fill_1 : (am_pg z_X_fill).2 1 = some (.istore_n 2, 2, 2, 0, 0, 0, 0, []) := (congrFun pm_X_fill 1).trans rfl
theorem rl_X_fill_2 : (am_pg z_X_fill).2 2 = some (.aload_n 0, 3, 0, 0, 0, 0, 0, []) := (congrFun pm_X_fill 2).trans rfl
theorem rl_X_fill_3 : (am_pg z_X_fill).2 3 = some (.arraylength, 4, 0, 0, 0, 0, 0, []) := (congrFun pm_X_fill 3).trans rfl
theorem rl_X_fill_4 : (am_pg z_X_fill).2 4 = some (.istore_n 3, 5, 3, 0, 0, 0, 0, []) := (congrFun pm_X_fill 4).trans rfl
theorem rl_X_fill_5 : (am_pg z_X_fill).2 5 = some (.iload_n 2, 6, 2, 0, 0, 0, 0, []) := (congrFun pm_X_fill 5).trans rfl
theorem rl_X_fill_6 : (am_pg z_X_fill).2 6 = some (.iload_n 3, 7, 3, 0, 0, 0, 0, []) := (congrFun pm_X_fill 6).trans rfl
theorem rl_X_fill_7 : (am_pg z_X_fill).2 7 = some (.if_icmp .ge (13), 10, 20, 0, 0, 0, 0, []) := (congrFun pm_X_fill 7).trans rfl
theorem rl_X_fill_10 : (am_pg z_X_fill).2 10 = some (.aload_n 0, 11, 0, 0, 0, 0, 0, []) := (congrFun pm_X_fill 10).trans rfl
theorem rl_X_fill_11 : (am_pg z_X_fill).2 11 = some (.iload_n 2, 12, 2, 0, 0, 0, 0, []) := (congrFun pm_X_fill 11).trans rfl
theorem rl_X_fill_12 : (am_pg z_X_fill).2 12 = some (.iload_n 1, 13, 1, 0, 0, 0, 0, []) := (congrFun pm_X_fill 12).trans rfl
theorem rl_X_fill_13 : (am_pg z_X_fill).2 13 = some (.iastore, 14, 0, 0, 0, 0, 0, []) := (congrFun pm_X_fill 13).trans rfl
theorem rl_X_fill_14 : (am_pg z_X_fill).2 14 = some (.iinc 2 (1), 17, 2, 0, 0, 0, 1, []) := (congrFun pm_X_fill 14).trans rfl
theorem rl_X_fill_17 : (am_pg z_X_fill).2 17 = some (.goto (-12), 20, 5, 0, 0, 0, 0, []) := (congrFun pm_X_fill 17).trans rfl
theorem rl_X_fill_20 : (am_pg z_X_fill).2 20 = some (.return_, 21, 0, 0, 0, 0, 0, []) := (congrFun pm_X_fill 20).trans rfl
