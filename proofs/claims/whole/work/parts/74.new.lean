theorem pl_L_init : (am_pg z_L_init).1 = 1 := rfl
theorem pm_L_init : (am_pg z_L_init).2 = am_at rw_L_init := rfl
theorem pl_L_keep : (am_pg z_L_keep).1 = 1 := rfl
theorem pm_L_keep : (am_pg z_L_keep).2 = am_at rw_L_keep := rfl
theorem pl_L_undo : (am_pg z_L_undo).1 = 1 := rfl
theorem pm_L_undo : (am_pg z_L_undo).2 = am_at rw_L_undo := rfl
theorem pl_M_init : (am_pg z_M_init).1 = 3 := rfl
theorem pm_M_init : (am_pg z_M_init).2 = am_at rw_M_init := rfl
theorem pl_M_undo : (am_pg z_M_undo).1 = 3 := rfl
theorem pm_M_undo : (am_pg z_M_undo).2 = am_at rw_M_undo := rfl
theorem pl_J_init : (am_pg z_J_init).1 = 2 := rfl
theorem pm_J_init : (am_pg z_J_init).2 = am_at rw_J_init := rfl
theorem pl_P_init : (am_pg z_P_init).1 = 1 := rfl
theorem pm_P_init : (am_pg z_P_init).2 = am_at rw_P_init := rfl
theorem pl_D_init : (am_pg z_D_init).1 = 2 := rfl
theorem pm_D_init : (am_pg z_D_init).2 = am_at rw_D_init := rfl
theorem pl_O_init : (am_pg z_O_init).1 = 2 := rfl
theorem pm_O_init : (am_pg z_O_init).2 = am_at rw_O_init := rfl
theorem pl_R_init : (am_pg z_R_init).1 = 1 := rfl
theorem pm_R_init : (am_pg z_R_init).2 = am_at rw_R_init := rfl
theorem pl_R_copyFrom : (am_pg z_R_copyFrom).1 = 2 := rfl
theorem pm_R_copyFrom : (am_pg z_R_copyFrom).2 = am_at rw_R_copyFrom := rfl
theorem pl_E_init : (am_pg z_E_init).1 = 1 := rfl
theorem pm_E_init : (am_pg z_E_init).2 = am_at rw_E_init := rfl
theorem pl_S_init : (am_pg z_S_init).1 = 1 := rfl
theorem pm_S_init : (am_pg z_S_init).2 = am_at rw_S_init := rfl
theorem pl_S_copyFrom : (am_pg z_S_copyFrom).1 = 2 := rfl
theorem pm_S_copyFrom : (am_pg z_S_copyFrom).2 = am_at rw_S_copyFrom := rfl
theorem pl_T_init : (am_pg z_T_init).1 = 1 := rfl
theorem pm_T_init : (am_pg z_T_init).2 = am_at rw_T_init := rfl
theorem rl_L_init_0 : (am_pg z_L_init).2 0 = some (.aload_n 0, 1, 0, 0, 0, 0, 0, []) := (congrFun pm_L_init 0).trans rfl
theorem rl_L_init_1 : (am_pg z_L_init).2 1 = some (.invokespecial 1, 4, 0, 0, 1, 0, 0, []) := (congrFun pm_L_init 1).trans rfl
theorem rl_L_init_4 : (am_pg z_L_init).2 4 = some (.aload_n 0, 5, 0, 0, 0, 0, 0, []) := (congrFun pm_L_init 4).trans rfl
theorem rl_L_init_5 : (am_pg z_L_init).2 5 = some (.new 7, 8, 6, 0, 0, 1, 0, []) := (congrFun pm_L_init 5).trans rfl
theorem rl_L_init_8 : (am_pg z_L_init).2 8 = some (.dup, 9, 0, 0, 0, 0, 0, []) := (congrFun pm_L_init 8).trans rfl
theorem rl_L_init_9 : (am_pg z_L_init).2 9 = some (.invokespecial 9, 12, 278, 0, 0, 1, 0, []) := (congrFun pm_L_init 9).trans rfl
theorem rl_L_init_12 : (am_pg z_L_init).2 12 = some (.putfield 10, 15, 8, 0, 2, 67, 0, []) := (congrFun pm_L_init 12).trans rfl
theorem rl_L_init_15 : (am_pg z_L_init).2 15 = some (.aload_n 0, 16, 0, 0, 0, 0, 0, []) := (congrFun pm_L_init 15).trans rfl
theorem rl_L_init_16 : (am_pg z_L_init).2 16 = some (.bipush (8), 18, 0, 0, 0, 0, 8, []) := (congrFun pm_L_init 16).trans rfl
theorem rl_L_init_18 : (am_pg z_L_init).2 18 = some (.anewarray 7, 21, 3, 0, 0, 1, 0, []) := (congrFun pm_L_init 18).trans rfl
theorem rl_L_init_21 : (am_pg z_L_init).2 21 = some (.putfield 16, 24, 8, 1, 2, 68, 0, []) := (congrFun pm_L_init 21).trans rfl
theorem rl_L_init_24 : (am_pg z_L_init).2 24 = some (.aload_n 0, 25, 0, 0, 0, 0, 0, []) := (congrFun pm_L_init 24).trans rfl
theorem rl_L_init_25 : (am_pg z_L_init).2 25 = some (.iconst (0), 26, 0, 0, 0, 0, 0, []) := (congrFun pm_L_init 25).trans rfl
theorem rl_L_init_26 : (am_pg z_L_init).2 26 = some (.putfield 20, 29, 8, 2, 0, 69, 0, []) := (congrFun pm_L_init 26).trans rfl
theorem rl_L_init_29 : (am_pg z_L_init).2 29 = some (.aload_n 0, 30, 0, 0, 0, 0, 0, []) := (congrFun pm_L_init 29).trans rfl
theorem rl_L_init_30 : (am_pg z_L_init).2 30 = some (.new 24, 33, 7, 0, 0, 4, 0, []) := (congrFun pm_L_init 30).trans rfl
theorem rl_L_init_33 : (am_pg z_L_init).2 33 = some (.dup, 34, 0, 0, 0, 0, 0, []) := (congrFun pm_L_init 33).trans rfl
theorem rl_L_init_34 : (am_pg z_L_init).2 34 = some (.invokespecial 26, 37, 282, 0, 0, 6, 0, []) := (congrFun pm_L_init 34).trans rfl
theorem rl_L_init_37 : (am_pg z_L_init).2 37 = some (.putfield 27, 40, 8, 3, 2, 70, 0, []) := (congrFun pm_L_init 37).trans rfl
theorem rl_L_init_40 : (am_pg z_L_init).2 40 = some (.aload_n 0, 41, 0, 0, 0, 0, 0, []) := (congrFun pm_L_init 40).trans rfl
theorem rl_L_init_41 : (am_pg z_L_init).2 41 = some (.new 31, 44, 2, 0, 0, 5, 0, []) := (congrFun pm_L_init 41).trans rfl
theorem rl_L_init_44 : (am_pg z_L_init).2 44 = some (.dup, 45, 0, 0, 0, 0, 0, []) := (congrFun pm_L_init 44).trans rfl
theorem rl_L_init_45 : (am_pg z_L_init).2 45 = some (.aload_n 0, 46, 0, 0, 0, 0, 0, []) := (congrFun pm_L_init 45).trans rfl
theorem rl_L_init_46 : (am_pg z_L_init).2 46 = some (.getfield 27, 49, 8, 3, 0, 70, 0, []) := (congrFun pm_L_init 46).trans rfl
theorem rl_L_init_49 : (am_pg z_L_init).2 49 = some (.getfield 33, 52, 7, 0, 0, 39, 0, []) := (congrFun pm_L_init 49).trans rfl
theorem rl_L_init_52 : (am_pg z_L_init).2 52 = some (.invokespecial 37, 55, 244, 1, 0, 7, 0, []) := (congrFun pm_L_init 52).trans rfl
theorem rl_L_init_55 : (am_pg z_L_init).2 55 = some (.putfield 40, 58, 8, 4, 2, 71, 0, []) := (congrFun pm_L_init 55).trans rfl
theorem rl_L_init_58 : (am_pg z_L_init).2 58 = some (.aload_n 0, 59, 0, 0, 0, 0, 0, []) := (congrFun pm_L_init 58).trans rfl
theorem rl_L_init_59 : (am_pg z_L_init).2 59 = some (.new 44, 62, 5, 0, 0, 6, 0, []) := (congrFun pm_L_init 59).trans rfl
theorem rl_L_init_62 : (am_pg z_L_init).2 62 = some (.dup, 63, 0, 0, 0, 0, 0, []) := (congrFun pm_L_init 62).trans rfl
theorem rl_L_init_63 : (am_pg z_L_init).2 63 = some (.invokespecial 46, 66, 273, 0, 0, 8, 0, []) := (congrFun pm_L_init 63).trans rfl
theorem rl_L_init_66 : (am_pg z_L_init).2 66 = some (.putfield 47, 69, 8, 5, 2, 72, 0, []) := (congrFun pm_L_init 66).trans rfl
theorem rl_L_init_69 : (am_pg z_L_init).2 69 = some (.aload_n 0, 70, 0, 0, 0, 0, 0, []) := (congrFun pm_L_init 69).trans rfl
theorem rl_L_init_70 : (am_pg z_L_init).2 70 = some (.new 51, 73, 0, 0, 0, 7, 0, []) := (congrFun pm_L_init 70).trans rfl
theorem rl_L_init_73 : (am_pg z_L_init).2 73 = some (.dup, 74, 0, 0, 0, 0, 0, []) := (congrFun pm_L_init 73).trans rfl
theorem rl_L_init_74 : (am_pg z_L_init).2 74 = some (.aload_n 0, 75, 0, 0, 0, 0, 0, []) := (congrFun pm_L_init 74).trans rfl
theorem rl_L_init_75 : (am_pg z_L_init).2 75 = some (.getfield 10, 78, 8, 0, 0, 67, 0, []) := (congrFun pm_L_init 75).trans rfl
theorem rl_L_init_78 : (am_pg z_L_init).2 78 = some (.invokespecial 53, 81, 209, 1, 0, 9, 0, []) := (congrFun pm_L_init 78).trans rfl
theorem rl_L_init_81 : (am_pg z_L_init).2 81 = some (.putfield 56, 84, 8, 6, 2, 73, 0, []) := (congrFun pm_L_init 81).trans rfl
theorem rl_L_init_84 : (am_pg z_L_init).2 84 = some (.aload_n 0, 85, 0, 0, 0, 0, 0, []) := (congrFun pm_L_init 84).trans rfl
theorem rl_L_init_85 : (am_pg z_L_init).2 85 = some (.new 60, 88, 3, 0, 0, 8, 0, []) := (congrFun pm_L_init 85).trans rfl
theorem rl_L_init_88 : (am_pg z_L_init).2 88 = some (.dup, 89, 0, 0, 0, 0, 0, []) := (congrFun pm_L_init 88).trans rfl
theorem rl_L_init_89 : (am_pg z_L_init).2 89 = some (.aload_n 0, 90, 0, 0, 0, 0, 0, []) := (congrFun pm_L_init 89).trans rfl
theorem rl_L_init_90 : (am_pg z_L_init).2 90 = some (.getfield 10, 93, 8, 0, 0, 67, 0, []) := (congrFun pm_L_init 90).trans rfl
theorem rl_L_init_93 : (am_pg z_L_init).2 93 = some (.getfield 62, 96, 6, 4, 0, 35, 0, []) := (congrFun pm_L_init 93).trans rfl
theorem rl_L_init_96 : (am_pg z_L_init).2 96 = some (.invokespecial 66, 99, 256, 1, 0, 10, 0, []) := (congrFun pm_L_init 96).trans rfl
theorem rl_L_init_99 : (am_pg z_L_init).2 99 = some (.putfield 69, 102, 8, 7, 2, 74, 0, []) := (congrFun pm_L_init 99).trans rfl
theorem rl_L_init_102 : (am_pg z_L_init).2 102 = some (.aload_n 0, 103, 0, 0, 0, 0, 0, []) := (congrFun pm_L_init 102).trans rfl
theorem rl_L_init_103 : (am_pg z_L_init).2 103 = some (.new 73, 106, 1, 0, 0, 9, 0, []) := (congrFun pm_L_init 103).trans rfl
theorem rl_L_init_106 : (am_pg z_L_init).2 106 = some (.dup, 107, 0, 0, 0, 0, 0, []) := (congrFun pm_L_init 106).trans rfl
theorem rl_L_init_107 : (am_pg z_L_init).2 107 = some (.invokespecial 75, 110, 233, 0, 0, 11, 0, []) := (congrFun pm_L_init 107).trans rfl
theorem rl_L_init_110 : (am_pg z_L_init).2 110 = some (.putfield 76, 113, 8, 8, 2, 75, 0, []) := (congrFun pm_L_init 110).trans rfl
theorem rl_L_init_113 : (am_pg z_L_init).2 113 = some (.return_, 114, 0, 0, 0, 0, 0, []) := (congrFun pm_L_init 113).trans rfl
theorem rl_L_keep_0 : (am_pg z_L_keep).2 0 = some (.aload_n 0, 1, 0, 0, 0, 0, 0, []) := (congrFun pm_L_keep 0).trans rfl
theorem rl_L_keep_1 : (am_pg z_L_keep).2 1 = some (.getfield 20, 4, 8, 2, 0, 69, 0, []) := (congrFun pm_L_keep 1).trans rfl
theorem rl_L_keep_4 : (am_pg z_L_keep).2 4 = some (.bipush (8), 6, 0, 0, 0, 0, 8, []) := (congrFun pm_L_keep 4).trans rfl
theorem rl_L_keep_6 : (am_pg z_L_keep).2 6 = some (.if_icmp .lt (5), 9, 11, 0, 0, 0, 0, []) := (congrFun pm_L_keep 6).trans rfl
theorem rl_L_keep_9 : (am_pg z_L_keep).2 9 = some (.iconst (-1), 10, 0, 0, 0, 0, -1, []) := (congrFun pm_L_keep 9).trans rfl
theorem rl_L_keep_10 : (am_pg z_L_keep).2 10 = some (.ireturn, 11, 0, 0, 0, 0, 0, []) := (congrFun pm_L_keep 10).trans rfl
theorem rl_L_keep_11 : (am_pg z_L_keep).2 11 = some (.aload_n 0, 12, 0, 0, 0, 0, 0, []) := (congrFun pm_L_keep 11).trans rfl
theorem rl_L_keep_12 : (am_pg z_L_keep).2 12 = some (.getfield 16, 15, 8, 1, 0, 68, 0, []) := (congrFun pm_L_keep 12).trans rfl
theorem rl_L_keep_15 : (am_pg z_L_keep).2 15 = some (.aload_n 0, 16, 0, 0, 0, 0, 0, []) := (congrFun pm_L_keep 15).trans rfl
theorem rl_L_keep_16 : (am_pg z_L_keep).2 16 = some (.getfield 20, 19, 8, 2, 0, 69, 0, []) := (congrFun pm_L_keep 16).trans rfl
theorem rl_L_keep_19 : (am_pg z_L_keep).2 19 = some (.aaload, 20, 0, 0, 0, 0, 0, []) := (congrFun pm_L_keep 19).trans rfl
theorem rl_L_keep_20 : (am_pg z_L_keep).2 20 = some (.ifnonnull (19), 23, 39, 0, 0, 0, 0, []) := (congrFun pm_L_keep 20).trans rfl
theorem rl_L_keep_23 : (am_pg z_L_keep).2 23 = some (.aload_n 0, 24, 0, 0, 0, 0, 0, []) := (congrFun pm_L_keep 23).trans rfl
theorem rl_L_keep_24 : (am_pg z_L_keep).2 24 = some (.getfield 16, 27, 8, 1, 0, 68, 0, []) := (congrFun pm_L_keep 24).trans rfl
theorem rl_L_keep_27 : (am_pg z_L_keep).2 27 = some (.aload_n 0, 28, 0, 0, 0, 0, 0, []) := (congrFun pm_L_keep 27).trans rfl
theorem rl_L_keep_28 : (am_pg z_L_keep).2 28 = some (.getfield 20, 31, 8, 2, 0, 69, 0, []) := (congrFun pm_L_keep 28).trans rfl
theorem rl_L_keep_31 : (am_pg z_L_keep).2 31 = some (.new 7, 34, 6, 0, 0, 1, 0, []) := (congrFun pm_L_keep 31).trans rfl
theorem rl_L_keep_34 : (am_pg z_L_keep).2 34 = some (.dup, 35, 0, 0, 0, 0, 0, []) := (congrFun pm_L_keep 34).trans rfl
theorem rl_L_keep_35 : (am_pg z_L_keep).2 35 = some (.invokespecial 9, 38, 278, 0, 0, 1, 0, []) := (congrFun pm_L_keep 35).trans rfl
theorem rl_L_keep_38 : (am_pg z_L_keep).2 38 = some (.aastore, 39, 0, 0, 0, 0, 0, []) := (congrFun pm_L_keep 38).trans rfl
theorem rl_L_keep_39 : (am_pg z_L_keep).2 39 = some (.aload_n 0, 40, 0, 0, 0, 0, 0, []) := (congrFun pm_L_keep 39).trans rfl
theorem rl_L_keep_40 : (am_pg z_L_keep).2 40 = some (.getfield 16, 43, 8, 1, 0, 68, 0, []) := (congrFun pm_L_keep 40).trans rfl
theorem rl_L_keep_43 : (am_pg z_L_keep).2 43 = some (.aload_n 0, 44, 0, 0, 0, 0, 0, []) := (congrFun pm_L_keep 43).trans rfl
theorem rl_L_keep_44 : (am_pg z_L_keep).2 44 = some (.getfield 20, 47, 8, 2, 0, 69, 0, []) := (congrFun pm_L_keep 44).trans rfl
theorem rl_L_keep_47 : (am_pg z_L_keep).2 47 = some (.aaload, 48, 0, 0, 0, 0, 0, []) := (congrFun pm_L_keep 47).trans rfl
theorem rl_L_keep_48 : (am_pg z_L_keep).2 48 = some (.aload_n 0, 49, 0, 0, 0, 0, 0, []) := (congrFun pm_L_keep 48).trans rfl
theorem rl_L_keep_49 : (am_pg z_L_keep).2 49 = some (.getfield 10, 52, 8, 0, 0, 67, 0, []) := (congrFun pm_L_keep 49).trans rfl
theorem rl_L_keep_52 : (am_pg z_L_keep).2 52 = some (.invokevirtual 365, 55, 279, 1, 6, 200, 0, []) := (congrFun pm_L_keep 52).trans rfl
theorem rl_L_keep_55 : (am_pg z_L_keep).2 55 = some (.aload_n 0, 56, 0, 0, 0, 0, 0, []) := (congrFun pm_L_keep 55).trans rfl
theorem rl_L_keep_56 : (am_pg z_L_keep).2 56 = some (.dup, 57, 0, 0, 0, 0, 0, []) := (congrFun pm_L_keep 56).trans rfl
theorem rl_L_keep_57 : (am_pg z_L_keep).2 57 = some (.getfield 20, 60, 8, 2, 0, 69, 0, []) := (congrFun pm_L_keep 57).trans rfl
theorem rl_L_keep_60 : (am_pg z_L_keep).2 60 = some (.iconst (1), 61, 0, 0, 0, 0, 1, []) := (congrFun pm_L_keep 60).trans rfl
theorem rl_L_keep_61 : (am_pg z_L_keep).2 61 = some (.iadd, 62, 0, 0, 0, 0, 0, []) := (congrFun pm_L_keep 61).trans rfl
theorem rl_L_keep_62 : (am_pg z_L_keep).2 62 = some (.putfield 20, 65, 8, 2, 0, 69, 0, []) := (congrFun pm_L_keep 62).trans rfl
theorem rl_L_keep_65 : (am_pg z_L_keep).2 65 = some (.aload_n 0, 66, 0, 0, 0, 0, 0, []) := (congrFun pm_L_keep 65).trans rfl
theorem rl_L_keep_66 : (am_pg z_L_keep).2 66 = some (.getfield 20, 69, 8, 2, 0, 69, 0, []) := (congrFun pm_L_keep 66).trans rfl
theorem rl_L_keep_69 : (am_pg z_L_keep).2 69 = some (.ireturn, 70, 0, 0, 0, 0, 0, []) := (congrFun pm_L_keep 69).trans rfl
theorem rl_L_undo_0 : (am_pg z_L_undo).2 0 = some (.aload_n 0, 1, 0, 0, 0, 0, 0, []) := (congrFun pm_L_undo 0).trans rfl
theorem rl_L_undo_1 : (am_pg z_L_undo).2 1 = some (.getfield 20, 4, 8, 2, 0, 69, 0, []) := (congrFun pm_L_undo 1).trans rfl
theorem rl_L_undo_4 : (am_pg z_L_undo).2 4 = some (.ifCond .le (17), 7, 21, 0, 0, 0, 0, []) := (congrFun pm_L_undo 4).trans rfl
theorem rl_L_undo_7 : (am_pg z_L_undo).2 7 = some (.aload_n 0, 8, 0, 0, 0, 0, 0, []) := (congrFun pm_L_undo 7).trans rfl
theorem rl_L_undo_8 : (am_pg z_L_undo).2 8 = some (.getfield 16, 11, 8, 1, 0, 68, 0, []) := (congrFun pm_L_undo 8).trans rfl
theorem rl_L_undo_11 : (am_pg z_L_undo).2 11 = some (.aload_n 0, 12, 0, 0, 0, 0, 0, []) := (congrFun pm_L_undo 11).trans rfl
theorem rl_L_undo_12 : (am_pg z_L_undo).2 12 = some (.getfield 20, 15, 8, 2, 0, 69, 0, []) := (congrFun pm_L_undo 12).trans rfl
theorem rl_L_undo_15 : (am_pg z_L_undo).2 15 = some (.iconst (1), 16, 0, 0, 0, 0, 1, []) := (congrFun pm_L_undo 15).trans rfl
theorem rl_L_undo_16 : (am_pg z_L_undo).2 16 = some (.isub, 17, 0, 0, 0, 0, 0, []) := (congrFun pm_L_undo 16).trans rfl
theorem rl_L_undo_17 : (am_pg z_L_undo).2 17 = some (.aaload, 18, 0, 0, 0, 0, 0, []) := (congrFun pm_L_undo 17).trans rfl
theorem rl_L_undo_18 : (am_pg z_L_undo).2 18 = some (.ifnonnull (5), 21, 23, 0, 0, 0, 0, []) := (congrFun pm_L_undo 18).trans rfl
theorem rl_L_undo_21 : (am_pg z_L_undo).2 21 = some (.iconst (-1), 22, 0, 0, 0, 0, -1, []) := (congrFun pm_L_undo 21).trans rfl
theorem rl_L_undo_22 : (am_pg z_L_undo).2 22 = some (.ireturn, 23, 0, 0, 0, 0, 0, []) := (congrFun pm_L_undo 22).trans rfl
theorem rl_L_undo_23 : (am_pg z_L_undo).2 23 = some (.aload_n 0, 24, 0, 0, 0, 0, 0, []) := (congrFun pm_L_undo 23).trans rfl
theorem rl_L_undo_24 : (am_pg z_L_undo).2 24 = some (.dup, 25, 0, 0, 0, 0, 0, []) := (congrFun pm_L_undo 24).trans rfl
theorem rl_L_undo_25 : (am_pg z_L_undo).2 25 = some (.getfield 20, 28, 8, 2, 0, 69, 0, []) := (congrFun pm_L_undo 25).trans rfl
theorem rl_L_undo_28 : (am_pg z_L_undo).2 28 = some (.iconst (1), 29, 0, 0, 0, 0, 1, []) := (congrFun pm_L_undo 28).trans rfl
theorem rl_L_undo_29 : (am_pg z_L_undo).2 29 = some (.isub, 30, 0, 0, 0, 0, 0, []) := (congrFun pm_L_undo 29).trans rfl
theorem rl_L_undo_30 : (am_pg z_L_undo).2 30 = some (.putfield 20, 33, 8, 2, 0, 69, 0, []) := (congrFun pm_L_undo 30).trans rfl
theorem rl_L_undo_33 : (am_pg z_L_undo).2 33 = some (.aload_n 0, 34, 0, 0, 0, 0, 0, []) := (congrFun pm_L_undo 33).trans rfl
theorem rl_L_undo_34 : (am_pg z_L_undo).2 34 = some (.getfield 10, 37, 8, 0, 0, 67, 0, []) := (congrFun pm_L_undo 34).trans rfl
theorem rl_L_undo_37 : (am_pg z_L_undo).2 37 = some (.aload_n 0, 38, 0, 0, 0, 0, 0, []) := (congrFun pm_L_undo 37).trans rfl
theorem rl_L_undo_38 : (am_pg z_L_undo).2 38 = some (.getfield 16, 41, 8, 1, 0, 68, 0, []) := (congrFun pm_L_undo 38).trans rfl
theorem rl_L_undo_41 : (am_pg z_L_undo).2 41 = some (.aload_n 0, 42, 0, 0, 0, 0, 0, []) := (congrFun pm_L_undo 41).trans rfl
theorem rl_L_undo_42 : (am_pg z_L_undo).2 42 = some (.getfield 20, 45, 8, 2, 0, 69, 0, []) := (congrFun pm_L_undo 42).trans rfl
theorem rl_L_undo_45 : (am_pg z_L_undo).2 45 = some (.aaload, 46, 0, 0, 0, 0, 0, []) := (congrFun pm_L_undo 45).trans rfl
theorem rl_L_undo_46 : (am_pg z_L_undo).2 46 = some (.invokevirtual 365, 49, 279, 1, 6, 200, 0, []) := (congrFun pm_L_undo 46).trans rfl
theorem rl_L_undo_49 : (am_pg z_L_undo).2 49 = some (.aload_n 0, 50, 0, 0, 0, 0, 0, []) := (congrFun pm_L_undo 49).trans rfl
theorem rl_L_undo_50 : (am_pg z_L_undo).2 50 = some (.getfield 20, 53, 8, 2, 0, 69, 0, []) := (congrFun pm_L_undo 50).trans rfl
theorem rl_L_undo_53 : (am_pg z_L_undo).2 53 = some (.ireturn, 54, 0, 0, 0, 0, 0, []) := (congrFun pm_L_undo 53).trans rfl
theorem rl_M_init_0 : (am_pg z_M_init).2 0 = some (.aload_n 0, 1, 0, 0, 0, 0, 0, []) := (congrFun pm_M_init 0).trans rfl
theorem rl_M_init_1 : (am_pg z_M_init).2 1 = some (.invokespecial 1, 4, 0, 0, 1, 9, 0, []) := (congrFun pm_M_init 1).trans rfl
theorem rl_M_init_4 : (am_pg z_M_init).2 4 = some (.aload_n 0, 5, 0, 0, 0, 0, 0, []) := (congrFun pm_M_init 4).trans rfl
theorem rl_M_init_5 : (am_pg z_M_init).2 5 = some (.sipush (1080), 8, 0, 0, 0, 0, 1080, []) := (congrFun pm_M_init 5).trans rfl
theorem rl_M_init_8 : (am_pg z_M_init).2 8 = some (.newarray .int, 10, 0, 0, 0, 0, 0, []) := (congrFun pm_M_init 8).trans rfl
theorem rl_M_init_10 : (am_pg z_M_init).2 10 = some (.putfield 7, 13, 9, 0, 2, 76, 0, []) := (congrFun pm_M_init 10).trans rfl
theorem rl_M_init_13 : (am_pg z_M_init).2 13 = some (.aload_n 0, 14, 0, 0, 0, 0, 0, []) := (congrFun pm_M_init 13).trans rfl
theorem rl_M_init_14 : (am_pg z_M_init).2 14 = some (.sipush (1080), 17, 0, 0, 0, 0, 1080, []) := (congrFun pm_M_init 14).trans rfl
theorem rl_M_init_17 : (am_pg z_M_init).2 17 = some (.newarray .int, 19, 0, 0, 0, 0, 0, []) := (congrFun pm_M_init 17).trans rfl
theorem rl_M_init_19 : (am_pg z_M_init).2 19 = some (.putfield 13, 22, 9, 1, 2, 77, 0, []) := (congrFun pm_M_init 19).trans rfl
theorem rl_M_init_22 : (am_pg z_M_init).2 22 = some (.aload_n 0, 23, 0, 0, 0, 0, 0, []) := (congrFun pm_M_init 22).trans rfl
theorem rl_M_init_23 : (am_pg z_M_init).2 23 = some (.sipush (1080), 26, 0, 0, 0, 0, 1080, []) := (congrFun pm_M_init 23).trans rfl
theorem rl_M_init_26 : (am_pg z_M_init).2 26 = some (.newarray .int, 28, 0, 0, 0, 0, 0, []) := (congrFun pm_M_init 26).trans rfl
theorem rl_M_init_28 : (am_pg z_M_init).2 28 = some (.putfield 16, 31, 9, 2, 2, 78, 0, []) := (congrFun pm_M_init 28).trans rfl
theorem rl_M_init_31 : (am_pg z_M_init).2 31 = some (.aload_n 0, 32, 0, 0, 0, 0, 0, []) := (congrFun pm_M_init 31).trans rfl
theorem rl_M_init_32 : (am_pg z_M_init).2 32 = some (.sipush (1080), 35, 0, 0, 0, 0, 1080, []) := (congrFun pm_M_init 32).trans rfl
theorem rl_M_init_35 : (am_pg z_M_init).2 35 = some (.newarray .int, 37, 0, 0, 0, 0, 0, []) := (congrFun pm_M_init 35).trans rfl
theorem rl_M_init_37 : (am_pg z_M_init).2 37 = some (.putfield 19, 40, 9, 3, 2, 79, 0, []) := (congrFun pm_M_init 37).trans rfl
theorem rl_M_init_40 : (am_pg z_M_init).2 40 = some (.aload_n 0, 41, 0, 0, 0, 0, 0, []) := (congrFun pm_M_init 40).trans rfl
theorem rl_M_init_41 : (am_pg z_M_init).2 41 = some (.sipush (258), 44, 0, 0, 0, 0, 258, []) := (congrFun pm_M_init 41).trans rfl
theorem rl_M_init_44 : (am_pg z_M_init).2 44 = some (.newarray .int, 46, 0, 0, 0, 0, 0, []) := (congrFun pm_M_init 44).trans rfl
theorem rl_M_init_46 : (am_pg z_M_init).2 46 = some (.putfield 22, 49, 9, 4, 2, 80, 0, []) := (congrFun pm_M_init 46).trans rfl
theorem rl_M_init_49 : (am_pg z_M_init).2 49 = some (.aload_n 0, 50, 0, 0, 0, 0, 0, []) := (congrFun pm_M_init 49).trans rfl
theorem rl_M_init_50 : (am_pg z_M_init).2 50 = some (.sipush (320), 53, 0, 0, 0, 0, 320, []) := (congrFun pm_M_init 50).trans rfl
theorem rl_M_init_53 : (am_pg z_M_init).2 53 = some (.newarray .byte, 55, 1, 0, 0, 0, 0, []) := (congrFun pm_M_init 53).trans rfl
theorem rl_M_init_55 : (am_pg z_M_init).2 55 = some (.putfield 25, 58, 9, 6, 2, 82, 0, []) := (congrFun pm_M_init 55).trans rfl
theorem rl_M_init_58 : (am_pg z_M_init).2 58 = some (.aload_n 0, 59, 0, 0, 0, 0, 0, []) := (congrFun pm_M_init 58).trans rfl
theorem rl_M_init_59 : (am_pg z_M_init).2 59 = some (.sipush (240), 62, 0, 0, 0, 0, 240, []) := (congrFun pm_M_init 59).trans rfl
theorem rl_M_init_62 : (am_pg z_M_init).2 62 = some (.newarray .int, 64, 0, 0, 0, 0, 0, []) := (congrFun pm_M_init 62).trans rfl
theorem rl_M_init_64 : (am_pg z_M_init).2 64 = some (.putfield 29, 67, 9, 12, 2, 88, 0, []) := (congrFun pm_M_init 64).trans rfl
theorem rl_M_init_67 : (am_pg z_M_init).2 67 = some (.aload_n 0, 68, 0, 0, 0, 0, 0, []) := (congrFun pm_M_init 67).trans rfl
theorem rl_M_init_68 : (am_pg z_M_init).2 68 = some (.iconst (4), 69, 0, 0, 0, 0, 4, []) := (congrFun pm_M_init 68).trans rfl
theorem rl_M_init_69 : (am_pg z_M_init).2 69 = some (.newarray .int, 71, 0, 0, 0, 0, 0, []) := (congrFun pm_M_init 69).trans rfl
theorem rl_M_init_71 : (am_pg z_M_init).2 71 = some (.putfield 32, 74, 9, 17, 2, 93, 0, []) := (congrFun pm_M_init 71).trans rfl
theorem rl_M_init_74 : (am_pg z_M_init).2 74 = some (.aload_n 0, 75, 0, 0, 0, 0, 0, []) := (congrFun pm_M_init 74).trans rfl
theorem rl_M_init_75 : (am_pg z_M_init).2 75 = some (.sipush (1080), 78, 0, 0, 0, 0, 1080, []) := (congrFun pm_M_init 75).trans rfl
theorem rl_M_init_78 : (am_pg z_M_init).2 78 = some (.newarray .int, 80, 0, 0, 0, 0, 0, []) := (congrFun pm_M_init 78).trans rfl
theorem rl_M_init_80 : (am_pg z_M_init).2 80 = some (.putfield 35, 83, 9, 18, 2, 94, 0, []) := (congrFun pm_M_init 80).trans rfl
theorem rl_M_init_83 : (am_pg z_M_init).2 83 = some (.aload_n 0, 84, 0, 0, 0, 0, 0, []) := (congrFun pm_M_init 83).trans rfl
theorem rl_M_init_84 : (am_pg z_M_init).2 84 = some (.sipush (1080), 87, 0, 0, 0, 0, 1080, []) := (congrFun pm_M_init 84).trans rfl
theorem rl_M_init_87 : (am_pg z_M_init).2 87 = some (.newarray .int, 89, 0, 0, 0, 0, 0, []) := (congrFun pm_M_init 87).trans rfl
theorem rl_M_init_89 : (am_pg z_M_init).2 89 = some (.putfield 38, 92, 9, 19, 2, 95, 0, []) := (congrFun pm_M_init 89).trans rfl
theorem rl_M_init_92 : (am_pg z_M_init).2 92 = some (.aload_n 0, 93, 0, 0, 0, 0, 0, []) := (congrFun pm_M_init 92).trans rfl
theorem rl_M_init_93 : (am_pg z_M_init).2 93 = some (.bipush (54), 95, 0, 0, 0, 0, 54, []) := (congrFun pm_M_init 93).trans rfl
theorem rl_M_init_95 : (am_pg z_M_init).2 95 = some (.newarray .int, 97, 0, 0, 0, 0, 0, []) := (congrFun pm_M_init 95).trans rfl
theorem rl_M_init_97 : (am_pg z_M_init).2 97 = some (.putfield 41, 100, 9, 20, 2, 96, 0, []) := (congrFun pm_M_init 97).trans rfl
theorem rl_M_init_100 : (am_pg z_M_init).2 100 = some (.aload_n 0, 101, 0, 0, 0, 0, 0, []) := (congrFun pm_M_init 100).trans rfl
theorem rl_M_init_101 : (am_pg z_M_init).2 101 = some (.sipush (1081), 104, 0, 0, 0, 0, 1081, []) := (congrFun pm_M_init 101).trans rfl
theorem rl_M_init_104 : (am_pg z_M_init).2 104 = some (.newarray .int, 106, 0, 0, 0, 0, 0, []) := (congrFun pm_M_init 104).trans rfl
theorem rl_M_init_106 : (am_pg z_M_init).2 106 = some (.putfield 44, 109, 9, 21, 2, 97, 0, []) := (congrFun pm_M_init 106).trans rfl
theorem rl_M_init_109 : (am_pg z_M_init).2 109 = some (.aload_n 0, 110, 0, 0, 0, 0, 0, []) := (congrFun pm_M_init 109).trans rfl
theorem rl_M_init_110 : (am_pg z_M_init).2 110 = some (.bipush (7), 112, 0, 0, 0, 0, 7, []) := (congrFun pm_M_init 110).trans rfl
theorem rl_M_init_112 : (am_pg z_M_init).2 112 = some (.newarray .int, 114, 0, 0, 0, 0, 0, []) := (congrFun pm_M_init 112).trans rfl
theorem rl_M_init_114 : (am_pg z_M_init).2 114 = some (.putfield 47, 117, 9, 22, 2, 98, 0, []) := (congrFun pm_M_init 114).trans rfl
theorem rl_M_init_117 : (am_pg z_M_init).2 117 = some (.aload_n 0, 118, 0, 0, 0, 0, 0, []) := (congrFun pm_M_init 117).trans rfl
theorem rl_M_init_118 : (am_pg z_M_init).2 118 = some (.sipush (8640), 121, 0, 0, 0, 0, 8640, []) := (congrFun pm_M_init 118).trans rfl
theorem rl_M_init_121 : (am_pg z_M_init).2 121 = some (.newarray .int, 123, 0, 0, 0, 0, 0, []) := (congrFun pm_M_init 121).trans rfl
theorem rl_M_init_123 : (am_pg z_M_init).2 123 = some (.putfield 50, 126, 9, 24, 2, 100, 0, []) := (congrFun pm_M_init 123).trans rfl
theorem rl_M_init_126 : (am_pg z_M_init).2 126 = some (.aload_n 0, 127, 0, 0, 0, 0, 0, []) := (congrFun pm_M_init 126).trans rfl
theorem rl_M_init_127 : (am_pg z_M_init).2 127 = some (.sipush (2064), 130, 0, 0, 0, 0, 2064, []) := (congrFun pm_M_init 127).trans rfl
theorem rl_M_init_130 : (am_pg z_M_init).2 130 = some (.newarray .int, 132, 0, 0, 0, 0, 0, []) := (congrFun pm_M_init 130).trans rfl
theorem rl_M_init_132 : (am_pg z_M_init).2 132 = some (.putfield 53, 135, 9, 25, 2, 101, 0, []) := (congrFun pm_M_init 132).trans rfl
theorem rl_M_init_135 : (am_pg z_M_init).2 135 = some (.aload_n 0, 136, 0, 0, 0, 0, 0, []) := (congrFun pm_M_init 135).trans rfl
theorem rl_M_init_136 : (am_pg z_M_init).2 136 = some (.bipush (8), 138, 0, 0, 0, 0, 8, []) := (congrFun pm_M_init 136).trans rfl
theorem rl_M_init_138 : (am_pg z_M_init).2 138 = some (.newarray .boolean, 140, 2, 0, 0, 0, 0, []) := (congrFun pm_M_init 138).trans rfl
theorem rl_M_init_140 : (am_pg z_M_init).2 140 = some (.putfield 56, 143, 9, 26, 2, 102, 0, []) := (congrFun pm_M_init 140).trans rfl
theorem rl_M_init_143 : (am_pg z_M_init).2 143 = some (.iconst (0), 144, 0, 0, 0, 0, 0, []) := (congrFun pm_M_init 143).trans rfl
theorem rl_M_init_144 : (am_pg z_M_init).2 144 = some (.istore_n 1, 145, 1, 0, 0, 0, 0, []) := (congrFun pm_M_init 144).trans rfl
theorem rl_M_init_145 : (am_pg z_M_init).2 145 = some (.iload_n 1, 146, 1, 0, 0, 0, 0, []) := (congrFun pm_M_init 145).trans rfl
theorem rl_M_init_146 : (am_pg z_M_init).2 146 = some (.sipush (1080), 149, 0, 0, 0, 0, 1080, []) := (congrFun pm_M_init 146).trans rfl
theorem rl_M_init_149 : (am_pg z_M_init).2 149 = some (.if_icmp .ge (30), 152, 179, 0, 0, 0, 0, []) := (congrFun pm_M_init 149).trans rfl
theorem rl_M_init_152 : (am_pg z_M_init).2 152 = some (.aload_n 0, 153, 0, 0, 0, 0, 0, []) := (congrFun pm_M_init 152).trans rfl
theorem rl_M_init_153 : (am_pg z_M_init).2 153 = some (.getfield 7, 156, 9, 0, 0, 76, 0, []) := (congrFun pm_M_init 153).trans rfl
theorem rl_M_init_156 : (am_pg z_M_init).2 156 = some (.iload_n 1, 157, 1, 0, 0, 0, 0, []) := (congrFun pm_M_init 156).trans rfl
theorem rl_M_init_157 : (am_pg z_M_init).2 157 = some (.iconst (-1), 158, 0, 0, 0, 0, -1, []) := (congrFun pm_M_init 157).trans rfl
theorem rl_M_init_158 : (am_pg z_M_init).2 158 = some (.iastore, 159, 0, 0, 0, 0, 0, []) := (congrFun pm_M_init 158).trans rfl
theorem rl_M_init_159 : (am_pg z_M_init).2 159 = some (.aload_n 0, 160, 0, 0, 0, 0, 0, []) := (congrFun pm_M_init 159).trans rfl
theorem rl_M_init_160 : (am_pg z_M_init).2 160 = some (.getfield 16, 163, 9, 2, 0, 78, 0, []) := (congrFun pm_M_init 160).trans rfl
theorem rl_M_init_163 : (am_pg z_M_init).2 163 = some (.iload_n 1, 164, 1, 0, 0, 0, 0, []) := (congrFun pm_M_init 163).trans rfl
theorem rl_M_init_164 : (am_pg z_M_init).2 164 = some (.iconst (-1), 165, 0, 0, 0, 0, -1, []) := (congrFun pm_M_init 164).trans rfl
theorem rl_M_init_165 : (am_pg z_M_init).2 165 = some (.iastore, 166, 0, 0, 0, 0, 0, []) := (congrFun pm_M_init 165).trans rfl
theorem rl_M_init_166 : (am_pg z_M_init).2 166 = some (.aload_n 0, 167, 0, 0, 0, 0, 0, []) := (congrFun pm_M_init 166).trans rfl
theorem rl_M_init_167 : (am_pg z_M_init).2 167 = some (.getfield 19, 170, 9, 3, 0, 79, 0, []) := (congrFun pm_M_init 167).trans rfl
theorem rl_M_init_170 : (am_pg z_M_init).2 170 = some (.iload_n 1, 171, 1, 0, 0, 0, 0, []) := (congrFun pm_M_init 170).trans rfl
theorem rl_M_init_171 : (am_pg z_M_init).2 171 = some (.iconst (-1), 172, 0, 0, 0, 0, -1, []) := (congrFun pm_M_init 171).trans rfl
theorem rl_M_init_172 : (am_pg z_M_init).2 172 = some (.iastore, 173, 0, 0, 0, 0, 0, []) := (congrFun pm_M_init 172).trans rfl
theorem rl_M_init_173 : (am_pg z_M_init).2 173 = some (.iinc 1 (1), 176, 1, 0, 0, 0, 1, []) := (congrFun pm_M_init 173).trans rfl
theorem rl_M_init_176 : (am_pg z_M_init).2 176 = some (.goto (-31), 179, 145, 0, 0, 0, 0, []) := (congrFun pm_M_init 176).trans rfl
theorem rl_M_init_179 : (am_pg z_M_init).2 179 = some (.iconst (0), 180, 0, 0, 0, 0, 0, []) := (congrFun pm_M_init 179).trans rfl
theorem rl_M_init_180 : (am_pg z_M_init).2 180 = some (.istore_n 1, 181, 1, 0, 0, 0, 0, []) := (congrFun pm_M_init 180).trans rfl
theorem rl_M_init_181 : (am_pg z_M_init).2 181 = some (.iload_n 1, 182, 1, 0, 0, 0, 0, []) := (congrFun pm_M_init 181).trans rfl
theorem rl_M_init_182 : (am_pg z_M_init).2 182 = some (.bipush (6), 184, 0, 0, 0, 0, 6, []) := (congrFun pm_M_init 182).trans rfl
theorem rl_M_init_184 : (am_pg z_M_init).2 184 = some (.if_icmp .ge (40), 187, 224, 0, 0, 0, 0, []) := (congrFun pm_M_init 184).trans rfl
theorem rl_M_init_187 : (am_pg z_M_init).2 187 = some (.aload_n 0, 188, 0, 0, 0, 0, 0, []) := (congrFun pm_M_init 187).trans rfl
theorem rl_M_init_188 : (am_pg z_M_init).2 188 = some (.iload_n 1, 189, 1, 0, 0, 0, 0, []) := (congrFun pm_M_init 188).trans rfl
theorem rl_M_init_189 : (am_pg z_M_init).2 189 = some (.bipush (8), 191, 0, 0, 0, 0, 8, []) := (congrFun pm_M_init 189).trans rfl
theorem rl_M_init_191 : (am_pg z_M_init).2 191 = some (.iconst (4), 192, 0, 0, 0, 0, 4, []) := (congrFun pm_M_init 191).trans rfl
theorem rl_M_init_192 : (am_pg z_M_init).2 192 = some (.invokevirtual 60, 195, 93, 3, 9, 205, 0, []) := (congrFun pm_M_init 192).trans rfl
theorem rl_M_init_195 : (am_pg z_M_init).2 195 = some (.iconst (0), 196, 0, 0, 0, 0, 0, []) := (congrFun pm_M_init 195).trans rfl
theorem rl_M_init_196 : (am_pg z_M_init).2 196 = some (.istore_n 2, 197, 2, 0, 0, 0, 0, []) := (congrFun pm_M_init 196).trans rfl
theorem rl_M_init_197 : (am_pg z_M_init).2 197 = some (.iload_n 2, 198, 2, 0, 0, 0, 0, []) := (congrFun pm_M_init 197).trans rfl
theorem rl_M_init_198 : (am_pg z_M_init).2 198 = some (.iconst (4), 199, 0, 0, 0, 0, 4, []) := (congrFun pm_M_init 198).trans rfl
theorem rl_M_init_199 : (am_pg z_M_init).2 199 = some (.if_icmp .ge (19), 202, 218, 0, 0, 0, 0, []) := (congrFun pm_M_init 199).trans rfl
theorem rl_M_init_202 : (am_pg z_M_init).2 202 = some (.aload_n 0, 203, 0, 0, 0, 0, 0, []) := (congrFun pm_M_init 202).trans rfl
theorem rl_M_init_203 : (am_pg z_M_init).2 203 = some (.iload_n 1, 204, 1, 0, 0, 0, 0, []) := (congrFun pm_M_init 203).trans rfl
theorem rl_M_init_204 : (am_pg z_M_init).2 204 = some (.bipush (9), 206, 0, 0, 0, 0, 9, []) := (congrFun pm_M_init 204).trans rfl
theorem rl_M_init_206 : (am_pg z_M_init).2 206 = some (.iload_n 2, 207, 2, 0, 0, 0, 0, []) := (congrFun pm_M_init 206).trans rfl
theorem rl_M_init_207 : (am_pg z_M_init).2 207 = some (.iadd, 208, 0, 0, 0, 0, 0, []) := (congrFun pm_M_init 207).trans rfl
theorem rl_M_init_208 : (am_pg z_M_init).2 208 = some (.iload_n 2, 209, 2, 0, 0, 0, 0, []) := (congrFun pm_M_init 208).trans rfl
theorem rl_M_init_209 : (am_pg z_M_init).2 209 = some (.invokevirtual 60, 212, 93, 3, 9, 205, 0, []) := (congrFun pm_M_init 209).trans rfl
theorem rl_M_init_212 : (am_pg z_M_init).2 212 = some (.iinc 2 (1), 215, 2, 0, 0, 0, 1, []) := (congrFun pm_M_init 212).trans rfl
theorem rl_M_init_215 : (am_pg z_M_init).2 215 = some (.goto (-18), 218, 197, 0, 0, 0, 0, []) := (congrFun pm_M_init 215).trans rfl
theorem rl_M_init_218 : (am_pg z_M_init).2 218 = some (.iinc 1 (1), 221, 1, 0, 0, 0, 1, []) := (congrFun pm_M_init 218).trans rfl
theorem rl_M_init_221 : (am_pg z_M_init).2 221 = some (.goto (-40), 224, 181, 0, 0, 0, 0, []) := (congrFun pm_M_init 221).trans rfl
theorem rl_M_init_224 : (am_pg z_M_init).2 224 = some (.return_, 225, 0, 0, 0, 0, 0, []) := (congrFun pm_M_init 224).trans rfl
theorem rl_M_undo_0 : (am_pg z_M_undo).2 0 = some (.aload_n 0, 1, 0, 0, 0, 0, 0, []) := (congrFun pm_M_undo 0).trans rfl
theorem rl_M_undo_1 : (am_pg z_M_undo).2 1 = some (.getfield 338, 4, 9, 23, 0, 99, 0, []) := (congrFun pm_M_undo 1).trans rfl
theorem rl_M_undo_4 : (am_pg z_M_undo).2 4 = some (.ifCond .ne (5), 7, 9, 0, 0, 0, 0, []) := (congrFun pm_M_undo 4).trans rfl
theorem rl_M_undo_7 : (am_pg z_M_undo).2 7 = some (.iconst (-1), 8, 0, 0, 0, 0, -1, []) := (congrFun pm_M_undo 7).trans rfl
theorem rl_M_undo_8 : (am_pg z_M_undo).2 8 = some (.ireturn, 9, 0, 0, 0, 0, 0, []) := (congrFun pm_M_undo 8).trans rfl
theorem rl_M_undo_9 : (am_pg z_M_undo).2 9 = some (.aload_n 0, 10, 0, 0, 0, 0, 0, []) := (congrFun pm_M_undo 9).trans rfl
theorem rl_M_undo_10 : (am_pg z_M_undo).2 10 = some (.aload_n 0, 11, 0, 0, 0, 0, 0, []) := (congrFun pm_M_undo 10).trans rfl
theorem rl_M_undo_11 : (am_pg z_M_undo).2 11 = some (.getfield 338, 14, 9, 23, 0, 99, 0, []) := (congrFun pm_M_undo 11).trans rfl
theorem rl_M_undo_14 : (am_pg z_M_undo).2 14 = some (.iconst (1), 15, 0, 0, 0, 0, 1, []) := (congrFun pm_M_undo 14).trans rfl
theorem rl_M_undo_15 : (am_pg z_M_undo).2 15 = some (.isub, 16, 0, 0, 0, 0, 0, []) := (congrFun pm_M_undo 15).trans rfl
theorem rl_M_undo_16 : (am_pg z_M_undo).2 16 = some (.putfield 338, 19, 9, 23, 0, 99, 0, []) := (congrFun pm_M_undo 16).trans rfl
theorem rl_M_undo_19 : (am_pg z_M_undo).2 19 = some (.iconst (0), 20, 0, 0, 0, 0, 0, []) := (congrFun pm_M_undo 19).trans rfl
theorem rl_M_undo_20 : (am_pg z_M_undo).2 20 = some (.istore_n 1, 21, 1, 0, 0, 0, 0, []) := (congrFun pm_M_undo 20).trans rfl
theorem rl_M_undo_21 : (am_pg z_M_undo).2 21 = some (.iload_n 1, 22, 1, 0, 0, 0, 0, []) := (congrFun pm_M_undo 21).trans rfl
theorem rl_M_undo_22 : (am_pg z_M_undo).2 22 = some (.sipush (1080), 25, 0, 0, 0, 0, 1080, []) := (congrFun pm_M_undo 22).trans rfl
theorem rl_M_undo_25 : (am_pg z_M_undo).2 25 = some (.if_icmp .ge (76), 28, 101, 0, 0, 0, 0, []) := (congrFun pm_M_undo 25).trans rfl
theorem rl_M_undo_28 : (am_pg z_M_undo).2 28 = some (.aload_n 0, 29, 0, 0, 0, 0, 0, []) := (congrFun pm_M_undo 28).trans rfl
theorem rl_M_undo_29 : (am_pg z_M_undo).2 29 = some (.getfield 50, 32, 9, 24, 0, 100, 0, []) := (congrFun pm_M_undo 29).trans rfl
theorem rl_M_undo_32 : (am_pg z_M_undo).2 32 = some (.sipush (1080), 35, 0, 0, 0, 0, 1080, []) := (congrFun pm_M_undo 32).trans rfl
theorem rl_M_undo_35 : (am_pg z_M_undo).2 35 = some (.aload_n 0, 36, 0, 0, 0, 0, 0, []) := (congrFun pm_M_undo 35).trans rfl
theorem rl_M_undo_36 : (am_pg z_M_undo).2 36 = some (.getfield 338, 39, 9, 23, 0, 99, 0, []) := (congrFun pm_M_undo 36).trans rfl
theorem rl_M_undo_39 : (am_pg z_M_undo).2 39 = some (.imul, 40, 0, 0, 0, 0, 0, []) := (congrFun pm_M_undo 39).trans rfl
theorem rl_M_undo_40 : (am_pg z_M_undo).2 40 = some (.iload_n 1, 41, 1, 0, 0, 0, 0, []) := (congrFun pm_M_undo 40).trans rfl
theorem rl_M_undo_41 : (am_pg z_M_undo).2 41 = some (.iadd, 42, 0, 0, 0, 0, 0, []) := (congrFun pm_M_undo 41).trans rfl
theorem rl_M_undo_42 : (am_pg z_M_undo).2 42 = some (.iaload, 43, 0, 0, 0, 0, 0, []) := (congrFun pm_M_undo 42).trans rfl
theorem rl_M_undo_43 : (am_pg z_M_undo).2 43 = some (.istore_n 2, 44, 2, 0, 0, 0, 0, []) := (congrFun pm_M_undo 43).trans rfl
theorem rl_M_undo_44 : (am_pg z_M_undo).2 44 = some (.aload_n 0, 45, 0, 0, 0, 0, 0, []) := (congrFun pm_M_undo 44).trans rfl
theorem rl_M_undo_45 : (am_pg z_M_undo).2 45 = some (.getfield 7, 48, 9, 0, 0, 76, 0, []) := (congrFun pm_M_undo 45).trans rfl
theorem rl_M_undo_48 : (am_pg z_M_undo).2 48 = some (.iload_n 1, 49, 1, 0, 0, 0, 0, []) := (congrFun pm_M_undo 48).trans rfl
theorem rl_M_undo_49 : (am_pg z_M_undo).2 49 = some (.iload_n 2, 50, 2, 0, 0, 0, 0, []) := (congrFun pm_M_undo 49).trans rfl
theorem rl_M_undo_50 : (am_pg z_M_undo).2 50 = some (.bipush (7), 52, 0, 0, 0, 0, 7, []) := (congrFun pm_M_undo 50).trans rfl
theorem rl_M_undo_52 : (am_pg z_M_undo).2 52 = some (.iand, 53, 0, 0, 0, 0, 0, []) := (congrFun pm_M_undo 52).trans rfl
theorem rl_M_undo_53 : (am_pg z_M_undo).2 53 = some (.iconst (1), 54, 0, 0, 0, 0, 1, []) := (congrFun pm_M_undo 53).trans rfl
theorem rl_M_undo_54 : (am_pg z_M_undo).2 54 = some (.isub, 55, 0, 0, 0, 0, 0, []) := (congrFun pm_M_undo 54).trans rfl
theorem rl_M_undo_55 : (am_pg z_M_undo).2 55 = some (.iastore, 56, 0, 0, 0, 0, 0, []) := (congrFun pm_M_undo 55).trans rfl
theorem rl_M_undo_56 : (am_pg z_M_undo).2 56 = some (.aload_n 0, 57, 0, 0, 0, 0, 0, []) := (congrFun pm_M_undo 56).trans rfl
theorem rl_M_undo_57 : (am_pg z_M_undo).2 57 = some (.getfield 16, 60, 9, 2, 0, 78, 0, []) := (congrFun pm_M_undo 57).trans rfl
theorem rl_M_undo_60 : (am_pg z_M_undo).2 60 = some (.iload_n 1, 61, 1, 0, 0, 0, 0, []) := (congrFun pm_M_undo 60).trans rfl
theorem rl_M_undo_61 : (am_pg z_M_undo).2 61 = some (.iload_n 2, 62, 2, 0, 0, 0, 0, []) := (congrFun pm_M_undo 61).trans rfl
theorem rl_M_undo_62 : (am_pg z_M_undo).2 62 = some (.iconst (3), 63, 0, 0, 0, 0, 3, []) := (congrFun pm_M_undo 62).trans rfl
theorem rl_M_undo_63 : (am_pg z_M_undo).2 63 = some (.ishr, 64, 0, 0, 0, 0, 0, []) := (congrFun pm_M_undo 63).trans rfl
theorem rl_M_undo_64 : (am_pg z_M_undo).2 64 = some (.bipush (7), 66, 0, 0, 0, 0, 7, []) := (congrFun pm_M_undo 64).trans rfl
theorem rl_M_undo_66 : (am_pg z_M_undo).2 66 = some (.iand, 67, 0, 0, 0, 0, 0, []) := (congrFun pm_M_undo 66).trans rfl
theorem rl_M_undo_67 : (am_pg z_M_undo).2 67 = some (.iconst (1), 68, 0, 0, 0, 0, 1, []) := (congrFun pm_M_undo 67).trans rfl
theorem rl_M_undo_68 : (am_pg z_M_undo).2 68 = some (.isub, 69, 0, 0, 0, 0, 0, []) := (congrFun pm_M_undo 68).trans rfl
theorem rl_M_undo_69 : (am_pg z_M_undo).2 69 = some (.iastore, 70, 0, 0, 0, 0, 0, []) := (congrFun pm_M_undo 69).trans rfl
theorem rl_M_undo_70 : (am_pg z_M_undo).2 70 = some (.aload_n 0, 71, 0, 0, 0, 0, 0, []) := (congrFun pm_M_undo 70).trans rfl
theorem rl_M_undo_71 : (am_pg z_M_undo).2 71 = some (.getfield 19, 74, 9, 3, 0, 79, 0, []) := (congrFun pm_M_undo 71).trans rfl
theorem rl_M_undo_74 : (am_pg z_M_undo).2 74 = some (.iload_n 1, 75, 1, 0, 0, 0, 0, []) := (congrFun pm_M_undo 74).trans rfl
theorem rl_M_undo_75 : (am_pg z_M_undo).2 75 = some (.iload_n 2, 76, 2, 0, 0, 0, 0, []) := (congrFun pm_M_undo 75).trans rfl
theorem rl_M_undo_76 : (am_pg z_M_undo).2 76 = some (.bipush (6), 78, 0, 0, 0, 0, 6, []) := (congrFun pm_M_undo 76).trans rfl
theorem rl_M_undo_78 : (am_pg z_M_undo).2 78 = some (.ishr, 79, 0, 0, 0, 0, 0, []) := (congrFun pm_M_undo 78).trans rfl
theorem rl_M_undo_79 : (am_pg z_M_undo).2 79 = some (.bipush (7), 81, 0, 0, 0, 0, 7, []) := (congrFun pm_M_undo 79).trans rfl
theorem rl_M_undo_81 : (am_pg z_M_undo).2 81 = some (.iand, 82, 0, 0, 0, 0, 0, []) := (congrFun pm_M_undo 81).trans rfl
theorem rl_M_undo_82 : (am_pg z_M_undo).2 82 = some (.iconst (1), 83, 0, 0, 0, 0, 1, []) := (congrFun pm_M_undo 82).trans rfl
theorem rl_M_undo_83 : (am_pg z_M_undo).2 83 = some (.isub, 84, 0, 0, 0, 0, 0, []) := (congrFun pm_M_undo 83).trans rfl
theorem rl_M_undo_84 : (am_pg z_M_undo).2 84 = some (.iastore, 85, 0, 0, 0, 0, 0, []) := (congrFun pm_M_undo 84).trans rfl
theorem rl_M_undo_85 : (am_pg z_M_undo).2 85 = some (.aload_n 0, 86, 0, 0, 0, 0, 0, []) := (congrFun pm_M_undo 85).trans rfl
theorem rl_M_undo_86 : (am_pg z_M_undo).2 86 = some (.getfield 13, 89, 9, 1, 0, 77, 0, []) := (congrFun pm_M_undo 86).trans rfl
theorem rl_M_undo_89 : (am_pg z_M_undo).2 89 = some (.iload_n 1, 90, 1, 0, 0, 0, 0, []) := (congrFun pm_M_undo 89).trans rfl
theorem rl_M_undo_90 : (am_pg z_M_undo).2 90 = some (.iload_n 2, 91, 2, 0, 0, 0, 0, []) := (congrFun pm_M_undo 90).trans rfl
theorem rl_M_undo_91 : (am_pg z_M_undo).2 91 = some (.bipush (9), 93, 0, 0, 0, 0, 9, []) := (congrFun pm_M_undo 91).trans rfl
theorem rl_M_undo_93 : (am_pg z_M_undo).2 93 = some (.ishr, 94, 0, 0, 0, 0, 0, []) := (congrFun pm_M_undo 93).trans rfl
theorem rl_M_undo_94 : (am_pg z_M_undo).2 94 = some (.iastore, 95, 0, 0, 0, 0, 0, []) := (congrFun pm_M_undo 94).trans rfl
theorem rl_M_undo_95 : (am_pg z_M_undo).2 95 = some (.iinc 1 (1), 98, 1, 0, 0, 0, 1, []) := (congrFun pm_M_undo 95).trans rfl
theorem rl_M_undo_98 : (am_pg z_M_undo).2 98 = some (.goto (-77), 101, 21, 0, 0, 0, 0, []) := (congrFun pm_M_undo 98).trans rfl
theorem rl_M_undo_101 : (am_pg z_M_undo).2 101 = some (.iconst (0), 102, 0, 0, 0, 0, 0, []) := (congrFun pm_M_undo 101).trans rfl
theorem rl_M_undo_102 : (am_pg z_M_undo).2 102 = some (.istore_n 1, 103, 1, 0, 0, 0, 0, []) := (congrFun pm_M_undo 102).trans rfl
theorem rl_M_undo_103 : (am_pg z_M_undo).2 103 = some (.iload_n 1, 104, 1, 0, 0, 0, 0, []) := (congrFun pm_M_undo 103).trans rfl
theorem rl_M_undo_104 : (am_pg z_M_undo).2 104 = some (.sipush (258), 107, 0, 0, 0, 0, 258, []) := (congrFun pm_M_undo 104).trans rfl
theorem rl_M_undo_107 : (am_pg z_M_undo).2 107 = some (.if_icmp .ge (30), 110, 137, 0, 0, 0, 0, []) := (congrFun pm_M_undo 107).trans rfl
theorem rl_M_undo_110 : (am_pg z_M_undo).2 110 = some (.aload_n 0, 111, 0, 0, 0, 0, 0, []) := (congrFun pm_M_undo 110).trans rfl
theorem rl_M_undo_111 : (am_pg z_M_undo).2 111 = some (.getfield 22, 114, 9, 4, 0, 80, 0, []) := (congrFun pm_M_undo 111).trans rfl
theorem rl_M_undo_114 : (am_pg z_M_undo).2 114 = some (.iload_n 1, 115, 1, 0, 0, 0, 0, []) := (congrFun pm_M_undo 114).trans rfl
theorem rl_M_undo_115 : (am_pg z_M_undo).2 115 = some (.aload_n 0, 116, 0, 0, 0, 0, 0, []) := (congrFun pm_M_undo 115).trans rfl
theorem rl_M_undo_116 : (am_pg z_M_undo).2 116 = some (.getfield 53, 119, 9, 25, 0, 101, 0, []) := (congrFun pm_M_undo 116).trans rfl
theorem rl_M_undo_119 : (am_pg z_M_undo).2 119 = some (.sipush (258), 122, 0, 0, 0, 0, 258, []) := (congrFun pm_M_undo 119).trans rfl
theorem rl_M_undo_122 : (am_pg z_M_undo).2 122 = some (.aload_n 0, 123, 0, 0, 0, 0, 0, []) := (congrFun pm_M_undo 122).trans rfl
theorem rl_M_undo_123 : (am_pg z_M_undo).2 123 = some (.getfield 338, 126, 9, 23, 0, 99, 0, []) := (congrFun pm_M_undo 123).trans rfl
theorem rl_M_undo_126 : (am_pg z_M_undo).2 126 = some (.imul, 127, 0, 0, 0, 0, 0, []) := (congrFun pm_M_undo 126).trans rfl
theorem rl_M_undo_127 : (am_pg z_M_undo).2 127 = some (.iload_n 1, 128, 1, 0, 0, 0, 0, []) := (congrFun pm_M_undo 127).trans rfl
theorem rl_M_undo_128 : (am_pg z_M_undo).2 128 = some (.iadd, 129, 0, 0, 0, 0, 0, []) := (congrFun pm_M_undo 128).trans rfl
theorem rl_M_undo_129 : (am_pg z_M_undo).2 129 = some (.iaload, 130, 0, 0, 0, 0, 0, []) := (congrFun pm_M_undo 129).trans rfl
theorem rl_M_undo_130 : (am_pg z_M_undo).2 130 = some (.iastore, 131, 0, 0, 0, 0, 0, []) := (congrFun pm_M_undo 130).trans rfl
theorem rl_M_undo_131 : (am_pg z_M_undo).2 131 = some (.iinc 1 (1), 134, 1, 0, 0, 0, 1, []) := (congrFun pm_M_undo 131).trans rfl
theorem rl_M_undo_134 : (am_pg z_M_undo).2 134 = some (.goto (-31), 137, 103, 0, 0, 0, 0, []) := (congrFun pm_M_undo 134).trans rfl
theorem rl_M_undo_137 : (am_pg z_M_undo).2 137 = some (.aload_n 0, 138, 0, 0, 0, 0, 0, []) := (congrFun pm_M_undo 137).trans rfl
theorem rl_M_undo_138 : (am_pg z_M_undo).2 138 = some (.aload_n 0, 139, 0, 0, 0, 0, 0, []) := (congrFun pm_M_undo 138).trans rfl
theorem rl_M_undo_139 : (am_pg z_M_undo).2 139 = some (.getfield 56, 142, 9, 26, 0, 102, 0, []) := (congrFun pm_M_undo 139).trans rfl
theorem rl_M_undo_142 : (am_pg z_M_undo).2 142 = some (.aload_n 0, 143, 0, 0, 0, 0, 0, []) := (congrFun pm_M_undo 142).trans rfl
theorem rl_M_undo_143 : (am_pg z_M_undo).2 143 = some (.getfield 338, 146, 9, 23, 0, 99, 0, []) := (congrFun pm_M_undo 143).trans rfl
theorem rl_M_undo_146 : (am_pg z_M_undo).2 146 = some (.baload, 147, 0, 0, 0, 0, 0, []) := (congrFun pm_M_undo 146).trans rfl
theorem rl_M_undo_147 : (am_pg z_M_undo).2 147 = some (.putfield 244, 150, 9, 5, 1, 81, 0, []) := (congrFun pm_M_undo 147).trans rfl
theorem rl_M_undo_150 : (am_pg z_M_undo).2 150 = some (.aload_n 0, 151, 0, 0, 0, 0, 0, []) := (congrFun pm_M_undo 150).trans rfl
theorem rl_M_undo_151 : (am_pg z_M_undo).2 151 = some (.getfield 338, 154, 9, 23, 0, 99, 0, []) := (congrFun pm_M_undo 151).trans rfl
theorem rl_M_undo_154 : (am_pg z_M_undo).2 154 = some (.ireturn, 155, 0, 0, 0, 0, 0, []) := (congrFun pm_M_undo 154).trans rfl
theorem rl_J_init_0 : (am_pg z_J_init).2 0 = some (.aload_n 0, 1, 0, 0, 0, 0, 0, []) := (congrFun pm_J_init 0).trans rfl
theorem rl_J_init_1 : (am_pg z_J_init).2 1 = some (.invokespecial 3, 4, 0, 0, 1, 7, 0, []) := (congrFun pm_J_init 1).trans rfl
theorem rl_J_init_4 : (am_pg z_J_init).2 4 = some (.aload_n 0, 5, 0, 0, 0, 0, 0, []) := (congrFun pm_J_init 4).trans rfl
theorem rl_J_init_5 : (am_pg z_J_init).2 5 = some (.bipush (18), 7, 0, 0, 0, 0, 18, []) := (congrFun pm_J_init 5).trans rfl
theorem rl_J_init_7 : (am_pg z_J_init).2 7 = some (.newarray .int, 9, 0, 0, 0, 0, 0, []) := (congrFun pm_J_init 7).trans rfl
theorem rl_J_init_9 : (am_pg z_J_init).2 9 = some (.putfield 9, 12, 0, 2, 2, 57, 0, []) := (congrFun pm_J_init 9).trans rfl
theorem rl_J_init_12 : (am_pg z_J_init).2 12 = some (.aload_n 0, 13, 0, 0, 0, 0, 0, []) := (congrFun pm_J_init 12).trans rfl
theorem rl_J_init_13 : (am_pg z_J_init).2 13 = some (.bipush (18), 15, 0, 0, 0, 0, 18, []) := (congrFun pm_J_init 13).trans rfl
theorem rl_J_init_15 : (am_pg z_J_init).2 15 = some (.newarray .int, 17, 0, 0, 0, 0, 0, []) := (congrFun pm_J_init 15).trans rfl
theorem rl_J_init_17 : (am_pg z_J_init).2 17 = some (.putfield 15, 20, 0, 3, 2, 59, 0, []) := (congrFun pm_J_init 17).trans rfl
theorem rl_J_init_20 : (am_pg z_J_init).2 20 = some (.aload_n 0, 21, 0, 0, 0, 0, 0, []) := (congrFun pm_J_init 20).trans rfl
theorem rl_J_init_21 : (am_pg z_J_init).2 21 = some (.bipush (18), 23, 0, 0, 0, 0, 18, []) := (congrFun pm_J_init 21).trans rfl
theorem rl_J_init_23 : (am_pg z_J_init).2 23 = some (.newarray .int, 25, 0, 0, 0, 0, 0, []) := (congrFun pm_J_init 23).trans rfl
theorem rl_J_init_25 : (am_pg z_J_init).2 25 = some (.putfield 18, 28, 0, 4, 2, 60, 0, []) := (congrFun pm_J_init 25).trans rfl
theorem rl_J_init_28 : (am_pg z_J_init).2 28 = some (.aload_n 0, 29, 0, 0, 0, 0, 0, []) := (congrFun pm_J_init 28).trans rfl
theorem rl_J_init_29 : (am_pg z_J_init).2 29 = some (.aload_n 1, 30, 1, 0, 0, 0, 0, []) := (congrFun pm_J_init 29).trans rfl
theorem rl_J_init_30 : (am_pg z_J_init).2 30 = some (.putfield 21, 33, 0, 0, 2, 55, 0, []) := (congrFun pm_J_init 30).trans rfl
theorem rl_J_init_33 : (am_pg z_J_init).2 33 = some (.aload_n 0, 34, 0, 0, 0, 0, 0, []) := (congrFun pm_J_init 33).trans rfl
theorem rl_J_init_34 : (am_pg z_J_init).2 34 = some (.aload_n 1, 35, 1, 0, 0, 0, 0, []) := (congrFun pm_J_init 34).trans rfl
theorem rl_J_init_35 : (am_pg z_J_init).2 35 = some (.getfield 25, 38, 6, 4, 0, 33, 0, []) := (congrFun pm_J_init 35).trans rfl
theorem rl_J_init_38 : (am_pg z_J_init).2 38 = some (.putfield 31, 41, 0, 1, 2, 56, 0, []) := (congrFun pm_J_init 38).trans rfl
theorem rl_J_init_41 : (am_pg z_J_init).2 41 = some (.return_, 42, 0, 0, 0, 0, 0, []) := (congrFun pm_J_init 41).trans rfl
theorem rl_P_init_0 : (am_pg z_P_init).2 0 = some (.aload_n 0, 1, 0, 0, 0, 0, 0, []) := (congrFun pm_P_init 0).trans rfl
theorem rl_P_init_1 : (am_pg z_P_init).2 1 = some (.invokespecial 3, 4, 0, 0, 1, 2, 0, []) := (congrFun pm_P_init 1).trans rfl
theorem rl_P_init_4 : (am_pg z_P_init).2 4 = some (.aload_n 0, 5, 0, 0, 0, 0, 0, []) := (congrFun pm_P_init 4).trans rfl
theorem rl_P_init_5 : (am_pg z_P_init).2 5 = some (.sipush (1080), 8, 0, 0, 0, 0, 1080, []) := (congrFun pm_P_init 5).trans rfl
theorem rl_P_init_8 : (am_pg z_P_init).2 8 = some (.newarray .int, 10, 0, 0, 0, 0, 0, []) := (congrFun pm_P_init 8).trans rfl
theorem rl_P_init_10 : (am_pg z_P_init).2 10 = some (.putfield 9, 13, 1, 0, 2, 0, 0, []) := (congrFun pm_P_init 10).trans rfl
theorem rl_P_init_13 : (am_pg z_P_init).2 13 = some (.aload_n 0, 14, 0, 0, 0, 0, 0, []) := (congrFun pm_P_init 13).trans rfl
theorem rl_P_init_14 : (am_pg z_P_init).2 14 = some (.getfield 9, 17, 1, 0, 0, 0, 0, []) := (congrFun pm_P_init 14).trans rfl
theorem rl_P_init_17 : (am_pg z_P_init).2 17 = some (.iconst (-1), 18, 0, 0, 0, 0, -1, []) := (congrFun pm_P_init 17).trans rfl
theorem rl_P_init_18 : (am_pg z_P_init).2 18 = some (.invokestatic 15, 21, 287, 2, 0, 3, 0, []) := (congrFun pm_P_init 18).trans rfl
theorem rl_P_init_21 : (am_pg z_P_init).2 21 = some (.return_, 22, 0, 0, 0, 0, 0, []) := (congrFun pm_P_init 21).trans rfl
theorem rl_D_init_0 : (am_pg z_D_init).2 0 = some (.aload_n 0, 1, 0, 0, 0, 0, 0, []) := (congrFun pm_D_init 0).trans rfl
theorem rl_D_init_1 : (am_pg z_D_init).2 1 = some (.invokespecial 3, 4, 0, 0, 1, 5, 0, []) := (congrFun pm_D_init 1).trans rfl
theorem rl_D_init_4 : (am_pg z_D_init).2 4 = some (.aload_n 0, 5, 0, 0, 0, 0, 0, []) := (congrFun pm_D_init 4).trans rfl
theorem rl_D_init_5 : (am_pg z_D_init).2 5 = some (.bipush (80), 7, 0, 0, 0, 0, 80, []) := (congrFun pm_D_init 5).trans rfl
theorem rl_D_init_7 : (am_pg z_D_init).2 7 = some (.newarray .int, 9, 0, 0, 0, 0, 0, []) := (congrFun pm_D_init 7).trans rfl
theorem rl_D_init_9 : (am_pg z_D_init).2 9 = some (.putfield 11, 12, 2, 1, 2, 43, 0, []) := (congrFun pm_D_init 9).trans rfl
theorem rl_D_init_12 : (am_pg z_D_init).2 12 = some (.aload_n 0, 13, 0, 0, 0, 0, 0, []) := (congrFun pm_D_init 12).trans rfl
theorem rl_D_init_13 : (am_pg z_D_init).2 13 = some (.bipush (80), 15, 0, 0, 0, 0, 80, []) := (congrFun pm_D_init 13).trans rfl
theorem rl_D_init_15 : (am_pg z_D_init).2 15 = some (.newarray .int, 17, 0, 0, 0, 0, 0, []) := (congrFun pm_D_init 15).trans rfl
theorem rl_D_init_17 : (am_pg z_D_init).2 17 = some (.putfield 15, 20, 2, 2, 2, 44, 0, []) := (congrFun pm_D_init 17).trans rfl
theorem rl_D_init_20 : (am_pg z_D_init).2 20 = some (.aload_n 0, 21, 0, 0, 0, 0, 0, []) := (congrFun pm_D_init 20).trans rfl
theorem rl_D_init_21 : (am_pg z_D_init).2 21 = some (.bipush (80), 23, 0, 0, 0, 0, 80, []) := (congrFun pm_D_init 21).trans rfl
theorem rl_D_init_23 : (am_pg z_D_init).2 23 = some (.newarray .int, 25, 0, 0, 0, 0, 0, []) := (congrFun pm_D_init 23).trans rfl
theorem rl_D_init_25 : (am_pg z_D_init).2 25 = some (.putfield 18, 28, 2, 3, 2, 45, 0, []) := (congrFun pm_D_init 25).trans rfl
theorem rl_D_init_28 : (am_pg z_D_init).2 28 = some (.aload_n 0, 29, 0, 0, 0, 0, 0, []) := (congrFun pm_D_init 28).trans rfl
theorem rl_D_init_29 : (am_pg z_D_init).2 29 = some (.iconst (0), 30, 0, 0, 0, 0, 0, []) := (congrFun pm_D_init 29).trans rfl
theorem rl_D_init_30 : (am_pg z_D_init).2 30 = some (.putfield 21, 33, 2, 4, 0, 46, 0, []) := (congrFun pm_D_init 30).trans rfl
theorem rl_D_init_33 : (am_pg z_D_init).2 33 = some (.aload_n 0, 34, 0, 0, 0, 0, 0, []) := (congrFun pm_D_init 33).trans rfl
theorem rl_D_init_34 : (am_pg z_D_init).2 34 = some (.iconst (0), 35, 0, 0, 0, 0, 0, []) := (congrFun pm_D_init 34).trans rfl
theorem rl_D_init_35 : (am_pg z_D_init).2 35 = some (.putfield 25, 38, 2, 5, 0, 47, 0, []) := (congrFun pm_D_init 35).trans rfl
theorem rl_D_init_38 : (am_pg z_D_init).2 38 = some (.aload_n 0, 39, 0, 0, 0, 0, 0, []) := (congrFun pm_D_init 38).trans rfl
theorem rl_D_init_39 : (am_pg z_D_init).2 39 = some (.iconst (0), 40, 0, 0, 0, 0, 0, []) := (congrFun pm_D_init 39).trans rfl
theorem rl_D_init_40 : (am_pg z_D_init).2 40 = some (.putfield 28, 43, 2, 6, 0, 48, 0, []) := (congrFun pm_D_init 40).trans rfl
theorem rl_D_init_43 : (am_pg z_D_init).2 43 = some (.aload_n 0, 44, 0, 0, 0, 0, 0, []) := (congrFun pm_D_init 43).trans rfl
theorem rl_D_init_44 : (am_pg z_D_init).2 44 = some (.iconst (0), 45, 0, 0, 0, 0, 0, []) := (congrFun pm_D_init 44).trans rfl
theorem rl_D_init_45 : (am_pg z_D_init).2 45 = some (.putfield 31, 48, 2, 7, 0, 49, 0, []) := (congrFun pm_D_init 45).trans rfl
theorem rl_D_init_48 : (am_pg z_D_init).2 48 = some (.aload_n 0, 49, 0, 0, 0, 0, 0, []) := (congrFun pm_D_init 48).trans rfl
theorem rl_D_init_49 : (am_pg z_D_init).2 49 = some (.aload_n 1, 50, 1, 0, 0, 0, 0, []) := (congrFun pm_D_init 49).trans rfl
theorem rl_D_init_50 : (am_pg z_D_init).2 50 = some (.putfield 34, 53, 2, 0, 2, 42, 0, []) := (congrFun pm_D_init 50).trans rfl
theorem rl_D_init_53 : (am_pg z_D_init).2 53 = some (.return_, 54, 0, 0, 0, 0, 0, []) := (congrFun pm_D_init 53).trans rfl
theorem rl_O_init_0 : (am_pg z_O_init).2 0 = some (.aload_n 0, 1, 0, 0, 0, 0, 0, []) := (congrFun pm_O_init 0).trans rfl
theorem rl_O_init_1 : (am_pg z_O_init).2 1 = some (.invokespecial 3, 4, 0, 0, 1, 8, 0, []) := (congrFun pm_O_init 1).trans rfl
theorem rl_O_init_4 : (am_pg z_O_init).2 4 = some (.aload_n 0, 5, 0, 0, 0, 0, 0, []) := (congrFun pm_O_init 4).trans rfl
theorem rl_O_init_5 : (am_pg z_O_init).2 5 = some (.sipush (1081), 8, 0, 0, 0, 0, 1081, []) := (congrFun pm_O_init 5).trans rfl
theorem rl_O_init_8 : (am_pg z_O_init).2 8 = some (.newarray .int, 10, 0, 0, 0, 0, 0, []) := (congrFun pm_O_init 8).trans rfl
theorem rl_O_init_10 : (am_pg z_O_init).2 10 = some (.putfield 9, 13, 3, 1, 2, 62, 0, []) := (congrFun pm_O_init 10).trans rfl
theorem rl_O_init_13 : (am_pg z_O_init).2 13 = some (.aload_n 0, 14, 0, 0, 0, 0, 0, []) := (congrFun pm_O_init 13).trans rfl
theorem rl_O_init_14 : (am_pg z_O_init).2 14 = some (.sipush (1080), 17, 0, 0, 0, 0, 1080, []) := (congrFun pm_O_init 14).trans rfl
theorem rl_O_init_17 : (am_pg z_O_init).2 17 = some (.newarray .int, 19, 0, 0, 0, 0, 0, []) := (congrFun pm_O_init 17).trans rfl
theorem rl_O_init_19 : (am_pg z_O_init).2 19 = some (.putfield 15, 22, 3, 2, 2, 63, 0, []) := (congrFun pm_O_init 19).trans rfl
theorem rl_O_init_22 : (am_pg z_O_init).2 22 = some (.aload_n 0, 23, 0, 0, 0, 0, 0, []) := (congrFun pm_O_init 22).trans rfl
theorem rl_O_init_23 : (am_pg z_O_init).2 23 = some (.sipush (721), 26, 0, 0, 0, 0, 721, []) := (congrFun pm_O_init 23).trans rfl
theorem rl_O_init_26 : (am_pg z_O_init).2 26 = some (.newarray .int, 28, 0, 0, 0, 0, 0, []) := (congrFun pm_O_init 26).trans rfl
theorem rl_O_init_28 : (am_pg z_O_init).2 28 = some (.putfield 18, 31, 3, 3, 2, 64, 0, []) := (congrFun pm_O_init 28).trans rfl
theorem rl_O_init_31 : (am_pg z_O_init).2 31 = some (.aload_n 0, 32, 0, 0, 0, 0, 0, []) := (congrFun pm_O_init 31).trans rfl
theorem rl_O_init_32 : (am_pg z_O_init).2 32 = some (.iconst (0), 33, 0, 0, 0, 0, 0, []) := (congrFun pm_O_init 32).trans rfl
theorem rl_O_init_33 : (am_pg z_O_init).2 33 = some (.putfield 21, 36, 3, 4, 0, 65, 0, []) := (congrFun pm_O_init 33).trans rfl
theorem rl_O_init_36 : (am_pg z_O_init).2 36 = some (.aload_n 0, 37, 0, 0, 0, 0, 0, []) := (congrFun pm_O_init 36).trans rfl
theorem rl_O_init_37 : (am_pg z_O_init).2 37 = some (.iconst (0), 38, 0, 0, 0, 0, 0, []) := (congrFun pm_O_init 37).trans rfl
theorem rl_O_init_38 : (am_pg z_O_init).2 38 = some (.putfield 25, 41, 3, 5, 0, 66, 0, []) := (congrFun pm_O_init 38).trans rfl
theorem rl_O_init_41 : (am_pg z_O_init).2 41 = some (.aload_n 0, 42, 0, 0, 0, 0, 0, []) := (congrFun pm_O_init 41).trans rfl
theorem rl_O_init_42 : (am_pg z_O_init).2 42 = some (.aload_n 1, 43, 1, 0, 0, 0, 0, []) := (congrFun pm_O_init 42).trans rfl
theorem rl_O_init_43 : (am_pg z_O_init).2 43 = some (.putfield 28, 46, 3, 0, 2, 61, 0, []) := (congrFun pm_O_init 43).trans rfl
theorem rl_O_init_46 : (am_pg z_O_init).2 46 = some (.return_, 47, 0, 0, 0, 0, 0, []) := (congrFun pm_O_init 46).trans rfl
theorem rl_R_init_0 : (am_pg z_R_init).2 0 = some (.aload_n 0, 1, 0, 0, 0, 0, 0, []) := (congrFun pm_R_init 0).trans rfl
theorem rl_R_init_1 : (am_pg z_R_init).2 1 = some (.invokespecial 3, 4, 0, 0, 1, 3, 0, []) := (congrFun pm_R_init 1).trans rfl
theorem rl_R_init_4 : (am_pg z_R_init).2 4 = some (.aload_n 0, 5, 0, 0, 0, 0, 0, []) := (congrFun pm_R_init 4).trans rfl
theorem rl_R_init_5 : (am_pg z_R_init).2 5 = some (.bipush (6), 7, 0, 0, 0, 0, 6, []) := (congrFun pm_R_init 5).trans rfl
theorem rl_R_init_7 : (am_pg z_R_init).2 7 = some (.newarray .int, 9, 0, 0, 0, 0, 0, []) := (congrFun pm_R_init 7).trans rfl
theorem rl_R_init_9 : (am_pg z_R_init).2 9 = some (.putfield 9, 12, 4, 0, 2, 4, 0, []) := (congrFun pm_R_init 9).trans rfl
theorem rl_R_init_12 : (am_pg z_R_init).2 12 = some (.aload_n 0, 13, 0, 0, 0, 0, 0, []) := (congrFun pm_R_init 12).trans rfl
theorem rl_R_init_13 : (am_pg z_R_init).2 13 = some (.bipush (6), 15, 0, 0, 0, 0, 6, []) := (congrFun pm_R_init 13).trans rfl
theorem rl_R_init_15 : (am_pg z_R_init).2 15 = some (.newarray .int, 17, 0, 0, 0, 0, 0, []) := (congrFun pm_R_init 15).trans rfl
theorem rl_R_init_17 : (am_pg z_R_init).2 17 = some (.putfield 15, 20, 4, 1, 2, 7, 0, []) := (congrFun pm_R_init 17).trans rfl
theorem rl_R_init_20 : (am_pg z_R_init).2 20 = some (.aload_n 0, 21, 0, 0, 0, 0, 0, []) := (congrFun pm_R_init 20).trans rfl
theorem rl_R_init_21 : (am_pg z_R_init).2 21 = some (.bipush (18), 23, 0, 0, 0, 0, 18, []) := (congrFun pm_R_init 21).trans rfl
theorem rl_R_init_23 : (am_pg z_R_init).2 23 = some (.newarray .int, 25, 0, 0, 0, 0, 0, []) := (congrFun pm_R_init 23).trans rfl
theorem rl_R_init_25 : (am_pg z_R_init).2 25 = some (.putfield 18, 28, 4, 2, 2, 10, 0, []) := (congrFun pm_R_init 25).trans rfl
theorem rl_R_init_28 : (am_pg z_R_init).2 28 = some (.aload_n 0, 29, 0, 0, 0, 0, 0, []) := (congrFun pm_R_init 28).trans rfl
theorem rl_R_init_29 : (am_pg z_R_init).2 29 = some (.bipush (6), 31, 0, 0, 0, 0, 6, []) := (congrFun pm_R_init 29).trans rfl
theorem rl_R_init_31 : (am_pg z_R_init).2 31 = some (.newarray .int, 33, 0, 0, 0, 0, 0, []) := (congrFun pm_R_init 31).trans rfl
theorem rl_R_init_33 : (am_pg z_R_init).2 33 = some (.putfield 21, 36, 4, 3, 2, 12, 0, []) := (congrFun pm_R_init 33).trans rfl
theorem rl_R_init_36 : (am_pg z_R_init).2 36 = some (.aload_n 0, 37, 0, 0, 0, 0, 0, []) := (congrFun pm_R_init 36).trans rfl
theorem rl_R_init_37 : (am_pg z_R_init).2 37 = some (.bipush (6), 39, 0, 0, 0, 0, 6, []) := (congrFun pm_R_init 37).trans rfl
theorem rl_R_init_39 : (am_pg z_R_init).2 39 = some (.newarray .int, 41, 0, 0, 0, 0, 0, []) := (congrFun pm_R_init 39).trans rfl
theorem rl_R_init_41 : (am_pg z_R_init).2 41 = some (.putfield 24, 44, 4, 4, 2, 15, 0, []) := (congrFun pm_R_init 41).trans rfl
theorem rl_R_init_44 : (am_pg z_R_init).2 44 = some (.aload_n 0, 45, 0, 0, 0, 0, 0, []) := (congrFun pm_R_init 44).trans rfl
theorem rl_R_init_45 : (am_pg z_R_init).2 45 = some (.bipush (6), 47, 0, 0, 0, 0, 6, []) := (congrFun pm_R_init 45).trans rfl
theorem rl_R_init_47 : (am_pg z_R_init).2 47 = some (.newarray .int, 49, 0, 0, 0, 0, 0, []) := (congrFun pm_R_init 47).trans rfl
theorem rl_R_init_49 : (am_pg z_R_init).2 49 = some (.putfield 27, 52, 4, 5, 2, 17, 0, []) := (congrFun pm_R_init 49).trans rfl
theorem rl_R_init_52 : (am_pg z_R_init).2 52 = some (.aload_n 0, 53, 0, 0, 0, 0, 0, []) := (congrFun pm_R_init 52).trans rfl
theorem rl_R_init_53 : (am_pg z_R_init).2 53 = some (.bipush (36), 55, 0, 0, 0, 0, 36, []) := (congrFun pm_R_init 53).trans rfl
theorem rl_R_init_55 : (am_pg z_R_init).2 55 = some (.newarray .int, 57, 0, 0, 0, 0, 0, []) := (congrFun pm_R_init 55).trans rfl
theorem rl_R_init_57 : (am_pg z_R_init).2 57 = some (.putfield 30, 60, 4, 6, 2, 19, 0, []) := (congrFun pm_R_init 57).trans rfl
theorem rl_R_init_60 : (am_pg z_R_init).2 60 = some (.aload_n 0, 61, 0, 0, 0, 0, 0, []) := (congrFun pm_R_init 60).trans rfl
theorem rl_R_init_61 : (am_pg z_R_init).2 61 = some (.iconst (0), 62, 0, 0, 0, 0, 0, []) := (congrFun pm_R_init 61).trans rfl
theorem rl_R_init_62 : (am_pg z_R_init).2 62 = some (.putfield 33, 65, 4, 7, 0, 20, 0, []) := (congrFun pm_R_init 62).trans rfl
theorem rl_R_init_65 : (am_pg z_R_init).2 65 = some (.aload_n 0, 66, 0, 0, 0, 0, 0, []) := (congrFun pm_R_init 65).trans rfl
theorem rl_R_init_66 : (am_pg z_R_init).2 66 = some (.getfield 27, 69, 4, 5, 0, 17, 0, []) := (congrFun pm_R_init 66).trans rfl
theorem rl_R_init_69 : (am_pg z_R_init).2 69 = some (.sipush (1828), 72, 0, 0, 0, 0, 1828, []) := (congrFun pm_R_init 69).trans rfl
theorem rl_R_init_72 : (am_pg z_R_init).2 72 = some (.invokestatic 37, 75, 287, 2, 0, 5, 0, []) := (congrFun pm_R_init 72).trans rfl
theorem rl_R_init_75 : (am_pg z_R_init).2 75 = some (.aload_n 0, 76, 0, 0, 0, 0, 0, []) := (congrFun pm_R_init 75).trans rfl
theorem rl_R_init_76 : (am_pg z_R_init).2 76 = some (.getfield 30, 79, 4, 6, 0, 19, 0, []) := (congrFun pm_R_init 76).trans rfl
theorem rl_R_init_79 : (am_pg z_R_init).2 79 = some (.iconst (-1), 80, 0, 0, 0, 0, -1, []) := (congrFun pm_R_init 79).trans rfl
theorem rl_R_init_80 : (am_pg z_R_init).2 80 = some (.invokestatic 37, 83, 287, 2, 0, 5, 0, []) := (congrFun pm_R_init 80).trans rfl
theorem rl_R_init_83 : (am_pg z_R_init).2 83 = some (.return_, 84, 0, 0, 0, 0, 0, []) := (congrFun pm_R_init 83).trans rfl
theorem rl_R_copyFrom_0 : (am_pg z_R_copyFrom).2 0 = some (.aload_n 1, 1, 1, 0, 0, 0, 0, []) := (congrFun pm_R_copyFrom 0).trans rfl
theorem rl_R_copyFrom_1 : (am_pg z_R_copyFrom).2 1 = some (.getfield 9, 4, 4, 0, 0, 4, 0, []) := (congrFun pm_R_copyFrom 1).trans rfl
theorem rl_R_copyFrom_4 : (am_pg z_R_copyFrom).2 4 = some (.iconst (0), 5, 0, 0, 0, 0, 0, []) := (congrFun pm_R_copyFrom 4).trans rfl
theorem rl_R_copyFrom_5 : (am_pg z_R_copyFrom).2 5 = some (.aload_n 0, 6, 0, 0, 0, 0, 0, []) := (congrFun pm_R_copyFrom 5).trans rfl
theorem rl_R_copyFrom_6 : (am_pg z_R_copyFrom).2 6 = some (.getfield 9, 9, 4, 0, 0, 4, 0, []) := (congrFun pm_R_copyFrom 6).trans rfl
theorem rl_R_copyFrom_9 : (am_pg z_R_copyFrom).2 9 = some (.iconst (0), 10, 0, 0, 0, 0, 0, []) := (congrFun pm_R_copyFrom 9).trans rfl
theorem rl_R_copyFrom_10 : (am_pg z_R_copyFrom).2 10 = some (.bipush (6), 12, 0, 0, 0, 0, 6, []) := (congrFun pm_R_copyFrom 10).trans rfl
theorem rl_R_copyFrom_12 : (am_pg z_R_copyFrom).2 12 = some (.invokestatic 43, 15, 0, 5, 1, 3, 0, []) := (congrFun pm_R_copyFrom 12).trans rfl
theorem rl_R_copyFrom_15 : (am_pg z_R_copyFrom).2 15 = some (.aload_n 1, 16, 1, 0, 0, 0, 0, []) := (congrFun pm_R_copyFrom 15).trans rfl
theorem rl_R_copyFrom_16 : (am_pg z_R_copyFrom).2 16 = some (.getfield 15, 19, 4, 1, 0, 7, 0, []) := (congrFun pm_R_copyFrom 16).trans rfl
theorem rl_R_copyFrom_19 : (am_pg z_R_copyFrom).2 19 = some (.iconst (0), 20, 0, 0, 0, 0, 0, []) := (congrFun pm_R_copyFrom 19).trans rfl
theorem rl_R_copyFrom_20 : (am_pg z_R_copyFrom).2 20 = some (.aload_n 0, 21, 0, 0, 0, 0, 0, []) := (congrFun pm_R_copyFrom 20).trans rfl
theorem rl_R_copyFrom_21 : (am_pg z_R_copyFrom).2 21 = some (.getfield 15, 24, 4, 1, 0, 7, 0, []) := (congrFun pm_R_copyFrom 21).trans rfl
theorem rl_R_copyFrom_24 : (am_pg z_R_copyFrom).2 24 = some (.iconst (0), 25, 0, 0, 0, 0, 0, []) := (congrFun pm_R_copyFrom 24).trans rfl
theorem rl_R_copyFrom_25 : (am_pg z_R_copyFrom).2 25 = some (.bipush (6), 27, 0, 0, 0, 0, 6, []) := (congrFun pm_R_copyFrom 25).trans rfl
theorem rl_R_copyFrom_27 : (am_pg z_R_copyFrom).2 27 = some (.invokestatic 43, 30, 0, 5, 1, 3, 0, []) := (congrFun pm_R_copyFrom 27).trans rfl
theorem rl_R_copyFrom_30 : (am_pg z_R_copyFrom).2 30 = some (.aload_n 1, 31, 1, 0, 0, 0, 0, []) := (congrFun pm_R_copyFrom 30).trans rfl
theorem rl_R_copyFrom_31 : (am_pg z_R_copyFrom).2 31 = some (.getfield 18, 34, 4, 2, 0, 10, 0, []) := (congrFun pm_R_copyFrom 31).trans rfl
theorem rl_R_copyFrom_34 : (am_pg z_R_copyFrom).2 34 = some (.iconst (0), 35, 0, 0, 0, 0, 0, []) := (congrFun pm_R_copyFrom 34).trans rfl
theorem rl_R_copyFrom_35 : (am_pg z_R_copyFrom).2 35 = some (.aload_n 0, 36, 0, 0, 0, 0, 0, []) := (congrFun pm_R_copyFrom 35).trans rfl
theorem rl_R_copyFrom_36 : (am_pg z_R_copyFrom).2 36 = some (.getfield 18, 39, 4, 2, 0, 10, 0, []) := (congrFun pm_R_copyFrom 36).trans rfl
theorem rl_R_copyFrom_39 : (am_pg z_R_copyFrom).2 39 = some (.iconst (0), 40, 0, 0, 0, 0, 0, []) := (congrFun pm_R_copyFrom 39).trans rfl
theorem rl_R_copyFrom_40 : (am_pg z_R_copyFrom).2 40 = some (.bipush (18), 42, 0, 0, 0, 0, 18, []) := (congrFun pm_R_copyFrom 40).trans rfl
theorem rl_R_copyFrom_42 : (am_pg z_R_copyFrom).2 42 = some (.invokestatic 43, 45, 0, 5, 1, 3, 0, []) := (congrFun pm_R_copyFrom 42).trans rfl
theorem rl_R_copyFrom_45 : (am_pg z_R_copyFrom).2 45 = some (.aload_n 1, 46, 1, 0, 0, 0, 0, []) := (congrFun pm_R_copyFrom 45).trans rfl
theorem rl_R_copyFrom_46 : (am_pg z_R_copyFrom).2 46 = some (.getfield 21, 49, 4, 3, 0, 12, 0, []) := (congrFun pm_R_copyFrom 46).trans rfl
theorem rl_R_copyFrom_49 : (am_pg z_R_copyFrom).2 49 = some (.iconst (0), 50, 0, 0, 0, 0, 0, []) := (congrFun pm_R_copyFrom 49).trans rfl
theorem rl_R_copyFrom_50 : (am_pg z_R_copyFrom).2 50 = some (.aload_n 0, 51, 0, 0, 0, 0, 0, []) := (congrFun pm_R_copyFrom 50).trans rfl
theorem rl_R_copyFrom_51 : (am_pg z_R_copyFrom).2 51 = some (.getfield 21, 54, 4, 3, 0, 12, 0, []) := (congrFun pm_R_copyFrom 51).trans rfl
theorem rl_R_copyFrom_54 : (am_pg z_R_copyFrom).2 54 = some (.iconst (0), 55, 0, 0, 0, 0, 0, []) := (congrFun pm_R_copyFrom 54).trans rfl
theorem rl_R_copyFrom_55 : (am_pg z_R_copyFrom).2 55 = some (.bipush (6), 57, 0, 0, 0, 0, 6, []) := (congrFun pm_R_copyFrom 55).trans rfl
theorem rl_R_copyFrom_57 : (am_pg z_R_copyFrom).2 57 = some (.invokestatic 43, 60, 0, 5, 1, 3, 0, []) := (congrFun pm_R_copyFrom 57).trans rfl
theorem rl_R_copyFrom_60 : (am_pg z_R_copyFrom).2 60 = some (.aload_n 1, 61, 1, 0, 0, 0, 0, []) := (congrFun pm_R_copyFrom 60).trans rfl
theorem rl_R_copyFrom_61 : (am_pg z_R_copyFrom).2 61 = some (.getfield 24, 64, 4, 4, 0, 15, 0, []) := (congrFun pm_R_copyFrom 61).trans rfl
theorem rl_R_copyFrom_64 : (am_pg z_R_copyFrom).2 64 = some (.iconst (0), 65, 0, 0, 0, 0, 0, []) := (congrFun pm_R_copyFrom 64).trans rfl
theorem rl_R_copyFrom_65 : (am_pg z_R_copyFrom).2 65 = some (.aload_n 0, 66, 0, 0, 0, 0, 0, []) := (congrFun pm_R_copyFrom 65).trans rfl
theorem rl_R_copyFrom_66 : (am_pg z_R_copyFrom).2 66 = some (.getfield 24, 69, 4, 4, 0, 15, 0, []) := (congrFun pm_R_copyFrom 66).trans rfl
theorem rl_R_copyFrom_69 : (am_pg z_R_copyFrom).2 69 = some (.iconst (0), 70, 0, 0, 0, 0, 0, []) := (congrFun pm_R_copyFrom 69).trans rfl
theorem rl_R_copyFrom_70 : (am_pg z_R_copyFrom).2 70 = some (.bipush (6), 72, 0, 0, 0, 0, 6, []) := (congrFun pm_R_copyFrom 70).trans rfl
theorem rl_R_copyFrom_72 : (am_pg z_R_copyFrom).2 72 = some (.invokestatic 43, 75, 0, 5, 1, 3, 0, []) := (congrFun pm_R_copyFrom 72).trans rfl
theorem rl_R_copyFrom_75 : (am_pg z_R_copyFrom).2 75 = some (.aload_n 1, 76, 1, 0, 0, 0, 0, []) := (congrFun pm_R_copyFrom 75).trans rfl
theorem rl_R_copyFrom_76 : (am_pg z_R_copyFrom).2 76 = some (.getfield 27, 79, 4, 5, 0, 17, 0, []) := (congrFun pm_R_copyFrom 76).trans rfl
theorem rl_R_copyFrom_79 : (am_pg z_R_copyFrom).2 79 = some (.iconst (0), 80, 0, 0, 0, 0, 0, []) := (congrFun pm_R_copyFrom 79).trans rfl
theorem rl_R_copyFrom_80 : (am_pg z_R_copyFrom).2 80 = some (.aload_n 0, 81, 0, 0, 0, 0, 0, []) := (congrFun pm_R_copyFrom 80).trans rfl
theorem rl_R_copyFrom_81 : (am_pg z_R_copyFrom).2 81 = some (.getfield 27, 84, 4, 5, 0, 17, 0, []) := (congrFun pm_R_copyFrom 81).trans rfl
theorem rl_R_copyFrom_84 : (am_pg z_R_copyFrom).2 84 = some (.iconst (0), 85, 0, 0, 0, 0, 0, []) := (congrFun pm_R_copyFrom 84).trans rfl
theorem rl_R_copyFrom_85 : (am_pg z_R_copyFrom).2 85 = some (.bipush (6), 87, 0, 0, 0, 0, 6, []) := (congrFun pm_R_copyFrom 85).trans rfl
theorem rl_R_copyFrom_87 : (am_pg z_R_copyFrom).2 87 = some (.invokestatic 43, 90, 0, 5, 1, 3, 0, []) := (congrFun pm_R_copyFrom 87).trans rfl
theorem rl_R_copyFrom_90 : (am_pg z_R_copyFrom).2 90 = some (.aload_n 1, 91, 1, 0, 0, 0, 0, []) := (congrFun pm_R_copyFrom 90).trans rfl
theorem rl_R_copyFrom_91 : (am_pg z_R_copyFrom).2 91 = some (.getfield 30, 94, 4, 6, 0, 19, 0, []) := (congrFun pm_R_copyFrom 91).trans rfl
theorem rl_R_copyFrom_94 : (am_pg z_R_copyFrom).2 94 = some (.iconst (0), 95, 0, 0, 0, 0, 0, []) := (congrFun pm_R_copyFrom 94).trans rfl
theorem rl_R_copyFrom_95 : (am_pg z_R_copyFrom).2 95 = some (.aload_n 0, 96, 0, 0, 0, 0, 0, []) := (congrFun pm_R_copyFrom 95).trans rfl
theorem rl_R_copyFrom_96 : (am_pg z_R_copyFrom).2 96 = some (.getfield 30, 99, 4, 6, 0, 19, 0, []) := (congrFun pm_R_copyFrom 96).trans rfl
theorem rl_R_copyFrom_99 : (am_pg z_R_copyFrom).2 99 = some (.iconst (0), 100, 0, 0, 0, 0, 0, []) := (congrFun pm_R_copyFrom 99).trans rfl
theorem rl_R_copyFrom_100 : (am_pg z_R_copyFrom).2 100 = some (.bipush (36), 102, 0, 0, 0, 0, 36, []) := (congrFun pm_R_copyFrom 100).trans rfl
theorem rl_R_copyFrom_102 : (am_pg z_R_copyFrom).2 102 = some (.invokestatic 43, 105, 0, 5, 1, 3, 0, []) := (congrFun pm_R_copyFrom 102).trans rfl
theorem rl_R_copyFrom_105 : (am_pg z_R_copyFrom).2 105 = some (.aload_n 0, 106, 0, 0, 0, 0, 0, []) := (congrFun pm_R_copyFrom 105).trans rfl
theorem rl_R_copyFrom_106 : (am_pg z_R_copyFrom).2 106 = some (.aload_n 1, 107, 1, 0, 0, 0, 0, []) := (congrFun pm_R_copyFrom 106).trans rfl
theorem rl_R_copyFrom_107 : (am_pg z_R_copyFrom).2 107 = some (.getfield 33, 110, 4, 7, 0, 20, 0, []) := (congrFun pm_R_copyFrom 107).trans rfl
theorem rl_R_copyFrom_110 : (am_pg z_R_copyFrom).2 110 = some (.putfield 33, 113, 4, 7, 0, 20, 0, []) := (congrFun pm_R_copyFrom 110).trans rfl
theorem rl_R_copyFrom_113 : (am_pg z_R_copyFrom).2 113 = some (.return_, 114, 0, 0, 0, 0, 0, []) := (congrFun pm_R_copyFrom 113).trans rfl
theorem rl_E_init_0 : (am_pg z_E_init).2 0 = some (.aload_n 0, 1, 0, 0, 0, 0, 0, []) := (congrFun pm_E_init 0).trans rfl
theorem rl_E_init_1 : (am_pg z_E_init).2 1 = some (.invokespecial 3, 4, 0, 0, 1, 6, 0, []) := (congrFun pm_E_init 1).trans rfl
theorem rl_E_init_4 : (am_pg z_E_init).2 4 = some (.aload_n 0, 5, 0, 0, 0, 0, 0, []) := (congrFun pm_E_init 4).trans rfl
theorem rl_E_init_5 : (am_pg z_E_init).2 5 = some (.iconst (0), 6, 0, 0, 0, 0, 0, []) := (congrFun pm_E_init 5).trans rfl
theorem rl_E_init_6 : (am_pg z_E_init).2 6 = some (.putfield 9, 9, 5, 0, 0, 50, 0, []) := (congrFun pm_E_init 6).trans rfl
theorem rl_E_init_9 : (am_pg z_E_init).2 9 = some (.aload_n 0, 10, 0, 0, 0, 0, 0, []) := (congrFun pm_E_init 9).trans rfl
theorem rl_E_init_10 : (am_pg z_E_init).2 10 = some (.iconst (-1), 11, 0, 0, 0, 0, -1, []) := (congrFun pm_E_init 10).trans rfl
theorem rl_E_init_11 : (am_pg z_E_init).2 11 = some (.putfield 15, 14, 5, 1, 0, 52, 0, []) := (congrFun pm_E_init 11).trans rfl
theorem rl_E_init_14 : (am_pg z_E_init).2 14 = some (.aload_n 0, 15, 0, 0, 0, 0, 0, []) := (congrFun pm_E_init 14).trans rfl
theorem rl_E_init_15 : (am_pg z_E_init).2 15 = some (.bipush (-2), 17, 0, 0, 0, 0, -2, []) := (congrFun pm_E_init 15).trans rfl
theorem rl_E_init_17 : (am_pg z_E_init).2 17 = some (.putfield 18, 20, 5, 2, 0, 53, 0, []) := (congrFun pm_E_init 17).trans rfl
theorem rl_E_init_20 : (am_pg z_E_init).2 20 = some (.return_, 21, 0, 0, 0, 0, 0, []) := (congrFun pm_E_init 20).trans rfl
theorem rl_S_init_0 : (am_pg z_S_init).2 0 = some (.aload_n 0, 1, 0, 0, 0, 0, 0, []) := (congrFun pm_S_init 0).trans rfl
theorem rl_S_init_1 : (am_pg z_S_init).2 1 = some (.invokespecial 3, 4, 0, 0, 1, 1, 0, []) := (congrFun pm_S_init 1).trans rfl
theorem rl_S_init_4 : (am_pg z_S_init).2 4 = some (.aload_n 0, 5, 0, 0, 0, 0, 0, []) := (congrFun pm_S_init 4).trans rfl
theorem rl_S_init_5 : (am_pg z_S_init).2 5 = some (.new 9, 8, 1, 0, 0, 2, 0, []) := (congrFun pm_S_init 5).trans rfl
theorem rl_S_init_8 : (am_pg z_S_init).2 8 = some (.dup, 9, 0, 0, 0, 0, 0, []) := (congrFun pm_S_init 8).trans rfl
theorem rl_S_init_9 : (am_pg z_S_init).2 9 = some (.invokespecial 11, 12, 233, 0, 0, 2, 0, []) := (congrFun pm_S_init 9).trans rfl
theorem rl_S_init_12 : (am_pg z_S_init).2 12 = some (.putfield 12, 15, 6, 0, 2, 23, 0, []) := (congrFun pm_S_init 12).trans rfl
theorem rl_S_init_15 : (am_pg z_S_init).2 15 = some (.aload_n 0, 16, 0, 0, 0, 0, 0, []) := (congrFun pm_S_init 15).trans rfl
theorem rl_S_init_16 : (am_pg z_S_init).2 16 = some (.new 9, 19, 1, 0, 0, 2, 0, []) := (congrFun pm_S_init 16).trans rfl
theorem rl_S_init_19 : (am_pg z_S_init).2 19 = some (.dup, 20, 0, 0, 0, 0, 0, []) := (congrFun pm_S_init 19).trans rfl
theorem rl_S_init_20 : (am_pg z_S_init).2 20 = some (.invokespecial 11, 23, 233, 0, 0, 2, 0, []) := (congrFun pm_S_init 20).trans rfl
theorem rl_S_init_23 : (am_pg z_S_init).2 23 = some (.putfield 18, 26, 6, 1, 2, 25, 0, []) := (congrFun pm_S_init 23).trans rfl
theorem rl_S_init_26 : (am_pg z_S_init).2 26 = some (.aload_n 0, 27, 0, 0, 0, 0, 0, []) := (congrFun pm_S_init 26).trans rfl
theorem rl_S_init_27 : (am_pg z_S_init).2 27 = some (.new 9, 30, 1, 0, 0, 2, 0, []) := (congrFun pm_S_init 27).trans rfl
theorem rl_S_init_30 : (am_pg z_S_init).2 30 = some (.dup, 31, 0, 0, 0, 0, 0, []) := (congrFun pm_S_init 30).trans rfl
theorem rl_S_init_31 : (am_pg z_S_init).2 31 = some (.invokespecial 11, 34, 233, 0, 0, 2, 0, []) := (congrFun pm_S_init 31).trans rfl
theorem rl_S_init_34 : (am_pg z_S_init).2 34 = some (.putfield 21, 37, 6, 2, 2, 28, 0, []) := (congrFun pm_S_init 34).trans rfl
theorem rl_S_init_37 : (am_pg z_S_init).2 37 = some (.aload_n 0, 38, 0, 0, 0, 0, 0, []) := (congrFun pm_S_init 37).trans rfl
theorem rl_S_init_38 : (am_pg z_S_init).2 38 = some (.sipush (1080), 41, 0, 0, 0, 0, 1080, []) := (congrFun pm_S_init 38).trans rfl
theorem rl_S_init_41 : (am_pg z_S_init).2 41 = some (.newarray .int, 43, 0, 0, 0, 0, 0, []) := (congrFun pm_S_init 41).trans rfl
theorem rl_S_init_43 : (am_pg z_S_init).2 43 = some (.putfield 24, 46, 6, 3, 2, 30, 0, []) := (congrFun pm_S_init 43).trans rfl
theorem rl_S_init_46 : (am_pg z_S_init).2 46 = some (.aload_n 0, 47, 0, 0, 0, 0, 0, []) := (congrFun pm_S_init 46).trans rfl
theorem rl_S_init_47 : (am_pg z_S_init).2 47 = some (.new 28, 50, 4, 0, 0, 3, 0, []) := (congrFun pm_S_init 47).trans rfl
theorem rl_S_init_50 : (am_pg z_S_init).2 50 = some (.dup, 51, 0, 0, 0, 0, 0, []) := (congrFun pm_S_init 50).trans rfl
theorem rl_S_init_51 : (am_pg z_S_init).2 51 = some (.invokespecial 30, 54, 266, 0, 0, 4, 0, []) := (congrFun pm_S_init 51).trans rfl
theorem rl_S_init_54 : (am_pg z_S_init).2 54 = some (.putfield 31, 57, 6, 4, 2, 34, 0, []) := (congrFun pm_S_init 54).trans rfl
theorem rl_S_init_57 : (am_pg z_S_init).2 57 = some (.aload_n 0, 58, 0, 0, 0, 0, 0, []) := (congrFun pm_S_init 57).trans rfl
theorem rl_S_init_58 : (am_pg z_S_init).2 58 = some (.iconst (0), 59, 0, 0, 0, 0, 0, []) := (congrFun pm_S_init 58).trans rfl
theorem rl_S_init_59 : (am_pg z_S_init).2 59 = some (.putfield 35, 62, 6, 5, 1, 36, 0, []) := (congrFun pm_S_init 59).trans rfl
theorem rl_S_init_62 : (am_pg z_S_init).2 62 = some (.return_, 63, 0, 0, 0, 0, 0, []) := (congrFun pm_S_init 62).trans rfl
theorem rl_S_copyFrom_0 : (am_pg z_S_copyFrom).2 0 = some (.aload_n 0, 1, 0, 0, 0, 0, 0, []) := (congrFun pm_S_copyFrom 0).trans rfl
theorem rl_S_copyFrom_1 : (am_pg z_S_copyFrom).2 1 = some (.getfield 12, 4, 6, 0, 0, 23, 0, []) := (congrFun pm_S_copyFrom 1).trans rfl
theorem rl_S_copyFrom_4 : (am_pg z_S_copyFrom).2 4 = some (.aload_n 1, 5, 1, 0, 0, 0, 0, []) := (congrFun pm_S_copyFrom 4).trans rfl
theorem rl_S_copyFrom_5 : (am_pg z_S_copyFrom).2 5 = some (.getfield 12, 8, 6, 0, 0, 23, 0, []) := (congrFun pm_S_copyFrom 5).trans rfl
theorem rl_S_copyFrom_8 : (am_pg z_S_copyFrom).2 8 = some (.invokevirtual 39, 11, 234, 1, 1, 201, 0, []) := (congrFun pm_S_copyFrom 8).trans rfl
theorem rl_S_copyFrom_11 : (am_pg z_S_copyFrom).2 11 = some (.aload_n 0, 12, 0, 0, 0, 0, 0, []) := (congrFun pm_S_copyFrom 11).trans rfl
theorem rl_S_copyFrom_12 : (am_pg z_S_copyFrom).2 12 = some (.getfield 18, 15, 6, 1, 0, 25, 0, []) := (congrFun pm_S_copyFrom 12).trans rfl
theorem rl_S_copyFrom_15 : (am_pg z_S_copyFrom).2 15 = some (.aload_n 1, 16, 1, 0, 0, 0, 0, []) := (congrFun pm_S_copyFrom 15).trans rfl
theorem rl_S_copyFrom_16 : (am_pg z_S_copyFrom).2 16 = some (.getfield 18, 19, 6, 1, 0, 25, 0, []) := (congrFun pm_S_copyFrom 16).trans rfl
theorem rl_S_copyFrom_19 : (am_pg z_S_copyFrom).2 19 = some (.invokevirtual 39, 22, 234, 1, 1, 201, 0, []) := (congrFun pm_S_copyFrom 19).trans rfl
theorem rl_S_copyFrom_22 : (am_pg z_S_copyFrom).2 22 = some (.aload_n 0, 23, 0, 0, 0, 0, 0, []) := (congrFun pm_S_copyFrom 22).trans rfl
theorem rl_S_copyFrom_23 : (am_pg z_S_copyFrom).2 23 = some (.getfield 21, 26, 6, 2, 0, 28, 0, []) := (congrFun pm_S_copyFrom 23).trans rfl
theorem rl_S_copyFrom_26 : (am_pg z_S_copyFrom).2 26 = some (.aload_n 1, 27, 1, 0, 0, 0, 0, []) := (congrFun pm_S_copyFrom 26).trans rfl
theorem rl_S_copyFrom_27 : (am_pg z_S_copyFrom).2 27 = some (.getfield 21, 30, 6, 2, 0, 28, 0, []) := (congrFun pm_S_copyFrom 27).trans rfl
theorem rl_S_copyFrom_30 : (am_pg z_S_copyFrom).2 30 = some (.invokevirtual 39, 33, 234, 1, 1, 201, 0, []) := (congrFun pm_S_copyFrom 30).trans rfl
theorem rl_S_copyFrom_33 : (am_pg z_S_copyFrom).2 33 = some (.aload_n 1, 34, 1, 0, 0, 0, 0, []) := (congrFun pm_S_copyFrom 33).trans rfl
theorem rl_S_copyFrom_34 : (am_pg z_S_copyFrom).2 34 = some (.getfield 24, 37, 6, 3, 0, 30, 0, []) := (congrFun pm_S_copyFrom 34).trans rfl
theorem rl_S_copyFrom_37 : (am_pg z_S_copyFrom).2 37 = some (.iconst (0), 38, 0, 0, 0, 0, 0, []) := (congrFun pm_S_copyFrom 37).trans rfl
theorem rl_S_copyFrom_38 : (am_pg z_S_copyFrom).2 38 = some (.aload_n 0, 39, 0, 0, 0, 0, 0, []) := (congrFun pm_S_copyFrom 38).trans rfl
theorem rl_S_copyFrom_39 : (am_pg z_S_copyFrom).2 39 = some (.getfield 24, 42, 6, 3, 0, 30, 0, []) := (congrFun pm_S_copyFrom 39).trans rfl
theorem rl_S_copyFrom_42 : (am_pg z_S_copyFrom).2 42 = some (.iconst (0), 43, 0, 0, 0, 0, 0, []) := (congrFun pm_S_copyFrom 42).trans rfl
theorem rl_S_copyFrom_43 : (am_pg z_S_copyFrom).2 43 = some (.sipush (1080), 46, 0, 0, 0, 0, 1080, []) := (congrFun pm_S_copyFrom 43).trans rfl
theorem rl_S_copyFrom_46 : (am_pg z_S_copyFrom).2 46 = some (.invokestatic 43, 49, 0, 5, 1, 2, 0, []) := (congrFun pm_S_copyFrom 46).trans rfl
theorem rl_S_copyFrom_49 : (am_pg z_S_copyFrom).2 49 = some (.aload_n 0, 50, 0, 0, 0, 0, 0, []) := (congrFun pm_S_copyFrom 49).trans rfl
theorem rl_S_copyFrom_50 : (am_pg z_S_copyFrom).2 50 = some (.getfield 31, 53, 6, 4, 0, 34, 0, []) := (congrFun pm_S_copyFrom 50).trans rfl
theorem rl_S_copyFrom_53 : (am_pg z_S_copyFrom).2 53 = some (.aload_n 1, 54, 1, 0, 0, 0, 0, []) := (congrFun pm_S_copyFrom 53).trans rfl
theorem rl_S_copyFrom_54 : (am_pg z_S_copyFrom).2 54 = some (.getfield 31, 57, 6, 4, 0, 34, 0, []) := (congrFun pm_S_copyFrom 54).trans rfl
theorem rl_S_copyFrom_57 : (am_pg z_S_copyFrom).2 57 = some (.invokevirtual 49, 60, 267, 1, 4, 202, 0, []) := (congrFun pm_S_copyFrom 57).trans rfl
theorem rl_S_copyFrom_60 : (am_pg z_S_copyFrom).2 60 = some (.aload_n 0, 61, 0, 0, 0, 0, 0, []) := (congrFun pm_S_copyFrom 60).trans rfl
theorem rl_S_copyFrom_61 : (am_pg z_S_copyFrom).2 61 = some (.aload_n 1, 62, 1, 0, 0, 0, 0, []) := (congrFun pm_S_copyFrom 61).trans rfl
theorem rl_S_copyFrom_62 : (am_pg z_S_copyFrom).2 62 = some (.getfield 35, 65, 6, 5, 0, 36, 0, []) := (congrFun pm_S_copyFrom 62).trans rfl
theorem rl_S_copyFrom_65 : (am_pg z_S_copyFrom).2 65 = some (.putfield 35, 68, 6, 5, 1, 36, 0, []) := (congrFun pm_S_copyFrom 65).trans rfl
theorem rl_S_copyFrom_68 : (am_pg z_S_copyFrom).2 68 = some (.return_, 69, 0, 0, 0, 0, 0, []) := (congrFun pm_S_copyFrom 68).trans rfl
theorem rl_T_init_0 : (am_pg z_T_init).2 0 = some (.aload_n 0, 1, 0, 0, 0, 0, 0, []) := (congrFun pm_T_init 0).trans rfl
theorem rl_T_init_1 : (am_pg z_T_init).2 1 = some (.invokespecial 3, 4, 0, 0, 1, 4, 0, []) := (congrFun pm_T_init 1).trans rfl
theorem rl_T_init_4 : (am_pg z_T_init).2 4 = some (.aload_n 0, 5, 0, 0, 0, 0, 0, []) := (congrFun pm_T_init 4).trans rfl
theorem rl_T_init_5 : (am_pg z_T_init).2 5 = some (.sipush (320), 8, 0, 0, 0, 0, 320, []) := (congrFun pm_T_init 5).trans rfl
theorem rl_T_init_8 : (am_pg z_T_init).2 8 = some (.newarray .int, 10, 0, 0, 0, 0, 0, []) := (congrFun pm_T_init 8).trans rfl
theorem rl_T_init_10 : (am_pg z_T_init).2 10 = some (.putfield 9, 13, 7, 0, 2, 38, 0, []) := (congrFun pm_T_init 10).trans rfl
theorem rl_T_init_13 : (am_pg z_T_init).2 13 = some (.aload_n 0, 14, 0, 0, 0, 0, 0, []) := (congrFun pm_T_init 13).trans rfl
theorem rl_T_init_14 : (am_pg z_T_init).2 14 = some (.iconst (0), 15, 0, 0, 0, 0, 0, []) := (congrFun pm_T_init 14).trans rfl
theorem rl_T_init_15 : (am_pg z_T_init).2 15 = some (.putfield 15, 18, 7, 1, 0, 40, 0, []) := (congrFun pm_T_init 15).trans rfl
theorem rl_T_init_18 : (am_pg z_T_init).2 18 = some (.return_, 19, 0, 0, 0, 0, 0, []) := (congrFun pm_T_init 18).trans rfl
section
variable {z pc nx a b d q : Nat} {c : Int32} {sw : List (Int32 × Nat)} {ls st : List Value} {fs : List am_F} {h h2 h' : am_H} {v : Option Int32}
theorem fn_new {i n : Nat} (he : (am_pg z).2 pc = some (.new i, nx, a, b, d, q, c, sw)) (hl : h.length = n) (hs : h ++ [.inr (a, am_dv a)] = h2) (k : am_fin ((z, nx, ls, .ref n :: st) :: fs) h2 v h') : am_fin ((z, pc, ls, st) :: fs) h v h' := fn_go he (by simp only [am_step, am_stepK, hl, hs]) k
theorem fn_newarray {ty : _} {i : Int32} {n N : Nat} (he : (am_pg z).2 pc = some (.newarray ty, nx, a, b, d, q, c, sw)) (hi : ¬ (i < 0 ∨ 1000000 ≤ i.toNatClampNeg)) (hN : i.toNatClampNeg = N) (hl : h.length = n) (hs : h ++ [.inl (a, N, .inl (fun _ => 0))] = h2) (k : am_fin ((z, nx, ls, .ref n :: st) :: fs) h2 v h') : am_fin ((z, pc, ls, .int i :: st) :: fs) h v h' := fn_go he (by subst hN; simp only [am_step, am_stepK, if_neg hi, hl, hs]) k
theorem fn_anewarray {j : Nat} {i : Int32} {n N : Nat} (he : (am_pg z).2 pc = some (.anewarray j, nx, a, b, d, q, c, sw)) (hi : ¬ (i < 0 ∨ 1000000 ≤ i.toNatClampNeg)) (hN : i.toNatClampNeg = N) (hl : h.length = n) (hs : h ++ [.inl (3, N, .inr (.inr (.inr (.inr (fun _ => none)))))] = h2) (k : am_fin ((z, nx, ls, .ref n :: st) :: fs) h2 v h') : am_fin ((z, pc, ls, .int i :: st) :: fs) h v h' := fn_go he (by subst hN; simp only [am_step, am_stepK, if_neg hi, hl, hs]) k
theorem fn_aast {o n w : Nat} {f : Nat → Option Nat} {i : Int32} {fv : List Value} (he : (am_pg z).2 pc = some (.aastore, nx, a, b, d, q, c, sw)) (hh : h[o + 1]? = some (.inl (3, n, .inr (.inr (.inr (.inr f)))))) (hw : h[w + 1]? = some (.inr (6, fv))) (hs : h.set (o + 1) (.inl (3, n, .inr (.inr (.inr (.inr (va_up f i.toNatClampNeg (some (w + 1)))))))) = h2) (hi : ¬ (i < 0 ∨ n ≤ i.toNatClampNeg)) (k : am_fin ((z, nx, ls, st) :: fs) h2 v h') : am_fin ((z, pc, ls, .ref (w + 1) :: .int i :: .ref (o + 1) :: st) :: fs) h v h' := fn_go he (by simp only [am_step, am_stepK, hh, hw, if_neg hi, hs]) k
end
theorem am_pf1b {x : Int32} {b : Nat} {f : List Value} (h : x = 0 ∨ x = 1) (hb : Nat.blt b f.length = true := by rfl) : (am_pf 1 (.int x) && Nat.blt b f.length) = true := by
  rw [hb, am_pf1 h]; rfl
theorem ga {P Q : am_H} {m : Nat} {c : am_C} (e1 : P.length = m + 1) (j : Nat) (hj : Q[j]? = some c) : (P ++ Q)[m + 1 + j]? = some c := by
  rw [List.getElem?_append_right (by omega), show m + 1 + j - P.length = j by omega, hj]
theorem gas {P Q Q2 : am_H} {m : Nat} {c : am_C} (e1 : P.length = m + 1) (j : Nat) (hj : Q.set j c = Q2) : (P ++ Q).set (m + 1 + j) c = P ++ Q2 := by
  rw [List.set_append_right _ _ (by omega), show m + 1 + j - P.length = j by omega, hj]
theorem gan {P Q : am_H} {m n : Nat} (e1 : P.length = m + 1) (hn : Q.length = n) : (P ++ Q).length = m + 1 + n := by
  rw [List.length_append, e1, hn]
theorem gap {P Q Q2 : am_H} {c : am_C} (hq : Q ++ [c] = Q2) : (P ++ Q) ++ [c] = P ++ Q2 := by
  rw [List.append_assoc, hq]
theorem hp_53 {L : Nat} {xs : Nat → Int32} {A V : Nat → Nat → Int32} {K : Nat → Option Nat} {T : am_H} (j : Nat) : (hp L xs A V K T)[j + 53]? = T[j]? := rfl
theorem hp_app {L : Nat} {xs : Nat → Int32} {A V : Nat → Nat → Int32} {K : Nat → Option Nat} {T U : am_H} : hp L xs A V K T ++ U = hp L xs A V K (T ++ U) := rfl
theorem hps_53 {L : Nat} {xs : Nat → Int32} {A V : Nat → Nat → Int32} {K : Nat → Option Nat} {T : am_H} (j : Nat) (c : am_C) : (hp L xs A V K T).set (j + 53) c = hp L xs A V K (T.set j c) := rfl
theorem hp_len {L : Nat} {xs : Nat → Int32} {A V : Nat → Nat → Int32} {K : Nat → Option Nat} {T : am_H} : (hp L xs A V K T).length = T.length + 53 := rfl
theorem ht {L : Nat} {xs : Nat → Int32} {A V : Nat → Nat → Int32} {K : Nat → Option Nat} {T1 S Q : am_H} {q : Nat} {c : am_C} (e1 : T1.length = q) (j : Nat) (hj : S[j]? = some c) : (hp L xs A V K (T1 ++ (S ++ Q)))[q + 53 + j]? = some c := by
  have hl : j < S.length := by
    by_cases hl : j < S.length
    · exact hl
    · rw [List.getElem?_eq_none (by omega)] at hj; cases hj
  rw [show q + 53 + j = (q + j) + 53 by omega, hp_53, List.getElem?_append_right (by omega), show q + j - T1.length = j by omega, List.getElem?_append_left hl, hj]
theorem hts {L : Nat} {xs : Nat → Int32} {A V : Nat → Nat → Int32} {K : Nat → Option Nat} {T1 S S2 Q : am_H} {q : Nat} {c : am_C} (e1 : T1.length = q) (j : Nat) (hj : S.set j c = S2) (hl : Nat.blt j S.length = true := by rfl) : (hp L xs A V K (T1 ++ (S ++ Q))).set (q + 53 + j) c = hp L xs A V K (T1 ++ (S2 ++ Q)) := by
  have hl' : j < S.length := by rw [Nat.blt_eq] at hl; exact hl
  rw [show q + 53 + j = (q + j) + 53 by omega, hps_53, List.set_append_right _ _ (by omega), show q + j - T1.length = j by omega, List.set_append_left _ _ hl', hj]
theorem X_fill_c {h h2 : am_H} {o n : Nat} {f : Nat → Int32} {x : Int32} (hh : h[o + 1]? = some (.inl (0, n, .inl f))) (hs : h.set (o + 1) (.inl (0, n, .inl (fl f 0 n x))) = h2) (hn : n < 2 ^ 31) : am_fin [(z_X_fill, 0, [.ref (o + 1), .int x, .null, .null], [])] h none h2 := by
  have hlt : o + 1 < h.length := by
    by_cases hl : o + 1 < h.length
    · exact hl
    · rw [List.getElem?_eq_none (by omega)] at hh; cases hh
  have h0 : h.set (o + 1) (.inl (0, n, .inl (fl f 0 0 x))) = h := by
    rw [fl_0]
    obtain ⟨hl, e⟩ := List.getElem?_eq_some_iff.mp hh
    rw [← e]
    exact List.set_getElem_self hl
  have key := am_iter (fun k => ([(z_X_fill, 5, [.ref (o + 1), .int x, .int (nI k), .int (Int32.ofNat n)], [])], h.set (o + 1) (.inl (0, n, .inl (fl f 0 k x))))) n (v := none) (h' := h2) (fun k hk H => by
    refine fn_iload_n rl_X_fill_5 rfl (fn_iload_n rl_X_fill_6 rfl (fn_icmp_ge_f rl_X_fill_7 ?_ (fn_aload_n rl_X_fill_10 rfl (fn_iload_n rl_X_fill_11 rfl (fn_iload_n rl_X_fill_12 rfl (fn_iast (P := True) rl_X_fill_13 (List.getElem?_set_self hlt) rfl (fun _ => ?_) ⟨nI_inb (by omega) hk, trivial⟩))))))
    · show ¬ nI n ≤ nI k
      simp (disch := omega) only [nI_leI]; omega
    · refine fn_iinc (ls' := [.ref (o + 1), .int x, .int (nI k + 1), .int (Int32.ofNat n)]) rl_X_fill_14 rfl rfl rfl (fn_goto rl_X_fill_17 ?_)
      rw [nI_clamp (by omega), List.set_set]
      have e : upd (fl f 0 k x) k x = fl f 0 (k + 1) x := by
        have := fl_s f 0 k x
        rw [Nat.zero_add] at this
        exact this
      rw [e, nI_1]
      exact H) (by
    refine fn_iload_n rl_X_fill_5 rfl (fn_iload_n rl_X_fill_6 rfl (fn_icmp_ge_t rl_X_fill_7 (show nI n ≤ nI n from nI_le (Nat.le_refl n) (by omega)) (fn_retv rl_X_fill_20 ⟨rfl, hs.symm⟩)))
    )
  refine fn_iconst rl_X_fill_0 (fn_istore_n (ls' := [.ref (o + 1), .int x, .int 0, .null]) rl_X_fill_1 rfl rfl (fn_aload_n rl_X_fill_2 rfl (fn_alen rl_X_fill_3 hh (fn_istore_n (ls' := [.ref (o + 1), .int x, .int 0, .int (Int32.ofNat n)]) rl_X_fill_4 rfl rfl ?_))))
  have k2 := key
  dsimp only at k2
  rw [h0] at k2
  exact k2
