set_option maxRecDepth 100000 in
set_option maxHeartbeats 4000000 in
theorem sg_L_owed_0 {L : Nat} {xs : Nat → Int32} {A V : Nat → Nat → Int32} {K : Nat → Option Nat} {T : am_H} {v : Option Int32} {h' : am_H} {a1 : Int32} (k0 :
    if a1 < 0 then (
      v = some (-1) ∧ h' = hp L xs A V K T)
    else (
      if 2 < a1 then (
        v = some (-1) ∧ h' = hp L xs A V K T)
      else (
        am_fin [(z_J_weigh, 0, [.ref 26, .ref 3], []), (z_L_owed, 23, [.ref 1, .int a1], [])] (hp L xs A V K T) v h'))) : am_fin [(z_L_owed, 0, [.ref 1, .int a1], [])] (hp L xs A V K T) v h' :=
  fn_iload_n rl_L_owed_0 rfl (fn_stat (as := [.int a1]) (r := []) (ls' := [.int a1]) rl_L_owed_1 rfl rfl rfl rfl pl_L_isYear rfl rfl (fn_iload_n rl_L_isYear_0 rfl (fn_iconst rl_L_isYear_1 (fn_iconst rl_L_isYear_2 (fn_stat (as := [.int a1, .int 0, .int 2]) (r := []) (ls' := [.int a1, .int 0, .int 2]) rl_L_isYear_3 rfl rfl rfl rfl pl_L_isAmong rfl rfl (fn_iload_n rl_L_isAmong_0 rfl (fn_iload_n rl_L_isAmong_1 rfl (fn_icmp_lt rl_L_isAmong_2 (fun k666 => fn_iconst rl_L_isAmong_14 (fn_retci rl_L_isAmong_15 rfl (fn_retci rl_L_isYear_6 rfl (fn_if_ne_t rl_L_owed_4 (by decide +kernel) (fn_iconst rl_L_owed_7 (fn_reti rl_L_owed_8 rfl k666)))))) (fun k667 => fn_iload_n rl_L_isAmong_5 rfl (fn_iload_n rl_L_isAmong_6 rfl (fn_icmp_gt rl_L_isAmong_7 (fun k664 => fn_iconst rl_L_isAmong_14 (fn_retci rl_L_isAmong_15 rfl (fn_retci rl_L_isYear_6 rfl (fn_if_ne_t rl_L_owed_4 (by decide +kernel) (fn_iconst rl_L_owed_7 (fn_reti rl_L_owed_8 rfl k664)))))) (fun k665 => fn_iconst rl_L_isAmong_10 (fn_goto rl_L_isAmong_11 (fn_retci rl_L_isAmong_15 rfl (fn_retci rl_L_isYear_6 rfl (fn_if_ne_f rl_L_owed_4 (by decide +kernel) (fn_aload_n rl_L_owed_9 rfl (fn_get rl_L_owed_10 hp_1 rfl (fn_aload_n rl_L_owed_13 rfl (fn_get rl_L_owed_14 hp_1 rfl (fn_get rl_L_owed_17 hp_2 rfl (fn_virt (as := [.ref 26, .ref 3]) (r := []) (ls' := [.ref 26, .ref 3]) rl_L_owed_20 rfl hp_26 rfl rfl pl_J_weigh rfl rfl (k665)))))))))))) k667))) k0))))))))
set_option maxRecDepth 100000 in
set_option maxHeartbeats 4000000 in
theorem sg_L_owed_23r {L : Nat} {xs : Nat → Int32} {A V : Nat → Nat → Int32} {K : Nat → Option Nat} {T : am_H} {v : Option Int32} {h' : am_H} {v1 : Int32} (k0 :
    am_fin [(z_J_owedIn, 0, [.ref 26, .int v1, .ref 3, .null, .null, .null, .null, .null, .null], []), (z_L_owed, 38, [.ref 1, .int v1], [])] (hp L xs A V K T) v h') : am_fin [(z_L_owed, 23, [.ref 1, .int v1], [])] (hp L xs A V K T) v h' :=
  fn_aload_n rl_L_owed_23 rfl (fn_get rl_L_owed_24 hp_1 rfl (fn_iload_n rl_L_owed_27 rfl (fn_aload_n rl_L_owed_28 rfl (fn_get rl_L_owed_29 hp_1 rfl (fn_get rl_L_owed_32 hp_2 rfl (fn_virt (as := [.ref 26, .int v1, .ref 3]) (r := []) (ls' := [.ref 26, .int v1, .ref 3, .null, .null, .null, .null, .null, .null]) rl_L_owed_35 rfl hp_26 rfl rfl pl_J_owedIn rfl rfl (k0)))))))
set_option maxRecDepth 100000 in
set_option maxHeartbeats 4000000 in
theorem sg_L_owed_38r {L : Nat} {xs : Nat → Int32} {A V : Nat → Nat → Int32} {K : Nat → Option Nat} {T : am_H} {v : Option Int32} {h' : am_H} {v1 r : Int32} (k0 :
    v = some r ∧ h' = hp L xs A V K T) : am_fin [(z_L_owed, 38, [.ref 1, .int v1], [.int r])] (hp L xs A V K T) v h' :=
  fn_reti rl_L_owed_38 rfl k0
set_option maxRecDepth 100000 in
set_option maxHeartbeats 4000000 in
theorem sg_L_free_0 {L : Nat} {xs : Nat → Int32} {A V : Nat → Nat → Int32} {K : Nat → Option Nat} {T : am_H} {v : Option Int32} {h' : am_H} {a1 a2 a3 : Int32} (k0 :
    if a1 < 0 then (
      v = some (-1) ∧ h' = hp L xs A V K T)
    else (
      if 5 < a1 then (
        v = some (-1) ∧ h' = hp L xs A V K T)
      else (
        if a2 < 0 then (
          v = some (-1) ∧ h' = hp L xs A V K T)
        else (
          if 1079 < a2 then (
            v = some (-1) ∧ h' = hp L xs A V K T)
          else (
            if a3 < 1 then (
              v = some (-1) ∧ h' = hp L xs A V K T)
            else (
              if 360 < a3 then (
                v = some (-1) ∧ h' = hp L xs A V K T)
              else (
                am_fin [(z_O_read, 0, [.ref 30, .ref 3, .int a1, .null], []), (z_L_free, 42, [.ref 1, .int a1, .int a2, .int a3], [])] (hp L xs A V K T) v h'))))))) : am_fin [(z_L_free, 0, [.ref 1, .int a1, .int a2, .int a3], [])] (hp L xs A V K T) v h' :=
  fn_iload_n rl_L_free_0 rfl (fn_stat (as := [.int a1]) (r := []) (ls' := [.int a1]) rl_L_free_1 rfl rfl rfl rfl pl_L_isLand rfl rfl (fn_iload_n rl_L_isLand_0 rfl (fn_iconst rl_L_isLand_1 (fn_iconst rl_L_isLand_2 (fn_stat (as := [.int a1, .int 0, .int 5]) (r := []) (ls' := [.int a1, .int 0, .int 5]) rl_L_isLand_3 rfl rfl rfl rfl pl_L_isAmong rfl rfl (fn_iload_n rl_L_isAmong_0 rfl (fn_iload_n rl_L_isAmong_1 rfl (fn_icmp_lt rl_L_isAmong_2 (fun k678 => fn_iconst rl_L_isAmong_14 (fn_retci rl_L_isAmong_15 rfl (fn_retci rl_L_isLand_6 rfl (fn_if_eq_t rl_L_free_4 (by decide +kernel) (fn_iconst rl_L_free_25 (fn_reti rl_L_free_26 rfl k678)))))) (fun k679 => fn_iload_n rl_L_isAmong_5 rfl (fn_iload_n rl_L_isAmong_6 rfl (fn_icmp_gt rl_L_isAmong_7 (fun k676 => fn_iconst rl_L_isAmong_14 (fn_retci rl_L_isAmong_15 rfl (fn_retci rl_L_isLand_6 rfl (fn_if_eq_t rl_L_free_4 (by decide +kernel) (fn_iconst rl_L_free_25 (fn_reti rl_L_free_26 rfl k676)))))) (fun k677 => fn_iconst rl_L_isAmong_10 (fn_goto rl_L_isAmong_11 (fn_retci rl_L_isAmong_15 rfl (fn_retci rl_L_isLand_6 rfl (fn_if_eq_f rl_L_free_4 (by decide +kernel) (fn_iload_n rl_L_free_7 rfl (fn_stat (as := [.int a2]) (r := []) (ls' := [.int a2]) rl_L_free_8 rfl rfl rfl rfl pl_L_isDay rfl rfl (fn_iload_n rl_L_isDay_0 rfl (fn_iconst rl_L_isDay_1 (fn_sipush rl_L_isDay_2 (fn_stat (as := [.int a2, .int 0, .int 1079]) (r := []) (ls' := [.int a2, .int 0, .int 1079]) rl_L_isDay_5 rfl rfl rfl rfl pl_L_isAmong rfl rfl (fn_iload_n rl_L_isAmong_0 rfl (fn_iload_n rl_L_isAmong_1 rfl (fn_icmp_lt rl_L_isAmong_2 (fun k674 => fn_iconst rl_L_isAmong_14 (fn_retci rl_L_isAmong_15 rfl (fn_retci rl_L_isDay_8 rfl (fn_if_eq_t rl_L_free_11 (by decide +kernel) (fn_iconst rl_L_free_25 (fn_reti rl_L_free_26 rfl k674)))))) (fun k675 => fn_iload_n rl_L_isAmong_5 rfl (fn_iload_n rl_L_isAmong_6 rfl (fn_icmp_gt rl_L_isAmong_7 (fun k672 => fn_iconst rl_L_isAmong_14 (fn_retci rl_L_isAmong_15 rfl (fn_retci rl_L_isDay_8 rfl (fn_if_eq_t rl_L_free_11 (by decide +kernel) (fn_iconst rl_L_free_25 (fn_reti rl_L_free_26 rfl k672)))))) (fun k673 => fn_iconst rl_L_isAmong_10 (fn_goto rl_L_isAmong_11 (fn_retci rl_L_isAmong_15 rfl (fn_retci rl_L_isDay_8 rfl (fn_if_eq_f rl_L_free_11 (by decide +kernel) (fn_iload_n rl_L_free_14 rfl (fn_iconst rl_L_free_15 (fn_sipush rl_L_free_16 (fn_stat (as := [.int a3, .int 1, .int 360]) (r := []) (ls' := [.int a3, .int 1, .int 360]) rl_L_free_19 rfl rfl rfl rfl pl_L_isAmong rfl rfl (fn_iload_n rl_L_isAmong_0 rfl (fn_iload_n rl_L_isAmong_1 rfl (fn_icmp_lt rl_L_isAmong_2 (fun k670 => fn_iconst rl_L_isAmong_14 (fn_retci rl_L_isAmong_15 rfl (fn_if_ne_t rl_L_free_22 (by decide +kernel) (fn_iconst rl_L_free_25 (fn_reti rl_L_free_26 rfl k670))))) (fun k671 => fn_iload_n rl_L_isAmong_5 rfl (fn_iload_n rl_L_isAmong_6 rfl (fn_icmp_gt rl_L_isAmong_7 (fun k668 => fn_iconst rl_L_isAmong_14 (fn_retci rl_L_isAmong_15 rfl (fn_if_ne_t rl_L_free_22 (by decide +kernel) (fn_iconst rl_L_free_25 (fn_reti rl_L_free_26 rfl k668))))) (fun k669 => fn_iconst rl_L_isAmong_10 (fn_goto rl_L_isAmong_11 (fn_retci rl_L_isAmong_15 rfl (fn_if_ne_f rl_L_free_22 (by decide +kernel) (fn_aload_n rl_L_free_27 rfl (fn_get rl_L_free_28 hp_1 rfl (fn_aload_n rl_L_free_31 rfl (fn_get rl_L_free_32 hp_1 rfl (fn_get rl_L_free_35 hp_2 rfl (fn_iload_n rl_L_free_38 rfl (fn_virt (as := [.ref 30, .ref 3, .int a1]) (r := []) (ls' := [.ref 30, .ref 3, .int a1, .null]) rl_L_free_39 rfl hp_30 rfl rfl pl_O_read rfl rfl (k669)))))))))))) k671))) k673)))))))))))) k675))) k677)))))))))))))) k679))) k0))))))))
set_option maxRecDepth 100000 in
set_option maxHeartbeats 4000000 in
theorem sg_L_free_42r {L : Nat} {xs : Nat → Int32} {A V : Nat → Nat → Int32} {K : Nat → Option Nat} {T : am_H} {v : Option Int32} {h' : am_H} {v1 v2 v3 : Int32} (k0 :
    am_fin [(z_O_fillUp, 0, [.ref 30, .int v2, .int (if 1080 < (v2 + v3) then 1080 else (v2 + v3) : Int32), .null, .null, .null, .null], []), (z_L_free, 59, [.ref 1, .int v1, .int v2, .int v3], [])] (hp L xs A V K T) v h') : am_fin [(z_L_free, 42, [.ref 1, .int v1, .int v2, .int v3], [])] (hp L xs A V K T) v h' :=
  fn_aload_n rl_L_free_42 rfl (fn_get rl_L_free_43 hp_1 rfl (fn_iload_n rl_L_free_46 rfl (fn_iload_n rl_L_free_47 rfl (fn_iload_n rl_L_free_48 rfl (fn_iadd rl_L_free_49 (fn_sipush rl_L_free_50 (fn_min rl_L_free_53 rfl (fn_virt (as := [.ref 30, .int v2, .int (if 1080 < (v2 + v3) then 1080 else (v2 + v3) : Int32)]) (r := []) (ls' := [.ref 30, .int v2, .int (if 1080 < (v2 + v3) then 1080 else (v2 + v3) : Int32), .null, .null, .null, .null]) rl_L_free_56 rfl hp_30 rfl rfl pl_O_fillUp rfl rfl (k0)))))))))
set_option maxRecDepth 100000 in
set_option maxHeartbeats 4000000 in
theorem sg_L_free_59r {L : Nat} {xs : Nat → Int32} {A V : Nat → Nat → Int32} {K : Nat → Option Nat} {T : am_H} {v : Option Int32} {h' : am_H} {v1 v2 v3 r : Int32} (k0 :
    v = some r ∧ h' = hp L xs A V K T) : am_fin [(z_L_free, 59, [.ref 1, .int v1, .int v2, .int v3], [.int r])] (hp L xs A V K T) v h' :=
  fn_reti rl_L_free_59 rfl k0
set_option maxRecDepth 100000 in
set_option maxHeartbeats 4000000 in
theorem sg_L_mustLeave_0 {L : Nat} {xs : Nat → Int32} {A V : Nat → Nat → Int32} {K : Nat → Option Nat} {T : am_H} {v : Option Int32} {h' : am_H} {a1 a2 : Int32} (k0 :
    if a1 < 0 then (
      v = some (-1) ∧ h' = hp L xs A V K T)
    else (
      if 5 < a1 then (
        v = some (-1) ∧ h' = hp L xs A V K T)
      else (
        if a2 < 0 then (
          v = some (-1) ∧ h' = hp L xs A V K T)
        else (
          if 1079 < a2 then (
            v = some (-1) ∧ h' = hp L xs A V K T)
          else (
            am_fin [(z_O_read, 0, [.ref 30, .ref 3, .int a1, .null], []), (z_L_mustLeave, 31, [.ref 1, .int a1, .int a2, .null], [])] (hp L xs A V K T) v h'))))) : am_fin [(z_L_mustLeave, 0, [.ref 1, .int a1, .int a2, .null], [])] (hp L xs A V K T) v h' :=
  fn_iload_n rl_L_mustLeave_0 rfl (fn_stat (as := [.int a1]) (r := []) (ls' := [.int a1]) rl_L_mustLeave_1 rfl rfl rfl rfl pl_L_isLand rfl rfl (fn_iload_n rl_L_isLand_0 rfl (fn_iconst rl_L_isLand_1 (fn_iconst rl_L_isLand_2 (fn_stat (as := [.int a1, .int 0, .int 5]) (r := []) (ls' := [.int a1, .int 0, .int 5]) rl_L_isLand_3 rfl rfl rfl rfl pl_L_isAmong rfl rfl (fn_iload_n rl_L_isAmong_0 rfl (fn_iload_n rl_L_isAmong_1 rfl (fn_icmp_lt rl_L_isAmong_2 (fun k686 => fn_iconst rl_L_isAmong_14 (fn_retci rl_L_isAmong_15 rfl (fn_retci rl_L_isLand_6 rfl (fn_if_eq_t rl_L_mustLeave_4 (by decide +kernel) (fn_iconst rl_L_mustLeave_14 (fn_reti rl_L_mustLeave_15 rfl k686)))))) (fun k687 => fn_iload_n rl_L_isAmong_5 rfl (fn_iload_n rl_L_isAmong_6 rfl (fn_icmp_gt rl_L_isAmong_7 (fun k684 => fn_iconst rl_L_isAmong_14 (fn_retci rl_L_isAmong_15 rfl (fn_retci rl_L_isLand_6 rfl (fn_if_eq_t rl_L_mustLeave_4 (by decide +kernel) (fn_iconst rl_L_mustLeave_14 (fn_reti rl_L_mustLeave_15 rfl k684)))))) (fun k685 => fn_iconst rl_L_isAmong_10 (fn_goto rl_L_isAmong_11 (fn_retci rl_L_isAmong_15 rfl (fn_retci rl_L_isLand_6 rfl (fn_if_eq_f rl_L_mustLeave_4 (by decide +kernel) (fn_iload_n rl_L_mustLeave_7 rfl (fn_stat (as := [.int a2]) (r := []) (ls' := [.int a2]) rl_L_mustLeave_8 rfl rfl rfl rfl pl_L_isDay rfl rfl (fn_iload_n rl_L_isDay_0 rfl (fn_iconst rl_L_isDay_1 (fn_sipush rl_L_isDay_2 (fn_stat (as := [.int a2, .int 0, .int 1079]) (r := []) (ls' := [.int a2, .int 0, .int 1079]) rl_L_isDay_5 rfl rfl rfl rfl pl_L_isAmong rfl rfl (fn_iload_n rl_L_isAmong_0 rfl (fn_iload_n rl_L_isAmong_1 rfl (fn_icmp_lt rl_L_isAmong_2 (fun k682 => fn_iconst rl_L_isAmong_14 (fn_retci rl_L_isAmong_15 rfl (fn_retci rl_L_isDay_8 rfl (fn_if_ne_t rl_L_mustLeave_11 (by decide +kernel) (fn_iconst rl_L_mustLeave_14 (fn_reti rl_L_mustLeave_15 rfl k682)))))) (fun k683 => fn_iload_n rl_L_isAmong_5 rfl (fn_iload_n rl_L_isAmong_6 rfl (fn_icmp_gt rl_L_isAmong_7 (fun k680 => fn_iconst rl_L_isAmong_14 (fn_retci rl_L_isAmong_15 rfl (fn_retci rl_L_isDay_8 rfl (fn_if_ne_t rl_L_mustLeave_11 (by decide +kernel) (fn_iconst rl_L_mustLeave_14 (fn_reti rl_L_mustLeave_15 rfl k680)))))) (fun k681 => fn_iconst rl_L_isAmong_10 (fn_goto rl_L_isAmong_11 (fn_retci rl_L_isAmong_15 rfl (fn_retci rl_L_isDay_8 rfl (fn_if_ne_f rl_L_mustLeave_11 (by decide +kernel) (fn_aload_n rl_L_mustLeave_16 rfl (fn_get rl_L_mustLeave_17 hp_1 rfl (fn_aload_n rl_L_mustLeave_20 rfl (fn_get rl_L_mustLeave_21 hp_1 rfl (fn_get rl_L_mustLeave_24 hp_2 rfl (fn_iload_n rl_L_mustLeave_27 rfl (fn_virt (as := [.ref 30, .ref 3, .int a1]) (r := []) (ls' := [.ref 30, .ref 3, .int a1, .null]) rl_L_mustLeave_28 rfl hp_30 rfl rfl pl_O_read rfl rfl (k681))))))))))))) k683))) k685)))))))))))))) k687))) k0))))))))
set_option maxRecDepth 100000 in
set_option maxHeartbeats 4000000 in
theorem sg_L_mustLeave_31r {L : Nat} {xs : Nat → Int32} {A V : Nat → Nat → Int32} {K : Nat → Option Nat} {T : am_H} {v : Option Int32} {h' : am_H} {v1 v2 : Int32} (k0 :
    am_fin [(z_L_mustLeave, 33, [.ref 1, .int v1, .int v2, .int v2], [])] (hp L xs A V K T) v h') : am_fin [(z_L_mustLeave, 31, [.ref 1, .int v1, .int v2, .null], [])] (hp L xs A V K T) v h' :=
  fn_iload_n rl_L_mustLeave_31 rfl (fn_istore_n (ls' := [.ref 1, .int v1, .int v2, .int v2]) rl_L_mustLeave_32 rfl rfl (k0))
set_option maxRecDepth 100000 in
set_option maxHeartbeats 4000000 in
theorem sg_L_mustLeave_33 {L : Nat} {xs : Nat → Int32} {A V : Nat → Nat → Int32} {K : Nat → Option Nat} {T : am_H} {v : Option Int32} {h' : am_H} {v1 v2 v3 : Int32} (k0 :
    if 1080 ≤ v3 then (
      v = some (-2) ∧ h' = hp L xs A V K T)
    else (
      am_fin [(z_O_isTooLong, 0, [.ref 30, .int v2, .int v3, .null, .null], []), (z_L_mustLeave, 49, [.ref 1, .int v1, .int v2, .int v3], [])] (hp L xs A V K T) v h')) : am_fin [(z_L_mustLeave, 33, [.ref 1, .int v1, .int v2, .int v3], [])] (hp L xs A V K T) v h' :=
  fn_iload_n rl_L_mustLeave_33 rfl (fn_sipush rl_L_mustLeave_34 (fn_icmp_ge rl_L_mustLeave_37 (fun k688 => fn_bipush rl_L_mustLeave_60 (fn_reti rl_L_mustLeave_62 rfl k688)) (fun k689 => fn_aload_n rl_L_mustLeave_40 rfl (fn_get rl_L_mustLeave_41 hp_1 rfl (fn_iload_n rl_L_mustLeave_44 rfl (fn_iload_n rl_L_mustLeave_45 rfl (fn_virt (as := [.ref 30, .int v2, .int v3]) (r := []) (ls' := [.ref 30, .int v2, .int v3, .null, .null]) rl_L_mustLeave_46 rfl hp_30 rfl rfl pl_O_isTooLong rfl rfl (k689)))))) k0))
set_option maxRecDepth 100000 in
set_option maxHeartbeats 4000000 in
theorem sg_L_mustLeave_49r {L : Nat} {xs : Nat → Int32} {A V : Nat → Nat → Int32} {K : Nat → Option Nat} {T : am_H} {v : Option Int32} {h' : am_H} {v1 v2 v3 r : Int32} (k0 :
    if r = 0 then (
      am_fin [(z_L_mustLeave, 33, [.ref 1, .int v1, .int v2, .int (v3 + 1)], [])] (hp L xs A V K T) v h')
    else (
      v = some v3 ∧ h' = hp L xs A V K T)) : am_fin [(z_L_mustLeave, 49, [.ref 1, .int v1, .int v2, .int v3], [.int r])] (hp L xs A V K T) v h' :=
  fn_if_eq rl_L_mustLeave_49 (fun k690 => fn_iinc (ls' := [.ref 1, .int v1, .int v2, .int (v3 + 1)]) rl_L_mustLeave_54 rfl rfl rfl (fn_goto rl_L_mustLeave_57 (k690))) (fun k691 => fn_iload_n rl_L_mustLeave_52 rfl (fn_reti rl_L_mustLeave_53 rfl k691)) k0
set_option maxRecDepth 100000 in
set_option maxHeartbeats 4000000 in
theorem sg_L_mayCome_0 {L : Nat} {xs : Nat → Int32} {A V : Nat → Nat → Int32} {K : Nat → Option Nat} {T : am_H} {v : Option Int32} {h' : am_H} {a1 a2 a3 : Int32} (k0 :
    if a1 < 0 then (
      v = some (-1) ∧ h' = hp L xs A V K T)
    else (
      if 5 < a1 then (
        v = some (-1) ∧ h' = hp L xs A V K T)
      else (
        if a2 < 0 then (
          v = some (-1) ∧ h' = hp L xs A V K T)
        else (
          if 1079 < a2 then (
            v = some (-1) ∧ h' = hp L xs A V K T)
          else (
            if a3 < 1 then (
              v = some (-1) ∧ h' = hp L xs A V K T)
            else (
              if 360 < a3 then (
                v = some (-1) ∧ h' = hp L xs A V K T)
              else (
                am_fin [(z_O_read, 0, [.ref 30, .ref 3, .int a1, .null], []), (z_L_mayCome, 42, [.ref 1, .int a1, .int a2, .int a3, .null], [])] (hp L xs A V K T) v h'))))))) : am_fin [(z_L_mayCome, 0, [.ref 1, .int a1, .int a2, .int a3, .null], [])] (hp L xs A V K T) v h' :=
  fn_iload_n rl_L_mayCome_0 rfl (fn_stat (as := [.int a1]) (r := []) (ls' := [.int a1]) rl_L_mayCome_1 rfl rfl rfl rfl pl_L_isLand rfl rfl (fn_iload_n rl_L_isLand_0 rfl (fn_iconst rl_L_isLand_1 (fn_iconst rl_L_isLand_2 (fn_stat (as := [.int a1, .int 0, .int 5]) (r := []) (ls' := [.int a1, .int 0, .int 5]) rl_L_isLand_3 rfl rfl rfl rfl pl_L_isAmong rfl rfl (fn_iload_n rl_L_isAmong_0 rfl (fn_iload_n rl_L_isAmong_1 rfl (fn_icmp_lt rl_L_isAmong_2 (fun k702 => fn_iconst rl_L_isAmong_14 (fn_retci rl_L_isAmong_15 rfl (fn_retci rl_L_isLand_6 rfl (fn_if_eq_t rl_L_mayCome_4 (by decide +kernel) (fn_iconst rl_L_mayCome_25 (fn_reti rl_L_mayCome_26 rfl k702)))))) (fun k703 => fn_iload_n rl_L_isAmong_5 rfl (fn_iload_n rl_L_isAmong_6 rfl (fn_icmp_gt rl_L_isAmong_7 (fun k700 => fn_iconst rl_L_isAmong_14 (fn_retci rl_L_isAmong_15 rfl (fn_retci rl_L_isLand_6 rfl (fn_if_eq_t rl_L_mayCome_4 (by decide +kernel) (fn_iconst rl_L_mayCome_25 (fn_reti rl_L_mayCome_26 rfl k700)))))) (fun k701 => fn_iconst rl_L_isAmong_10 (fn_goto rl_L_isAmong_11 (fn_retci rl_L_isAmong_15 rfl (fn_retci rl_L_isLand_6 rfl (fn_if_eq_f rl_L_mayCome_4 (by decide +kernel) (fn_iload_n rl_L_mayCome_7 rfl (fn_stat (as := [.int a2]) (r := []) (ls' := [.int a2]) rl_L_mayCome_8 rfl rfl rfl rfl pl_L_isDay rfl rfl (fn_iload_n rl_L_isDay_0 rfl (fn_iconst rl_L_isDay_1 (fn_sipush rl_L_isDay_2 (fn_stat (as := [.int a2, .int 0, .int 1079]) (r := []) (ls' := [.int a2, .int 0, .int 1079]) rl_L_isDay_5 rfl rfl rfl rfl pl_L_isAmong rfl rfl (fn_iload_n rl_L_isAmong_0 rfl (fn_iload_n rl_L_isAmong_1 rfl (fn_icmp_lt rl_L_isAmong_2 (fun k698 => fn_iconst rl_L_isAmong_14 (fn_retci rl_L_isAmong_15 rfl (fn_retci rl_L_isDay_8 rfl (fn_if_eq_t rl_L_mayCome_11 (by decide +kernel) (fn_iconst rl_L_mayCome_25 (fn_reti rl_L_mayCome_26 rfl k698)))))) (fun k699 => fn_iload_n rl_L_isAmong_5 rfl (fn_iload_n rl_L_isAmong_6 rfl (fn_icmp_gt rl_L_isAmong_7 (fun k696 => fn_iconst rl_L_isAmong_14 (fn_retci rl_L_isAmong_15 rfl (fn_retci rl_L_isDay_8 rfl (fn_if_eq_t rl_L_mayCome_11 (by decide +kernel) (fn_iconst rl_L_mayCome_25 (fn_reti rl_L_mayCome_26 rfl k696)))))) (fun k697 => fn_iconst rl_L_isAmong_10 (fn_goto rl_L_isAmong_11 (fn_retci rl_L_isAmong_15 rfl (fn_retci rl_L_isDay_8 rfl (fn_if_eq_f rl_L_mayCome_11 (by decide +kernel) (fn_iload_n rl_L_mayCome_14 rfl (fn_iconst rl_L_mayCome_15 (fn_sipush rl_L_mayCome_16 (fn_stat (as := [.int a3, .int 1, .int 360]) (r := []) (ls' := [.int a3, .int 1, .int 360]) rl_L_mayCome_19 rfl rfl rfl rfl pl_L_isAmong rfl rfl (fn_iload_n rl_L_isAmong_0 rfl (fn_iload_n rl_L_isAmong_1 rfl (fn_icmp_lt rl_L_isAmong_2 (fun k694 => fn_iconst rl_L_isAmong_14 (fn_retci rl_L_isAmong_15 rfl (fn_if_ne_t rl_L_mayCome_22 (by decide +kernel) (fn_iconst rl_L_mayCome_25 (fn_reti rl_L_mayCome_26 rfl k694))))) (fun k695 => fn_iload_n rl_L_isAmong_5 rfl (fn_iload_n rl_L_isAmong_6 rfl (fn_icmp_gt rl_L_isAmong_7 (fun k692 => fn_iconst rl_L_isAmong_14 (fn_retci rl_L_isAmong_15 rfl (fn_if_ne_t rl_L_mayCome_22 (by decide +kernel) (fn_iconst rl_L_mayCome_25 (fn_reti rl_L_mayCome_26 rfl k692))))) (fun k693 => fn_iconst rl_L_isAmong_10 (fn_goto rl_L_isAmong_11 (fn_retci rl_L_isAmong_15 rfl (fn_if_ne_f rl_L_mayCome_22 (by decide +kernel) (fn_aload_n rl_L_mayCome_27 rfl (fn_get rl_L_mayCome_28 hp_1 rfl (fn_aload_n rl_L_mayCome_31 rfl (fn_get rl_L_mayCome_32 hp_1 rfl (fn_get rl_L_mayCome_35 hp_2 rfl (fn_iload_n rl_L_mayCome_38 rfl (fn_virt (as := [.ref 30, .ref 3, .int a1]) (r := []) (ls' := [.ref 30, .ref 3, .int a1, .null]) rl_L_mayCome_39 rfl hp_30 rfl rfl pl_O_read rfl rfl (k693)))))))))))) k695))) k697)))))))))))) k699))) k701)))))))))))))) k703))) k0))))))))
set_option maxRecDepth 100000 in
set_option maxHeartbeats 4000000 in
theorem sg_L_mayCome_42r {L : Nat} {xs : Nat → Int32} {A V : Nat → Nat → Int32} {K : Nat → Option Nat} {T : am_H} {v : Option Int32} {h' : am_H} {v1 v2 v3 : Int32} (k0 :
    am_fin [(z_L_mayCome, 45, [.ref 1, .int v1, .int v2, .int v3, .int v2], [])] (hp L xs A V K T) v h') : am_fin [(z_L_mayCome, 42, [.ref 1, .int v1, .int v2, .int v3, .null], [])] (hp L xs A V K T) v h' :=
  fn_iload_n rl_L_mayCome_42 rfl (fn_istore (ls' := [.ref 1, .int v1, .int v2, .int v3, .int v2]) rl_L_mayCome_43 rfl rfl (k0))
set_option maxRecDepth 100000 in
set_option maxHeartbeats 4000000 in
theorem sg_L_mayCome_45 {L : Nat} {xs : Nat → Int32} {A V : Nat → Nat → Int32} {K : Nat → Option Nat} {T : am_H} {v : Option Int32} {h' : am_H} {v1 v2 v3 v4 : Int32} (k0 :
    if 1080 ≤ v4 then (
      v = some (-2) ∧ h' = hp L xs A V K T)
    else (
      am_fin [(z_O_isTooLong, 0, [.ref 30, .int v4, .int ((if 1080 < (v4 + v3) then 1080 else (v4 + v3) : Int32) - 1), .null, .null], []), (z_L_mayCome, 74, [.ref 1, .int v1, .int v2, .int v3, .int v4], [])] (hp L xs A V K T) v h')) : am_fin [(z_L_mayCome, 45, [.ref 1, .int v1, .int v2, .int v3, .int v4], [])] (hp L xs A V K T) v h' :=
  fn_iload rl_L_mayCome_45 rfl (fn_sipush rl_L_mayCome_47 (fn_icmp_ge rl_L_mayCome_50 (fun k704 => fn_bipush rl_L_mayCome_86 (fn_reti rl_L_mayCome_88 rfl k704)) (fun k705 => fn_aload_n rl_L_mayCome_53 rfl (fn_get rl_L_mayCome_54 hp_1 rfl (fn_iload rl_L_mayCome_57 rfl (fn_iload rl_L_mayCome_59 rfl (fn_iload_n rl_L_mayCome_61 rfl (fn_iadd rl_L_mayCome_62 (fn_sipush rl_L_mayCome_63 (fn_min rl_L_mayCome_66 rfl (fn_iconst rl_L_mayCome_69 (fn_isub rl_L_mayCome_70 (fn_virt (as := [.ref 30, .int v4, .int ((if 1080 < (v4 + v3) then 1080 else (v4 + v3) : Int32) - 1)]) (r := []) (ls' := [.ref 30, .int v4, .int ((if 1080 < (v4 + v3) then 1080 else (v4 + v3) : Int32) - 1), .null, .null]) rl_L_mayCome_71 rfl hp_30 rfl rfl pl_O_isTooLong rfl rfl (k705)))))))))))) k0))
set_option maxRecDepth 100000 in
set_option maxHeartbeats 4000000 in
theorem sg_L_mayCome_74r {L : Nat} {xs : Nat → Int32} {A V : Nat → Nat → Int32} {K : Nat → Option Nat} {T : am_H} {v : Option Int32} {h' : am_H} {v1 v2 v3 v4 r : Int32} (k0 :
    if r = 0 then (
      v = some v4 ∧ h' = hp L xs A V K T)
    else (
      am_fin [(z_L_mayCome, 45, [.ref 1, .int v1, .int v2, .int v3, .int (v4 + 1)], [])] (hp L xs A V K T) v h')) : am_fin [(z_L_mayCome, 74, [.ref 1, .int v1, .int v2, .int v3, .int v4], [.int r])] (hp L xs A V K T) v h' :=
  fn_if_ne rl_L_mayCome_74 (fun k706 => fn_iload rl_L_mayCome_77 rfl (fn_reti rl_L_mayCome_79 rfl k706)) (fun k707 => fn_iinc (ls' := [.ref 1, .int v1, .int v2, .int v3, .int (v4 + 1)]) rl_L_mayCome_80 rfl rfl rfl (fn_goto rl_L_mayCome_83 (k707))) k0
set_option maxRecDepth 100000 in
set_option maxHeartbeats 4000000 in
theorem sg_L_claimBy_0 {L : Nat} {xs : Nat → Int32} {A V : Nat → Nat → Int32} {K : Nat → Option Nat} {T : am_H} {v : Option Int32} {h' : am_H} {a1 a2 : Int32} (k0 :
    if a1 < 0 then (
      v = some (-1) ∧ h' = hp L xs A V K T)
    else (
      if 5 < a1 then (
        v = some (-1) ∧ h' = hp L xs A V K T)
      else (
        if a2 < 0 then (
          v = some (-1) ∧ h' = hp L xs A V K T)
        else (
          if 1079 < a2 then (
            v = some (-1) ∧ h' = hp L xs A V K T)
          else (
            am_fin [(z_J_weigh, 0, [.ref 26, .ref 3], []), (z_L_claimBy, 30, [.ref 1, .int a1, .int a2, .null, .null], [])] (hp L xs A V K T) v h'))))) : am_fin [(z_L_claimBy, 0, [.ref 1, .int a1, .int a2, .null, .null], [])] (hp L xs A V K T) v h' :=
  fn_iload_n rl_L_claimBy_0 rfl (fn_stat (as := [.int a1]) (r := []) (ls' := [.int a1]) rl_L_claimBy_1 rfl rfl rfl rfl pl_L_isLand rfl rfl (fn_iload_n rl_L_isLand_0 rfl (fn_iconst rl_L_isLand_1 (fn_iconst rl_L_isLand_2 (fn_stat (as := [.int a1, .int 0, .int 5]) (r := []) (ls' := [.int a1, .int 0, .int 5]) rl_L_isLand_3 rfl rfl rfl rfl pl_L_isAmong rfl rfl (fn_iload_n rl_L_isAmong_0 rfl (fn_iload_n rl_L_isAmong_1 rfl (fn_icmp_lt rl_L_isAmong_2 (fun k714 => fn_iconst rl_L_isAmong_14 (fn_retci rl_L_isAmong_15 rfl (fn_retci rl_L_isLand_6 rfl (fn_if_eq_t rl_L_claimBy_4 (by decide +kernel) (fn_iconst rl_L_claimBy_14 (fn_reti rl_L_claimBy_15 rfl k714)))))) (fun k715 => fn_iload_n rl_L_isAmong_5 rfl (fn_iload_n rl_L_isAmong_6 rfl (fn_icmp_gt rl_L_isAmong_7 (fun k712 => fn_iconst rl_L_isAmong_14 (fn_retci rl_L_isAmong_15 rfl (fn_retci rl_L_isLand_6 rfl (fn_if_eq_t rl_L_claimBy_4 (by decide +kernel) (fn_iconst rl_L_claimBy_14 (fn_reti rl_L_claimBy_15 rfl k712)))))) (fun k713 => fn_iconst rl_L_isAmong_10 (fn_goto rl_L_isAmong_11 (fn_retci rl_L_isAmong_15 rfl (fn_retci rl_L_isLand_6 rfl (fn_if_eq_f rl_L_claimBy_4 (by decide +kernel) (fn_iload_n rl_L_claimBy_7 rfl (fn_stat (as := [.int a2]) (r := []) (ls' := [.int a2]) rl_L_claimBy_8 rfl rfl rfl rfl pl_L_isDay rfl rfl (fn_iload_n rl_L_isDay_0 rfl (fn_iconst rl_L_isDay_1 (fn_sipush rl_L_isDay_2 (fn_stat (as := [.int a2, .int 0, .int 1079]) (r := []) (ls' := [.int a2, .int 0, .int 1079]) rl_L_isDay_5 rfl rfl rfl rfl pl_L_isAmong rfl rfl (fn_iload_n rl_L_isAmong_0 rfl (fn_iload_n rl_L_isAmong_1 rfl (fn_icmp_lt rl_L_isAmong_2 (fun k710 => fn_iconst rl_L_isAmong_14 (fn_retci rl_L_isAmong_15 rfl (fn_retci rl_L_isDay_8 rfl (fn_if_ne_t rl_L_claimBy_11 (by decide +kernel) (fn_iconst rl_L_claimBy_14 (fn_reti rl_L_claimBy_15 rfl k710)))))) (fun k711 => fn_iload_n rl_L_isAmong_5 rfl (fn_iload_n rl_L_isAmong_6 rfl (fn_icmp_gt rl_L_isAmong_7 (fun k708 => fn_iconst rl_L_isAmong_14 (fn_retci rl_L_isAmong_15 rfl (fn_retci rl_L_isDay_8 rfl (fn_if_ne_t rl_L_claimBy_11 (by decide +kernel) (fn_iconst rl_L_claimBy_14 (fn_reti rl_L_claimBy_15 rfl k708)))))) (fun k709 => fn_iconst rl_L_isAmong_10 (fn_goto rl_L_isAmong_11 (fn_retci rl_L_isAmong_15 rfl (fn_retci rl_L_isDay_8 rfl (fn_if_ne_f rl_L_claimBy_11 (by decide +kernel) (fn_aload_n rl_L_claimBy_16 rfl (fn_get rl_L_claimBy_17 hp_1 rfl (fn_aload_n rl_L_claimBy_20 rfl (fn_get rl_L_claimBy_21 hp_1 rfl (fn_get rl_L_claimBy_24 hp_2 rfl (fn_virt (as := [.ref 26, .ref 3]) (r := []) (ls' := [.ref 26, .ref 3]) rl_L_claimBy_27 rfl hp_26 rfl rfl pl_J_weigh rfl rfl (k709)))))))))))) k711))) k713)))))))))))))) k715))) k0))))))))
set_option maxRecDepth 100000 in
set_option maxHeartbeats 4000000 in
theorem sg_L_claimBy_30r {L : Nat} {xs : Nat → Int32} {A V : Nat → Nat → Int32} {K : Nat → Option Nat} {T : am_H} {v : Option Int32} {h' : am_H} {v1 v2 : Int32} (k0 :
    am_fin [(z_L_claimBy, 32, [.ref 1, .int v1, .int v2, .int v2, .null], [])] (hp L xs A V K T) v h') : am_fin [(z_L_claimBy, 30, [.ref 1, .int v1, .int v2, .null, .null], [])] (hp L xs A V K T) v h' :=
  fn_iload_n rl_L_claimBy_30 rfl (fn_istore_n (ls' := [.ref 1, .int v1, .int v2, .int v2, .null]) rl_L_claimBy_31 rfl rfl (k0))
set_option maxRecDepth 100000 in
set_option maxHeartbeats 4000000 in
theorem sg_L_claimBy_32 {L : Nat} {xs : Nat → Int32} {A V : Nat → Nat → Int32} {K : Nat → Option Nat} {T : am_H} {v : Option Int32} {h' : am_H} {v1 v2 v3 : Int32} (k0 :
    if 1080 ≤ v3 then (
      v = some (-2) ∧ h' = hp L xs A V K T)
    else (
      am_fin [(z_P_landOn, 0, [.ref 3, .int v3], []), (z_L_claimBy, 56, [.ref 1, .int v1, .int v2, .int v3, .int (v3 / 360)], [])] (hp L xs A V K T) v h')) : am_fin [(z_L_claimBy, 32, [.ref 1, .int v1, .int v2, .int v3, .null], [])] (hp L xs A V K T) v h' :=
  fn_iload_n rl_L_claimBy_32 rfl (fn_sipush rl_L_claimBy_33 (fn_icmp_ge rl_L_claimBy_36 (fun k716 => fn_bipush rl_L_claimBy_99 (fn_reti rl_L_claimBy_101 rfl k716)) (fun k717 => fn_iload_n rl_L_claimBy_39 rfl (fn_stat (as := [.int v3]) (r := []) (ls' := [.int v3]) rl_L_claimBy_40 rfl rfl rfl rfl pl_L_yearOf rfl rfl (fn_iload_n rl_L_yearOf_0 rfl (fn_sipush rl_L_yearOf_1 (fn_idiv rl_L_yearOf_4 (by decide +kernel) (fn_retci rl_L_yearOf_5 rfl (fn_istore (ls' := [.ref 1, .int v1, .int v2, .int v3, .int (v3 / 360)]) rl_L_claimBy_43 rfl rfl (fn_aload_n rl_L_claimBy_45 rfl (fn_get rl_L_claimBy_46 hp_1 rfl (fn_get rl_L_claimBy_49 hp_2 rfl (fn_iload_n rl_L_claimBy_52 rfl (fn_virt (as := [.ref 3, .int v3]) (r := []) (ls' := [.ref 3, .int v3]) rl_L_claimBy_53 rfl hp_3 rfl rfl pl_P_landOn rfl rfl (k717))))))))))))) k0))
set_option maxRecDepth 100000 in
set_option maxHeartbeats 4000000 in
theorem sg_L_claimBy_56r {L : Nat} {xs : Nat → Int32} {A V : Nat → Nat → Int32} {K : Nat → Option Nat} {T : am_H} {v : Option Int32} {h' : am_H} {v1 v2 v3 v4 r : Int32} (k0 :
    if r = v1 then (
      am_fin [(z_J_isClaiming, 0, [.ref 26, .int v1, .int v4], []), (z_L_claimBy, 88, [.ref 1, .int v1, .int v2, .int v3, .int v4], [])] (hp L xs A V K T) v h')
    else (
      ¬ (((v1 * 3) + v4) < 0 ∨ 18 ≤ ((v1 * 3) + v4).toNatClampNeg) ∧ (
      ¬ (((v1 * 3) + v4) < 0 ∨ 18 ≤ ((v1 * 3) + v4).toNatClampNeg) ∧ (
      am_fin [(z_J_isClaiming, 0, [.ref 26, .int v1, .int v4], []), (z_L_claimBy, 88, [.ref 1, .int v1, .int v2, .int v3, .int v4], [])] (hp L xs (upA A 27 (upd (A 27) ((v1 * 3) + v4).toNatClampNeg (((A 27) ((v1 * 3) + v4).toNatClampNeg) + 1))) V K T) v h')))) : am_fin [(z_L_claimBy, 56, [.ref 1, .int v1, .int v2, .int v3, .int v4], [.int r])] (hp L xs A V K T) v h' :=
  fn_iload_n rl_L_claimBy_56 rfl (fn_icmp_eq rl_L_claimBy_57 (fun k720 => fn_aload_n rl_L_claimBy_78 rfl (fn_get rl_L_claimBy_79 hp_1 rfl (fn_iload_n rl_L_claimBy_82 rfl (fn_iload rl_L_claimBy_83 rfl (fn_virt (as := [.ref 26, .int v1, .int v4]) (r := []) (ls' := [.ref 26, .int v1, .int v4]) rl_L_claimBy_85 rfl hp_26 rfl rfl pl_J_isClaiming rfl rfl (k720)))))) (fun k721 => fn_aload_n rl_L_claimBy_60 rfl (fn_get rl_L_claimBy_61 hp_1 rfl (fn_get rl_L_claimBy_64 hp_26 rfl (fn_iload_n rl_L_claimBy_67 rfl (fn_iload rl_L_claimBy_68 rfl (fn_stat (as := [.int v1, .int v4]) (r := [.ref 27]) (ls' := [.int v1, .int v4]) rl_L_claimBy_70 rfl rfl rfl rfl pl_L_spot rfl rfl (fn_iload_n rl_L_spot_0 rfl (fn_iconst rl_L_spot_1 (fn_imul rl_L_spot_2 (fn_iload_n rl_L_spot_3 rfl (fn_iadd rl_L_spot_4 (fn_retci rl_L_spot_5 rfl (fn_dup2 rl_L_claimBy_73 (fn_iald rl_L_claimBy_74 hp_27 (fun k719 => fn_iconst rl_L_claimBy_75 (fn_iadd rl_L_claimBy_76 (fn_iast rl_L_claimBy_77 hp_27 hps_27 (fun k718 => fn_aload_n rl_L_claimBy_78 rfl (fn_get rl_L_claimBy_79 hp_1 rfl (fn_iload_n rl_L_claimBy_82 rfl (fn_iload rl_L_claimBy_83 rfl (fn_virt (as := [.ref 26, .int v1, .int v4]) (r := []) (ls' := [.ref 26, .int v1, .int v4]) rl_L_claimBy_85 rfl hp_26 rfl rfl pl_J_isClaiming rfl rfl (k718)))))) k719))) k721)))))))))))))) k0)
set_option maxRecDepth 100000 in
set_option maxHeartbeats 4000000 in
theorem sg_L_claimBy_88r {L : Nat} {xs : Nat → Int32} {A V : Nat → Nat → Int32} {K : Nat → Option Nat} {T : am_H} {v : Option Int32} {h' : am_H} {v1 v2 v3 v4 r : Int32} (k0 :
    if r = 0 then (
      am_fin [(z_L_claimBy, 32, [.ref 1, .int v1, .int v2, .int (v3 + 1), .int v4], [])] (hp L xs A V K T) v h')
    else (
      v = some v3 ∧ h' = hp L xs A V K T)) : am_fin [(z_L_claimBy, 88, [.ref 1, .int v1, .int v2, .int v3, .int v4], [.int r])] (hp L xs A V K T) v h' :=
  fn_if_eq rl_L_claimBy_88 (fun k722 => fn_iinc (ls' := [.ref 1, .int v1, .int v2, .int (v3 + 1), .int v4]) rl_L_claimBy_93 rfl rfl rfl (fn_goto rl_L_claimBy_96 (k722))) (fun k723 => fn_iload_n rl_L_claimBy_91 rfl (fn_reti rl_L_claimBy_92 rfl k723)) k0
set_option maxRecDepth 100000 in
set_option maxHeartbeats 4000000 in
theorem sg_L_freest_0 {L : Nat} {xs : Nat → Int32} {A V : Nat → Nat → Int32} {K : Nat → Option Nat} {T : am_H} {v : Option Int32} {h' : am_H} {a1 a2 a3 : Int32} (k0 :
    if a1 < 0 then (
      v = some (-1) ∧ h' = hp L xs A V K T)
    else (
      if 1079 < a1 then (
        v = some (-1) ∧ h' = hp L xs A V K T)
      else (
        if a2 < 1 then (
          v = some (-1) ∧ h' = hp L xs A V K T)
        else (
          if 360 < a2 then (
            v = some (-1) ∧ h' = hp L xs A V K T)
          else (
            if a3 < 0 then (
              v = some (-1) ∧ h' = hp L xs A V K T)
            else (
              if 1 < a3 then (
                v = some (-1) ∧ h' = hp L xs A V K T)
              else (
                am_fin [(z_L_freest, 38, [.ref 1, .int a1, .int a2, .int a3, .int 0, .int (-1), .int 0, .null], [])] (hp L xs A V K T) v h'))))))) : am_fin [(z_L_freest, 0, [.ref 1, .int a1, .int a2, .int a3, .null, .null, .null, .null], [])] (hp L xs A V K T) v h' :=
  fn_iload_n rl_L_freest_0 rfl (fn_stat (as := [.int a1]) (r := []) (ls' := [.int a1]) rl_L_freest_1 rfl rfl rfl rfl pl_L_isDay rfl rfl (fn_iload_n rl_L_isDay_0 rfl (fn_iconst rl_L_isDay_1 (fn_sipush rl_L_isDay_2 (fn_stat (as := [.int a1, .int 0, .int 1079]) (r := []) (ls' := [.int a1, .int 0, .int 1079]) rl_L_isDay_5 rfl rfl rfl rfl pl_L_isAmong rfl rfl (fn_iload_n rl_L_isAmong_0 rfl (fn_iload_n rl_L_isAmong_1 rfl (fn_icmp_lt rl_L_isAmong_2 (fun k734 => fn_iconst rl_L_isAmong_14 (fn_retci rl_L_isAmong_15 rfl (fn_retci rl_L_isDay_8 rfl (fn_if_eq_t rl_L_freest_4 (by decide +kernel) (fn_iconst rl_L_freest_27 (fn_reti rl_L_freest_28 rfl k734)))))) (fun k735 => fn_iload_n rl_L_isAmong_5 rfl (fn_iload_n rl_L_isAmong_6 rfl (fn_icmp_gt rl_L_isAmong_7 (fun k732 => fn_iconst rl_L_isAmong_14 (fn_retci rl_L_isAmong_15 rfl (fn_retci rl_L_isDay_8 rfl (fn_if_eq_t rl_L_freest_4 (by decide +kernel) (fn_iconst rl_L_freest_27 (fn_reti rl_L_freest_28 rfl k732)))))) (fun k733 => fn_iconst rl_L_isAmong_10 (fn_goto rl_L_isAmong_11 (fn_retci rl_L_isAmong_15 rfl (fn_retci rl_L_isDay_8 rfl (fn_if_eq_f rl_L_freest_4 (by decide +kernel) (fn_iload_n rl_L_freest_7 rfl (fn_iconst rl_L_freest_8 (fn_sipush rl_L_freest_9 (fn_stat (as := [.int a2, .int 1, .int 360]) (r := []) (ls' := [.int a2, .int 1, .int 360]) rl_L_freest_12 rfl rfl rfl rfl pl_L_isAmong rfl rfl (fn_iload_n rl_L_isAmong_0 rfl (fn_iload_n rl_L_isAmong_1 rfl (fn_icmp_lt rl_L_isAmong_2 (fun k730 => fn_iconst rl_L_isAmong_14 (fn_retci rl_L_isAmong_15 rfl (fn_if_eq_t rl_L_freest_15 (by decide +kernel) (fn_iconst rl_L_freest_27 (fn_reti rl_L_freest_28 rfl k730))))) (fun k731 => fn_iload_n rl_L_isAmong_5 rfl (fn_iload_n rl_L_isAmong_6 rfl (fn_icmp_gt rl_L_isAmong_7 (fun k728 => fn_iconst rl_L_isAmong_14 (fn_retci rl_L_isAmong_15 rfl (fn_if_eq_t rl_L_freest_15 (by decide +kernel) (fn_iconst rl_L_freest_27 (fn_reti rl_L_freest_28 rfl k728))))) (fun k729 => fn_iconst rl_L_isAmong_10 (fn_goto rl_L_isAmong_11 (fn_retci rl_L_isAmong_15 rfl (fn_if_eq_f rl_L_freest_15 (by decide +kernel) (fn_iload_n rl_L_freest_18 rfl (fn_iconst rl_L_freest_19 (fn_iconst rl_L_freest_20 (fn_stat (as := [.int a3, .int 0, .int 1]) (r := []) (ls' := [.int a3, .int 0, .int 1]) rl_L_freest_21 rfl rfl rfl rfl pl_L_isAmong rfl rfl (fn_iload_n rl_L_isAmong_0 rfl (fn_iload_n rl_L_isAmong_1 rfl (fn_icmp_lt rl_L_isAmong_2 (fun k726 => fn_iconst rl_L_isAmong_14 (fn_retci rl_L_isAmong_15 rfl (fn_if_ne_t rl_L_freest_24 (by decide +kernel) (fn_iconst rl_L_freest_27 (fn_reti rl_L_freest_28 rfl k726))))) (fun k727 => fn_iload_n rl_L_isAmong_5 rfl (fn_iload_n rl_L_isAmong_6 rfl (fn_icmp_gt rl_L_isAmong_7 (fun k724 => fn_iconst rl_L_isAmong_14 (fn_retci rl_L_isAmong_15 rfl (fn_if_ne_t rl_L_freest_24 (by decide +kernel) (fn_iconst rl_L_freest_27 (fn_reti rl_L_freest_28 rfl k724))))) (fun k725 => fn_iconst rl_L_isAmong_10 (fn_goto rl_L_isAmong_11 (fn_retci rl_L_isAmong_15 rfl (fn_if_ne_f rl_L_freest_24 (by decide +kernel) (fn_iconst rl_L_freest_29 (fn_istore (ls' := [.ref 1, .int a1, .int a2, .int a3, .int 0, .null, .null, .null]) rl_L_freest_30 rfl rfl (fn_iconst rl_L_freest_32 (fn_istore (ls' := [.ref 1, .int a1, .int a2, .int a3, .int 0, .int (-1), .null, .null]) rl_L_freest_33 rfl rfl (fn_iconst rl_L_freest_35 (fn_istore (ls' := [.ref 1, .int a1, .int a2, .int a3, .int 0, .int (-1), .int 0, .null]) rl_L_freest_36 rfl rfl (k725))))))))))) k727))) k729))))))))))) k731))) k733)))))))))))) k735))) k0))))))))
set_option maxRecDepth 100000 in
set_option maxHeartbeats 4000000 in
theorem sg_L_freest_38 {L : Nat} {xs : Nat → Int32} {A V : Nat → Nat → Int32} {K : Nat → Option Nat} {T : am_H} {v : Option Int32} {h' : am_H} {v1 v2 v3 v4 v5 v6 : Int32} (k0 :
    if 6 ≤ v6 then (
      if v3 = 0 then (
        v = some v4 ∧ h' = hp L xs A V K T)
      else (
        v = some v5 ∧ h' = hp L xs A V K T))
    else (
      am_fin [(z_O_read, 0, [.ref 30, .ref 3, .int v6, .null], []), (z_L_freest, 61, [.ref 1, .int v1, .int v2, .int v3, .int v4, .int v5, .int v6, .null], [])] (hp L xs A V K T) v h')) : am_fin [(z_L_freest, 38, [.ref 1, .int v1, .int v2, .int v3, .int v4, .int v5, .int v6, .null], [])] (hp L xs A V K T) v h' :=
  fn_iload rl_L_freest_38 rfl (fn_bipush rl_L_freest_40 (fn_icmp_ge rl_L_freest_42 (fun k738 => fn_iload_n rl_L_freest_101 rfl (fn_if_ne rl_L_freest_102 (fun k736 => fn_iload rl_L_freest_105 rfl (fn_goto rl_L_freest_107 (fn_reti rl_L_freest_112 rfl k736))) (fun k737 => fn_iload rl_L_freest_110 rfl (fn_reti rl_L_freest_112 rfl k737)) k738)) (fun k739 => fn_aload_n rl_L_freest_45 rfl (fn_get rl_L_freest_46 hp_1 rfl (fn_aload_n rl_L_freest_49 rfl (fn_get rl_L_freest_50 hp_1 rfl (fn_get rl_L_freest_53 hp_2 rfl (fn_iload rl_L_freest_56 rfl (fn_virt (as := [.ref 30, .ref 3, .int v6]) (r := []) (ls' := [.ref 30, .ref 3, .int v6, .null]) rl_L_freest_58 rfl hp_30 rfl rfl pl_O_read rfl rfl (k739)))))))) k0))
set_option maxRecDepth 100000 in
set_option maxHeartbeats 4000000 in
theorem sg_L_freest_61r {L : Nat} {xs : Nat → Int32} {A V : Nat → Nat → Int32} {K : Nat → Option Nat} {T : am_H} {v : Option Int32} {h' : am_H} {v1 v2 v3 v4 v5 v6 : Int32} (k0 :
    am_fin [(z_O_fillUp, 0, [.ref 30, .int v1, .int (if 1080 < (v1 + v2) then 1080 else (v1 + v2) : Int32), .null, .null, .null, .null], []), (z_L_freest, 78, [.ref 1, .int v1, .int v2, .int v3, .int v4, .int v5, .int v6, .null], [])] (hp L xs A V K T) v h') : am_fin [(z_L_freest, 61, [.ref 1, .int v1, .int v2, .int v3, .int v4, .int v5, .int v6, .null], [])] (hp L xs A V K T) v h' :=
  fn_aload_n rl_L_freest_61 rfl (fn_get rl_L_freest_62 hp_1 rfl (fn_iload_n rl_L_freest_65 rfl (fn_iload_n rl_L_freest_66 rfl (fn_iload_n rl_L_freest_67 rfl (fn_iadd rl_L_freest_68 (fn_sipush rl_L_freest_69 (fn_min rl_L_freest_72 rfl (fn_virt (as := [.ref 30, .int v1, .int (if 1080 < (v1 + v2) then 1080 else (v1 + v2) : Int32)]) (r := []) (ls' := [.ref 30, .int v1, .int (if 1080 < (v1 + v2) then 1080 else (v1 + v2) : Int32), .null, .null, .null, .null]) rl_L_freest_75 rfl hp_30 rfl rfl pl_O_fillUp rfl rfl (k0)))))))))
set_option maxRecDepth 100000 in
set_option maxHeartbeats 4000000 in
theorem sg_L_freest_78r {L : Nat} {xs : Nat → Int32} {A V : Nat → Nat → Int32} {K : Nat → Option Nat} {T : am_H} {v : Option Int32} {h' : am_H} {v1 v2 v3 v4 v5 v6 r : Int32} (k0 :
    if r ≤ v5 then (
      am_fin [(z_L_freest, 38, [.ref 1, .int v1, .int v2, .int v3, .int v4, .int v5, .int (v6 + 1), .int r], [])] (hp L xs A V K T) v h')
    else (
      am_fin [(z_L_freest, 38, [.ref 1, .int v1, .int v2, .int v3, .int v6, .int r, .int (v6 + 1), .int r], [])] (hp L xs A V K T) v h')) : am_fin [(z_L_freest, 78, [.ref 1, .int v1, .int v2, .int v3, .int v4, .int v5, .int v6, .null], [.int r])] (hp L xs A V K T) v h' :=
  fn_istore (ls' := [.ref 1, .int v1, .int v2, .int v3, .int v4, .int v5, .int v6, .int r]) rl_L_freest_78 rfl rfl (fn_iload rl_L_freest_80 rfl (fn_iload rl_L_freest_82 rfl (fn_icmp_le rl_L_freest_84 (fun k740 => fn_iinc (ls' := [.ref 1, .int v1, .int v2, .int v3, .int v4, .int v5, .int (v6 + 1), .int r]) rl_L_freest_95 rfl rfl rfl (fn_goto rl_L_freest_98 (k740))) (fun k741 => fn_iload rl_L_freest_87 rfl (fn_istore (ls' := [.ref 1, .int v1, .int v2, .int v3, .int v6, .int v5, .int v6, .int r]) rl_L_freest_89 rfl rfl (fn_iload rl_L_freest_91 rfl (fn_istore (ls' := [.ref 1, .int v1, .int v2, .int v3, .int v6, .int r, .int v6, .int r]) rl_L_freest_93 rfl rfl (fn_iinc (ls' := [.ref 1, .int v1, .int v2, .int v3, .int v6, .int r, .int (v6 + 1), .int r]) rl_L_freest_95 rfl rfl rfl (fn_goto rl_L_freest_98 (k741))))))) k0)))
set_option maxRecDepth 100000 in
set_option maxHeartbeats 4000000 in
theorem sg_L_need_0 {L : Nat} {xs : Nat → Int32} {A V : Nat → Nat → Int32} {K : Nat → Option Nat} {T : am_H} {v : Option Int32} {h' : am_H} {a1 a2 : Int32} (k0 :
    if a1 < 0 then (
      v = some (-1) ∧ h' = hp L xs A V K T)
    else (
      if 5 < a1 then (
        v = some (-1) ∧ h' = hp L xs A V K T)
      else (
        if a2 < 0 then (
          v = some (-1) ∧ h' = hp L xs A V K T)
        else (
          if 2 < a2 then (
            v = some (-1) ∧ h' = hp L xs A V K T)
          else (
            am_fin [(z_J_weigh, 0, [.ref 26, .ref 3], []), (z_L_need, 30, [.ref 1, .int a1, .int a2], [])] (hp L xs A V K T) v h'))))) : am_fin [(z_L_need, 0, [.ref 1, .int a1, .int a2], [])] (hp L xs A V K T) v h' :=
  fn_iload_n rl_L_need_0 rfl (fn_stat (as := [.int a1]) (r := []) (ls' := [.int a1]) rl_L_need_1 rfl rfl rfl rfl pl_L_isLand rfl rfl (fn_iload_n rl_L_isLand_0 rfl (fn_iconst rl_L_isLand_1 (fn_iconst rl_L_isLand_2 (fn_stat (as := [.int a1, .int 0, .int 5]) (r := []) (ls' := [.int a1, .int 0, .int 5]) rl_L_isLand_3 rfl rfl rfl rfl pl_L_isAmong rfl rfl (fn_iload_n rl_L_isAmong_0 rfl (fn_iload_n rl_L_isAmong_1 rfl (fn_icmp_lt rl_L_isAmong_2 (fun k748 => fn_iconst rl_L_isAmong_14 (fn_retci rl_L_isAmong_15 rfl (fn_retci rl_L_isLand_6 rfl (fn_if_eq_t rl_L_need_4 (by decide +kernel) (fn_iconst rl_L_need_14 (fn_reti rl_L_need_15 rfl k748)))))) (fun k749 => fn_iload_n rl_L_isAmong_5 rfl (fn_iload_n rl_L_isAmong_6 rfl (fn_icmp_gt rl_L_isAmong_7 (fun k746 => fn_iconst rl_L_isAmong_14 (fn_retci rl_L_isAmong_15 rfl (fn_retci rl_L_isLand_6 rfl (fn_if_eq_t rl_L_need_4 (by decide +kernel) (fn_iconst rl_L_need_14 (fn_reti rl_L_need_15 rfl k746)))))) (fun k747 => fn_iconst rl_L_isAmong_10 (fn_goto rl_L_isAmong_11 (fn_retci rl_L_isAmong_15 rfl (fn_retci rl_L_isLand_6 rfl (fn_if_eq_f rl_L_need_4 (by decide +kernel) (fn_iload_n rl_L_need_7 rfl (fn_stat (as := [.int a2]) (r := []) (ls' := [.int a2]) rl_L_need_8 rfl rfl rfl rfl pl_L_isYear rfl rfl (fn_iload_n rl_L_isYear_0 rfl (fn_iconst rl_L_isYear_1 (fn_iconst rl_L_isYear_2 (fn_stat (as := [.int a2, .int 0, .int 2]) (r := []) (ls' := [.int a2, .int 0, .int 2]) rl_L_isYear_3 rfl rfl rfl rfl pl_L_isAmong rfl rfl (fn_iload_n rl_L_isAmong_0 rfl (fn_iload_n rl_L_isAmong_1 rfl (fn_icmp_lt rl_L_isAmong_2 (fun k744 => fn_iconst rl_L_isAmong_14 (fn_retci rl_L_isAmong_15 rfl (fn_retci rl_L_isYear_6 rfl (fn_if_ne_t rl_L_need_11 (by decide +kernel) (fn_iconst rl_L_need_14 (fn_reti rl_L_need_15 rfl k744)))))) (fun k745 => fn_iload_n rl_L_isAmong_5 rfl (fn_iload_n rl_L_isAmong_6 rfl (fn_icmp_gt rl_L_isAmong_7 (fun k742 => fn_iconst rl_L_isAmong_14 (fn_retci rl_L_isAmong_15 rfl (fn_retci rl_L_isYear_6 rfl (fn_if_ne_t rl_L_need_11 (by decide +kernel) (fn_iconst rl_L_need_14 (fn_reti rl_L_need_15 rfl k742)))))) (fun k743 => fn_iconst rl_L_isAmong_10 (fn_goto rl_L_isAmong_11 (fn_retci rl_L_isAmong_15 rfl (fn_retci rl_L_isYear_6 rfl (fn_if_ne_f rl_L_need_11 (by decide +kernel) (fn_aload_n rl_L_need_16 rfl (fn_get rl_L_need_17 hp_1 rfl (fn_aload_n rl_L_need_20 rfl (fn_get rl_L_need_21 hp_1 rfl (fn_get rl_L_need_24 hp_2 rfl (fn_virt (as := [.ref 26, .ref 3]) (r := []) (ls' := [.ref 26, .ref 3]) rl_L_need_27 rfl hp_26 rfl rfl pl_J_weigh rfl rfl (k743)))))))))))) k745))) k747)))))))))))))) k749))) k0))))))))
set_option maxRecDepth 100000 in
set_option maxHeartbeats 4000000 in
theorem sg_L_need_30r {L : Nat} {xs : Nat → Int32} {A V : Nat → Nat → Int32} {K : Nat → Option Nat} {T : am_H} {v : Option Int32} {h' : am_H} {v1 v2 : Int32} (k0 :
    am_fin [(z_J_needOf, 0, [.ref 26, .int v1, .int v2, .null, .null, .null, .null], []), (z_L_need, 39, [.ref 1, .int v1, .int v2], [])] (hp L xs A V K T) v h') : am_fin [(z_L_need, 30, [.ref 1, .int v1, .int v2], [])] (hp L xs A V K T) v h' :=
  fn_aload_n rl_L_need_30 rfl (fn_get rl_L_need_31 hp_1 rfl (fn_iload_n rl_L_need_34 rfl (fn_iload_n rl_L_need_35 rfl (fn_virt (as := [.ref 26, .int v1, .int v2]) (r := []) (ls' := [.ref 26, .int v1, .int v2, .null, .null, .null, .null]) rl_L_need_36 rfl hp_26 rfl rfl pl_J_needOf rfl rfl (k0)))))
set_option maxRecDepth 100000 in
set_option maxHeartbeats 4000000 in
theorem sg_L_need_39r {L : Nat} {xs : Nat → Int32} {A V : Nat → Nat → Int32} {K : Nat → Option Nat} {T : am_H} {v : Option Int32} {h' : am_H} {v1 v2 r : Int32} (k0 :
    v = some r ∧ h' = hp L xs A V K T) : am_fin [(z_L_need, 39, [.ref 1, .int v1, .int v2], [.int r])] (hp L xs A V K T) v h' :=
  fn_reti rl_L_need_39 rfl k0
set_option maxRecDepth 100000 in
set_option maxHeartbeats 4000000 in
theorem sg_L_moved_0 {L : Nat} {xs : Nat → Int32} {A V : Nat → Nat → Int32} {K : Nat → Option Nat} {T : am_H} {v : Option Int32} {h' : am_H} {a1 a2 : Int32} (k0 :
    if a1 < 0 then (
      v = some (-1) ∧ h' = hp L xs A V K T)
    else (
      if 1079 < a1 then (
        v = some (-1) ∧ h' = hp L xs A V K T)
      else (
        if a2 < (-1) then (
          v = some (-1) ∧ h' = hp L xs A V K T)
        else (
          if 5 < a2 then (
            v = some (-1) ∧ h' = hp L xs A V K T)
          else (
            am_fin [(z_J_weigh, 0, [.ref 26, .ref 3], []), (z_L_moved, 30, [.ref 1, .int a1, .int a2], [])] (hp L xs A V K T) v h'))))) : am_fin [(z_L_moved, 0, [.ref 1, .int a1, .int a2], [])] (hp L xs A V K T) v h' :=
  fn_iload_n rl_L_moved_0 rfl (fn_stat (as := [.int a1]) (r := []) (ls' := [.int a1]) rl_L_moved_1 rfl rfl rfl rfl pl_L_isDay rfl rfl (fn_iload_n rl_L_isDay_0 rfl (fn_iconst rl_L_isDay_1 (fn_sipush rl_L_isDay_2 (fn_stat (as := [.int a1, .int 0, .int 1079]) (r := []) (ls' := [.int a1, .int 0, .int 1079]) rl_L_isDay_5 rfl rfl rfl rfl pl_L_isAmong rfl rfl (fn_iload_n rl_L_isAmong_0 rfl (fn_iload_n rl_L_isAmong_1 rfl (fn_icmp_lt rl_L_isAmong_2 (fun k756 => fn_iconst rl_L_isAmong_14 (fn_retci rl_L_isAmong_15 rfl (fn_retci rl_L_isDay_8 rfl (fn_if_eq_t rl_L_moved_4 (by decide +kernel) (fn_iconst rl_L_moved_14 (fn_reti rl_L_moved_15 rfl k756)))))) (fun k757 => fn_iload_n rl_L_isAmong_5 rfl (fn_iload_n rl_L_isAmong_6 rfl (fn_icmp_gt rl_L_isAmong_7 (fun k754 => fn_iconst rl_L_isAmong_14 (fn_retci rl_L_isAmong_15 rfl (fn_retci rl_L_isDay_8 rfl (fn_if_eq_t rl_L_moved_4 (by decide +kernel) (fn_iconst rl_L_moved_14 (fn_reti rl_L_moved_15 rfl k754)))))) (fun k755 => fn_iconst rl_L_isAmong_10 (fn_goto rl_L_isAmong_11 (fn_retci rl_L_isAmong_15 rfl (fn_retci rl_L_isDay_8 rfl (fn_if_eq_f rl_L_moved_4 (by decide +kernel) (fn_iload_n rl_L_moved_7 rfl (fn_stat (as := [.int a2]) (r := []) (ls' := [.int a2]) rl_L_moved_8 rfl rfl rfl rfl pl_L_isPlace rfl rfl (fn_iload_n rl_L_isPlace_0 rfl (fn_iconst rl_L_isPlace_1 (fn_iconst rl_L_isPlace_2 (fn_stat (as := [.int a2, .int (-1), .int 5]) (r := []) (ls' := [.int a2, .int (-1), .int 5]) rl_L_isPlace_3 rfl rfl rfl rfl pl_L_isAmong rfl rfl (fn_iload_n rl_L_isAmong_0 rfl (fn_iload_n rl_L_isAmong_1 rfl (fn_icmp_lt rl_L_isAmong_2 (fun k752 => fn_iconst rl_L_isAmong_14 (fn_retci rl_L_isAmong_15 rfl (fn_retci rl_L_isPlace_6 rfl (fn_if_ne_t rl_L_moved_11 (by decide +kernel) (fn_iconst rl_L_moved_14 (fn_reti rl_L_moved_15 rfl k752)))))) (fun k753 => fn_iload_n rl_L_isAmong_5 rfl (fn_iload_n rl_L_isAmong_6 rfl (fn_icmp_gt rl_L_isAmong_7 (fun k750 => fn_iconst rl_L_isAmong_14 (fn_retci rl_L_isAmong_15 rfl (fn_retci rl_L_isPlace_6 rfl (fn_if_ne_t rl_L_moved_11 (by decide +kernel) (fn_iconst rl_L_moved_14 (fn_reti rl_L_moved_15 rfl k750)))))) (fun k751 => fn_iconst rl_L_isAmong_10 (fn_goto rl_L_isAmong_11 (fn_retci rl_L_isAmong_15 rfl (fn_retci rl_L_isPlace_6 rfl (fn_if_ne_f rl_L_moved_11 (by decide +kernel) (fn_aload_n rl_L_moved_16 rfl (fn_get rl_L_moved_17 hp_1 rfl (fn_aload_n rl_L_moved_20 rfl (fn_get rl_L_moved_21 hp_1 rfl (fn_get rl_L_moved_24 hp_2 rfl (fn_virt (as := [.ref 26, .ref 3]) (r := []) (ls' := [.ref 26, .ref 3]) rl_L_moved_27 rfl hp_26 rfl rfl pl_J_weigh rfl rfl (k751)))))))))))) k753))) k755)))))))))))))) k757))) k0))))))))
set_option maxRecDepth 100000 in
set_option maxHeartbeats 4000000 in
theorem sg_L_moved_30r {L : Nat} {xs : Nat → Int32} {A V : Nat → Nat → Int32} {K : Nat → Option Nat} {T : am_H} {v : Option Int32} {h' : am_H} {v1 v2 : Int32} (k0 :
    am_fin [(z_P_landOn, 0, [.ref 3, .int v1], []), (z_L_moved, 45, [.ref 1, .int v1, .int v2], [.ref 26])] (hp L xs A V K T) v h') : am_fin [(z_L_moved, 30, [.ref 1, .int v1, .int v2], [])] (hp L xs A V K T) v h' :=
  fn_aload_n rl_L_moved_30 rfl (fn_get rl_L_moved_31 hp_1 rfl (fn_aload_n rl_L_moved_34 rfl (fn_get rl_L_moved_35 hp_1 rfl (fn_get rl_L_moved_38 hp_2 rfl (fn_iload_n rl_L_moved_41 rfl (fn_virt (as := [.ref 3, .int v1]) (r := [.ref 26]) (ls' := [.ref 3, .int v1]) rl_L_moved_42 rfl hp_3 rfl rfl pl_P_landOn rfl rfl (k0)))))))
set_option maxRecDepth 100000 in
set_option maxHeartbeats 4000000 in
theorem sg_L_moved_45r {L : Nat} {xs : Nat → Int32} {A V : Nat → Nat → Int32} {K : Nat → Option Nat} {T : am_H} {v : Option Int32} {h' : am_H} {v1 v2 r : Int32} (k0 :
    am_fin [(z_J_livesIfMoved, 0, [.ref 26, .int r, .int v2, .int (v1 / 360), .null], []), (z_L_moved, 53, [.ref 1, .int v1, .int v2], [])] (hp L xs A V K T) v h') : am_fin [(z_L_moved, 45, [.ref 1, .int v1, .int v2], [.int r, .ref 26])] (hp L xs A V K T) v h' :=
  fn_iload_n rl_L_moved_45 rfl (fn_iload_n rl_L_moved_46 rfl (fn_stat (as := [.int v1]) (r := [.int v2, .int r, .ref 26]) (ls' := [.int v1]) rl_L_moved_47 rfl rfl rfl rfl pl_L_yearOf rfl rfl (fn_iload_n rl_L_yearOf_0 rfl (fn_sipush rl_L_yearOf_1 (fn_idiv rl_L_yearOf_4 (by decide +kernel) (fn_retci rl_L_yearOf_5 rfl (fn_virt (as := [.ref 26, .int r, .int v2, .int (v1 / 360)]) (r := []) (ls' := [.ref 26, .int r, .int v2, .int (v1 / 360), .null]) rl_L_moved_50 rfl hp_26 rfl rfl pl_J_livesIfMoved rfl rfl (k0))))))))
set_option maxRecDepth 100000 in
set_option maxHeartbeats 4000000 in
theorem sg_L_moved_53r {L : Nat} {xs : Nat → Int32} {A V : Nat → Nat → Int32} {K : Nat → Option Nat} {T : am_H} {v : Option Int32} {h' : am_H} {v1 v2 r : Int32} (k0 :
    v = some r ∧ h' = hp L xs A V K T) : am_fin [(z_L_moved, 53, [.ref 1, .int v1, .int v2], [.int r])] (hp L xs A V K T) v h' :=
  fn_reti rl_L_moved_53 rfl k0
set_option maxRecDepth 100000 in
set_option maxHeartbeats 4000000 in
theorem sg_L_loose_0 {L : Nat} {xs : Nat → Int32} {A V : Nat → Nat → Int32} {K : Nat → Option Nat} {T : am_H} {v : Option Int32} {h' : am_H} {a1 a2 : Int32} (k0 :
    if a1 < 0 then (
      v = some (-1) ∧ h' = hp L xs A V K T)
    else (
      if 2 < a1 then (
        v = some (-1) ∧ h' = hp L xs A V K T)
      else (
        if a2 < 0 then (
          v = some (-1) ∧ h' = hp L xs A V K T)
        else (
          if 1 < a2 then (
            v = some (-1) ∧ h' = hp L xs A V K T)
          else (
            am_fin [(z_J_weigh, 0, [.ref 26, .ref 3], []), (z_L_loose, 32, [.ref 1, .int a1, .int a2, .null, .null, .null, .null], [])] (hp L xs A V K T) v h'))))) : am_fin [(z_L_loose, 0, [.ref 1, .int a1, .int a2, .null, .null, .null, .null], [])] (hp L xs A V K T) v h' :=
  fn_iload_n rl_L_loose_0 rfl (fn_stat (as := [.int a1]) (r := []) (ls' := [.int a1]) rl_L_loose_1 rfl rfl rfl rfl pl_L_isYear rfl rfl (fn_iload_n rl_L_isYear_0 rfl (fn_iconst rl_L_isYear_1 (fn_iconst rl_L_isYear_2 (fn_stat (as := [.int a1, .int 0, .int 2]) (r := []) (ls' := [.int a1, .int 0, .int 2]) rl_L_isYear_3 rfl rfl rfl rfl pl_L_isAmong rfl rfl (fn_iload_n rl_L_isAmong_0 rfl (fn_iload_n rl_L_isAmong_1 rfl (fn_icmp_lt rl_L_isAmong_2 (fun k764 => fn_iconst rl_L_isAmong_14 (fn_retci rl_L_isAmong_15 rfl (fn_retci rl_L_isYear_6 rfl (fn_if_eq_t rl_L_loose_4 (by decide +kernel) (fn_iconst rl_L_loose_16 (fn_reti rl_L_loose_17 rfl k764)))))) (fun k765 => fn_iload_n rl_L_isAmong_5 rfl (fn_iload_n rl_L_isAmong_6 rfl (fn_icmp_gt rl_L_isAmong_7 (fun k762 => fn_iconst rl_L_isAmong_14 (fn_retci rl_L_isAmong_15 rfl (fn_retci rl_L_isYear_6 rfl (fn_if_eq_t rl_L_loose_4 (by decide +kernel) (fn_iconst rl_L_loose_16 (fn_reti rl_L_loose_17 rfl k762)))))) (fun k763 => fn_iconst rl_L_isAmong_10 (fn_goto rl_L_isAmong_11 (fn_retci rl_L_isAmong_15 rfl (fn_retci rl_L_isYear_6 rfl (fn_if_eq_f rl_L_loose_4 (by decide +kernel) (fn_iload_n rl_L_loose_7 rfl (fn_iconst rl_L_loose_8 (fn_iconst rl_L_loose_9 (fn_stat (as := [.int a2, .int 0, .int 1]) (r := []) (ls' := [.int a2, .int 0, .int 1]) rl_L_loose_10 rfl rfl rfl rfl pl_L_isAmong rfl rfl (fn_iload_n rl_L_isAmong_0 rfl (fn_iload_n rl_L_isAmong_1 rfl (fn_icmp_lt rl_L_isAmong_2 (fun k760 => fn_iconst rl_L_isAmong_14 (fn_retci rl_L_isAmong_15 rfl (fn_if_ne_t rl_L_loose_13 (by decide +kernel) (fn_iconst rl_L_loose_16 (fn_reti rl_L_loose_17 rfl k760))))) (fun k761 => fn_iload_n rl_L_isAmong_5 rfl (fn_iload_n rl_L_isAmong_6 rfl (fn_icmp_gt rl_L_isAmong_7 (fun k758 => fn_iconst rl_L_isAmong_14 (fn_retci rl_L_isAmong_15 rfl (fn_if_ne_t rl_L_loose_13 (by decide +kernel) (fn_iconst rl_L_loose_16 (fn_reti rl_L_loose_17 rfl k758))))) (fun k759 => fn_iconst rl_L_isAmong_10 (fn_goto rl_L_isAmong_11 (fn_retci rl_L_isAmong_15 rfl (fn_if_ne_f rl_L_loose_13 (by decide +kernel) (fn_aload_n rl_L_loose_18 rfl (fn_get rl_L_loose_19 hp_1 rfl (fn_aload_n rl_L_loose_22 rfl (fn_get rl_L_loose_23 hp_1 rfl (fn_get rl_L_loose_26 hp_2 rfl (fn_virt (as := [.ref 26, .ref 3]) (r := []) (ls' := [.ref 26, .ref 3]) rl_L_loose_29 rfl hp_26 rfl rfl pl_J_weigh rfl rfl (k759))))))))))) k761))) k763)))))))))))) k765))) k0))))))))
set_option maxRecDepth 100000 in
set_option maxHeartbeats 4000000 in
theorem sg_L_loose_32r {L : Nat} {xs : Nat → Int32} {A V : Nat → Nat → Int32} {K : Nat → Option Nat} {T : am_H} {v : Option Int32} {h' : am_H} {v1 v2 : Int32} (k0 :
    am_fin [(z_J_loosePlaces, 0, [.ref 26, .int v1, .null, .null, .null, .null], []), (z_L_loose, 40, [.ref 1, .int v1, .int v2, .null, .null, .null, .null], [])] (hp L xs A V K T) v h') : am_fin [(z_L_loose, 32, [.ref 1, .int v1, .int v2, .null, .null, .null, .null], [])] (hp L xs A V K T) v h' :=
  fn_aload_n rl_L_loose_32 rfl (fn_get rl_L_loose_33 hp_1 rfl (fn_iload_n rl_L_loose_36 rfl (fn_virt (as := [.ref 26, .int v1]) (r := []) (ls' := [.ref 26, .int v1, .null, .null, .null, .null]) rl_L_loose_37 rfl hp_26 rfl rfl pl_J_loosePlaces rfl rfl (k0))))
set_option maxRecDepth 100000 in
set_option maxHeartbeats 4000000 in
theorem sg_L_loose_40r {L : Nat} {xs : Nat → Int32} {A V : Nat → Nat → Int32} {K : Nat → Option Nat} {T : am_H} {v : Option Int32} {h' : am_H} {v1 v2 r : Int32} (k0 :
    am_fin [(z_L_loose, 54, [.ref 1, .int v1, .int v2, .int r, .int 0, .int (-2), .int (v1 * 360)], [])] (hp L xs A V K T) v h') : am_fin [(z_L_loose, 40, [.ref 1, .int v1, .int v2, .null, .null, .null, .null], [.int r])] (hp L xs A V K T) v h' :=
  fn_istore_n (ls' := [.ref 1, .int v1, .int v2, .int r, .null, .null, .null]) rl_L_loose_40 rfl rfl (fn_iconst rl_L_loose_41 (fn_istore (ls' := [.ref 1, .int v1, .int v2, .int r, .int 0, .null, .null]) rl_L_loose_42 rfl rfl (fn_bipush rl_L_loose_44 (fn_istore (ls' := [.ref 1, .int v1, .int v2, .int r, .int 0, .int (-2), .null]) rl_L_loose_46 rfl rfl (fn_iload_n rl_L_loose_48 rfl (fn_stat (as := [.int v1]) (r := []) (ls' := [.int v1]) rl_L_loose_49 rfl rfl rfl rfl pl_L_firstOf rfl rfl (fn_iload_n rl_L_firstOf_0 rfl (fn_sipush rl_L_firstOf_1 (fn_imul rl_L_firstOf_4 (fn_retci rl_L_firstOf_5 rfl (fn_istore (ls' := [.ref 1, .int v1, .int v2, .int r, .int 0, .int (-2), .int (v1 * 360)]) rl_L_loose_52 rfl rfl (k0))))))))))))
set_option maxRecDepth 100000 in
set_option maxHeartbeats 4000000 in
theorem sg_L_loose_54 {L : Nat} {xs : Nat → Int32} {A V : Nat → Nat → Int32} {K : Nat → Option Nat} {T : am_H} {v : Option Int32} {h' : am_H} {v1 v2 v3 v4 v5 v6 : Int32} (k0 :
    if (((v1 * 360) + 360) - 1) < v6 then (
      if v2 = 0 then (
        v = some v4 ∧ h' = hp L xs A V K T)
      else (
        v = some v5 ∧ h' = hp L xs A V K T))
    else (
      am_fin [(z_P_landOn, 0, [.ref 3, .int v6], []), (z_L_loose, 76, [.ref 1, .int v1, .int v2, .int v3, .int v4, .int v5, .int v6], [.int v3])] (hp L xs A V K T) v h')) : am_fin [(z_L_loose, 54, [.ref 1, .int v1, .int v2, .int v3, .int v4, .int v5, .int v6], [])] (hp L xs A V K T) v h' :=
  fn_iload rl_L_loose_54 rfl (fn_iload_n rl_L_loose_56 rfl (fn_stat (as := [.int v1]) (r := [.int v6]) (ls' := [.int v1]) rl_L_loose_57 rfl rfl rfl rfl pl_L_lastOf rfl rfl (fn_iload_n rl_L_lastOf_0 rfl (fn_sipush rl_L_lastOf_1 (fn_imul rl_L_lastOf_4 (fn_sipush rl_L_lastOf_5 (fn_iadd rl_L_lastOf_8 (fn_iconst rl_L_lastOf_9 (fn_isub rl_L_lastOf_10 (fn_retci rl_L_lastOf_11 rfl (fn_icmp_gt rl_L_loose_60 (fun k768 => fn_iload_n rl_L_loose_109 rfl (fn_if_ne rl_L_loose_110 (fun k766 => fn_iload rl_L_loose_113 rfl (fn_goto rl_L_loose_115 (fn_reti rl_L_loose_120 rfl k766))) (fun k767 => fn_iload rl_L_loose_118 rfl (fn_reti rl_L_loose_120 rfl k767)) k768)) (fun k769 => fn_iload_n rl_L_loose_63 rfl (fn_aload_n rl_L_loose_64 rfl (fn_get rl_L_loose_65 hp_1 rfl (fn_get rl_L_loose_68 hp_2 rfl (fn_iload rl_L_loose_71 rfl (fn_virt (as := [.ref 3, .int v6]) (r := [.int v3]) (ls' := [.ref 3, .int v6]) rl_L_loose_73 rfl hp_3 rfl rfl pl_P_landOn rfl rfl (k769))))))) k0)))))))))))
set_option maxRecDepth 100000 in
set_option maxHeartbeats 4000000 in
theorem sg_L_loose_76r {L : Nat} {xs : Nat → Int32} {A V : Nat → Nat → Int32} {K : Nat → Option Nat} {T : am_H} {v : Option Int32} {h' : am_H} {v1 v2 v3 v4 v5 v6 s0 r : Int32} (k0 :
    if (((s0 : Int32) >>> ((r + 1) &&& 31 : Int32)) &&& 1) = 1 then (
      if v5 = (-2) then (
        am_fin [(z_L_loose, 54, [.ref 1, .int v1, .int v2, .int v3, .int (v4 + 1), .int v6, .int (v6 + 1)], [])] (hp L xs A V K T) v h')
      else (
        am_fin [(z_L_loose, 54, [.ref 1, .int v1, .int v2, .int v3, .int (v4 + 1), .int v5, .int (v6 + 1)], [])] (hp L xs A V K T) v h'))
    else (
      am_fin [(z_L_loose, 54, [.ref 1, .int v1, .int v2, .int v3, .int v4, .int v5, .int (v6 + 1)], [])] (hp L xs A V K T) v h')) : am_fin [(z_L_loose, 76, [.ref 1, .int v1, .int v2, .int v3, .int v4, .int v5, .int v6], [.int r, .int s0])] (hp L xs A V K T) v h' :=
  fn_iconst rl_L_loose_76 (fn_iadd rl_L_loose_77 (fn_stat (as := [.int s0, .int (r + 1)]) (r := []) (ls' := [.int s0, .int (r + 1)]) rl_L_loose_78 rfl rfl rfl rfl pl_L_hasBit rfl rfl (fn_iload_n rl_L_hasBit_0 rfl (fn_iload_n rl_L_hasBit_1 rfl (fn_ishr rl_L_hasBit_2 (fn_iconst rl_L_hasBit_3 (fn_iand rl_L_hasBit_4 (fn_iconst rl_L_hasBit_5 (fn_icmp_ne rl_L_hasBit_6 (fun k772 => fn_iconst rl_L_hasBit_9 (fn_goto rl_L_hasBit_10 (fn_retci rl_L_hasBit_14 rfl (fn_if_eq_f rl_L_loose_81 (by decide +kernel) (fn_iinc (ls' := [.ref 1, .int v1, .int v2, .int v3, .int (v4 + 1), .int v5, .int v6]) rl_L_loose_84 rfl rfl rfl (fn_iload rl_L_loose_87 rfl (fn_bipush rl_L_loose_89 (fn_icmp_ne rl_L_loose_91 (fun k770 => fn_iload rl_L_loose_94 rfl (fn_goto rl_L_loose_96 (fn_istore (ls' := [.ref 1, .int v1, .int v2, .int v3, .int (v4 + 1), .int v6, .int v6]) rl_L_loose_101 rfl rfl (fn_iinc (ls' := [.ref 1, .int v1, .int v2, .int v3, .int (v4 + 1), .int v6, .int (v6 + 1)]) rl_L_loose_103 rfl rfl rfl (fn_goto rl_L_loose_106 (k770)))))) (fun k771 => fn_iload rl_L_loose_99 rfl (fn_istore (ls' := [.ref 1, .int v1, .int v2, .int v3, .int (v4 + 1), .int v5, .int v6]) rl_L_loose_101 rfl rfl (fn_iinc (ls' := [.ref 1, .int v1, .int v2, .int v3, .int (v4 + 1), .int v5, .int (v6 + 1)]) rl_L_loose_103 rfl rfl rfl (fn_goto rl_L_loose_106 (k771))))) k772)))))))) (fun k773 => fn_iconst rl_L_hasBit_13 (fn_retci rl_L_hasBit_14 rfl (fn_if_eq_t rl_L_loose_81 (by decide +kernel) (fn_iinc (ls' := [.ref 1, .int v1, .int v2, .int v3, .int v4, .int v5, .int (v6 + 1)]) rl_L_loose_103 rfl rfl rfl (fn_goto rl_L_loose_106 (k773)))))) k0)))))))))
set_option maxRecDepth 100000 in
set_option maxHeartbeats 4000000 in
theorem sg_L_nearest_0 {L : Nat} {xs : Nat → Int32} {A V : Nat → Nat → Int32} {K : Nat → Option Nat} {T : am_H} {v : Option Int32} {h' : am_H} {a1 a2 : Int32} (k0 :
    if a1 < 0 then (
      v = some (-1) ∧ h' = hp L xs A V K T)
    else (
      if 2 < a1 then (
        v = some (-1) ∧ h' = hp L xs A V K T)
      else (
        if a2 < 0 then (
          v = some (-1) ∧ h' = hp L xs A V K T)
        else (
          if 1 < a2 then (
            v = some (-1) ∧ h' = hp L xs A V K T)
          else (
            am_fin [(z_J_weigh, 0, [.ref 26, .ref 3], []), (z_L_nearest, 32, [.ref 1, .int a1, .int a2, .null, .null, .null, .null], [])] (hp L xs A V K T) v h'))))) : am_fin [(z_L_nearest, 0, [.ref 1, .int a1, .int a2, .null, .null, .null, .null], [])] (hp L xs A V K T) v h' :=
  fn_iload_n rl_L_nearest_0 rfl (fn_stat (as := [.int a1]) (r := []) (ls' := [.int a1]) rl_L_nearest_1 rfl rfl rfl rfl pl_L_isYear rfl rfl (fn_iload_n rl_L_isYear_0 rfl (fn_iconst rl_L_isYear_1 (fn_iconst rl_L_isYear_2 (fn_stat (as := [.int a1, .int 0, .int 2]) (r := []) (ls' := [.int a1, .int 0, .int 2]) rl_L_isYear_3 rfl rfl rfl rfl pl_L_isAmong rfl rfl (fn_iload_n rl_L_isAmong_0 rfl (fn_iload_n rl_L_isAmong_1 rfl (fn_icmp_lt rl_L_isAmong_2 (fun k780 => fn_iconst rl_L_isAmong_14 (fn_retci rl_L_isAmong_15 rfl (fn_retci rl_L_isYear_6 rfl (fn_if_eq_t rl_L_nearest_4 (by decide +kernel) (fn_iconst rl_L_nearest_16 (fn_reti rl_L_nearest_17 rfl k780)))))) (fun k781 => fn_iload_n rl_L_isAmong_5 rfl (fn_iload_n rl_L_isAmong_6 rfl (fn_icmp_gt rl_L_isAmong_7 (fun k778 => fn_iconst rl_L_isAmong_14 (fn_retci rl_L_isAmong_15 rfl (fn_retci rl_L_isYear_6 rfl (fn_if_eq_t rl_L_nearest_4 (by decide +kernel) (fn_iconst rl_L_nearest_16 (fn_reti rl_L_nearest_17 rfl k778)))))) (fun k779 => fn_iconst rl_L_isAmong_10 (fn_goto rl_L_isAmong_11 (fn_retci rl_L_isAmong_15 rfl (fn_retci rl_L_isYear_6 rfl (fn_if_eq_f rl_L_nearest_4 (by decide +kernel) (fn_iload_n rl_L_nearest_7 rfl (fn_iconst rl_L_nearest_8 (fn_iconst rl_L_nearest_9 (fn_stat (as := [.int a2, .int 0, .int 1]) (r := []) (ls' := [.int a2, .int 0, .int 1]) rl_L_nearest_10 rfl rfl rfl rfl pl_L_isAmong rfl rfl (fn_iload_n rl_L_isAmong_0 rfl (fn_iload_n rl_L_isAmong_1 rfl (fn_icmp_lt rl_L_isAmong_2 (fun k776 => fn_iconst rl_L_isAmong_14 (fn_retci rl_L_isAmong_15 rfl (fn_if_ne_t rl_L_nearest_13 (by decide +kernel) (fn_iconst rl_L_nearest_16 (fn_reti rl_L_nearest_17 rfl k776))))) (fun k777 => fn_iload_n rl_L_isAmong_5 rfl (fn_iload_n rl_L_isAmong_6 rfl (fn_icmp_gt rl_L_isAmong_7 (fun k774 => fn_iconst rl_L_isAmong_14 (fn_retci rl_L_isAmong_15 rfl (fn_if_ne_t rl_L_nearest_13 (by decide +kernel) (fn_iconst rl_L_nearest_16 (fn_reti rl_L_nearest_17 rfl k774))))) (fun k775 => fn_iconst rl_L_isAmong_10 (fn_goto rl_L_isAmong_11 (fn_retci rl_L_isAmong_15 rfl (fn_if_ne_f rl_L_nearest_13 (by decide +kernel) (fn_aload_n rl_L_nearest_18 rfl (fn_get rl_L_nearest_19 hp_1 rfl (fn_aload_n rl_L_nearest_22 rfl (fn_get rl_L_nearest_23 hp_1 rfl (fn_get rl_L_nearest_26 hp_2 rfl (fn_virt (as := [.ref 26, .ref 3]) (r := []) (ls' := [.ref 26, .ref 3]) rl_L_nearest_29 rfl hp_26 rfl rfl pl_J_weigh rfl rfl (k775))))))))))) k777))) k779)))))))))))) k781))) k0))))))))
set_option maxRecDepth 100000 in
set_option maxHeartbeats 4000000 in
theorem sg_L_nearest_32r {L : Nat} {xs : Nat → Int32} {A V : Nat → Nat → Int32} {K : Nat → Option Nat} {T : am_H} {v : Option Int32} {h' : am_H} {v1 v2 : Int32} (k0 :
    am_fin [(z_L_nearest, 42, [.ref 1, .int v1, .int v2, .int (-2), .int (-2), .int 0, .null], [])] (hp L xs A V K T) v h') : am_fin [(z_L_nearest, 32, [.ref 1, .int v1, .int v2, .null, .null, .null, .null], [])] (hp L xs A V K T) v h' :=
  fn_bipush rl_L_nearest_32 (fn_istore_n (ls' := [.ref 1, .int v1, .int v2, .int (-2), .null, .null, .null]) rl_L_nearest_34 rfl rfl (fn_bipush rl_L_nearest_35 (fn_istore (ls' := [.ref 1, .int v1, .int v2, .int (-2), .int (-2), .null, .null]) rl_L_nearest_37 rfl rfl (fn_iconst rl_L_nearest_39 (fn_istore (ls' := [.ref 1, .int v1, .int v2, .int (-2), .int (-2), .int 0, .null]) rl_L_nearest_40 rfl rfl (k0))))))
set_option maxRecDepth 100000 in
set_option maxHeartbeats 4000000 in
theorem sg_L_nearest_42 {L : Nat} {xs : Nat → Int32} {A V : Nat → Nat → Int32} {K : Nat → Option Nat} {T : am_H} {v : Option Int32} {h' : am_H} {v1 v2 v3 v4 v5 : Int32} (k0 :
    if 6 ≤ v5 then (
      if v2 = 0 then (
        v = some v3 ∧ h' = hp L xs A V K T)
      else (
        v = some v4 ∧ h' = hp L xs A V K T))
    else (
      am_fin [(z_J_needOf, 0, [.ref 26, .int v5, .int v1, .null, .null, .null, .null], []), (z_L_nearest, 59, [.ref 1, .int v1, .int v2, .int v3, .int v4, .int v5, .null], [])] (hp L xs A V K T) v h')) : am_fin [(z_L_nearest, 42, [.ref 1, .int v1, .int v2, .int v3, .int v4, .int v5, .null], [])] (hp L xs A V K T) v h' :=
  fn_iload rl_L_nearest_42 rfl (fn_bipush rl_L_nearest_44 (fn_icmp_ge rl_L_nearest_46 (fun k784 => fn_iload_n rl_L_nearest_92 rfl (fn_if_ne rl_L_nearest_93 (fun k782 => fn_iload_n rl_L_nearest_96 rfl (fn_goto rl_L_nearest_97 (fn_reti rl_L_nearest_102 rfl k782))) (fun k783 => fn_iload rl_L_nearest_100 rfl (fn_reti rl_L_nearest_102 rfl k783)) k784)) (fun k785 => fn_aload_n rl_L_nearest_49 rfl (fn_get rl_L_nearest_50 hp_1 rfl (fn_iload rl_L_nearest_53 rfl (fn_iload_n rl_L_nearest_55 rfl (fn_virt (as := [.ref 26, .int v5, .int v1]) (r := []) (ls' := [.ref 26, .int v5, .int v1, .null, .null, .null, .null]) rl_L_nearest_56 rfl hp_26 rfl rfl pl_J_needOf rfl rfl (k785)))))) k0))
set_option maxRecDepth 100000 in
set_option maxHeartbeats 4000000 in
theorem sg_L_nearest_59r {L : Nat} {xs : Nat → Int32} {A V : Nat → Nat → Int32} {K : Nat → Option Nat} {T : am_H} {v : Option Int32} {h' : am_H} {v1 v2 v3 v4 v5 r : Int32} (k0 :
    if r ≤ 0 then (
      am_fin [(z_L_nearest, 42, [.ref 1, .int v1, .int v2, .int v3, .int v4, .int (v5 + 1), .int r], [])] (hp L xs A V K T) v h')
    else (
      if v3 = (-2) then (
        am_fin [(z_L_nearest, 42, [.ref 1, .int v1, .int v2, .int v5, .int r, .int (v5 + 1), .int r], [])] (hp L xs A V K T) v h')
      else (
        if v4 ≤ r then (
          am_fin [(z_L_nearest, 42, [.ref 1, .int v1, .int v2, .int v3, .int v4, .int (v5 + 1), .int r], [])] (hp L xs A V K T) v h')
        else (
          am_fin [(z_L_nearest, 42, [.ref 1, .int v1, .int v2, .int v5, .int r, .int (v5 + 1), .int r], [])] (hp L xs A V K T) v h')))) : am_fin [(z_L_nearest, 59, [.ref 1, .int v1, .int v2, .int v3, .int v4, .int v5, .null], [.int r])] (hp L xs A V K T) v h' :=
  fn_istore (ls' := [.ref 1, .int v1, .int v2, .int v3, .int v4, .int v5, .int r]) rl_L_nearest_59 rfl rfl (fn_iload rl_L_nearest_61 rfl (fn_if_le rl_L_nearest_63 (fun k790 => fn_iinc (ls' := [.ref 1, .int v1, .int v2, .int v3, .int v4, .int (v5 + 1), .int r]) rl_L_nearest_86 rfl rfl rfl (fn_goto rl_L_nearest_89 (k790))) (fun k791 => fn_iload_n rl_L_nearest_66 rfl (fn_bipush rl_L_nearest_67 (fn_icmp_eq rl_L_nearest_69 (fun k788 => fn_iload rl_L_nearest_79 rfl (fn_istore_n (ls' := [.ref 1, .int v1, .int v2, .int v5, .int v4, .int v5, .int r]) rl_L_nearest_81 rfl rfl (fn_iload rl_L_nearest_82 rfl (fn_istore (ls' := [.ref 1, .int v1, .int v2, .int v5, .int r, .int v5, .int r]) rl_L_nearest_84 rfl rfl (fn_iinc (ls' := [.ref 1, .int v1, .int v2, .int v5, .int r, .int (v5 + 1), .int r]) rl_L_nearest_86 rfl rfl rfl (fn_goto rl_L_nearest_89 (k788))))))) (fun k789 => fn_iload rl_L_nearest_72 rfl (fn_iload rl_L_nearest_74 rfl (fn_icmp_ge rl_L_nearest_76 (fun k786 => fn_iinc (ls' := [.ref 1, .int v1, .int v2, .int v3, .int v4, .int (v5 + 1), .int r]) rl_L_nearest_86 rfl rfl rfl (fn_goto rl_L_nearest_89 (k786))) (fun k787 => fn_iload rl_L_nearest_79 rfl (fn_istore_n (ls' := [.ref 1, .int v1, .int v2, .int v5, .int v4, .int v5, .int r]) rl_L_nearest_81 rfl rfl (fn_iload rl_L_nearest_82 rfl (fn_istore (ls' := [.ref 1, .int v1, .int v2, .int v5, .int r, .int v5, .int r]) rl_L_nearest_84 rfl rfl (fn_iinc (ls' := [.ref 1, .int v1, .int v2, .int v5, .int r, .int (v5 + 1), .int r]) rl_L_nearest_86 rfl rfl rfl (fn_goto rl_L_nearest_89 (k787))))))) k789))) k791))) k0))
set_option maxRecDepth 100000 in
set_option maxHeartbeats 4000000 in
theorem sg_L_instead_0 {L : Nat} {xs : Nat → Int32} {A V : Nat → Nat → Int32} {K : Nat → Option Nat} {T : am_H} {v : Option Int32} {h' : am_H} {a1 a2 a3 a4 a5 : Int32} (k0 :
    if a1 < 0 then (
      v = some (-1) ∧ h' = hp L xs A V K T)
    else (
      if 5 < a1 then (
        v = some (-1) ∧ h' = hp L xs A V K T)
      else (
        if a2 < (-1) then (
          v = some (-1) ∧ h' = hp L xs A V K T)
        else (
          if 5 < a2 then (
            v = some (-1) ∧ h' = hp L xs A V K T)
          else (
            if a1 = a2 then (
              v = some (-1) ∧ h' = hp L xs A V K T)
            else (
              if a3 < 0 then (
                v = some (-1) ∧ h' = hp L xs A V K T)
              else (
                if 1079 < a3 then (
                  v = some (-1) ∧ h' = hp L xs A V K T)
                else (
                  if a4 < 0 then (
                    v = some (-1) ∧ h' = hp L xs A V K T)
                  else (
                    if 1079 < a4 then (
                      v = some (-1) ∧ h' = hp L xs A V K T)
                    else (
                      if a4 < a3 then (
                        v = some (-1) ∧ h' = hp L xs A V K T)
                      else (
                        if a5 < 0 then (
                          v = some (-1) ∧ h' = hp L xs A V K T)
                        else (
                          if 4 < a5 then (
                            v = some (-1) ∧ h' = hp L xs A V K T)
                          else (
                            am_fin [(z_L_instead, 55, [.ref 1, .int a1, .int a2, .int a3, .int a4, .int a5, .int a3], [])] (hp L xs (upA A 35 (va_cpy (A 4) (A 35) (0 : Int32).toNatClampNeg (0 : Int32).toNatClampNeg (1080 : Int32).toNatClampNeg)) V K T) v h'))))))))))))) : am_fin [(z_L_instead, 0, [.ref 1, .int a1, .int a2, .int a3, .int a4, .int a5, .null], [])] (hp L xs A V K T) v h' :=
  fn_iload_n rl_L_instead_0 rfl (fn_stat (as := [.int a1]) (r := []) (ls' := [.int a1]) rl_L_instead_1 rfl rfl rfl rfl pl_L_isLand rfl rfl (fn_iload_n rl_L_isLand_0 rfl (fn_iconst rl_L_isLand_1 (fn_iconst rl_L_isLand_2 (fn_stat (as := [.int a1, .int 0, .int 5]) (r := []) (ls' := [.int a1, .int 0, .int 5]) rl_L_isLand_3 rfl rfl rfl rfl pl_L_isAmong rfl rfl (fn_iload_n rl_L_isAmong_0 rfl (fn_iload_n rl_L_isAmong_1 rfl (fn_icmp_lt rl_L_isAmong_2 (fun k815 => fn_iconst rl_L_isAmong_14 (fn_retci rl_L_isAmong_15 rfl (fn_retci rl_L_isLand_6 rfl (fn_if_eq_t rl_L_instead_4 (by decide +kernel) (fn_iconst rl_L_instead_36 (fn_reti rl_L_instead_37 rfl k815)))))) (fun k816 => fn_iload_n rl_L_isAmong_5 rfl (fn_iload_n rl_L_isAmong_6 rfl (fn_icmp_gt rl_L_isAmong_7 (fun k813 => fn_iconst rl_L_isAmong_14 (fn_retci rl_L_isAmong_15 rfl (fn_retci rl_L_isLand_6 rfl (fn_if_eq_t rl_L_instead_4 (by decide +kernel) (fn_iconst rl_L_instead_36 (fn_reti rl_L_instead_37 rfl k813)))))) (fun k814 => fn_iconst rl_L_isAmong_10 (fn_goto rl_L_isAmong_11 (fn_retci rl_L_isAmong_15 rfl (fn_retci rl_L_isLand_6 rfl (fn_if_eq_f rl_L_instead_4 (by decide +kernel) (fn_iload_n rl_L_instead_7 rfl (fn_stat (as := [.int a2]) (r := []) (ls' := [.int a2]) rl_L_instead_8 rfl rfl rfl rfl pl_L_isPlace rfl rfl (fn_iload_n rl_L_isPlace_0 rfl (fn_iconst rl_L_isPlace_1 (fn_iconst rl_L_isPlace_2 (fn_stat (as := [.int a2, .int (-1), .int 5]) (r := []) (ls' := [.int a2, .int (-1), .int 5]) rl_L_isPlace_3 rfl rfl rfl rfl pl_L_isAmong rfl rfl (fn_iload_n rl_L_isAmong_0 rfl (fn_iload_n rl_L_isAmong_1 rfl (fn_icmp_lt rl_L_isAmong_2 (fun k811 => fn_iconst rl_L_isAmong_14 (fn_retci rl_L_isAmong_15 rfl (fn_retci rl_L_isPlace_6 rfl (fn_if_eq_t rl_L_instead_11 (by decide +kernel) (fn_iconst rl_L_instead_36 (fn_reti rl_L_instead_37 rfl k811)))))) (fun k812 => fn_iload_n rl_L_isAmong_5 rfl (fn_iload_n rl_L_isAmong_6 rfl (fn_icmp_gt rl_L_isAmong_7 (fun k809 => fn_iconst rl_L_isAmong_14 (fn_retci rl_L_isAmong_15 rfl (fn_retci rl_L_isPlace_6 rfl (fn_if_eq_t rl_L_instead_11 (by decide +kernel) (fn_iconst rl_L_instead_36 (fn_reti rl_L_instead_37 rfl k809)))))) (fun k810 => fn_iconst rl_L_isAmong_10 (fn_goto rl_L_isAmong_11 (fn_retci rl_L_isAmong_15 rfl (fn_retci rl_L_isPlace_6 rfl (fn_if_eq_f rl_L_instead_11 (by decide +kernel) (fn_iload_n rl_L_instead_14 rfl (fn_iload_n rl_L_instead_15 rfl (fn_icmp_eq rl_L_instead_16 (fun k807 => fn_iconst rl_L_instead_36 (fn_reti rl_L_instead_37 rfl k807)) (fun k808 => fn_iload_n rl_L_instead_19 rfl (fn_iload rl_L_instead_20 rfl (fn_stat (as := [.int a3, .int a4]) (r := []) (ls' := [.int a3, .int a4]) rl_L_instead_22 rfl rfl rfl rfl pl_L_isSpan rfl rfl (fn_iload_n rl_L_isSpan_0 rfl (fn_stat (as := [.int a3]) (r := []) (ls' := [.int a3]) rl_L_isSpan_1 rfl rfl rfl rfl pl_L_isDay rfl rfl (fn_iload_n rl_L_isDay_0 rfl (fn_iconst rl_L_isDay_1 (fn_sipush rl_L_isDay_2 (fn_stat (as := [.int a3, .int 0, .int 1079]) (r := []) (ls' := [.int a3, .int 0, .int 1079]) rl_L_isDay_5 rfl rfl rfl rfl pl_L_isAmong rfl rfl (fn_iload_n rl_L_isAmong_0 rfl (fn_iload_n rl_L_isAmong_1 rfl (fn_icmp_lt rl_L_isAmong_2 (fun k805 => fn_iconst rl_L_isAmong_14 (fn_retci rl_L_isAmong_15 rfl (fn_retci rl_L_isDay_8 rfl (fn_if_eq_t rl_L_isSpan_4 (by decide +kernel) (fn_iconst rl_L_isSpan_23 (fn_retci rl_L_isSpan_24 rfl (fn_if_eq_t rl_L_instead_25 (by decide +kernel) (fn_iconst rl_L_instead_36 (fn_reti rl_L_instead_37 rfl k805))))))))) (fun k806 => fn_iload_n rl_L_isAmong_5 rfl (fn_iload_n rl_L_isAmong_6 rfl (fn_icmp_gt rl_L_isAmong_7 (fun k803 => fn_iconst rl_L_isAmong_14 (fn_retci rl_L_isAmong_15 rfl (fn_retci rl_L_isDay_8 rfl (fn_if_eq_t rl_L_isSpan_4 (by decide +kernel) (fn_iconst rl_L_isSpan_23 (fn_retci rl_L_isSpan_24 rfl (fn_if_eq_t rl_L_instead_25 (by decide +kernel) (fn_iconst rl_L_instead_36 (fn_reti rl_L_instead_37 rfl k803))))))))) (fun k804 => fn_iconst rl_L_isAmong_10 (fn_goto rl_L_isAmong_11 (fn_retci rl_L_isAmong_15 rfl (fn_retci rl_L_isDay_8 rfl (fn_if_eq_f rl_L_isSpan_4 (by decide +kernel) (fn_iload_n rl_L_isSpan_7 rfl (fn_stat (as := [.int a4]) (r := []) (ls' := [.int a4]) rl_L_isSpan_8 rfl rfl rfl rfl pl_L_isDay rfl rfl (fn_iload_n rl_L_isDay_0 rfl (fn_iconst rl_L_isDay_1 (fn_sipush rl_L_isDay_2 (fn_stat (as := [.int a4, .int 0, .int 1079]) (r := []) (ls' := [.int a4, .int 0, .int 1079]) rl_L_isDay_5 rfl rfl rfl rfl pl_L_isAmong rfl rfl (fn_iload_n rl_L_isAmong_0 rfl (fn_iload_n rl_L_isAmong_1 rfl (fn_icmp_lt rl_L_isAmong_2 (fun k801 => fn_iconst rl_L_isAmong_14 (fn_retci rl_L_isAmong_15 rfl (fn_retci rl_L_isDay_8 rfl (fn_if_eq_t rl_L_isSpan_11 (by decide +kernel) (fn_iconst rl_L_isSpan_23 (fn_retci rl_L_isSpan_24 rfl (fn_if_eq_t rl_L_instead_25 (by decide +kernel) (fn_iconst rl_L_instead_36 (fn_reti rl_L_instead_37 rfl k801))))))))) (fun k802 => fn_iload_n rl_L_isAmong_5 rfl (fn_iload_n rl_L_isAmong_6 rfl (fn_icmp_gt rl_L_isAmong_7 (fun k799 => fn_iconst rl_L_isAmong_14 (fn_retci rl_L_isAmong_15 rfl (fn_retci rl_L_isDay_8 rfl (fn_if_eq_t rl_L_isSpan_11 (by decide +kernel) (fn_iconst rl_L_isSpan_23 (fn_retci rl_L_isSpan_24 rfl (fn_if_eq_t rl_L_instead_25 (by decide +kernel) (fn_iconst rl_L_instead_36 (fn_reti rl_L_instead_37 rfl k799))))))))) (fun k800 => fn_iconst rl_L_isAmong_10 (fn_goto rl_L_isAmong_11 (fn_retci rl_L_isAmong_15 rfl (fn_retci rl_L_isDay_8 rfl (fn_if_eq_f rl_L_isSpan_11 (by decide +kernel) (fn_iload_n rl_L_isSpan_14 rfl (fn_iload_n rl_L_isSpan_15 rfl (fn_icmp_gt rl_L_isSpan_16 (fun k797 => fn_iconst rl_L_isSpan_23 (fn_retci rl_L_isSpan_24 rfl (fn_if_eq_t rl_L_instead_25 (by decide +kernel) (fn_iconst rl_L_instead_36 (fn_reti rl_L_instead_37 rfl k797))))) (fun k798 => fn_iconst rl_L_isSpan_19 (fn_goto rl_L_isSpan_20 (fn_retci rl_L_isSpan_24 rfl (fn_if_eq_f rl_L_instead_25 (by decide +kernel) (fn_iload rl_L_instead_28 rfl (fn_stat (as := [.int a5]) (r := []) (ls' := [.int a5]) rl_L_instead_30 rfl rfl rfl rfl pl_L_isOutcome rfl rfl (fn_iload_n rl_L_isOutcome_0 rfl (fn_iconst rl_L_isOutcome_1 (fn_iconst rl_L_isOutcome_2 (fn_stat (as := [.int a5, .int 0, .int 4]) (r := []) (ls' := [.int a5, .int 0, .int 4]) rl_L_isOutcome_3 rfl rfl rfl rfl pl_L_isAmong rfl rfl (fn_iload_n rl_L_isAmong_0 rfl (fn_iload_n rl_L_isAmong_1 rfl (fn_icmp_lt rl_L_isAmong_2 (fun k795 => fn_iconst rl_L_isAmong_14 (fn_retci rl_L_isAmong_15 rfl (fn_retci rl_L_isOutcome_6 rfl (fn_if_ne_t rl_L_instead_33 (by decide +kernel) (fn_iconst rl_L_instead_36 (fn_reti rl_L_instead_37 rfl k795)))))) (fun k796 => fn_iload_n rl_L_isAmong_5 rfl (fn_iload_n rl_L_isAmong_6 rfl (fn_icmp_gt rl_L_isAmong_7 (fun k793 => fn_iconst rl_L_isAmong_14 (fn_retci rl_L_isAmong_15 rfl (fn_retci rl_L_isOutcome_6 rfl (fn_if_ne_t rl_L_instead_33 (by decide +kernel) (fn_iconst rl_L_instead_36 (fn_reti rl_L_instead_37 rfl k793)))))) (fun k794 => fn_iconst rl_L_isAmong_10 (fn_goto rl_L_isAmong_11 (fn_retci rl_L_isAmong_15 rfl (fn_retci rl_L_isOutcome_6 rfl (fn_if_ne_f rl_L_instead_33 (by decide +kernel) (fn_aload_n rl_L_instead_38 rfl (fn_get rl_L_instead_39 hp_1 rfl (fn_aload_n rl_L_instead_42 rfl (fn_get rl_L_instead_43 hp_1 rfl (fn_get rl_L_instead_46 hp_2 rfl (fn_virt (as := [.ref 34, .ref 3]) (r := []) (ls' := [.ref 34, .ref 3]) rl_L_instead_49 rfl hp_34 rfl rfl pl_P_copyFrom rfl rfl (fn_aload_n rl_P_copyFrom_0 rfl (fn_get rl_P_copyFrom_1 hp_3 rfl (fn_iconst rl_P_copyFrom_4 (fn_aload_n rl_P_copyFrom_5 rfl (fn_get rl_P_copyFrom_6 hp_34 rfl (fn_iconst rl_P_copyFrom_9 (fn_sipush rl_P_copyFrom_10 (fn_copy rl_P_copyFrom_13 rfl hp_4 hp_35 hps_35 (fun k792 => fn_retcv rl_P_copyFrom_16 (fn_iload_n rl_L_instead_52 rfl (fn_istore (ls' := [.ref 1, .int a1, .int a2, .int a3, .int a4, .int a5, .int a3]) rl_L_instead_53 rfl rfl (k792)))) ⟨by decide +kernel, k794⟩))))))))))))))))))) k796))) k798))))))))))))) k800)))))))) k802))) k804)))))))))))))) k806))) k808)))))))))))) k810)))))))) k812))) k814)))))))))))))) k816))) k0))))))))
set_option maxRecDepth 100000 in
set_option maxHeartbeats 4000000 in
theorem sg_L_instead_55 {L : Nat} {xs : Nat → Int32} {A V : Nat → Nat → Int32} {K : Nat → Option Nat} {T : am_H} {v : Option Int32} {h' : am_H} {v1 v2 v3 v4 v5 v6 : Int32} (k0 :
    if v4 < v6 then (
      am_fin [(z_L_outcome, 0, [.ref 1, .int v5], []), (z_L_instead, 99, [.ref 1, .int v1, .int v2, .int v3, .int v4, .int v5, .int v6], [])] (hp L xs A V K T) v h')
    else (
      ¬ (v6 < 0 ∨ 1080 ≤ v6.toNatClampNeg) ∧ (
      if ((A 35) v6.toNatClampNeg) = v1 then (
        ¬ (v6 < 0 ∨ 1080 ≤ v6.toNatClampNeg) ∧ (
        am_fin [(z_L_instead, 55, [.ref 1, .int v1, .int v2, .int v3, .int v4, .int v5, .int (v6 + 1)], [])] (hp L xs (upA A 35 (upd (A 35) v6.toNatClampNeg v2)) V K T) v h'))
      else (
        am_fin [(z_L_instead, 55, [.ref 1, .int v1, .int v2, .int v3, .int v4, .int v5, .int (v6 + 1)], [])] (hp L xs A V K T) v h')))) : am_fin [(z_L_instead, 55, [.ref 1, .int v1, .int v2, .int v3, .int v4, .int v5, .int v6], [])] (hp L xs A V K T) v h' :=
  fn_iload rl_L_instead_55 rfl (fn_iload rl_L_instead_57 rfl (fn_icmp_gt rl_L_instead_59 (fun k821 => fn_aload_n rl_L_instead_93 rfl (fn_iload rl_L_instead_94 rfl (fn_virt (as := [.ref 1, .int v5]) (r := []) (ls' := [.ref 1, .int v5]) rl_L_instead_96 rfl hp_1 rfl rfl pl_L_outcome rfl rfl (k821)))) (fun k822 => fn_aload_n rl_L_instead_62 rfl (fn_get rl_L_instead_63 hp_1 rfl (fn_get rl_L_instead_66 hp_34 rfl (fn_iload rl_L_instead_69 rfl (fn_iald rl_L_instead_71 hp_35 (fun k820 => fn_iload_n rl_L_instead_72 rfl (fn_icmp_ne rl_L_instead_73 (fun k818 => fn_aload_n rl_L_instead_76 rfl (fn_get rl_L_instead_77 hp_1 rfl (fn_get rl_L_instead_80 hp_34 rfl (fn_iload rl_L_instead_83 rfl (fn_iload_n rl_L_instead_85 rfl (fn_iast rl_L_instead_86 hp_35 hps_35 (fun k817 => fn_iinc (ls' := [.ref 1, .int v1, .int v2, .int v3, .int v4, .int v5, .int (v6 + 1)]) rl_L_instead_87 rfl rfl rfl (fn_goto rl_L_instead_90 (k817))) k818)))))) (fun k819 => fn_iinc (ls' := [.ref 1, .int v1, .int v2, .int v3, .int v4, .int v5, .int (v6 + 1)]) rl_L_instead_87 rfl rfl rfl (fn_goto rl_L_instead_90 (k819))) k820)) k822))))) k0))
set_option maxRecDepth 100000 in
set_option maxHeartbeats 4000000 in
theorem sg_L_instead_99r {L : Nat} {xs : Nat → Int32} {A V : Nat → Nat → Int32} {K : Nat → Option Nat} {T : am_H} {v : Option Int32} {h' : am_H} {v1 v2 v3 v4 v5 v6 r : Int32} (k0 :
    v = some r ∧ h' = hp L xs A V K T) : am_fin [(z_L_instead, 99, [.ref 1, .int v1, .int v2, .int v3, .int v4, .int v5, .int v6], [.int r])] (hp L xs A V K T) v h' :=
  fn_reti rl_L_instead_99 rfl k0
set_option maxRecDepth 100000 in
set_option maxHeartbeats 4000000 in
theorem sg_L_trip_0 {L : Nat} {xs : Nat → Int32} {A V : Nat → Nat → Int32} {K : Nat → Option Nat} {T : am_H} {v : Option Int32} {h' : am_H} {a1 a2 : Int32} (k0 :
    if a1 < 1 then (
      v = some (-1) ∧ h' = hp L xs A V K T)
    else (
      if 160 < a1 then (
        v = some (-1) ∧ h' = hp L xs A V K T)
      else (
        if (V 19 1) < a1 then (
          v = some (-1) ∧ h' = hp L xs A V K T)
        else (
          if a2 < 0 then (
            v = some (-1) ∧ h' = hp L xs A V K T)
          else (
            if 4 < a2 then (
              v = some (-1) ∧ h' = hp L xs A V K T)
            else (
              am_fin [(z_D_readText, 0, [.ref 21, .int a1, .null, .null], []), (z_L_trip, 25, [.ref 1, .int a1, .int a2, .null], [])] (hp L xs A V K T) v h')))))) : am_fin [(z_L_trip, 0, [.ref 1, .int a1, .int a2, .null], [])] (hp L xs A V K T) v h' :=
  fn_aload_n rl_L_trip_0 rfl (fn_iload_n rl_L_trip_1 rfl (fn_virt (as := [.ref 1, .int a1]) (r := []) (ls' := [.ref 1, .int a1]) rl_L_trip_2 rfl hp_1 rfl rfl pl_L_isText rfl rfl (fn_iload_n rl_L_isText_0 rfl (fn_iconst rl_L_isText_1 (fn_sipush rl_L_isText_2 (fn_stat (as := [.int a1, .int 1, .int 160]) (r := []) (ls' := [.int a1, .int 1, .int 160]) rl_L_isText_5 rfl rfl rfl rfl pl_L_isAmong rfl rfl (fn_iload_n rl_L_isAmong_0 rfl (fn_iload_n rl_L_isAmong_1 rfl (fn_icmp_lt rl_L_isAmong_2 (fun k831 => fn_iconst rl_L_isAmong_14 (fn_retci rl_L_isAmong_15 rfl (fn_if_eq_t rl_L_isText_8 (by decide +kernel) (fn_iconst rl_L_isText_26 (fn_retci rl_L_isText_27 rfl (fn_if_eq_t rl_L_trip_5 (by decide +kernel) (fn_iconst rl_L_trip_15 (fn_reti rl_L_trip_16 rfl k831)))))))) (fun k832 => fn_iload_n rl_L_isAmong_5 rfl (fn_iload_n rl_L_isAmong_6 rfl (fn_icmp_gt rl_L_isAmong_7 (fun k829 => fn_iconst rl_L_isAmong_14 (fn_retci rl_L_isAmong_15 rfl (fn_if_eq_t rl_L_isText_8 (by decide +kernel) (fn_iconst rl_L_isText_26 (fn_retci rl_L_isText_27 rfl (fn_if_eq_t rl_L_trip_5 (by decide +kernel) (fn_iconst rl_L_trip_15 (fn_reti rl_L_trip_16 rfl k829)))))))) (fun k830 => fn_iconst rl_L_isAmong_10 (fn_goto rl_L_isAmong_11 (fn_retci rl_L_isAmong_15 rfl (fn_if_eq_f rl_L_isText_8 (by decide +kernel) (fn_iload_n rl_L_isText_11 rfl (fn_aload_n rl_L_isText_12 rfl (fn_get rl_L_isText_13 hp_1 rfl (fn_get rl_L_isText_16 hp_19 rfl (fn_icmp_gt rl_L_isText_19 (fun k827 => fn_iconst rl_L_isText_26 (fn_retci rl_L_isText_27 rfl (fn_if_eq_t rl_L_trip_5 (by decide +kernel) (fn_iconst rl_L_trip_15 (fn_reti rl_L_trip_16 rfl k827))))) (fun k828 => fn_iconst rl_L_isText_22 (fn_goto rl_L_isText_23 (fn_retci rl_L_isText_27 rfl (fn_if_eq_f rl_L_trip_5 (by decide +kernel) (fn_iload_n rl_L_trip_8 rfl (fn_stat (as := [.int a2]) (r := []) (ls' := [.int a2]) rl_L_trip_9 rfl rfl rfl rfl pl_L_isOutcome rfl rfl (fn_iload_n rl_L_isOutcome_0 rfl (fn_iconst rl_L_isOutcome_1 (fn_iconst rl_L_isOutcome_2 (fn_stat (as := [.int a2, .int 0, .int 4]) (r := []) (ls' := [.int a2, .int 0, .int 4]) rl_L_isOutcome_3 rfl rfl rfl rfl pl_L_isAmong rfl rfl (fn_iload_n rl_L_isAmong_0 rfl (fn_iload_n rl_L_isAmong_1 rfl (fn_icmp_lt rl_L_isAmong_2 (fun k825 => fn_iconst rl_L_isAmong_14 (fn_retci rl_L_isAmong_15 rfl (fn_retci rl_L_isOutcome_6 rfl (fn_if_ne_t rl_L_trip_12 (by decide +kernel) (fn_iconst rl_L_trip_15 (fn_reti rl_L_trip_16 rfl k825)))))) (fun k826 => fn_iload_n rl_L_isAmong_5 rfl (fn_iload_n rl_L_isAmong_6 rfl (fn_icmp_gt rl_L_isAmong_7 (fun k823 => fn_iconst rl_L_isAmong_14 (fn_retci rl_L_isAmong_15 rfl (fn_retci rl_L_isOutcome_6 rfl (fn_if_ne_t rl_L_trip_12 (by decide +kernel) (fn_iconst rl_L_trip_15 (fn_reti rl_L_trip_16 rfl k823)))))) (fun k824 => fn_iconst rl_L_isAmong_10 (fn_goto rl_L_isAmong_11 (fn_retci rl_L_isAmong_15 rfl (fn_retci rl_L_isOutcome_6 rfl (fn_if_ne_f rl_L_trip_12 (by decide +kernel) (fn_aload_n rl_L_trip_17 rfl (fn_get rl_L_trip_18 hp_1 rfl (fn_iload_n rl_L_trip_21 rfl (fn_virt (as := [.ref 21, .int a1]) (r := []) (ls' := [.ref 21, .int a1, .null, .null]) rl_L_trip_22 rfl hp_21 rfl rfl pl_D_readText rfl rfl (k824)))))))))) k826))) k828))))))))))))) k830))))))))) k832))) k0)))))))))
set_option maxRecDepth 100000 in
set_option maxHeartbeats 4000000 in
theorem sg_L_trip_25r {L : Nat} {xs : Nat → Int32} {A V : Nat → Nat → Int32} {K : Nat → Option Nat} {T : am_H} {v : Option Int32} {h' : am_H} {v1 v2 r : Int32} (k0 :
    if 0 ≤ r then (
      am_fin [(z_D_layOver, 0, [.ref 21, .ref 34, .null], []), (z_L_trip, 65, [.ref 1, .int v1, .int v2, .int r], [])] (hp L xs (upA A 35 (va_cpy (A 4) (A 35) (0 : Int32).toNatClampNeg (0 : Int32).toNatClampNeg (1080 : Int32).toNatClampNeg)) (upV V 19 1 0) K T) v h')
    else (
      v = some r ∧ h' = hp L xs A (upV V 19 1 0) K T)) : am_fin [(z_L_trip, 25, [.ref 1, .int v1, .int v2, .null], [.int r])] (hp L xs A V K T) v h' :=
  fn_istore_n (ls' := [.ref 1, .int v1, .int v2, .int r]) rl_L_trip_25 rfl rfl (fn_aload_n rl_L_trip_26 rfl (fn_get rl_L_trip_27 hp_1 rfl (fn_iconst rl_L_trip_30 (fn_put rl_L_trip_31 hp_19 rfl hpv_19_1 (fn_iload_n rl_L_trip_34 rfl (fn_if_ge rl_L_trip_35 (fun k834 => fn_aload_n rl_L_trip_40 rfl (fn_get rl_L_trip_41 hp_1 rfl (fn_aload_n rl_L_trip_44 rfl (fn_get rl_L_trip_45 hp_1 rfl (fn_get rl_L_trip_48 hp_2 rfl (fn_virt (as := [.ref 34, .ref 3]) (r := []) (ls' := [.ref 34, .ref 3]) rl_L_trip_51 rfl hp_34 rfl rfl pl_P_copyFrom rfl rfl (fn_aload_n rl_P_copyFrom_0 rfl (fn_get rl_P_copyFrom_1 hp_3 rfl (fn_iconst rl_P_copyFrom_4 (fn_aload_n rl_P_copyFrom_5 rfl (fn_get rl_P_copyFrom_6 hp_34 rfl (fn_iconst rl_P_copyFrom_9 (fn_sipush rl_P_copyFrom_10 (fn_copy rl_P_copyFrom_13 rfl hp_4 hp_35 hps_35 (fun k833 => fn_retcv rl_P_copyFrom_16 (fn_aload_n rl_L_trip_54 rfl (fn_get rl_L_trip_55 hp_1 rfl (fn_aload_n rl_L_trip_58 rfl (fn_get rl_L_trip_59 hp_1 rfl (fn_virt (as := [.ref 21, .ref 34]) (r := []) (ls' := [.ref 21, .ref 34, .null]) rl_L_trip_62 rfl hp_21 rfl rfl pl_D_layOver rfl rfl (k833))))))) ⟨by decide +kernel, k834⟩)))))))))))))) (fun k835 => fn_iload_n rl_L_trip_38 rfl (fn_reti rl_L_trip_39 rfl k835)) k0))))))
set_option maxRecDepth 100000 in
set_option maxHeartbeats 4000000 in
theorem sg_L_trip_65r {L : Nat} {xs : Nat → Int32} {A V : Nat → Nat → Int32} {K : Nat → Option Nat} {T : am_H} {v : Option Int32} {h' : am_H} {v1 v2 v3 : Int32} (k0 :
    am_fin [(z_L_outcome, 0, [.ref 1, .int v2], []), (z_L_trip, 70, [.ref 1, .int v1, .int v2, .int v3], [])] (hp L xs A V K T) v h') : am_fin [(z_L_trip, 65, [.ref 1, .int v1, .int v2, .int v3], [])] (hp L xs A V K T) v h' :=
  fn_aload_n rl_L_trip_65 rfl (fn_iload_n rl_L_trip_66 rfl (fn_virt (as := [.ref 1, .int v2]) (r := []) (ls' := [.ref 1, .int v2]) rl_L_trip_67 rfl hp_1 rfl rfl pl_L_outcome rfl rfl (k0)))
set_option maxRecDepth 100000 in
set_option maxHeartbeats 4000000 in
theorem sg_L_trip_70r {L : Nat} {xs : Nat → Int32} {A V : Nat → Nat → Int32} {K : Nat → Option Nat} {T : am_H} {v : Option Int32} {h' : am_H} {v1 v2 v3 r : Int32} (k0 :
    v = some r ∧ h' = hp L xs A V K T) : am_fin [(z_L_trip, 70, [.ref 1, .int v1, .int v2, .int v3], [.int r])] (hp L xs A V K T) v h' :=
  fn_reti rl_L_trip_70 rfl k0
set_option maxRecDepth 100000 in
set_option maxHeartbeats 4000000 in
theorem sg_L_cheapest_0 {L : Nat} {xs : Nat → Int32} {A V : Nat → Nat → Int32} {K : Nat → Option Nat} {T : am_H} {v : Option Int32} {h' : am_H} {a1 a2 a3 : Int32} (k0 :
    if a1 < 0 then (
      v = some (-1) ∧ h' = hp L xs A V K T)
    else (
      if 1079 < a1 then (
        v = some (-1) ∧ h' = hp L xs A V K T)
      else (
        if a2 < 0 then (
          v = some (-1) ∧ h' = hp L xs A V K T)
        else (
          if 1079 < a2 then (
            v = some (-1) ∧ h' = hp L xs A V K T)
          else (
            if a2 < a1 then (
              v = some (-1) ∧ h' = hp L xs A V K T)
            else (
              if a3 < 0 then (
                v = some (-1) ∧ h' = hp L xs A V K T)
              else (
                if 1 < a3 then (
                  v = some (-1) ∧ h' = hp L xs A V K T)
                else (
                  am_fin [(z_J_weighHomes, 0, [.ref 26, .null, .null, .null, .null], []), (z_L_cheapest, 40, [.ref 1, .int a1, .int a2, .int a3, .null, .null, .null, .null], [])] (hp L xs (upA A 35 (va_cpy (A 4) (A 35) (0 : Int32).toNatClampNeg (0 : Int32).toNatClampNeg (1080 : Int32).toNatClampNeg)) V K T) v h')))))))) : am_fin [(z_L_cheapest, 0, [.ref 1, .int a1, .int a2, .int a3, .null, .null, .null, .null], [])] (hp L xs A V K T) v h' :=
  fn_iload_n rl_L_cheapest_0 rfl (fn_iload_n rl_L_cheapest_1 rfl (fn_stat (as := [.int a1, .int a2]) (r := []) (ls' := [.int a1, .int a2]) rl_L_cheapest_2 rfl rfl rfl rfl pl_L_isSpan rfl rfl (fn_iload_n rl_L_isSpan_0 rfl (fn_stat (as := [.int a1]) (r := []) (ls' := [.int a1]) rl_L_isSpan_1 rfl rfl rfl rfl pl_L_isDay rfl rfl (fn_iload_n rl_L_isDay_0 rfl (fn_iconst rl_L_isDay_1 (fn_sipush rl_L_isDay_2 (fn_stat (as := [.int a1, .int 0, .int 1079]) (r := []) (ls' := [.int a1, .int 0, .int 1079]) rl_L_isDay_5 rfl rfl rfl rfl pl_L_isAmong rfl rfl (fn_iload_n rl_L_isAmong_0 rfl (fn_iload_n rl_L_isAmong_1 rfl (fn_icmp_lt rl_L_isAmong_2 (fun k849 => fn_iconst rl_L_isAmong_14 (fn_retci rl_L_isAmong_15 rfl (fn_retci rl_L_isDay_8 rfl (fn_if_eq_t rl_L_isSpan_4 (by decide +kernel) (fn_iconst rl_L_isSpan_23 (fn_retci rl_L_isSpan_24 rfl (fn_if_eq_t rl_L_cheapest_5 (by decide +kernel) (fn_iconst rl_L_cheapest_17 (fn_reti rl_L_cheapest_18 rfl k849))))))))) (fun k850 => fn_iload_n rl_L_isAmong_5 rfl (fn_iload_n rl_L_isAmong_6 rfl (fn_icmp_gt rl_L_isAmong_7 (fun k847 => fn_iconst rl_L_isAmong_14 (fn_retci rl_L_isAmong_15 rfl (fn_retci rl_L_isDay_8 rfl (fn_if_eq_t rl_L_isSpan_4 (by decide +kernel) (fn_iconst rl_L_isSpan_23 (fn_retci rl_L_isSpan_24 rfl (fn_if_eq_t rl_L_cheapest_5 (by decide +kernel) (fn_iconst rl_L_cheapest_17 (fn_reti rl_L_cheapest_18 rfl k847))))))))) (fun k848 => fn_iconst rl_L_isAmong_10 (fn_goto rl_L_isAmong_11 (fn_retci rl_L_isAmong_15 rfl (fn_retci rl_L_isDay_8 rfl (fn_if_eq_f rl_L_isSpan_4 (by decide +kernel) (fn_iload_n rl_L_isSpan_7 rfl (fn_stat (as := [.int a2]) (r := []) (ls' := [.int a2]) rl_L_isSpan_8 rfl rfl rfl rfl pl_L_isDay rfl rfl (fn_iload_n rl_L_isDay_0 rfl (fn_iconst rl_L_isDay_1 (fn_sipush rl_L_isDay_2 (fn_stat (as := [.int a2, .int 0, .int 1079]) (r := []) (ls' := [.int a2, .int 0, .int 1079]) rl_L_isDay_5 rfl rfl rfl rfl pl_L_isAmong rfl rfl (fn_iload_n rl_L_isAmong_0 rfl (fn_iload_n rl_L_isAmong_1 rfl (fn_icmp_lt rl_L_isAmong_2 (fun k845 => fn_iconst rl_L_isAmong_14 (fn_retci rl_L_isAmong_15 rfl (fn_retci rl_L_isDay_8 rfl (fn_if_eq_t rl_L_isSpan_11 (by decide +kernel) (fn_iconst rl_L_isSpan_23 (fn_retci rl_L_isSpan_24 rfl (fn_if_eq_t rl_L_cheapest_5 (by decide +kernel) (fn_iconst rl_L_cheapest_17 (fn_reti rl_L_cheapest_18 rfl k845))))))))) (fun k846 => fn_iload_n rl_L_isAmong_5 rfl (fn_iload_n rl_L_isAmong_6 rfl (fn_icmp_gt rl_L_isAmong_7 (fun k843 => fn_iconst rl_L_isAmong_14 (fn_retci rl_L_isAmong_15 rfl (fn_retci rl_L_isDay_8 rfl (fn_if_eq_t rl_L_isSpan_11 (by decide +kernel) (fn_iconst rl_L_isSpan_23 (fn_retci rl_L_isSpan_24 rfl (fn_if_eq_t rl_L_cheapest_5 (by decide +kernel) (fn_iconst rl_L_cheapest_17 (fn_reti rl_L_cheapest_18 rfl k843))))))))) (fun k844 => fn_iconst rl_L_isAmong_10 (fn_goto rl_L_isAmong_11 (fn_retci rl_L_isAmong_15 rfl (fn_retci rl_L_isDay_8 rfl (fn_if_eq_f rl_L_isSpan_11 (by decide +kernel) (fn_iload_n rl_L_isSpan_14 rfl (fn_iload_n rl_L_isSpan_15 rfl (fn_icmp_gt rl_L_isSpan_16 (fun k841 => fn_iconst rl_L_isSpan_23 (fn_retci rl_L_isSpan_24 rfl (fn_if_eq_t rl_L_cheapest_5 (by decide +kernel) (fn_iconst rl_L_cheapest_17 (fn_reti rl_L_cheapest_18 rfl k841))))) (fun k842 => fn_iconst rl_L_isSpan_19 (fn_goto rl_L_isSpan_20 (fn_retci rl_L_isSpan_24 rfl (fn_if_eq_f rl_L_cheapest_5 (by decide +kernel) (fn_iload_n rl_L_cheapest_8 rfl (fn_iconst rl_L_cheapest_9 (fn_iconst rl_L_cheapest_10 (fn_stat (as := [.int a3, .int 0, .int 1]) (r := []) (ls' := [.int a3, .int 0, .int 1]) rl_L_cheapest_11 rfl rfl rfl rfl pl_L_isAmong rfl rfl (fn_iload_n rl_L_isAmong_0 rfl (fn_iload_n rl_L_isAmong_1 rfl (fn_icmp_lt rl_L_isAmong_2 (fun k839 => fn_iconst rl_L_isAmong_14 (fn_retci rl_L_isAmong_15 rfl (fn_if_ne_t rl_L_cheapest_14 (by decide +kernel) (fn_iconst rl_L_cheapest_17 (fn_reti rl_L_cheapest_18 rfl k839))))) (fun k840 => fn_iload_n rl_L_isAmong_5 rfl (fn_iload_n rl_L_isAmong_6 rfl (fn_icmp_gt rl_L_isAmong_7 (fun k837 => fn_iconst rl_L_isAmong_14 (fn_retci rl_L_isAmong_15 rfl (fn_if_ne_t rl_L_cheapest_14 (by decide +kernel) (fn_iconst rl_L_cheapest_17 (fn_reti rl_L_cheapest_18 rfl k837))))) (fun k838 => fn_iconst rl_L_isAmong_10 (fn_goto rl_L_isAmong_11 (fn_retci rl_L_isAmong_15 rfl (fn_if_ne_f rl_L_cheapest_14 (by decide +kernel) (fn_aload_n rl_L_cheapest_19 rfl (fn_get rl_L_cheapest_20 hp_1 rfl (fn_aload_n rl_L_cheapest_23 rfl (fn_get rl_L_cheapest_24 hp_1 rfl (fn_get rl_L_cheapest_27 hp_2 rfl (fn_virt (as := [.ref 34, .ref 3]) (r := []) (ls' := [.ref 34, .ref 3]) rl_L_cheapest_30 rfl hp_34 rfl rfl pl_P_copyFrom rfl rfl (fn_aload_n rl_P_copyFrom_0 rfl (fn_get rl_P_copyFrom_1 hp_3 rfl (fn_iconst rl_P_copyFrom_4 (fn_aload_n rl_P_copyFrom_5 rfl (fn_get rl_P_copyFrom_6 hp_34 rfl (fn_iconst rl_P_copyFrom_9 (fn_sipush rl_P_copyFrom_10 (fn_copy rl_P_copyFrom_13 rfl hp_4 hp_35 hps_35 (fun k836 => fn_retcv rl_P_copyFrom_16 (fn_aload_n rl_L_cheapest_33 rfl (fn_get rl_L_cheapest_34 hp_1 rfl (fn_virt (as := [.ref 26]) (r := []) (ls' := [.ref 26, .null, .null, .null, .null]) rl_L_cheapest_37 rfl hp_26 rfl rfl pl_J_weighHomes rfl rfl (k836))))) ⟨by decide +kernel, k838⟩)))))))))))))))))) k840))) k842))))))))))) k844)))))))) k846))) k848)))))))))))))) k850))) k0)))))))))))
set_option maxRecDepth 100000 in
set_option maxHeartbeats 4000000 in
theorem sg_L_cheapest_40r {L : Nat} {xs : Nat → Int32} {A V : Nat → Nat → Int32} {K : Nat → Option Nat} {T : am_H} {v : Option Int32} {h' : am_H} {v1 v2 v3 : Int32} (k0 :
    am_fin [(z_L_cheapest, 49, [.ref 1, .int v1, .int v2, .int v3, .int 0, .int (-1), .int 0, .null], [])] (hp L xs A V K T) v h') : am_fin [(z_L_cheapest, 40, [.ref 1, .int v1, .int v2, .int v3, .null, .null, .null, .null], [])] (hp L xs A V K T) v h' :=
  fn_iconst rl_L_cheapest_40 (fn_istore (ls' := [.ref 1, .int v1, .int v2, .int v3, .int 0, .null, .null, .null]) rl_L_cheapest_41 rfl rfl (fn_iconst rl_L_cheapest_43 (fn_istore (ls' := [.ref 1, .int v1, .int v2, .int v3, .int 0, .int (-1), .null, .null]) rl_L_cheapest_44 rfl rfl (fn_iconst rl_L_cheapest_46 (fn_istore (ls' := [.ref 1, .int v1, .int v2, .int v3, .int 0, .int (-1), .int 0, .null]) rl_L_cheapest_47 rfl rfl (k0))))))
set_option maxRecDepth 100000 in
set_option maxHeartbeats 4000000 in
theorem sg_L_cheapest_49 {L : Nat} {xs : Nat → Int32} {A V : Nat → Nat → Int32} {K : Nat → Option Nat} {T : am_H} {v : Option Int32} {h' : am_H} {v1 v2 v3 v4 v5 v6 : Int32} (k0 :
    if 6 ≤ v6 then (
      if v3 = 0 then (
        v = some v4 ∧ h' = hp L xs A V K T)
      else (
        v = some v5 ∧ h' = hp L xs A V K T))
    else (
      am_fin [(z_P_put, 0, [.ref 34, .int v6, .int v1, .int v2, .null, .null], []), (z_L_cheapest, 67, [.ref 1, .int v1, .int v2, .int v3, .int v4, .int v5, .int v6, .null], [])] (hp L xs A V K T) v h')) : am_fin [(z_L_cheapest, 49, [.ref 1, .int v1, .int v2, .int v3, .int v4, .int v5, .int v6, .null], [])] (hp L xs A V K T) v h' :=
  fn_iload rl_L_cheapest_49 rfl (fn_bipush rl_L_cheapest_51 (fn_icmp_ge rl_L_cheapest_53 (fun k853 => fn_iload_n rl_L_cheapest_112 rfl (fn_if_ne rl_L_cheapest_113 (fun k851 => fn_iload rl_L_cheapest_116 rfl (fn_goto rl_L_cheapest_118 (fn_reti rl_L_cheapest_123 rfl k851))) (fun k852 => fn_iload rl_L_cheapest_121 rfl (fn_reti rl_L_cheapest_123 rfl k852)) k853)) (fun k854 => fn_aload_n rl_L_cheapest_56 rfl (fn_get rl_L_cheapest_57 hp_1 rfl (fn_iload rl_L_cheapest_60 rfl (fn_iload_n rl_L_cheapest_62 rfl (fn_iload_n rl_L_cheapest_63 rfl (fn_virt (as := [.ref 34, .int v6, .int v1, .int v2]) (r := []) (ls' := [.ref 34, .int v6, .int v1, .int v2, .null, .null]) rl_L_cheapest_64 rfl hp_34 rfl rfl pl_P_put rfl rfl (k854))))))) k0))
set_option maxRecDepth 100000 in
set_option maxHeartbeats 4000000 in
theorem sg_L_cheapest_67r {L : Nat} {xs : Nat → Int32} {A V : Nat → Nat → Int32} {K : Nat → Option Nat} {T : am_H} {v : Option Int32} {h' : am_H} {v1 v2 v3 v4 v5 v6 r : Int32} (k0 :
    am_fin [(z_J_weighPlaces, 0, [.ref 26, .ref 34], []), (z_L_cheapest, 79, [.ref 1, .int v1, .int v2, .int v3, .int v4, .int v5, .int v6, .null], [])] (hp L xs A V K T) v h') : am_fin [(z_L_cheapest, 67, [.ref 1, .int v1, .int v2, .int v3, .int v4, .int v5, .int v6, .null], [.int r])] (hp L xs A V K T) v h' :=
  fn_pop_int rl_L_cheapest_67 (fn_aload_n rl_L_cheapest_68 rfl (fn_get rl_L_cheapest_69 hp_1 rfl (fn_aload_n rl_L_cheapest_72 rfl (fn_get rl_L_cheapest_73 hp_1 rfl (fn_virt (as := [.ref 26, .ref 34]) (r := []) (ls' := [.ref 26, .ref 34]) rl_L_cheapest_76 rfl hp_26 rfl rfl pl_J_weighPlaces rfl rfl (k0))))))
set_option maxRecDepth 100000 in
set_option maxHeartbeats 4000000 in
theorem sg_L_cheapest_79r {L : Nat} {xs : Nat → Int32} {A V : Nat → Nat → Int32} {K : Nat → Option Nat} {T : am_H} {v : Option Int32} {h' : am_H} {v1 v2 v3 v4 v5 v6 : Int32} (k0 :
    am_fin [(z_L_owedAsIf, 0, [.ref 1, .null, .null], []), (z_L_cheapest, 83, [.ref 1, .int v1, .int v2, .int v3, .int v4, .int v5, .int v6, .null], [])] (hp L xs A V K T) v h') : am_fin [(z_L_cheapest, 79, [.ref 1, .int v1, .int v2, .int v3, .int v4, .int v5, .int v6, .null], [])] (hp L xs A V K T) v h' :=
  fn_aload_n rl_L_cheapest_79 rfl (fn_virt (as := [.ref 1]) (r := []) (ls' := [.ref 1, .null, .null]) rl_L_cheapest_80 rfl hp_1 rfl rfl pl_L_owedAsIf rfl rfl (k0))
set_option maxRecDepth 100000 in
set_option maxHeartbeats 4000000 in
theorem sg_L_cheapest_83r {L : Nat} {xs : Nat → Int32} {A V : Nat → Nat → Int32} {K : Nat → Option Nat} {T : am_H} {v : Option Int32} {h' : am_H} {v1 v2 v3 v4 v5 v6 r : Int32} (k0 :
    if v5 = (-1) then (
      am_fin [(z_L_cheapest, 49, [.ref 1, .int v1, .int v2, .int v3, .int v6, .int r, .int (v6 + 1), .int r], [])] (hp L xs A V K T) v h')
    else (
      if v5 ≤ r then (
        am_fin [(z_L_cheapest, 49, [.ref 1, .int v1, .int v2, .int v3, .int v4, .int v5, .int (v6 + 1), .int r], [])] (hp L xs A V K T) v h')
      else (
        am_fin [(z_L_cheapest, 49, [.ref 1, .int v1, .int v2, .int v3, .int v6, .int r, .int (v6 + 1), .int r], [])] (hp L xs A V K T) v h'))) : am_fin [(z_L_cheapest, 83, [.ref 1, .int v1, .int v2, .int v3, .int v4, .int v5, .int v6, .null], [.int r])] (hp L xs A V K T) v h' :=
  fn_istore (ls' := [.ref 1, .int v1, .int v2, .int v3, .int v4, .int v5, .int v6, .int r]) rl_L_cheapest_83 rfl rfl (fn_iload rl_L_cheapest_85 rfl (fn_iconst rl_L_cheapest_87 (fn_icmp_eq rl_L_cheapest_88 (fun k857 => fn_iload rl_L_cheapest_98 rfl (fn_istore (ls' := [.ref 1, .int v1, .int v2, .int v3, .int v6, .int v5, .int v6, .int r]) rl_L_cheapest_100 rfl rfl (fn_iload rl_L_cheapest_102 rfl (fn_istore (ls' := [.ref 1, .int v1, .int v2, .int v3, .int v6, .int r, .int v6, .int r]) rl_L_cheapest_104 rfl rfl (fn_iinc (ls' := [.ref 1, .int v1, .int v2, .int v3, .int v6, .int r, .int (v6 + 1), .int r]) rl_L_cheapest_106 rfl rfl rfl (fn_goto rl_L_cheapest_109 (k857))))))) (fun k858 => fn_iload rl_L_cheapest_91 rfl (fn_iload rl_L_cheapest_93 rfl (fn_icmp_ge rl_L_cheapest_95 (fun k855 => fn_iinc (ls' := [.ref 1, .int v1, .int v2, .int v3, .int v4, .int v5, .int (v6 + 1), .int r]) rl_L_cheapest_106 rfl rfl rfl (fn_goto rl_L_cheapest_109 (k855))) (fun k856 => fn_iload rl_L_cheapest_98 rfl (fn_istore (ls' := [.ref 1, .int v1, .int v2, .int v3, .int v6, .int v5, .int v6, .int r]) rl_L_cheapest_100 rfl rfl (fn_iload rl_L_cheapest_102 rfl (fn_istore (ls' := [.ref 1, .int v1, .int v2, .int v3, .int v6, .int r, .int v6, .int r]) rl_L_cheapest_104 rfl rfl (fn_iinc (ls' := [.ref 1, .int v1, .int v2, .int v3, .int v6, .int r, .int (v6 + 1), .int r]) rl_L_cheapest_106 rfl rfl rfl (fn_goto rl_L_cheapest_109 (k856))))))) k858))) k0)))
set_option maxRecDepth 100000 in
set_option maxHeartbeats 4000000 in
theorem sg_L_count_0 {L : Nat} {xs : Nat → Int32} {A V : Nat → Nat → Int32} {K : Nat → Option Nat} {T : am_H} {v : Option Int32} {h' : am_H} {a1 : Int32} (k0 :
    if a1 = 0 then (
      am_fin [(z_P_countOf, 0, [.ref 3, .int (-1), .int 0, .int 1079, .null, .null], []), (z_L_count, 58, [.ref 1, .int a1], [.int 1080])] (hp L xs A V K T) v h')
    else (
      if a1 = 1 then (
      v = some (V 10 7) ∧ h' = hp L xs A V K T)
    else (
      if a1 = 2 then (
      am_fin [(z_L_overstaysInAll, 0, [.ref 1, .ref 3, .null, .null], []), (z_L_count, 82, [.ref 1, .int a1], [])] (hp L xs A V K T) v h')
    else (
      if a1 = 3 then (
      am_fin [(z_P_stayCount, 0, [.ref 3, .null, .null], []), (z_L_count, 93, [.ref 1, .int a1], [])] (hp L xs A V K T) v h')
    else (
      if a1 = 4 then (
      v = some (V 19 1) ∧ h' = hp L xs A V K T)
    else (
      if a1 = 5 then (
      v = some (V 1 2) ∧ h' = hp L xs A V K T)
    else (
      v = some (-1) ∧ h' = hp L xs A V K T))))))) : am_fin [(z_L_count, 0, [.ref 1, .int a1], [])] (hp L xs A V K T) v h' :=
  fn_iload_n rl_L_count_0 rfl (fn_tableP rl_L_count_1 (fn_swC (tg := 0) (F := fun t => am_fin ((z_L_count, t, [.ref 1, .int a1], []) :: []) (hp L xs A V K T) v h') (fun k869 => fn_sipush rl_L_count_40 (fn_aload_n rl_L_count_43 rfl (fn_get rl_L_count_44 hp_1 rfl (fn_get rl_L_count_47 hp_2 rfl (fn_iconst rl_L_count_50 (fn_iconst rl_L_count_51 (fn_sipush rl_L_count_52 (fn_virt (as := [.ref 3, .int (-1), .int 0, .int 1079]) (r := [.int 1080]) (ls' := [.ref 3, .int (-1), .int 0, .int 1079, .null, .null]) rl_L_count_55 rfl hp_3 rfl rfl pl_P_countOf rfl rfl (k869))))))))) (fun k870 => fn_swC (tg := 0) (F := fun t => am_fin ((z_L_count, t, [.ref 1, .int a1], []) :: []) (hp L xs A V K T) v h') (fun k867 => fn_aload_n rl_L_count_60 rfl (fn_get rl_L_count_61 hp_1 rfl (fn_get rl_L_count_64 hp_2 rfl (fn_get rl_L_count_67 hp_10 rfl (fn_reti rl_L_count_70 rfl k867))))) (fun k868 => fn_swC (tg := 0) (F := fun t => am_fin ((z_L_count, t, [.ref 1, .int a1], []) :: []) (hp L xs A V K T) v h') (fun k865 => fn_aload_n rl_L_count_71 rfl (fn_aload_n rl_L_count_72 rfl (fn_get rl_L_count_73 hp_1 rfl (fn_get rl_L_count_76 hp_2 rfl (fn_virt (as := [.ref 1, .ref 3]) (r := []) (ls' := [.ref 1, .ref 3, .null, .null]) rl_L_count_79 rfl hp_1 rfl rfl pl_L_overstaysInAll rfl rfl (k865)))))) (fun k866 => fn_swC (tg := 0) (F := fun t => am_fin ((z_L_count, t, [.ref 1, .int a1], []) :: []) (hp L xs A V K T) v h') (fun k863 => fn_aload_n rl_L_count_83 rfl (fn_get rl_L_count_84 hp_1 rfl (fn_get rl_L_count_87 hp_2 rfl (fn_virt (as := [.ref 3]) (r := []) (ls' := [.ref 3, .null, .null]) rl_L_count_90 rfl hp_3 rfl rfl pl_P_stayCount rfl rfl (k863))))) (fun k864 => fn_swC (tg := 0) (F := fun t => am_fin ((z_L_count, t, [.ref 1, .int a1], []) :: []) (hp L xs A V K T) v h') (fun k861 => fn_aload_n rl_L_count_94 rfl (fn_get rl_L_count_95 hp_1 rfl (fn_get rl_L_count_98 hp_19 rfl (fn_reti rl_L_count_101 rfl k861)))) (fun k862 => fn_swC (tg := 0) (F := fun t => am_fin ((z_L_count, t, [.ref 1, .int a1], []) :: []) (hp L xs A V K T) v h') (fun k859 => fn_aload_n rl_L_count_102 rfl (fn_get rl_L_count_103 hp_1 rfl (fn_reti rl_L_count_106 rfl k859))) (fun k860 => fn_iconst rl_L_count_107 (fn_reti rl_L_count_108 rfl k860)) k862) k864) k866) k868) k870) k0))
set_option maxRecDepth 100000 in
set_option maxHeartbeats 4000000 in
theorem sg_L_count_58r {L : Nat} {xs : Nat → Int32} {A V : Nat → Nat → Int32} {K : Nat → Option Nat} {T : am_H} {v : Option Int32} {h' : am_H} {v1 s0 r : Int32} (k0 :
    v = some (s0 - r) ∧ h' = hp L xs A V K T) : am_fin [(z_L_count, 58, [.ref 1, .int v1], [.int r, .int s0])] (hp L xs A V K T) v h' :=
  fn_isub rl_L_count_58 (fn_reti rl_L_count_59 rfl k0)
set_option maxRecDepth 100000 in
set_option maxHeartbeats 4000000 in
theorem sg_L_count_82r {L : Nat} {xs : Nat → Int32} {A V : Nat → Nat → Int32} {K : Nat → Option Nat} {T : am_H} {v : Option Int32} {h' : am_H} {v1 r : Int32} (k0 :
    v = some r ∧ h' = hp L xs A V K T) : am_fin [(z_L_count, 82, [.ref 1, .int v1], [.int r])] (hp L xs A V K T) v h' :=
  fn_reti rl_L_count_82 rfl k0
set_option maxRecDepth 100000 in
set_option maxHeartbeats 4000000 in
theorem sg_L_count_93r {L : Nat} {xs : Nat → Int32} {A V : Nat → Nat → Int32} {K : Nat → Option Nat} {T : am_H} {v : Option Int32} {h' : am_H} {v1 r : Int32} (k0 :
    v = some r ∧ h' = hp L xs A V K T) : am_fin [(z_L_count, 93, [.ref 1, .int v1], [.int r])] (hp L xs A V K T) v h' :=
  fn_reti rl_L_count_93 rfl k0
set_option maxRecDepth 100000 in
set_option maxHeartbeats 4000000 in
theorem sg_T_putWord_0 {L : Nat} {xs : Nat → Int32} {A V : Nat → Nat → Int32} {K : Nat → Option Nat} {T : am_H} {v : Option Int32} {h' : am_H} {a1 : Int32} (k0 :
    am_fin [(z_T_putWord, 3, [.ref 19, .int a1, .int 24], [])] (hp L xs A V K T) v h') : am_fin [(z_T_putWord, 0, [.ref 19, .int a1, .null], [])] (hp L xs A V K T) v h' :=
  fn_bipush rl_T_putWord_0 (fn_istore_n (ls' := [.ref 19, .int a1, .int 24]) rl_T_putWord_2 rfl rfl (k0))
set_option maxRecDepth 100000 in
set_option maxHeartbeats 4000000 in
theorem sg_T_putWord_3 {L : Nat} {xs : Nat → Int32} {A V : Nat → Nat → Int32} {K : Nat → Option Nat} {T : am_H} {v : Option Int32} {h' : am_H} {v1 v2 : Int32} (k0 :
    if v2 < 0 then (
      v = none ∧ h' = hp L xs A V K T)
    else (
      if 320 ≤ (V 19 1) then (
        v = none ∧ h' = hp L xs A V K T)
      else (
        ¬ ((V 19 1) < 0 ∨ 320 ≤ (V 19 1).toNatClampNeg) ∧ (
        am_fin [(z_T_putWord, 3, [.ref 19, .int v1, .int (v2 + (-8))], [])] (hp L xs (upA A 20 (upd (A 20) (V 19 1).toNatClampNeg (((v1 : Int32) >>> (v2 &&& 31 : Int32)) &&& 255))) (upV V 19 1 ((V 19 1) + 1)) K T) v h')))) : am_fin [(z_T_putWord, 3, [.ref 19, .int v1, .int v2], [])] (hp L xs A V K T) v h' :=
  fn_iload_n rl_T_putWord_3 rfl (fn_if_lt rl_T_putWord_4 (fun k2039 => fn_retv rl_T_putWord_49 k2039) (fun k2040 => fn_aload_n rl_T_putWord_7 rfl (fn_get rl_T_putWord_8 hp_19 rfl (fn_sipush rl_T_putWord_11 (fn_icmp_ge rl_T_putWord_14 (fun k2037 => fn_retv rl_T_putWord_49 k2037) (fun k2038 => fn_aload_n rl_T_putWord_17 rfl (fn_get rl_T_putWord_18 hp_19 rfl (fn_aload_n rl_T_putWord_21 rfl (fn_get rl_T_putWord_22 hp_19 rfl (fn_iload_n rl_T_putWord_25 rfl (fn_iload_n rl_T_putWord_26 rfl (fn_ishr rl_T_putWord_27 (fn_sipush rl_T_putWord_28 (fn_iand rl_T_putWord_31 (fn_iast rl_T_putWord_32 hp_20 hps_20 (fun k2036 => fn_aload_n rl_T_putWord_33 rfl (fn_dup_ref rl_T_putWord_34 (fn_get rl_T_putWord_35 hp_19 rfl (fn_iconst rl_T_putWord_38 (fn_iadd rl_T_putWord_39 (fn_put rl_T_putWord_40 hp_19 rfl hpv_19_1 (fn_iinc (ls' := [.ref 19, .int v1, .int (v2 + (-8))]) rl_T_putWord_43 rfl rfl rfl (fn_goto rl_T_putWord_46 (k2036))))))))) k2038)))))))))) k2040)))) k0)
set_option maxRecDepth 100000 in
set_option maxHeartbeats 4000000 in
theorem sg_D_readText_0 {L : Nat} {xs : Nat → Int32} {A V : Nat → Nat → Int32} {K : Nat → Option Nat} {T : am_H} {v : Option Int32} {h' : am_H} {a1 : Int32} (k0 :
    am_fin [(z_D_readText, 32, [.ref 21, .int a1, .int 1, .int 0], [])] (hp L xs A (upV (upV (upV (upV V 21 4 (if (Int32.ofNat 320) < a1 then (Int32.ofNat 320) else a1 : Int32)) 21 5 0) 21 6 0) 21 7 0) K T) v h') : am_fin [(z_D_readText, 0, [.ref 21, .int a1, .null, .null], [])] (hp L xs A V K T) v h' :=
  fn_aload_n rl_D_readText_0 rfl (fn_iload_n rl_D_readText_1 rfl (fn_aload_n rl_D_readText_2 rfl (fn_get rl_D_readText_3 hp_21 rfl (fn_alen rl_D_readText_6 hp_20 (fn_min rl_D_readText_7 rfl (fn_put rl_D_readText_10 hp_21 rfl hpv_21_4 (fn_aload_n rl_D_readText_13 rfl (fn_iconst rl_D_readText_14 (fn_put rl_D_readText_15 hp_21 rfl hpv_21_5 (fn_aload_n rl_D_readText_18 rfl (fn_iconst rl_D_readText_19 (fn_put rl_D_readText_20 hp_21 rfl hpv_21_6 (fn_aload_n rl_D_readText_23 rfl (fn_iconst rl_D_readText_24 (fn_put rl_D_readText_25 hp_21 rfl hpv_21_7 (fn_iconst rl_D_readText_28 (fn_istore_n (ls' := [.ref 21, .int a1, .int 1, .null]) rl_D_readText_29 rfl rfl (fn_iconst rl_D_readText_30 (fn_istore_n (ls' := [.ref 21, .int a1, .int 1, .int 0]) rl_D_readText_31 rfl rfl (k0))))))))))))))))))))
set_option maxRecDepth 100000 in
set_option maxHeartbeats 4000000 in
theorem sg_D_readText_32 {L : Nat} {xs : Nat → Int32} {A V : Nat → Nat → Int32} {K : Nat → Option Nat} {T : am_H} {v : Option Int32} {h' : am_H} {v1 v2 v3 : Int32} (k0 :
    if 80 ≤ v3 then (
      if (V 21 7) = 0 then (
        v = some (V 21 5) ∧ h' = hp L xs A V K T)
      else (
        v = some (V 21 7) ∧ h' = hp L xs A V K T))
    else (
      if v2 = 0 then (
        if (V 21 7) = 0 then (
          v = some (V 21 5) ∧ h' = hp L xs A V K T)
        else (
          v = some (V 21 7) ∧ h' = hp L xs A V K T))
      else (
        am_fin [(z_D_readStay, 0, [.ref 21, .int v3, .null, .null, .null], []), (z_D_readText, 47, [.ref 21, .int v1, .int v2, .int v3], [])] (hp L xs A V K T) v h'))) : am_fin [(z_D_readText, 32, [.ref 21, .int v1, .int v2, .int v3], [])] (hp L xs A V K T) v h' :=
  fn_iload_n rl_D_readText_32 rfl (fn_bipush rl_D_readText_33 (fn_icmp_ge rl_D_readText_35 (fun k2047 => fn_aload_n rl_D_readText_73 rfl (fn_get rl_D_readText_74 hp_21 rfl (fn_if_eq rl_D_readText_77 (fun k2041 => fn_aload_n rl_D_readText_87 rfl (fn_get rl_D_readText_88 hp_21 rfl (fn_reti rl_D_readText_91 rfl k2041))) (fun k2042 => fn_aload_n rl_D_readText_80 rfl (fn_get rl_D_readText_81 hp_21 rfl (fn_goto rl_D_readText_84 (fn_reti rl_D_readText_91 rfl k2042)))) k2047))) (fun k2048 => fn_iload_n rl_D_readText_38 rfl (fn_if_eq rl_D_readText_39 (fun k2045 => fn_aload_n rl_D_readText_73 rfl (fn_get rl_D_readText_74 hp_21 rfl (fn_if_eq rl_D_readText_77 (fun k2043 => fn_aload_n rl_D_readText_87 rfl (fn_get rl_D_readText_88 hp_21 rfl (fn_reti rl_D_readText_91 rfl k2043))) (fun k2044 => fn_aload_n rl_D_readText_80 rfl (fn_get rl_D_readText_81 hp_21 rfl (fn_goto rl_D_readText_84 (fn_reti rl_D_readText_91 rfl k2044)))) k2045))) (fun k2046 => fn_aload_n rl_D_readText_42 rfl (fn_iload_n rl_D_readText_43 rfl (fn_virt (as := [.ref 21, .int v3]) (r := []) (ls' := [.ref 21, .int v3, .null, .null, .null]) rl_D_readText_44 rfl hp_21 rfl rfl pl_D_readStay rfl rfl (k2046)))) k2048)) k0))
set_option maxRecDepth 100000 in
set_option maxHeartbeats 4000000 in
theorem sg_D_readText_47r {L : Nat} {xs : Nat → Int32} {A V : Nat → Nat → Int32} {K : Nat → Option Nat} {T : am_H} {v : Option Int32} {h' : am_H} {v1 v2 v3 : Int32} (k0 :
    if (V 21 7) = 0 then (
      if (V 21 4) ≤ (V 21 6) then (
        am_fin [(z_D_readText, 32, [.ref 21, .int v1, .int 0, .int (v3 + 1)], [])] (hp L xs A V K T) v h')
      else (
        ¬ ((V 21 6) < 0 ∨ 320 ≤ (V 21 6).toNatClampNeg) ∧ (
        if ((A 20) (V 21 6).toNatClampNeg) = (-1) then (
          am_fin [(z_D_readText, 32, [.ref 21, .int v1, .int 0, .int (v3 + 1)], [])] (hp L xs A V K T) v h')
        else (
          if (V 21 4) ≤ (V 21 6) then (
            if (V 21 7) = 0 then (
              am_fin [(z_D_readText, 32, [.ref 21, .int v1, .int 0, .int (v3 + 1)], [])] (hp L xs A (upV V 21 7 (((-1000) * 1) - (V 21 6))) K T) v h')
            else (
              am_fin [(z_D_readText, 32, [.ref 21, .int v1, .int 0, .int (v3 + 1)], [])] (hp L xs A V K T) v h'))
          else (
            ¬ ((V 21 6) < 0 ∨ 320 ≤ (V 21 6).toNatClampNeg) ∧ (
            if ((A 20) (V 21 6).toNatClampNeg) = 44 then (
              am_fin [(z_D_readText, 32, [.ref 21, .int v1, .int 1, .int (v3 + 1)], [])] (hp L xs A (upV V 21 6 ((V 21 6) + 1)) K T) v h')
            else (
              if (V 21 7) = 0 then (
                am_fin [(z_D_readText, 32, [.ref 21, .int v1, .int 0, .int (v3 + 1)], [])] (hp L xs A (upV V 21 7 (((-1000) * 1) - (V 21 6))) K T) v h')
              else (
                am_fin [(z_D_readText, 32, [.ref 21, .int v1, .int 0, .int (v3 + 1)], [])] (hp L xs A V K T) v h'))))))))
    else (
      am_fin [(z_D_readText, 32, [.ref 21, .int v1, .int 0, .int (v3 + 1)], [])] (hp L xs A V K T) v h')) : am_fin [(z_D_readText, 47, [.ref 21, .int v1, .int v2, .int v3], [])] (hp L xs A V K T) v h' :=
  fn_aload_n rl_D_readText_47 rfl (fn_get rl_D_readText_48 hp_21 rfl (fn_if_ne rl_D_readText_51 (fun k2063 => fn_aload_n rl_D_readText_54 rfl (fn_virt (as := [.ref 21]) (r := []) (ls' := [.ref 21]) rl_D_readText_55 rfl hp_21 rfl rfl pl_D_readComma rfl rfl (fn_aload_n rl_D_readComma_0 rfl (fn_virt (as := [.ref 21]) (r := []) (ls' := [.ref 21]) rl_D_readComma_1 rfl hp_21 rfl rfl pl_D_sign rfl rfl (fn_aload_n rl_D_sign_0 rfl (fn_get rl_D_sign_1 hp_21 rfl (fn_aload_n rl_D_sign_4 rfl (fn_get rl_D_sign_5 hp_21 rfl (fn_icmp_ge rl_D_sign_8 (fun k2061 => fn_iconst rl_D_sign_23 (fn_retci rl_D_sign_24 rfl (fn_iconst rl_D_readComma_4 (fn_icmp_ne_t rl_D_readComma_5 (by decide +kernel) (fn_iconst rl_D_readComma_8 (fn_retci rl_D_readComma_9 rfl (fn_if_eq_t rl_D_readText_58 (by decide +kernel) (fn_iconst rl_D_readText_65 (fn_istore_n (ls' := [.ref 21, .int v1, .int 0, .int v3]) rl_D_readText_66 rfl rfl (fn_iinc (ls' := [.ref 21, .int v1, .int 0, .int (v3 + 1)]) rl_D_readText_67 rfl rfl rfl (fn_goto rl_D_readText_70 (k2061)))))))))))) (fun k2062 => fn_aload_n rl_D_sign_11 rfl (fn_get rl_D_sign_12 hp_21 rfl (fn_aload_n rl_D_sign_15 rfl (fn_get rl_D_sign_16 hp_21 rfl (fn_iald rl_D_sign_19 hp_20 (fun k2060 => fn_goto rl_D_sign_20 (fn_retci rl_D_sign_24 rfl (fn_iconst rl_D_readComma_4 (fn_icmp_ne rl_D_readComma_5 (fun k2058 => fn_iconst rl_D_readComma_8 (fn_retci rl_D_readComma_9 rfl (fn_if_eq_t rl_D_readText_58 (by decide +kernel) (fn_iconst rl_D_readText_65 (fn_istore_n (ls' := [.ref 21, .int v1, .int 0, .int v3]) rl_D_readText_66 rfl rfl (fn_iinc (ls' := [.ref 21, .int v1, .int 0, .int (v3 + 1)]) rl_D_readText_67 rfl rfl rfl (fn_goto rl_D_readText_70 (k2058)))))))) (fun k2059 => fn_aload_n rl_D_readComma_10 rfl (fn_virt (as := [.ref 21]) (r := []) (ls' := [.ref 21]) rl_D_readComma_11 rfl hp_21 rfl rfl pl_D_sign rfl rfl (fn_aload_n rl_D_sign_0 rfl (fn_get rl_D_sign_1 hp_21 rfl (fn_aload_n rl_D_sign_4 rfl (fn_get rl_D_sign_5 hp_21 rfl (fn_icmp_ge rl_D_sign_8 (fun k2056 => fn_iconst rl_D_sign_23 (fn_retci rl_D_sign_24 rfl (fn_bipush rl_D_readComma_14 (fn_icmp_eq_f rl_D_readComma_16 (by decide +kernel) (fn_aload_n rl_D_readComma_19 rfl (fn_iconst rl_D_readComma_20 (fn_aload_n rl_D_readComma_21 rfl (fn_get rl_D_readComma_22 hp_21 rfl (fn_virt (as := [.ref 21, .int 1, .int (V 21 6)]) (r := []) (ls' := [.ref 21, .int 1, .int (V 21 6)]) rl_D_readComma_25 rfl hp_21 rfl rfl pl_D_fail rfl rfl (fn_aload_n rl_D_fail_0 rfl (fn_get rl_D_fail_1 hp_21 rfl (fn_if_ne rl_D_fail_4 (fun k2049 => fn_aload_n rl_D_fail_7 rfl (fn_sipush rl_D_fail_8 (fn_iload_n rl_D_fail_11 rfl (fn_imul rl_D_fail_12 (fn_iload_n rl_D_fail_13 rfl (fn_isub rl_D_fail_14 (fn_put rl_D_fail_15 hp_21 rfl hpv_21_7 (fn_retcv rl_D_fail_18 (fn_iconst rl_D_readComma_28 (fn_retci rl_D_readComma_29 rfl (fn_if_eq_t rl_D_readText_58 (by decide +kernel) (fn_iconst rl_D_readText_65 (fn_istore_n (ls' := [.ref 21, .int v1, .int 0, .int v3]) rl_D_readText_66 rfl rfl (fn_iinc (ls' := [.ref 21, .int v1, .int 0, .int (v3 + 1)]) rl_D_readText_67 rfl rfl rfl (fn_goto rl_D_readText_70 (k2049)))))))))))))))) (fun k2050 => fn_retcv rl_D_fail_18 (fn_iconst rl_D_readComma_28 (fn_retci rl_D_readComma_29 rfl (fn_if_eq_t rl_D_readText_58 (by decide +kernel) (fn_iconst rl_D_readText_65 (fn_istore_n (ls' := [.ref 21, .int v1, .int 0, .int v3]) rl_D_readText_66 rfl rfl (fn_iinc (ls' := [.ref 21, .int v1, .int 0, .int (v3 + 1)]) rl_D_readText_67 rfl rfl rfl (fn_goto rl_D_readText_70 (k2050))))))))) k2056)))))))))))) (fun k2057 => fn_aload_n rl_D_sign_11 rfl (fn_get rl_D_sign_12 hp_21 rfl (fn_aload_n rl_D_sign_15 rfl (fn_get rl_D_sign_16 hp_21 rfl (fn_iald rl_D_sign_19 hp_20 (fun k2055 => fn_goto rl_D_sign_20 (fn_retci rl_D_sign_24 rfl (fn_bipush rl_D_readComma_14 (fn_icmp_eq rl_D_readComma_16 (fun k2053 => fn_aload_n rl_D_readComma_30 rfl (fn_dup_ref rl_D_readComma_31 (fn_get rl_D_readComma_32 hp_21 rfl (fn_iconst rl_D_readComma_35 (fn_iadd rl_D_readComma_36 (fn_put rl_D_readComma_37 hp_21 rfl hpv_21_6 (fn_iconst rl_D_readComma_40 (fn_retci rl_D_readComma_41 rfl (fn_if_eq_f rl_D_readText_58 (by decide +kernel) (fn_iconst rl_D_readText_61 (fn_goto rl_D_readText_62 (fn_istore_n (ls' := [.ref 21, .int v1, .int 1, .int v3]) rl_D_readText_66 rfl rfl (fn_iinc (ls' := [.ref 21, .int v1, .int 1, .int (v3 + 1)]) rl_D_readText_67 rfl rfl rfl (fn_goto rl_D_readText_70 (k2053))))))))))))))) (fun k2054 => fn_aload_n rl_D_readComma_19 rfl (fn_iconst rl_D_readComma_20 (fn_aload_n rl_D_readComma_21 rfl (fn_get rl_D_readComma_22 hp_21 rfl (fn_virt (as := [.ref 21, .int 1, .int (V 21 6)]) (r := []) (ls' := [.ref 21, .int 1, .int (V 21 6)]) rl_D_readComma_25 rfl hp_21 rfl rfl pl_D_fail rfl rfl (fn_aload_n rl_D_fail_0 rfl (fn_get rl_D_fail_1 hp_21 rfl (fn_if_ne rl_D_fail_4 (fun k2051 => fn_aload_n rl_D_fail_7 rfl (fn_sipush rl_D_fail_8 (fn_iload_n rl_D_fail_11 rfl (fn_imul rl_D_fail_12 (fn_iload_n rl_D_fail_13 rfl (fn_isub rl_D_fail_14 (fn_put rl_D_fail_15 hp_21 rfl hpv_21_7 (fn_retcv rl_D_fail_18 (fn_iconst rl_D_readComma_28 (fn_retci rl_D_readComma_29 rfl (fn_if_eq_t rl_D_readText_58 (by decide +kernel) (fn_iconst rl_D_readText_65 (fn_istore_n (ls' := [.ref 21, .int v1, .int 0, .int v3]) rl_D_readText_66 rfl rfl (fn_iinc (ls' := [.ref 21, .int v1, .int 0, .int (v3 + 1)]) rl_D_readText_67 rfl rfl rfl (fn_goto rl_D_readText_70 (k2051)))))))))))))))) (fun k2052 => fn_retcv rl_D_fail_18 (fn_iconst rl_D_readComma_28 (fn_retci rl_D_readComma_29 rfl (fn_if_eq_t rl_D_readText_58 (by decide +kernel) (fn_iconst rl_D_readText_65 (fn_istore_n (ls' := [.ref 21, .int v1, .int 0, .int v3]) rl_D_readText_66 rfl rfl (fn_iinc (ls' := [.ref 21, .int v1, .int 0, .int (v3 + 1)]) rl_D_readText_67 rfl rfl rfl (fn_goto rl_D_readText_70 (k2052))))))))) k2054)))))))) k2055)))) k2057))))) k2059))))))) k2060)))) k2062))))) k2063))))))))) (fun k2064 => fn_iconst rl_D_readText_65 (fn_istore_n (ls' := [.ref 21, .int v1, .int 0, .int v3]) rl_D_readText_66 rfl rfl (fn_iinc (ls' := [.ref 21, .int v1, .int 0, .int (v3 + 1)]) rl_D_readText_67 rfl rfl rfl (fn_goto rl_D_readText_70 (k2064))))) k0))
set_option maxRecDepth 100000 in
set_option maxHeartbeats 4000000 in
theorem sg_D_layOver_3_0 {L : Nat} {xs : Nat → Int32} {A V : Nat → Nat → Int32} {K : Nat → Option Nat} {T : am_H} {v : Option Int32} {h' : am_H} (k0 :
    am_fin [(z_D_layOver, 2, [.ref 21, .ref 3, .int 0], [])] (hp L xs A V K T) v h') : am_fin [(z_D_layOver, 0, [.ref 21, .ref 3, .null], [])] (hp L xs A V K T) v h' :=
  fn_iconst rl_D_layOver_0 (fn_istore_n (ls' := [.ref 21, .ref 3, .int 0]) rl_D_layOver_1 rfl rfl (k0))
set_option maxRecDepth 100000 in
set_option maxHeartbeats 4000000 in
theorem sg_D_layOver_3_2 {L : Nat} {xs : Nat → Int32} {A V : Nat → Nat → Int32} {K : Nat → Option Nat} {T : am_H} {v : Option Int32} {h' : am_H} {v2 : Int32} (k0 :
    if (V 21 5) ≤ v2 then (
      v = none ∧ h' = hp L xs A V K T)
    else (
      if 80 ≤ v2 then (
        v = none ∧ h' = hp L xs A V K T)
      else (
        ¬ (v2 < 0 ∨ 80 ≤ v2.toNatClampNeg) ∧ (
        ¬ (v2 < 0 ∨ 80 ≤ v2.toNatClampNeg) ∧ (
        ¬ (v2 < 0 ∨ 80 ≤ v2.toNatClampNeg) ∧ (
        am_fin [(z_P_put, 0, [.ref 3, .int ((A 22) v2.toNatClampNeg), .int ((A 23) v2.toNatClampNeg), .int ((A 24) v2.toNatClampNeg), .null, .null], []), (z_D_layOver, 38, [.ref 21, .ref 3, .int v2], [])] (hp L xs A V K T) v h')))))) : am_fin [(z_D_layOver, 2, [.ref 21, .ref 3, .int v2], [])] (hp L xs A V K T) v h' :=
  fn_iload_n rl_D_layOver_2 rfl (fn_aload_n rl_D_layOver_3 rfl (fn_get rl_D_layOver_4 hp_21 rfl (fn_icmp_ge rl_D_layOver_7 (fun k2070 => fn_retv rl_D_layOver_45 k2070) (fun k2071 => fn_iload_n rl_D_layOver_10 rfl (fn_bipush rl_D_layOver_11 (fn_icmp_ge rl_D_layOver_13 (fun k2068 => fn_retv rl_D_layOver_45 k2068) (fun k2069 => fn_aload_n rl_D_layOver_16 rfl (fn_aload_n rl_D_layOver_17 rfl (fn_get rl_D_layOver_18 hp_21 rfl (fn_iload_n rl_D_layOver_21 rfl (fn_iald rl_D_layOver_22 hp_22 (fun k2067 => fn_aload_n rl_D_layOver_23 rfl (fn_get rl_D_layOver_24 hp_21 rfl (fn_iload_n rl_D_layOver_27 rfl (fn_iald rl_D_layOver_28 hp_23 (fun k2066 => fn_aload_n rl_D_layOver_29 rfl (fn_get rl_D_layOver_30 hp_21 rfl (fn_iload_n rl_D_layOver_33 rfl (fn_iald rl_D_layOver_34 hp_24 (fun k2065 => fn_virt (as := [.ref 3, .int ((A 22) v2.toNatClampNeg), .int ((A 23) v2.toNatClampNeg), .int ((A 24) v2.toNatClampNeg)]) (r := []) (ls' := [.ref 3, .int ((A 22) v2.toNatClampNeg), .int ((A 23) v2.toNatClampNeg), .int ((A 24) v2.toNatClampNeg), .null, .null]) rl_D_layOver_35 rfl hp_3 rfl rfl pl_P_put rfl rfl (k2065)) k2066)))) k2067)))) k2069))))) k2071))) k0)))
set_option maxRecDepth 100000 in
set_option maxHeartbeats 4000000 in
theorem sg_D_layOver_3_38r {L : Nat} {xs : Nat → Int32} {A V : Nat → Nat → Int32} {K : Nat → Option Nat} {T : am_H} {v : Option Int32} {h' : am_H} {v2 r : Int32} (k0 :
    am_fin [(z_D_layOver, 2, [.ref 21, .ref 3, .int (v2 + 1)], [])] (hp L xs A V K T) v h') : am_fin [(z_D_layOver, 38, [.ref 21, .ref 3, .int v2], [.int r])] (hp L xs A V K T) v h' :=
  fn_pop_int rl_D_layOver_38 (fn_iinc (ls' := [.ref 21, .ref 3, .int (v2 + 1)]) rl_D_layOver_39 rfl rfl rfl (fn_goto rl_D_layOver_42 (k0)))
set_option maxRecDepth 100000 in
set_option maxHeartbeats 4000000 in
theorem sg_P_put_3_0 {L : Nat} {xs : Nat → Int32} {A V : Nat → Nat → Int32} {K : Nat → Option Nat} {T : am_H} {v : Option Int32} {h' : am_H} {a1 a2 a3 : Int32} (k0 :
    am_fin [(z_P_put, 10, [.ref 3, .int a1, .int a2, .int a3, .int 0, .int (if a2 < 0 then 0 else a2 : Int32)], [])] (hp L xs A V K T) v h') : am_fin [(z_P_put, 0, [.ref 3, .int a1, .int a2, .int a3, .null, .null], [])] (hp L xs A V K T) v h' :=
  fn_iconst rl_P_put_0 (fn_istore (ls' := [.ref 3, .int a1, .int a2, .int a3, .int 0, .null]) rl_P_put_1 rfl rfl (fn_iload_n rl_P_put_3 rfl (fn_iconst rl_P_put_4 (fn_max rl_P_put_5 rfl (fn_istore (ls' := [.ref 3, .int a1, .int a2, .int a3, .int 0, .int (if a2 < 0 then 0 else a2 : Int32)]) rl_P_put_8 rfl rfl (k0))))))
set_option maxRecDepth 100000 in
set_option maxHeartbeats 4000000 in
theorem sg_P_put_3_10 {L : Nat} {xs : Nat → Int32} {A V : Nat → Nat → Int32} {K : Nat → Option Nat} {T : am_H} {v : Option Int32} {h' : am_H} {v1 v2 v3 v4 v5 : Int32} (k0 :
    if v3 < v5 then (
      v = some v4 ∧ h' = hp L xs A V K T)
    else (
      if 1080 ≤ v5 then (
        v = some v4 ∧ h' = hp L xs A V K T)
      else (
        ¬ (v5 < 0 ∨ 1080 ≤ v5.toNatClampNeg) ∧ (
        if ((A 4) v5.toNatClampNeg) = v1 then (
          am_fin [(z_P_put, 10, [.ref 3, .int v1, .int v2, .int v3, .int v4, .int (v5 + 1)], [])] (hp L xs A V K T) v h')
        else (
          ¬ (v5 < 0 ∨ 1080 ≤ v5.toNatClampNeg) ∧ (
          am_fin [(z_P_put, 10, [.ref 3, .int v1, .int v2, .int v3, .int (v4 + 1), .int (v5 + 1)], [])] (hp L xs (upA A 4 (upd (A 4) v5.toNatClampNeg v1)) V K T) v h')))))) : am_fin [(z_P_put, 10, [.ref 3, .int v1, .int v2, .int v3, .int v4, .int v5], [])] (hp L xs A V K T) v h' :=
  fn_iload rl_P_put_10 rfl (fn_iload_n rl_P_put_12 rfl (fn_icmp_gt rl_P_put_13 (fun k2078 => fn_iload rl_P_put_52 rfl (fn_reti rl_P_put_54 rfl k2078)) (fun k2079 => fn_iload rl_P_put_16 rfl (fn_sipush rl_P_put_18 (fn_icmp_ge rl_P_put_21 (fun k2076 => fn_iload rl_P_put_52 rfl (fn_reti rl_P_put_54 rfl k2076)) (fun k2077 => fn_aload_n rl_P_put_24 rfl (fn_get rl_P_put_25 hp_3 rfl (fn_iload rl_P_put_28 rfl (fn_iald rl_P_put_30 hp_4 (fun k2075 => fn_iload_n rl_P_put_31 rfl (fn_icmp_eq rl_P_put_32 (fun k2073 => fn_iinc (ls' := [.ref 3, .int v1, .int v2, .int v3, .int v4, .int (v5 + 1)]) rl_P_put_46 rfl rfl rfl (fn_goto rl_P_put_49 (k2073))) (fun k2074 => fn_aload_n rl_P_put_35 rfl (fn_get rl_P_put_36 hp_3 rfl (fn_iload rl_P_put_39 rfl (fn_iload_n rl_P_put_41 rfl (fn_iast rl_P_put_42 hp_4 hps_4 (fun k2072 => fn_iinc (ls' := [.ref 3, .int v1, .int v2, .int v3, .int (v4 + 1), .int v5]) rl_P_put_43 rfl rfl rfl (fn_iinc (ls' := [.ref 3, .int v1, .int v2, .int v3, .int (v4 + 1), .int (v5 + 1)]) rl_P_put_46 rfl rfl rfl (fn_goto rl_P_put_49 (k2072)))) k2074))))) k2075)) k2077)))) k2079))) k0))
set_option maxRecDepth 100000 in
set_option maxHeartbeats 4000000 in
theorem sg_P_put_5_0 {L : Nat} {xs : Nat → Int32} {A V : Nat → Nat → Int32} {K : Nat → Option Nat} {T : am_H} {v : Option Int32} {h' : am_H} {a1 a2 a3 : Int32} (k0 :
    am_fin [(z_P_put, 10, [.ref 5, .int a1, .int a2, .int a3, .int 0, .int (if a2 < 0 then 0 else a2 : Int32)], [])] (hp L xs A V K T) v h') : am_fin [(z_P_put, 0, [.ref 5, .int a1, .int a2, .int a3, .null, .null], [])] (hp L xs A V K T) v h' :=
  fn_iconst rl_P_put_0 (fn_istore (ls' := [.ref 5, .int a1, .int a2, .int a3, .int 0, .null]) rl_P_put_1 rfl rfl (fn_iload_n rl_P_put_3 rfl (fn_iconst rl_P_put_4 (fn_max rl_P_put_5 rfl (fn_istore (ls' := [.ref 5, .int a1, .int a2, .int a3, .int 0, .int (if a2 < 0 then 0 else a2 : Int32)]) rl_P_put_8 rfl rfl (k0))))))
set_option maxRecDepth 100000 in
set_option maxHeartbeats 4000000 in
theorem sg_P_put_5_10 {L : Nat} {xs : Nat → Int32} {A V : Nat → Nat → Int32} {K : Nat → Option Nat} {T : am_H} {v : Option Int32} {h' : am_H} {v1 v2 v3 v4 v5 : Int32} (k0 :
    if v3 < v5 then (
      v = some v4 ∧ h' = hp L xs A V K T)
    else (
      if 1080 ≤ v5 then (
        v = some v4 ∧ h' = hp L xs A V K T)
      else (
        ¬ (v5 < 0 ∨ 1080 ≤ v5.toNatClampNeg) ∧ (
        if ((A 6) v5.toNatClampNeg) = v1 then (
          am_fin [(z_P_put, 10, [.ref 5, .int v1, .int v2, .int v3, .int v4, .int (v5 + 1)], [])] (hp L xs A V K T) v h')
        else (
          ¬ (v5 < 0 ∨ 1080 ≤ v5.toNatClampNeg) ∧ (
          am_fin [(z_P_put, 10, [.ref 5, .int v1, .int v2, .int v3, .int (v4 + 1), .int (v5 + 1)], [])] (hp L xs (upA A 6 (upd (A 6) v5.toNatClampNeg v1)) V K T) v h')))))) : am_fin [(z_P_put, 10, [.ref 5, .int v1, .int v2, .int v3, .int v4, .int v5], [])] (hp L xs A V K T) v h' :=
  fn_iload rl_P_put_10 rfl (fn_iload_n rl_P_put_12 rfl (fn_icmp_gt rl_P_put_13 (fun k2086 => fn_iload rl_P_put_52 rfl (fn_reti rl_P_put_54 rfl k2086)) (fun k2087 => fn_iload rl_P_put_16 rfl (fn_sipush rl_P_put_18 (fn_icmp_ge rl_P_put_21 (fun k2084 => fn_iload rl_P_put_52 rfl (fn_reti rl_P_put_54 rfl k2084)) (fun k2085 => fn_aload_n rl_P_put_24 rfl (fn_get rl_P_put_25 hp_5 rfl (fn_iload rl_P_put_28 rfl (fn_iald rl_P_put_30 hp_6 (fun k2083 => fn_iload_n rl_P_put_31 rfl (fn_icmp_eq rl_P_put_32 (fun k2081 => fn_iinc (ls' := [.ref 5, .int v1, .int v2, .int v3, .int v4, .int (v5 + 1)]) rl_P_put_46 rfl rfl rfl (fn_goto rl_P_put_49 (k2081))) (fun k2082 => fn_aload_n rl_P_put_35 rfl (fn_get rl_P_put_36 hp_5 rfl (fn_iload rl_P_put_39 rfl (fn_iload_n rl_P_put_41 rfl (fn_iast rl_P_put_42 hp_6 hps_6 (fun k2080 => fn_iinc (ls' := [.ref 5, .int v1, .int v2, .int v3, .int (v4 + 1), .int v5]) rl_P_put_43 rfl rfl rfl (fn_iinc (ls' := [.ref 5, .int v1, .int v2, .int v3, .int (v4 + 1), .int (v5 + 1)]) rl_P_put_46 rfl rfl rfl (fn_goto rl_P_put_49 (k2080)))) k2082))))) k2083)) k2085)))) k2087))) k0))
set_option maxRecDepth 100000 in
set_option maxHeartbeats 4000000 in
theorem sg_P_landOn_3_0 {L : Nat} {xs : Nat → Int32} {A V : Nat → Nat → Int32} {K : Nat → Option Nat} {T : am_H} {v : Option Int32} {h' : am_H} {a1 : Int32} (k0 :
    if a1 < 0 then (
      v = some (-1) ∧ h' = hp L xs A V K T)
    else (
      if 1080 ≤ a1 then (
        v = some (-1) ∧ h' = hp L xs A V K T)
      else (
        ¬ (a1 < 0 ∨ 1080 ≤ a1.toNatClampNeg) ∧ (
        v = some ((A 4) a1.toNatClampNeg) ∧ h' = hp L xs A V K T)))) : am_fin [(z_P_landOn, 0, [.ref 3, .int a1], [])] (hp L xs A V K T) v h' :=
  fn_iload_n rl_P_landOn_0 rfl (fn_if_lt rl_P_landOn_1 (fun k2091 => fn_iconst rl_P_landOn_20 (fn_reti rl_P_landOn_21 rfl k2091)) (fun k2092 => fn_iload_n rl_P_landOn_4 rfl (fn_sipush rl_P_landOn_5 (fn_icmp_ge rl_P_landOn_8 (fun k2089 => fn_iconst rl_P_landOn_20 (fn_reti rl_P_landOn_21 rfl k2089)) (fun k2090 => fn_aload_n rl_P_landOn_11 rfl (fn_get rl_P_landOn_12 hp_3 rfl (fn_iload_n rl_P_landOn_15 rfl (fn_iald rl_P_landOn_16 hp_4 (fun k2088 => fn_goto rl_P_landOn_17 (fn_reti rl_P_landOn_21 rfl k2088)) k2090)))) k2092))) k0)
set_option maxRecDepth 100000 in
set_option maxHeartbeats 4000000 in
theorem sg_P_landOn_5_0 {L : Nat} {xs : Nat → Int32} {A V : Nat → Nat → Int32} {K : Nat → Option Nat} {T : am_H} {v : Option Int32} {h' : am_H} {a1 : Int32} (k0 :
    if a1 < 0 then (
      v = some (-1) ∧ h' = hp L xs A V K T)
    else (
      if 1080 ≤ a1 then (
        v = some (-1) ∧ h' = hp L xs A V K T)
      else (
        ¬ (a1 < 0 ∨ 1080 ≤ a1.toNatClampNeg) ∧ (
        v = some ((A 6) a1.toNatClampNeg) ∧ h' = hp L xs A V K T)))) : am_fin [(z_P_landOn, 0, [.ref 5, .int a1], [])] (hp L xs A V K T) v h' :=
  fn_iload_n rl_P_landOn_0 rfl (fn_if_lt rl_P_landOn_1 (fun k2096 => fn_iconst rl_P_landOn_20 (fn_reti rl_P_landOn_21 rfl k2096)) (fun k2097 => fn_iload_n rl_P_landOn_4 rfl (fn_sipush rl_P_landOn_5 (fn_icmp_ge rl_P_landOn_8 (fun k2094 => fn_iconst rl_P_landOn_20 (fn_reti rl_P_landOn_21 rfl k2094)) (fun k2095 => fn_aload_n rl_P_landOn_11 rfl (fn_get rl_P_landOn_12 hp_5 rfl (fn_iload_n rl_P_landOn_15 rfl (fn_iald rl_P_landOn_16 hp_6 (fun k2093 => fn_goto rl_P_landOn_17 (fn_reti rl_P_landOn_21 rfl k2093)) k2095)))) k2097))) k0)
set_option maxRecDepth 100000 in
set_option maxHeartbeats 4000000 in
theorem sg_E_spell_3_0 {L : Nat} {xs : Nat → Int32} {A V : Nat → Nat → Int32} {K : Nat → Option Nat} {T : am_H} {v : Option Int32} {h' : am_H} {a2 : Int32} (k0 :
    am_fin [(z_E_spell, 18, [.ref 25, .ref 3, .int a2, .int 0], [])] (hp L xs A (upV (upV (upV V 25 0 0) 25 1 a2) 25 2 (-2)) K T) v h') : am_fin [(z_E_spell, 0, [.ref 25, .ref 3, .int a2, .null], [])] (hp L xs A V K T) v h' :=
  fn_aload_n rl_E_spell_0 rfl (fn_iconst rl_E_spell_1 (fn_put rl_E_spell_2 hp_25 rfl hpv_25_0 (fn_aload_n rl_E_spell_5 rfl (fn_iload_n rl_E_spell_6 rfl (fn_put rl_E_spell_7 hp_25 rfl hpv_25_1 (fn_aload_n rl_E_spell_10 rfl (fn_bipush rl_E_spell_11 (fn_put rl_E_spell_13 hp_25 rfl hpv_25_2 (fn_iconst rl_E_spell_16 (fn_istore_n (ls' := [.ref 25, .ref 3, .int a2, .int 0]) rl_E_spell_17 rfl rfl (k0)))))))))))
set_option maxRecDepth 100000 in
set_option maxHeartbeats 4000000 in
theorem sg_E_spell_3_18 {L : Nat} {xs : Nat → Int32} {A V : Nat → Nat → Int32} {K : Nat → Option Nat} {T : am_H} {v : Option Int32} {h' : am_H} {v2 v3 : Int32} (k0 :
    if 1080 ≤ v3 then (
      v = none ∧ h' = hp L xs A V K T)
    else (
      am_fin [(z_P_startsStay, 0, [.ref 3, .int v3], []), (z_E_spell, 30, [.ref 25, .ref 3, .int v2, .int v3], [])] (hp L xs A V K T) v h')) : am_fin [(z_E_spell, 18, [.ref 25, .ref 3, .int v2, .int v3], [])] (hp L xs A V K T) v h' :=
  fn_iload_n rl_E_spell_18 rfl (fn_sipush rl_E_spell_19 (fn_icmp_ge rl_E_spell_22 (fun k2098 => fn_retv rl_E_spell_54 k2098) (fun k2099 => fn_aload_n rl_E_spell_25 rfl (fn_iload_n rl_E_spell_26 rfl (fn_virt (as := [.ref 3, .int v3]) (r := []) (ls' := [.ref 3, .int v3]) rl_E_spell_27 rfl hp_3 rfl rfl pl_P_startsStay rfl rfl (k2099)))) k0))
set_option maxRecDepth 100000 in
set_option maxHeartbeats 4000000 in
theorem sg_E_spell_3_30r {L : Nat} {xs : Nat → Int32} {A V : Nat → Nat → Int32} {K : Nat → Option Nat} {T : am_H} {v : Option Int32} {h' : am_H} {v2 v3 r : Int32} (k0 :
    if r = 0 then (
      am_fin [(z_E_spell, 18, [.ref 25, .ref 3, .int v2, .int (v3 + 1)], [])] (hp L xs A V K T) v h')
    else (
      am_fin [(z_P_landOn, 0, [.ref 3, .int v3], []), (z_E_spell, 39, [.ref 25, .ref 3, .int v2, .int v3], [.ref 25])] (hp L xs A V K T) v h')) : am_fin [(z_E_spell, 30, [.ref 25, .ref 3, .int v2, .int v3], [.int r])] (hp L xs A V K T) v h' :=
  fn_if_eq rl_E_spell_30 (fun k2100 => fn_iinc (ls' := [.ref 25, .ref 3, .int v2, .int (v3 + 1)]) rl_E_spell_48 rfl rfl rfl (fn_goto rl_E_spell_51 (k2100))) (fun k2101 => fn_aload_n rl_E_spell_33 rfl (fn_aload_n rl_E_spell_34 rfl (fn_iload_n rl_E_spell_35 rfl (fn_virt (as := [.ref 3, .int v3]) (r := [.ref 25]) (ls' := [.ref 3, .int v3]) rl_E_spell_36 rfl hp_3 rfl rfl pl_P_landOn rfl rfl (k2101))))) k0
set_option maxRecDepth 100000 in
set_option maxHeartbeats 4000000 in
theorem sg_E_spell_3_39r {L : Nat} {xs : Nat → Int32} {A V : Nat → Nat → Int32} {K : Nat → Option Nat} {T : am_H} {v : Option Int32} {h' : am_H} {v2 v3 r : Int32} (k0 :
    am_fin [(z_P_lastOfStay, 0, [.ref 3, .int v3, .null, .null, .null], []), (z_E_spell, 45, [.ref 25, .ref 3, .int v2, .int v3], [.int v3, .int r, .ref 25])] (hp L xs A V K T) v h') : am_fin [(z_E_spell, 39, [.ref 25, .ref 3, .int v2, .int v3], [.int r, .ref 25])] (hp L xs A V K T) v h' :=
  fn_iload_n rl_E_spell_39 rfl (fn_aload_n rl_E_spell_40 rfl (fn_iload_n rl_E_spell_41 rfl (fn_virt (as := [.ref 3, .int v3]) (r := [.int v3, .int r, .ref 25]) (ls' := [.ref 3, .int v3, .null, .null, .null]) rl_E_spell_42 rfl hp_3 rfl rfl pl_P_lastOfStay rfl rfl (k0))))
set_option maxRecDepth 100000 in
set_option maxHeartbeats 4000000 in
theorem sg_E_spell_3_45r {L : Nat} {xs : Nat → Int32} {A V : Nat → Nat → Int32} {K : Nat → Option Nat} {T : am_H} {v : Option Int32} {h' : am_H} {v2 v3 s1 s2 r : Int32} (k0 :
    am_fin [(z_E_putStay, 0, [.ref 25, .int s1, .int s2, .int r], []), (z_E_spell, 48, [.ref 25, .ref 3, .int v2, .int v3], [])] (hp L xs A V K T) v h') : am_fin [(z_E_spell, 45, [.ref 25, .ref 3, .int v2, .int v3], [.int r, .int s2, .int s1, .ref 25])] (hp L xs A V K T) v h' :=
  fn_virt (as := [.ref 25, .int s1, .int s2, .int r]) (r := []) (ls' := [.ref 25, .int s1, .int s2, .int r]) rl_E_spell_45 rfl hp_25 rfl rfl pl_E_putStay rfl rfl (k0)
set_option maxRecDepth 100000 in
set_option maxHeartbeats 4000000 in
theorem sg_E_spell_3_48r {L : Nat} {xs : Nat → Int32} {A V : Nat → Nat → Int32} {K : Nat → Option Nat} {T : am_H} {v : Option Int32} {h' : am_H} {v2 v3 : Int32} (k0 :
    am_fin [(z_E_spell, 18, [.ref 25, .ref 3, .int v2, .int (v3 + 1)], [])] (hp L xs A V K T) v h') : am_fin [(z_E_spell, 48, [.ref 25, .ref 3, .int v2, .int v3], [])] (hp L xs A V K T) v h' :=
  fn_iinc (ls' := [.ref 25, .ref 3, .int v2, .int (v3 + 1)]) rl_E_spell_48 rfl rfl rfl (fn_goto rl_E_spell_51 (k0))
set_option maxRecDepth 100000 in
set_option maxHeartbeats 4000000 in
theorem sg_T_takeRow_0 {L : Nat} {xs : Nat → Int32} {A V : Nat → Nat → Int32} {K : Nat → Option Nat} {T : am_H} {v : Option Int32} {h' : am_H} {a1 : Int32} (k0 :
    am_fin [(z_T_takeRow, 7, [.ref 19, .int a1, .int 0, .int 0, .int 0, .null], [])] (hp L xs A V K T) v h') : am_fin [(z_T_takeRow, 0, [.ref 19, .int a1, .null, .null, .null, .null], [])] (hp L xs A V K T) v h' :=
  fn_iconst rl_T_takeRow_0 (fn_istore_n (ls' := [.ref 19, .int a1, .int 0, .null, .null, .null]) rl_T_takeRow_1 rfl rfl (fn_iconst rl_T_takeRow_2 (fn_istore_n (ls' := [.ref 19, .int a1, .int 0, .int 0, .null, .null]) rl_T_takeRow_3 rfl rfl (fn_iconst rl_T_takeRow_4 (fn_istore (ls' := [.ref 19, .int a1, .int 0, .int 0, .int 0, .null]) rl_T_takeRow_5 rfl rfl (k0))))))
set_option maxRecDepth 100000 in
set_option maxHeartbeats 4000000 in
theorem sg_T_takeRow_7 {L : Nat} {xs : Nat → Int32} {A V : Nat → Nat → Int32} {K : Nat → Option Nat} {T : am_H} {v : Option Int32} {h' : am_H} {v1 v2 v3 v4 : Int32} (k0 :
    if v1 ≤ v4 then (
      v = some v2 ∧ h' = hp L xs A (upV V 19 1 0) K T)
    else (
      if 4 ≤ v4 then (
        v = some v2 ∧ h' = hp L xs A (upV V 19 1 0) K T)
      else (
        ¬ (v4 < 0 ∨ 320 ≤ v4.toNatClampNeg) ∧ (
        if ((A 20) v4.toNatClampNeg) = 99 then (
          if (((v3 : Int32) >>> (1 &&& 31 : Int32)) &&& 1) = 1 then (
            v = some (-1) ∧ h' = hp L xs A (upV V 19 1 0) K T)
          else (
            am_fin [(z_T_takeRow, 7, [.ref 19, .int v1, .int ((v2 + 1) ||| ((1 : Int32) <<< ((3 + (2 * (v2 &&& 7))) &&& 31 : Int32))), .int (v3 ||| ((1 : Int32) <<< (1 &&& 31 : Int32))), .int (v4 + 1), .int 1], [])] (hp L xs A V K T) v h'))
        else (
          if ((A 20) v4.toNatClampNeg) = 100 then (
          if (((v3 : Int32) >>> (2 &&& 31 : Int32)) &&& 1) = 1 then (
            v = some (-1) ∧ h' = hp L xs A (upV V 19 1 0) K T)
          else (
            am_fin [(z_T_takeRow, 7, [.ref 19, .int v1, .int ((v2 + 1) ||| ((2 : Int32) <<< ((3 + (2 * (v2 &&& 7))) &&& 31 : Int32))), .int (v3 ||| ((1 : Int32) <<< (2 &&& 31 : Int32))), .int (v4 + 1), .int 2], [])] (hp L xs A V K T) v h'))
        else (
          if ((A 20) v4.toNatClampNeg) = 104 then (
          if (((v3 : Int32) >>> (0 &&& 31 : Int32)) &&& 1) = 1 then (
            v = some (-1) ∧ h' = hp L xs A (upV V 19 1 0) K T)
          else (
            am_fin [(z_T_takeRow, 7, [.ref 19, .int v1, .int ((v2 + 1) ||| ((0 : Int32) <<< ((3 + (2 * (v2 &&& 7))) &&& 31 : Int32))), .int (v3 ||| ((1 : Int32) <<< (0 &&& 31 : Int32))), .int (v4 + 1), .int 0], [])] (hp L xs A V K T) v h'))
        else (
          if ((A 20) v4.toNatClampNeg) = 110 then (
          if (((v3 : Int32) >>> (3 &&& 31 : Int32)) &&& 1) = 1 then (
            v = some (-1) ∧ h' = hp L xs A (upV V 19 1 0) K T)
          else (
            am_fin [(z_T_takeRow, 7, [.ref 19, .int v1, .int ((v2 + 1) ||| ((3 : Int32) <<< ((3 + (2 * (v2 &&& 7))) &&& 31 : Int32))), .int (v3 ||| ((1 : Int32) <<< (3 &&& 31 : Int32))), .int (v4 + 1), .int 3], [])] (hp L xs A V K T) v h'))
        else (
          v = some (-1) ∧ h' = hp L xs A (upV V 19 1 0) K T)))))))) : am_fin [(z_T_takeRow, 7, [.ref 19, .int v1, .int v2, .int v3, .int v4, .null], [])] (hp L xs A V K T) v h' :=
  fn_iload rl_T_takeRow_7 rfl (fn_iload_n rl_T_takeRow_9 rfl (fn_icmp_ge rl_T_takeRow_10 (fun k2121 => fn_aload_n rl_T_takeRow_71 rfl (fn_iconst rl_T_takeRow_72 (fn_put rl_T_takeRow_73 hp_19 rfl hpv_19_1 (fn_iload_n rl_T_takeRow_76 rfl (fn_reti rl_T_takeRow_77 rfl k2121))))) (fun k2122 => fn_iload rl_T_takeRow_13 rfl (fn_iconst rl_T_takeRow_15 (fn_icmp_ge rl_T_takeRow_16 (fun k2119 => fn_aload_n rl_T_takeRow_71 rfl (fn_iconst rl_T_takeRow_72 (fn_put rl_T_takeRow_73 hp_19 rfl hpv_19_1 (fn_iload_n rl_T_takeRow_76 rfl (fn_reti rl_T_takeRow_77 rfl k2119))))) (fun k2120 => fn_aload_n rl_T_takeRow_19 rfl (fn_get rl_T_takeRow_20 hp_19 rfl (fn_iload rl_T_takeRow_23 rfl (fn_iald rl_T_takeRow_25 hp_20 (fun k2118 => fn_stat (as := [.int ((A 20) v4.toNatClampNeg)]) (r := []) (ls' := [.int ((A 20) v4.toNatClampNeg)]) rl_T_takeRow_26 rfl rfl rfl rfl pl_T_letterOf rfl rfl (fn_iload_n rl_T_letterOf_0 rfl (fn_lookP rl_T_letterOf_1 (fn_swC (tg := 0) (F := fun t => am_fin ((z_T_letterOf, t, [.int ((A 20) v4.toNatClampNeg)], []) :: [(z_T_takeRow, 29, [.ref 19, .int v1, .int v2, .int v3, .int v4, .null], [])]) (hp L xs A V K T) v h') (fun k2116 => fn_iconst rl_T_letterOf_46 (fn_retci rl_T_letterOf_47 rfl (fn_istore (ls' := [.ref 19, .int v1, .int v2, .int v3, .int v4, .int 1]) rl_T_takeRow_29 rfl rfl (fn_iload rl_T_takeRow_31 rfl (fn_iconst rl_T_takeRow_33 (fn_icmp_eq_f rl_T_takeRow_34 (by decide +kernel) (fn_iload_n rl_T_takeRow_37 rfl (fn_iload rl_T_takeRow_38 rfl (fn_stat (as := [.int v3, .int 1]) (r := []) (ls' := [.int v3, .int 1]) rl_T_takeRow_40 rfl rfl rfl rfl pl_L_hasBit rfl rfl (fn_iload_n rl_L_hasBit_0 rfl (fn_iload_n rl_L_hasBit_1 rfl (fn_ishr rl_L_hasBit_2 (fn_iconst rl_L_hasBit_3 (fn_iand rl_L_hasBit_4 (fn_iconst rl_L_hasBit_5 (fn_icmp_ne rl_L_hasBit_6 (fun k2102 => fn_iconst rl_L_hasBit_9 (fn_goto rl_L_hasBit_10 (fn_retci rl_L_hasBit_14 rfl (fn_if_eq_f rl_T_takeRow_43 (by decide +kernel) (fn_iconst rl_T_takeRow_46 (fn_istore_n (ls' := [.ref 19, .int v1, .int (-1), .int v3, .int v4, .int 1]) rl_T_takeRow_47 rfl rfl (fn_goto rl_T_takeRow_48 (fn_aload_n rl_T_takeRow_71 rfl (fn_iconst rl_T_takeRow_72 (fn_put rl_T_takeRow_73 hp_19 rfl hpv_19_1 (fn_iload_n rl_T_takeRow_76 rfl (fn_reti rl_T_takeRow_77 rfl k2102)))))))))))) (fun k2103 => fn_iconst rl_L_hasBit_13 (fn_retci rl_L_hasBit_14 rfl (fn_if_eq_t rl_T_takeRow_43 (by decide +kernel) (fn_iload_n rl_T_takeRow_51 rfl (fn_iconst rl_T_takeRow_52 (fn_iload rl_T_takeRow_53 rfl (fn_ishl rl_T_takeRow_55 (fn_ior rl_T_takeRow_56 (fn_istore_n (ls' := [.ref 19, .int v1, .int v2, .int (v3 ||| ((1 : Int32) <<< (1 &&& 31 : Int32))), .int v4, .int 1]) rl_T_takeRow_57 rfl rfl (fn_iload_n rl_T_takeRow_58 rfl (fn_iload rl_T_takeRow_59 rfl (fn_stat (as := [.int v2, .int 1]) (r := []) (ls' := [.int v2, .int 1]) rl_T_takeRow_61 rfl rfl rfl rfl pl_L_rowWith rfl rfl (fn_iload_n rl_L_rowWith_0 rfl (fn_iconst rl_L_rowWith_1 (fn_iadd rl_L_rowWith_2 (fn_iload_n rl_L_rowWith_3 rfl (fn_iconst rl_L_rowWith_4 (fn_iconst rl_L_rowWith_5 (fn_iload_n rl_L_rowWith_6 rfl (fn_stat (as := [.int v2]) (r := [.int 2, .int 3, .int 1, .int (v2 + 1)]) (ls' := [.int v2]) rl_L_rowWith_7 rfl rfl rfl rfl pl_L_rowLength rfl rfl (fn_iload_n rl_L_rowLength_0 rfl (fn_bipush rl_L_rowLength_1 (fn_iand rl_L_rowLength_3 (fn_retci rl_L_rowLength_4 rfl (fn_imul rl_L_rowWith_10 (fn_iadd rl_L_rowWith_11 (fn_ishl rl_L_rowWith_12 (fn_ior rl_L_rowWith_13 (fn_retci rl_L_rowWith_14 rfl (fn_istore_n (ls' := [.ref 19, .int v1, .int ((v2 + 1) ||| ((1 : Int32) <<< ((3 + (2 * (v2 &&& 7))) &&& 31 : Int32))), .int (v3 ||| ((1 : Int32) <<< (1 &&& 31 : Int32))), .int v4, .int 1]) rl_T_takeRow_64 rfl rfl (fn_iinc (ls' := [.ref 19, .int v1, .int ((v2 + 1) ||| ((1 : Int32) <<< ((3 + (2 * (v2 &&& 7))) &&& 31 : Int32))), .int (v3 ||| ((1 : Int32) <<< (1 &&& 31 : Int32))), .int (v4 + 1), .int 1]) rl_T_takeRow_65 rfl rfl rfl (fn_goto rl_T_takeRow_68 (k2103))))))))))))))))))))))))))))))))) k2116)))))))))))))))) (fun k2117 => fn_swC (tg := 0) (F := fun t => am_fin ((z_T_letterOf, t, [.int ((A 20) v4.toNatClampNeg)], []) :: [(z_T_takeRow, 29, [.ref 19, .int v1, .int v2, .int v3, .int v4, .null], [])]) (hp L xs A V K T) v h') (fun k2114 => fn_iconst rl_T_letterOf_48 (fn_retci rl_T_letterOf_49 rfl (fn_istore (ls' := [.ref 19, .int v1, .int v2, .int v3, .int v4, .int 2]) rl_T_takeRow_29 rfl rfl (fn_iload rl_T_takeRow_31 rfl (fn_iconst rl_T_takeRow_33 (fn_icmp_eq_f rl_T_takeRow_34 (by decide +kernel) (fn_iload_n rl_T_takeRow_37 rfl (fn_iload rl_T_takeRow_38 rfl (fn_stat (as := [.int v3, .int 2]) (r := []) (ls' := [.int v3, .int 2]) rl_T_takeRow_40 rfl rfl rfl rfl pl_L_hasBit rfl rfl (fn_iload_n rl_L_hasBit_0 rfl (fn_iload_n rl_L_hasBit_1 rfl (fn_ishr rl_L_hasBit_2 (fn_iconst rl_L_hasBit_3 (fn_iand rl_L_hasBit_4 (fn_iconst rl_L_hasBit_5 (fn_icmp_ne rl_L_hasBit_6 (fun k2104 => fn_iconst rl_L_hasBit_9 (fn_goto rl_L_hasBit_10 (fn_retci rl_L_hasBit_14 rfl (fn_if_eq_f rl_T_takeRow_43 (by decide +kernel) (fn_iconst rl_T_takeRow_46 (fn_istore_n (ls' := [.ref 19, .int v1, .int (-1), .int v3, .int v4, .int 2]) rl_T_takeRow_47 rfl rfl (fn_goto rl_T_takeRow_48 (fn_aload_n rl_T_takeRow_71 rfl (fn_iconst rl_T_takeRow_72 (fn_put rl_T_takeRow_73 hp_19 rfl hpv_19_1 (fn_iload_n rl_T_takeRow_76 rfl (fn_reti rl_T_takeRow_77 rfl k2104)))))))))))) (fun k2105 => fn_iconst rl_L_hasBit_13 (fn_retci rl_L_hasBit_14 rfl (fn_if_eq_t rl_T_takeRow_43 (by decide +kernel) (fn_iload_n rl_T_takeRow_51 rfl (fn_iconst rl_T_takeRow_52 (fn_iload rl_T_takeRow_53 rfl (fn_ishl rl_T_takeRow_55 (fn_ior rl_T_takeRow_56 (fn_istore_n (ls' := [.ref 19, .int v1, .int v2, .int (v3 ||| ((1 : Int32) <<< (2 &&& 31 : Int32))), .int v4, .int 2]) rl_T_takeRow_57 rfl rfl (fn_iload_n rl_T_takeRow_58 rfl (fn_iload rl_T_takeRow_59 rfl (fn_stat (as := [.int v2, .int 2]) (r := []) (ls' := [.int v2, .int 2]) rl_T_takeRow_61 rfl rfl rfl rfl pl_L_rowWith rfl rfl (fn_iload_n rl_L_rowWith_0 rfl (fn_iconst rl_L_rowWith_1 (fn_iadd rl_L_rowWith_2 (fn_iload_n rl_L_rowWith_3 rfl (fn_iconst rl_L_rowWith_4 (fn_iconst rl_L_rowWith_5 (fn_iload_n rl_L_rowWith_6 rfl (fn_stat (as := [.int v2]) (r := [.int 2, .int 3, .int 2, .int (v2 + 1)]) (ls' := [.int v2]) rl_L_rowWith_7 rfl rfl rfl rfl pl_L_rowLength rfl rfl (fn_iload_n rl_L_rowLength_0 rfl (fn_bipush rl_L_rowLength_1 (fn_iand rl_L_rowLength_3 (fn_retci rl_L_rowLength_4 rfl (fn_imul rl_L_rowWith_10 (fn_iadd rl_L_rowWith_11 (fn_ishl rl_L_rowWith_12 (fn_ior rl_L_rowWith_13 (fn_retci rl_L_rowWith_14 rfl (fn_istore_n (ls' := [.ref 19, .int v1, .int ((v2 + 1) ||| ((2 : Int32) <<< ((3 + (2 * (v2 &&& 7))) &&& 31 : Int32))), .int (v3 ||| ((1 : Int32) <<< (2 &&& 31 : Int32))), .int v4, .int 2]) rl_T_takeRow_64 rfl rfl (fn_iinc (ls' := [.ref 19, .int v1, .int ((v2 + 1) ||| ((2 : Int32) <<< ((3 + (2 * (v2 &&& 7))) &&& 31 : Int32))), .int (v3 ||| ((1 : Int32) <<< (2 &&& 31 : Int32))), .int (v4 + 1), .int 2]) rl_T_takeRow_65 rfl rfl rfl (fn_goto rl_T_takeRow_68 (k2105))))))))))))))))))))))))))))))))) k2114)))))))))))))))) (fun k2115 => fn_swC (tg := 0) (F := fun t => am_fin ((z_T_letterOf, t, [.int ((A 20) v4.toNatClampNeg)], []) :: [(z_T_takeRow, 29, [.ref 19, .int v1, .int v2, .int v3, .int v4, .null], [])]) (hp L xs A V K T) v h') (fun k2112 => fn_iconst rl_T_letterOf_44 (fn_retci rl_T_letterOf_45 rfl (fn_istore (ls' := [.ref 19, .int v1, .int v2, .int v3, .int v4, .int 0]) rl_T_takeRow_29 rfl rfl (fn_iload rl_T_takeRow_31 rfl (fn_iconst rl_T_takeRow_33 (fn_icmp_eq_f rl_T_takeRow_34 (by decide +kernel) (fn_iload_n rl_T_takeRow_37 rfl (fn_iload rl_T_takeRow_38 rfl (fn_stat (as := [.int v3, .int 0]) (r := []) (ls' := [.int v3, .int 0]) rl_T_takeRow_40 rfl rfl rfl rfl pl_L_hasBit rfl rfl (fn_iload_n rl_L_hasBit_0 rfl (fn_iload_n rl_L_hasBit_1 rfl (fn_ishr rl_L_hasBit_2 (fn_iconst rl_L_hasBit_3 (fn_iand rl_L_hasBit_4 (fn_iconst rl_L_hasBit_5 (fn_icmp_ne rl_L_hasBit_6 (fun k2106 => fn_iconst rl_L_hasBit_9 (fn_goto rl_L_hasBit_10 (fn_retci rl_L_hasBit_14 rfl (fn_if_eq_f rl_T_takeRow_43 (by decide +kernel) (fn_iconst rl_T_takeRow_46 (fn_istore_n (ls' := [.ref 19, .int v1, .int (-1), .int v3, .int v4, .int 0]) rl_T_takeRow_47 rfl rfl (fn_goto rl_T_takeRow_48 (fn_aload_n rl_T_takeRow_71 rfl (fn_iconst rl_T_takeRow_72 (fn_put rl_T_takeRow_73 hp_19 rfl hpv_19_1 (fn_iload_n rl_T_takeRow_76 rfl (fn_reti rl_T_takeRow_77 rfl k2106)))))))))))) (fun k2107 => fn_iconst rl_L_hasBit_13 (fn_retci rl_L_hasBit_14 rfl (fn_if_eq_t rl_T_takeRow_43 (by decide +kernel) (fn_iload_n rl_T_takeRow_51 rfl (fn_iconst rl_T_takeRow_52 (fn_iload rl_T_takeRow_53 rfl (fn_ishl rl_T_takeRow_55 (fn_ior rl_T_takeRow_56 (fn_istore_n (ls' := [.ref 19, .int v1, .int v2, .int (v3 ||| ((1 : Int32) <<< (0 &&& 31 : Int32))), .int v4, .int 0]) rl_T_takeRow_57 rfl rfl (fn_iload_n rl_T_takeRow_58 rfl (fn_iload rl_T_takeRow_59 rfl (fn_stat (as := [.int v2, .int 0]) (r := []) (ls' := [.int v2, .int 0]) rl_T_takeRow_61 rfl rfl rfl rfl pl_L_rowWith rfl rfl (fn_iload_n rl_L_rowWith_0 rfl (fn_iconst rl_L_rowWith_1 (fn_iadd rl_L_rowWith_2 (fn_iload_n rl_L_rowWith_3 rfl (fn_iconst rl_L_rowWith_4 (fn_iconst rl_L_rowWith_5 (fn_iload_n rl_L_rowWith_6 rfl (fn_stat (as := [.int v2]) (r := [.int 2, .int 3, .int 0, .int (v2 + 1)]) (ls' := [.int v2]) rl_L_rowWith_7 rfl rfl rfl rfl pl_L_rowLength rfl rfl (fn_iload_n rl_L_rowLength_0 rfl (fn_bipush rl_L_rowLength_1 (fn_iand rl_L_rowLength_3 (fn_retci rl_L_rowLength_4 rfl (fn_imul rl_L_rowWith_10 (fn_iadd rl_L_rowWith_11 (fn_ishl rl_L_rowWith_12 (fn_ior rl_L_rowWith_13 (fn_retci rl_L_rowWith_14 rfl (fn_istore_n (ls' := [.ref 19, .int v1, .int ((v2 + 1) ||| ((0 : Int32) <<< ((3 + (2 * (v2 &&& 7))) &&& 31 : Int32))), .int (v3 ||| ((1 : Int32) <<< (0 &&& 31 : Int32))), .int v4, .int 0]) rl_T_takeRow_64 rfl rfl (fn_iinc (ls' := [.ref 19, .int v1, .int ((v2 + 1) ||| ((0 : Int32) <<< ((3 + (2 * (v2 &&& 7))) &&& 31 : Int32))), .int (v3 ||| ((1 : Int32) <<< (0 &&& 31 : Int32))), .int (v4 + 1), .int 0]) rl_T_takeRow_65 rfl rfl rfl (fn_goto rl_T_takeRow_68 (k2107))))))))))))))))))))))))))))))))) k2112)))))))))))))))) (fun k2113 => fn_swC (tg := 0) (F := fun t => am_fin ((z_T_letterOf, t, [.int ((A 20) v4.toNatClampNeg)], []) :: [(z_T_takeRow, 29, [.ref 19, .int v1, .int v2, .int v3, .int v4, .null], [])]) (hp L xs A V K T) v h') (fun k2110 => fn_iconst rl_T_letterOf_50 (fn_retci rl_T_letterOf_51 rfl (fn_istore (ls' := [.ref 19, .int v1, .int v2, .int v3, .int v4, .int 3]) rl_T_takeRow_29 rfl rfl (fn_iload rl_T_takeRow_31 rfl (fn_iconst rl_T_takeRow_33 (fn_icmp_eq_f rl_T_takeRow_34 (by decide +kernel) (fn_iload_n rl_T_takeRow_37 rfl (fn_iload rl_T_takeRow_38 rfl (fn_stat (as := [.int v3, .int 3]) (r := []) (ls' := [.int v3, .int 3]) rl_T_takeRow_40 rfl rfl rfl rfl pl_L_hasBit rfl rfl (fn_iload_n rl_L_hasBit_0 rfl (fn_iload_n rl_L_hasBit_1 rfl (fn_ishr rl_L_hasBit_2 (fn_iconst rl_L_hasBit_3 (fn_iand rl_L_hasBit_4 (fn_iconst rl_L_hasBit_5 (fn_icmp_ne rl_L_hasBit_6 (fun k2108 => fn_iconst rl_L_hasBit_9 (fn_goto rl_L_hasBit_10 (fn_retci rl_L_hasBit_14 rfl (fn_if_eq_f rl_T_takeRow_43 (by decide +kernel) (fn_iconst rl_T_takeRow_46 (fn_istore_n (ls' := [.ref 19, .int v1, .int (-1), .int v3, .int v4, .int 3]) rl_T_takeRow_47 rfl rfl (fn_goto rl_T_takeRow_48 (fn_aload_n rl_T_takeRow_71 rfl (fn_iconst rl_T_takeRow_72 (fn_put rl_T_takeRow_73 hp_19 rfl hpv_19_1 (fn_iload_n rl_T_takeRow_76 rfl (fn_reti rl_T_takeRow_77 rfl k2108)))))))))))) (fun k2109 => fn_iconst rl_L_hasBit_13 (fn_retci rl_L_hasBit_14 rfl (fn_if_eq_t rl_T_takeRow_43 (by decide +kernel) (fn_iload_n rl_T_takeRow_51 rfl (fn_iconst rl_T_takeRow_52 (fn_iload rl_T_takeRow_53 rfl (fn_ishl rl_T_takeRow_55 (fn_ior rl_T_takeRow_56 (fn_istore_n (ls' := [.ref 19, .int v1, .int v2, .int (v3 ||| ((1 : Int32) <<< (3 &&& 31 : Int32))), .int v4, .int 3]) rl_T_takeRow_57 rfl rfl (fn_iload_n rl_T_takeRow_58 rfl (fn_iload rl_T_takeRow_59 rfl (fn_stat (as := [.int v2, .int 3]) (r := []) (ls' := [.int v2, .int 3]) rl_T_takeRow_61 rfl rfl rfl rfl pl_L_rowWith rfl rfl (fn_iload_n rl_L_rowWith_0 rfl (fn_iconst rl_L_rowWith_1 (fn_iadd rl_L_rowWith_2 (fn_iload_n rl_L_rowWith_3 rfl (fn_iconst rl_L_rowWith_4 (fn_iconst rl_L_rowWith_5 (fn_iload_n rl_L_rowWith_6 rfl (fn_stat (as := [.int v2]) (r := [.int 2, .int 3, .int 3, .int (v2 + 1)]) (ls' := [.int v2]) rl_L_rowWith_7 rfl rfl rfl rfl pl_L_rowLength rfl rfl (fn_iload_n rl_L_rowLength_0 rfl (fn_bipush rl_L_rowLength_1 (fn_iand rl_L_rowLength_3 (fn_retci rl_L_rowLength_4 rfl (fn_imul rl_L_rowWith_10 (fn_iadd rl_L_rowWith_11 (fn_ishl rl_L_rowWith_12 (fn_ior rl_L_rowWith_13 (fn_retci rl_L_rowWith_14 rfl (fn_istore_n (ls' := [.ref 19, .int v1, .int ((v2 + 1) ||| ((3 : Int32) <<< ((3 + (2 * (v2 &&& 7))) &&& 31 : Int32))), .int (v3 ||| ((1 : Int32) <<< (3 &&& 31 : Int32))), .int v4, .int 3]) rl_T_takeRow_64 rfl rfl (fn_iinc (ls' := [.ref 19, .int v1, .int ((v2 + 1) ||| ((3 : Int32) <<< ((3 + (2 * (v2 &&& 7))) &&& 31 : Int32))), .int (v3 ||| ((1 : Int32) <<< (3 &&& 31 : Int32))), .int (v4 + 1), .int 3]) rl_T_takeRow_65 rfl rfl rfl (fn_goto rl_T_takeRow_68 (k2109))))))))))))))))))))))))))))))))) k2110)))))))))))))))) (fun k2111 => fn_iconst rl_T_letterOf_52 (fn_retci rl_T_letterOf_53 rfl (fn_istore (ls' := [.ref 19, .int v1, .int v2, .int v3, .int v4, .int (-1)]) rl_T_takeRow_29 rfl rfl (fn_iload rl_T_takeRow_31 rfl (fn_iconst rl_T_takeRow_33 (fn_icmp_eq_t rl_T_takeRow_34 (by decide +kernel) (fn_iconst rl_T_takeRow_46 (fn_istore_n (ls' := [.ref 19, .int v1, .int (-1), .int v3, .int v4, .int (-1)]) rl_T_takeRow_47 rfl rfl (fn_goto rl_T_takeRow_48 (fn_aload_n rl_T_takeRow_71 rfl (fn_iconst rl_T_takeRow_72 (fn_put rl_T_takeRow_73 hp_19 rfl hpv_19_1 (fn_iload_n rl_T_takeRow_76 rfl (fn_reti rl_T_takeRow_77 rfl k2111)))))))))))))) k2113) k2115) k2117) k2118)))) k2120)))) k2122))) k0))
set_option maxRecDepth 100000 in
set_option maxHeartbeats 4000000 in
theorem sg_P_startsStay_3_0 {L : Nat} {xs : Nat → Int32} {A V : Nat → Nat → Int32} {K : Nat → Option Nat} {T : am_H} {v : Option Int32} {h' : am_H} {a1 : Int32} (k0 :
    am_fin [(z_P_landOn, 0, [.ref 3, .int a1], []), (z_P_startsStay, 5, [.ref 3, .int a1], [])] (hp L xs A V K T) v h') : am_fin [(z_P_startsStay, 0, [.ref 3, .int a1], [])] (hp L xs A V K T) v h' :=
  fn_aload_n rl_P_startsStay_0 rfl (fn_iload_n rl_P_startsStay_1 rfl (fn_virt (as := [.ref 3, .int a1]) (r := []) (ls' := [.ref 3, .int a1]) rl_P_startsStay_2 rfl hp_3 rfl rfl pl_P_landOn rfl rfl (k0)))
set_option maxRecDepth 100000 in
set_option maxHeartbeats 4000000 in
theorem sg_P_startsStay_3_5r {L : Nat} {xs : Nat → Int32} {A V : Nat → Nat → Int32} {K : Nat → Option Nat} {T : am_H} {v : Option Int32} {h' : am_H} {v1 r : Int32} (k0 :
    if r = (-1) then (
      v = some 0 ∧ h' = hp L xs A V K T)
    else (
      am_fin [(z_P_landOn, 0, [.ref 3, .int v1], []), (z_P_startsStay, 14, [.ref 3, .int v1], [])] (hp L xs A V K T) v h')) : am_fin [(z_P_startsStay, 5, [.ref 3, .int v1], [.int r])] (hp L xs A V K T) v h' :=
  fn_iconst rl_P_startsStay_5 (fn_icmp_eq rl_P_startsStay_6 (fun k2123 => fn_iconst rl_P_startsStay_28 (fn_reti rl_P_startsStay_29 rfl k2123)) (fun k2124 => fn_aload_n rl_P_startsStay_9 rfl (fn_iload_n rl_P_startsStay_10 rfl (fn_virt (as := [.ref 3, .int v1]) (r := []) (ls' := [.ref 3, .int v1]) rl_P_startsStay_11 rfl hp_3 rfl rfl pl_P_landOn rfl rfl (k2124)))) k0)
set_option maxRecDepth 100000 in
set_option maxHeartbeats 4000000 in
theorem sg_P_startsStay_3_14r {L : Nat} {xs : Nat → Int32} {A V : Nat → Nat → Int32} {K : Nat → Option Nat} {T : am_H} {v : Option Int32} {h' : am_H} {v1 r : Int32} (k0 :
    am_fin [(z_P_landOn, 0, [.ref 3, .int (v1 - 1)], []), (z_P_startsStay, 21, [.ref 3, .int v1], [.int r])] (hp L xs A V K T) v h') : am_fin [(z_P_startsStay, 14, [.ref 3, .int v1], [.int r])] (hp L xs A V K T) v h' :=
  fn_aload_n rl_P_startsStay_14 rfl (fn_iload_n rl_P_startsStay_15 rfl (fn_iconst rl_P_startsStay_16 (fn_isub rl_P_startsStay_17 (fn_virt (as := [.ref 3, .int (v1 - 1)]) (r := [.int r]) (ls' := [.ref 3, .int (v1 - 1)]) rl_P_startsStay_18 rfl hp_3 rfl rfl pl_P_landOn rfl rfl (k0)))))
set_option maxRecDepth 100000 in
set_option maxHeartbeats 4000000 in
theorem sg_P_startsStay_3_21r {L : Nat} {xs : Nat → Int32} {A V : Nat → Nat → Int32} {K : Nat → Option Nat} {T : am_H} {v : Option Int32} {h' : am_H} {v1 s0 r : Int32} (k0 :
    if s0 = r then (
      v = some 0 ∧ h' = hp L xs A V K T)
    else (
      v = some 1 ∧ h' = hp L xs A V K T)) : am_fin [(z_P_startsStay, 21, [.ref 3, .int v1], [.int r, .int s0])] (hp L xs A V K T) v h' :=
  fn_icmp_eq rl_P_startsStay_21 (fun k2125 => fn_iconst rl_P_startsStay_28 (fn_reti rl_P_startsStay_29 rfl k2125)) (fun k2126 => fn_iconst rl_P_startsStay_24 (fn_goto rl_P_startsStay_25 (fn_reti rl_P_startsStay_29 rfl k2126))) k0
set_option maxRecDepth 100000 in
set_option maxHeartbeats 4000000 in
theorem sg_P_countOf_3_0 {L : Nat} {xs : Nat → Int32} {A V : Nat → Nat → Int32} {K : Nat → Option Nat} {T : am_H} {v : Option Int32} {h' : am_H} {a1 a2 a3 : Int32} (k0 :
    am_fin [(z_P_countOf, 6, [.ref 3, .int a1, .int a2, .int a3, .int 0, .int a2], [])] (hp L xs A V K T) v h') : am_fin [(z_P_countOf, 0, [.ref 3, .int a1, .int a2, .int a3, .null, .null], [])] (hp L xs A V K T) v h' :=
  fn_iconst rl_P_countOf_0 (fn_istore (ls' := [.ref 3, .int a1, .int a2, .int a3, .int 0, .null]) rl_P_countOf_1 rfl rfl (fn_iload_n rl_P_countOf_3 rfl (fn_istore (ls' := [.ref 3, .int a1, .int a2, .int a3, .int 0, .int a2]) rl_P_countOf_4 rfl rfl (k0))))
set_option maxRecDepth 100000 in
set_option maxHeartbeats 4000000 in
theorem sg_P_countOf_3_6 {L : Nat} {xs : Nat → Int32} {A V : Nat → Nat → Int32} {K : Nat → Option Nat} {T : am_H} {v : Option Int32} {h' : am_H} {v1 v2 v3 v4 v5 : Int32} (k0 :
    if v3 < v5 then (
      v = some v4 ∧ h' = hp L xs A V K T)
    else (
      am_fin [(z_P_landOn, 0, [.ref 3, .int v5], []), (z_P_countOf, 18, [.ref 3, .int v1, .int v2, .int v3, .int v4, .int v5], [])] (hp L xs A V K T) v h')) : am_fin [(z_P_countOf, 6, [.ref 3, .int v1, .int v2, .int v3, .int v4, .int v5], [])] (hp L xs A V K T) v h' :=
  fn_iload rl_P_countOf_6 rfl (fn_iload_n rl_P_countOf_8 rfl (fn_icmp_gt rl_P_countOf_9 (fun k2127 => fn_iload rl_P_countOf_31 rfl (fn_reti rl_P_countOf_33 rfl k2127)) (fun k2128 => fn_aload_n rl_P_countOf_12 rfl (fn_iload rl_P_countOf_13 rfl (fn_virt (as := [.ref 3, .int v5]) (r := []) (ls' := [.ref 3, .int v5]) rl_P_countOf_15 rfl hp_3 rfl rfl pl_P_landOn rfl rfl (k2128)))) k0))
set_option maxRecDepth 100000 in
set_option maxHeartbeats 4000000 in
theorem sg_P_countOf_3_18r {L : Nat} {xs : Nat → Int32} {A V : Nat → Nat → Int32} {K : Nat → Option Nat} {T : am_H} {v : Option Int32} {h' : am_H} {v1 v2 v3 v4 v5 r : Int32} (k0 :
    if r = v1 then (
      am_fin [(z_P_countOf, 6, [.ref 3, .int v1, .int v2, .int v3, .int (v4 + 1), .int (v5 + 1)], [])] (hp L xs A V K T) v h')
    else (
      am_fin [(z_P_countOf, 6, [.ref 3, .int v1, .int v2, .int v3, .int v4, .int (v5 + 1)], [])] (hp L xs A V K T) v h')) : am_fin [(z_P_countOf, 18, [.ref 3, .int v1, .int v2, .int v3, .int v4, .int v5], [.int r])] (hp L xs A V K T) v h' :=
  fn_iload_n rl_P_countOf_18 rfl (fn_icmp_ne rl_P_countOf_19 (fun k2129 => fn_iinc (ls' := [.ref 3, .int v1, .int v2, .int v3, .int (v4 + 1), .int v5]) rl_P_countOf_22 rfl rfl rfl (fn_iinc (ls' := [.ref 3, .int v1, .int v2, .int v3, .int (v4 + 1), .int (v5 + 1)]) rl_P_countOf_25 rfl rfl rfl (fn_goto rl_P_countOf_28 (k2129)))) (fun k2130 => fn_iinc (ls' := [.ref 3, .int v1, .int v2, .int v3, .int v4, .int (v5 + 1)]) rl_P_countOf_25 rfl rfl rfl (fn_goto rl_P_countOf_28 (k2130))) k0)
set_option maxRecDepth 100000 in
set_option maxHeartbeats 4000000 in
theorem sg_S_homeDays_0 {L : Nat} {xs : Nat → Int32} {A V : Nat → Nat → Int32} {K : Nat → Option Nat} {T : am_H} {v : Option Int32} {h' : am_H} {a1 a2 a3 : Int32} (k0 :
    am_fin [(z_S_homeDays, 6, [.ref 2, .int a1, .int a2, .int a3, .int 0, .int a2], [])] (hp L xs A V K T) v h') : am_fin [(z_S_homeDays, 0, [.ref 2, .int a1, .int a2, .int a3, .null, .null], [])] (hp L xs A V K T) v h' :=
  fn_iconst rl_S_homeDays_0 (fn_istore (ls' := [.ref 2, .int a1, .int a2, .int a3, .int 0, .null]) rl_S_homeDays_1 rfl rfl (fn_iload_n rl_S_homeDays_3 rfl (fn_istore (ls' := [.ref 2, .int a1, .int a2, .int a3, .int 0, .int a2]) rl_S_homeDays_4 rfl rfl (k0))))
set_option maxRecDepth 100000 in
set_option maxHeartbeats 4000000 in
theorem sg_S_homeDays_6 {L : Nat} {xs : Nat → Int32} {A V : Nat → Nat → Int32} {K : Nat → Option Nat} {T : am_H} {v : Option Int32} {h' : am_H} {v1 v2 v3 v4 v5 : Int32} (k0 :
    if v3 < v5 then (
      v = some v4 ∧ h' = hp L xs A V K T)
    else (
      ¬ (v5 < 0 ∨ 1080 ≤ v5.toNatClampNeg) ∧ (
      if (((((A 9) v5.toNatClampNeg) : Int32) >>> (v1 &&& 31 : Int32)) &&& 1) = 1 then (
        am_fin [(z_S_homeDays, 6, [.ref 2, .int v1, .int v2, .int v3, .int (v4 + 1), .int (v5 + 1)], [])] (hp L xs A V K T) v h')
      else (
        am_fin [(z_S_homeDays, 6, [.ref 2, .int v1, .int v2, .int v3, .int v4, .int (v5 + 1)], [])] (hp L xs A V K T) v h')))) : am_fin [(z_S_homeDays, 6, [.ref 2, .int v1, .int v2, .int v3, .int v4, .int v5], [])] (hp L xs A V K T) v h' :=
  fn_iload rl_S_homeDays_6 rfl (fn_iload_n rl_S_homeDays_8 rfl (fn_icmp_gt rl_S_homeDays_9 (fun k2134 => fn_iload rl_S_homeDays_31 rfl (fn_reti rl_S_homeDays_33 rfl k2134)) (fun k2135 => fn_aload_n rl_S_homeDays_12 rfl (fn_iload_n rl_S_homeDays_13 rfl (fn_iload rl_S_homeDays_14 rfl (fn_virt (as := [.ref 2, .int v1, .int v5]) (r := []) (ls' := [.ref 2, .int v1, .int v5]) rl_S_homeDays_16 rfl hp_2 rfl rfl pl_S_hasHome rfl rfl (fn_aload_n rl_S_hasHome_0 rfl (fn_get rl_S_hasHome_1 hp_2 rfl (fn_iload_n rl_S_hasHome_4 rfl (fn_iald rl_S_hasHome_5 hp_9 (fun k2133 => fn_iload_n rl_S_hasHome_6 rfl (fn_stat (as := [.int ((A 9) v5.toNatClampNeg), .int v1]) (r := []) (ls' := [.int ((A 9) v5.toNatClampNeg), .int v1]) rl_S_hasHome_7 rfl rfl rfl rfl pl_L_hasBit rfl rfl (fn_iload_n rl_L_hasBit_0 rfl (fn_iload_n rl_L_hasBit_1 rfl (fn_ishr rl_L_hasBit_2 (fn_iconst rl_L_hasBit_3 (fn_iand rl_L_hasBit_4 (fn_iconst rl_L_hasBit_5 (fn_icmp_ne rl_L_hasBit_6 (fun k2131 => fn_iconst rl_L_hasBit_9 (fn_goto rl_L_hasBit_10 (fn_retci rl_L_hasBit_14 rfl (fn_retci rl_S_hasHome_10 rfl (fn_if_eq_f rl_S_homeDays_19 (by decide +kernel) (fn_iinc (ls' := [.ref 2, .int v1, .int v2, .int v3, .int (v4 + 1), .int v5]) rl_S_homeDays_22 rfl rfl rfl (fn_iinc (ls' := [.ref 2, .int v1, .int v2, .int v3, .int (v4 + 1), .int (v5 + 1)]) rl_S_homeDays_25 rfl rfl rfl (fn_goto rl_S_homeDays_28 (k2131))))))))) (fun k2132 => fn_iconst rl_L_hasBit_13 (fn_retci rl_L_hasBit_14 rfl (fn_retci rl_S_hasHome_10 rfl (fn_if_eq_t rl_S_homeDays_19 (by decide +kernel) (fn_iinc (ls' := [.ref 2, .int v1, .int v2, .int v3, .int v4, .int (v5 + 1)]) rl_S_homeDays_25 rfl rfl rfl (fn_goto rl_S_homeDays_28 (k2132))))))) k2133))))))))) k2135)))))))) k0))
