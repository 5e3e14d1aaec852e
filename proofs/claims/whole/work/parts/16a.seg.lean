set_option maxRecDepth 100000 in
set_option maxHeartbeats 4000000 in
theorem sg_L_feed_0 {L : Nat} {xs : Nat → Int32} {A V : Nat → Nat → Int32} {K : Nat → Option Nat} {T : am_H} {v : Option Int32} {h' : am_H} {a1 a2 a3 a4 a5 : Int32} (k0 :
    if ((V 19 1) + 20) ≤ 320 then (
      am_fin [(z_T_putWord, 0, [.ref 19, .int a1, .null], []), (z_L_feed, 26, [.ref 1, .int a1, .int a2, .int a3, .int a4, .int a5], [])] (hp L xs A V K T) v h')
    else (
      v = some (-1) ∧ h' = hp L xs A V K T)) : am_fin [(z_L_feed, 0, [.ref 1, .int a1, .int a2, .int a3, .int a4, .int a5], [])] (hp L xs A V K T) v h' :=
  fn_aload_n rl_L_feed_0 rfl (fn_get rl_L_feed_1 hp_1 rfl (fn_get rl_L_feed_4 hp_19 rfl (fn_bipush rl_L_feed_7 (fn_iadd rl_L_feed_9 (fn_sipush rl_L_feed_10 (fn_icmp_le rl_L_feed_13 (fun k1 => fn_aload_n rl_L_feed_18 rfl (fn_get rl_L_feed_19 hp_1 rfl (fn_iload_n rl_L_feed_22 rfl (fn_virt (as := [.ref 19, .int a1]) (r := []) (ls' := [.ref 19, .int a1, .null]) rl_L_feed_23 rfl hp_19 rfl rfl pl_T_putWord rfl rfl (k1))))) (fun k2 => fn_iconst rl_L_feed_16 (fn_reti rl_L_feed_17 rfl k2)) k0))))))
set_option maxRecDepth 100000 in
set_option maxHeartbeats 4000000 in
theorem sg_L_feed_26r {L : Nat} {xs : Nat → Int32} {A V : Nat → Nat → Int32} {K : Nat → Option Nat} {T : am_H} {v : Option Int32} {h' : am_H} {v1 v2 v3 v4 v5 : Int32} (k0 :
    am_fin [(z_T_putWord, 0, [.ref 19, .int v2, .null], []), (z_L_feed, 34, [.ref 1, .int v1, .int v2, .int v3, .int v4, .int v5], [])] (hp L xs A V K T) v h') : am_fin [(z_L_feed, 26, [.ref 1, .int v1, .int v2, .int v3, .int v4, .int v5], [])] (hp L xs A V K T) v h' :=
  fn_aload_n rl_L_feed_26 rfl (fn_get rl_L_feed_27 hp_1 rfl (fn_iload_n rl_L_feed_30 rfl (fn_virt (as := [.ref 19, .int v2]) (r := []) (ls' := [.ref 19, .int v2, .null]) rl_L_feed_31 rfl hp_19 rfl rfl pl_T_putWord rfl rfl (k0))))
set_option maxRecDepth 100000 in
set_option maxHeartbeats 4000000 in
theorem sg_L_feed_34r {L : Nat} {xs : Nat → Int32} {A V : Nat → Nat → Int32} {K : Nat → Option Nat} {T : am_H} {v : Option Int32} {h' : am_H} {v1 v2 v3 v4 v5 : Int32} (k0 :
    am_fin [(z_T_putWord, 0, [.ref 19, .int v3, .null], []), (z_L_feed, 42, [.ref 1, .int v1, .int v2, .int v3, .int v4, .int v5], [])] (hp L xs A V K T) v h') : am_fin [(z_L_feed, 34, [.ref 1, .int v1, .int v2, .int v3, .int v4, .int v5], [])] (hp L xs A V K T) v h' :=
  fn_aload_n rl_L_feed_34 rfl (fn_get rl_L_feed_35 hp_1 rfl (fn_iload_n rl_L_feed_38 rfl (fn_virt (as := [.ref 19, .int v3]) (r := []) (ls' := [.ref 19, .int v3, .null]) rl_L_feed_39 rfl hp_19 rfl rfl pl_T_putWord rfl rfl (k0))))
set_option maxRecDepth 100000 in
set_option maxHeartbeats 4000000 in
theorem sg_L_feed_42r {L : Nat} {xs : Nat → Int32} {A V : Nat → Nat → Int32} {K : Nat → Option Nat} {T : am_H} {v : Option Int32} {h' : am_H} {v1 v2 v3 v4 v5 : Int32} (k0 :
    am_fin [(z_T_putWord, 0, [.ref 19, .int v4, .null], []), (z_L_feed, 51, [.ref 1, .int v1, .int v2, .int v3, .int v4, .int v5], [])] (hp L xs A V K T) v h') : am_fin [(z_L_feed, 42, [.ref 1, .int v1, .int v2, .int v3, .int v4, .int v5], [])] (hp L xs A V K T) v h' :=
  fn_aload_n rl_L_feed_42 rfl (fn_get rl_L_feed_43 hp_1 rfl (fn_iload rl_L_feed_46 rfl (fn_virt (as := [.ref 19, .int v4]) (r := []) (ls' := [.ref 19, .int v4, .null]) rl_L_feed_48 rfl hp_19 rfl rfl pl_T_putWord rfl rfl (k0))))
set_option maxRecDepth 100000 in
set_option maxHeartbeats 4000000 in
theorem sg_L_feed_51r {L : Nat} {xs : Nat → Int32} {A V : Nat → Nat → Int32} {K : Nat → Option Nat} {T : am_H} {v : Option Int32} {h' : am_H} {v1 v2 v3 v4 v5 : Int32} (k0 :
    am_fin [(z_T_putWord, 0, [.ref 19, .int v5, .null], []), (z_L_feed, 60, [.ref 1, .int v1, .int v2, .int v3, .int v4, .int v5], [])] (hp L xs A V K T) v h') : am_fin [(z_L_feed, 51, [.ref 1, .int v1, .int v2, .int v3, .int v4, .int v5], [])] (hp L xs A V K T) v h' :=
  fn_aload_n rl_L_feed_51 rfl (fn_get rl_L_feed_52 hp_1 rfl (fn_iload rl_L_feed_55 rfl (fn_virt (as := [.ref 19, .int v5]) (r := []) (ls' := [.ref 19, .int v5, .null]) rl_L_feed_57 rfl hp_19 rfl rfl pl_T_putWord rfl rfl (k0))))
set_option maxRecDepth 100000 in
set_option maxHeartbeats 4000000 in
theorem sg_L_feed_60r {L : Nat} {xs : Nat → Int32} {A V : Nat → Nat → Int32} {K : Nat → Option Nat} {T : am_H} {v : Option Int32} {h' : am_H} {v1 v2 v3 v4 v5 : Int32} (k0 :
    v = some (V 19 1) ∧ h' = hp L xs A V K T) : am_fin [(z_L_feed, 60, [.ref 1, .int v1, .int v2, .int v3, .int v4, .int v5], [])] (hp L xs A V K T) v h' :=
  fn_aload_n rl_L_feed_60 rfl (fn_get rl_L_feed_61 hp_1 rfl (fn_get rl_L_feed_64 hp_19 rfl (fn_reti rl_L_feed_67 rfl k0)))
set_option maxRecDepth 100000 in
set_option maxHeartbeats 4000000 in
theorem sg_L_calendar_0 {L : Nat} {xs : Nat → Int32} {A V : Nat → Nat → Int32} {K : Nat → Option Nat} {T : am_H} {v : Option Int32} {h' : am_H} {a1 : Int32} (k0 :
    if a1 < 1 then (
      v = some (-1) ∧ h' = hp L xs A V K T)
    else (
      if 160 < a1 then (
        v = some (-1) ∧ h' = hp L xs A V K T)
      else (
        if (V 19 1) < a1 then (
          v = some (-1) ∧ h' = hp L xs A V K T)
        else (
          am_fin [(z_D_readText, 0, [.ref 21, .int a1, .null, .null], []), (z_L_calendar, 18, [.ref 1, .int a1, .null], [])] (hp L xs A V K T) v h')))) : am_fin [(z_L_calendar, 0, [.ref 1, .int a1, .null], [])] (hp L xs A V K T) v h' :=
  fn_aload_n rl_L_calendar_0 rfl (fn_iload_n rl_L_calendar_1 rfl (fn_virt (as := [.ref 1, .int a1]) (r := []) (ls' := [.ref 1, .int a1]) rl_L_calendar_2 rfl hp_1 rfl rfl pl_L_isText rfl rfl (fn_iload_n rl_L_isText_0 rfl (fn_iconst rl_L_isText_1 (fn_sipush rl_L_isText_2 (fn_stat (as := [.int a1, .int 1, .int 160]) (r := []) (ls' := [.int a1, .int 1, .int 160]) rl_L_isText_5 rfl rfl rfl rfl pl_L_isAmong rfl rfl (fn_iload_n rl_L_isAmong_0 rfl (fn_iload_n rl_L_isAmong_1 rfl (fn_icmp_lt rl_L_isAmong_2 (fun k7 => fn_iconst rl_L_isAmong_14 (fn_retci rl_L_isAmong_15 rfl (fn_if_eq_t rl_L_isText_8 (by decide +kernel) (fn_iconst rl_L_isText_26 (fn_retci rl_L_isText_27 rfl (fn_if_ne_t rl_L_calendar_5 (by decide +kernel) (fn_iconst rl_L_calendar_8 (fn_reti rl_L_calendar_9 rfl k7)))))))) (fun k8 => fn_iload_n rl_L_isAmong_5 rfl (fn_iload_n rl_L_isAmong_6 rfl (fn_icmp_gt rl_L_isAmong_7 (fun k5 => fn_iconst rl_L_isAmong_14 (fn_retci rl_L_isAmong_15 rfl (fn_if_eq_t rl_L_isText_8 (by decide +kernel) (fn_iconst rl_L_isText_26 (fn_retci rl_L_isText_27 rfl (fn_if_ne_t rl_L_calendar_5 (by decide +kernel) (fn_iconst rl_L_calendar_8 (fn_reti rl_L_calendar_9 rfl k5)))))))) (fun k6 => fn_iconst rl_L_isAmong_10 (fn_goto rl_L_isAmong_11 (fn_retci rl_L_isAmong_15 rfl (fn_if_eq_f rl_L_isText_8 (by decide +kernel) (fn_iload_n rl_L_isText_11 rfl (fn_aload_n rl_L_isText_12 rfl (fn_get rl_L_isText_13 hp_1 rfl (fn_get rl_L_isText_16 hp_19 rfl (fn_icmp_gt rl_L_isText_19 (fun k3 => fn_iconst rl_L_isText_26 (fn_retci rl_L_isText_27 rfl (fn_if_ne_t rl_L_calendar_5 (by decide +kernel) (fn_iconst rl_L_calendar_8 (fn_reti rl_L_calendar_9 rfl k3))))) (fun k4 => fn_iconst rl_L_isText_22 (fn_goto rl_L_isText_23 (fn_retci rl_L_isText_27 rfl (fn_if_ne_f rl_L_calendar_5 (by decide +kernel) (fn_aload_n rl_L_calendar_10 rfl (fn_get rl_L_calendar_11 hp_1 rfl (fn_iload_n rl_L_calendar_14 rfl (fn_virt (as := [.ref 21, .int a1]) (r := []) (ls' := [.ref 21, .int a1, .null, .null]) rl_L_calendar_15 rfl hp_21 rfl rfl pl_D_readText rfl rfl (k4))))))))) k6))))))))) k8))) k0)))))))))
set_option maxRecDepth 100000 in
set_option maxHeartbeats 4000000 in
theorem sg_L_calendar_18r {L : Nat} {xs : Nat → Int32} {A V : Nat → Nat → Int32} {K : Nat → Option Nat} {T : am_H} {v : Option Int32} {h' : am_H} {v1 r : Int32} (k0 :
    if r ≤ 0 then (
      v = some r ∧ h' = hp L xs A (upV V 19 1 0) K T)
    else (
      am_fin [(z_D_layOver, 0, [.ref 21, .ref 3, .null], []), (z_L_calendar, 45, [.ref 1, .int v1, .int r], [])] (hp L xs A (upV V 19 1 0) K T) v h')) : am_fin [(z_L_calendar, 18, [.ref 1, .int v1, .null], [.int r])] (hp L xs A V K T) v h' :=
  fn_istore_n (ls' := [.ref 1, .int v1, .int r]) rl_L_calendar_18 rfl rfl (fn_aload_n rl_L_calendar_19 rfl (fn_get rl_L_calendar_20 hp_1 rfl (fn_iconst rl_L_calendar_23 (fn_put rl_L_calendar_24 hp_19 rfl hpv_19_1 (fn_iload_n rl_L_calendar_27 rfl (fn_if_le rl_L_calendar_28 (fun k9 => fn_iload_n rl_L_calendar_45 rfl (fn_reti rl_L_calendar_46 rfl k9)) (fun k10 => fn_aload_n rl_L_calendar_31 rfl (fn_get rl_L_calendar_32 hp_1 rfl (fn_aload_n rl_L_calendar_35 rfl (fn_get rl_L_calendar_36 hp_1 rfl (fn_get rl_L_calendar_39 hp_2 rfl (fn_virt (as := [.ref 21, .ref 3]) (r := []) (ls' := [.ref 21, .ref 3, .null]) rl_L_calendar_42 rfl hp_21 rfl rfl pl_D_layOver rfl rfl (k10))))))) k0))))))
set_option maxRecDepth 100000 in
set_option maxHeartbeats 4000000 in
theorem sg_L_calendar_45r {L : Nat} {xs : Nat → Int32} {A V : Nat → Nat → Int32} {K : Nat → Option Nat} {T : am_H} {v : Option Int32} {h' : am_H} {v1 v2 : Int32} (k0 :
    v = some v2 ∧ h' = hp L xs A V K T) : am_fin [(z_L_calendar, 45, [.ref 1, .int v1, .int v2], [])] (hp L xs A V K T) v h' :=
  fn_iload_n rl_L_calendar_45 rfl (fn_reti rl_L_calendar_46 rfl k0)
set_option maxRecDepth 100000 in
set_option maxHeartbeats 4000000 in
theorem sg_L_stay_0 {L : Nat} {xs : Nat → Int32} {A V : Nat → Nat → Int32} {K : Nat → Option Nat} {T : am_H} {v : Option Int32} {h' : am_H} {a1 a2 a3 : Int32} (k0 :
    if a1 < (-1) then (
      v = some (-1) ∧ h' = hp L xs A V K T)
    else (
      if 5 < a1 then (
        v = some (-1) ∧ h' = hp L xs A V K T)
      else (
        if a2 < 0 then (
          v = some (-1) ∧ h' = hp L xs A V K T)
        else (
          if 1079 < a2 then (
            v = some (-1) ∧ h' = hp L xs A V K T)
          else (
            if a3 < 0 then (
              v = some (-1) ∧ h' = hp L xs A V K T)
            else (
              if 1079 < a3 then (
                v = some (-1) ∧ h' = hp L xs A V K T)
              else (
                if a3 < a2 then (
                  v = some (-1) ∧ h' = hp L xs A V K T)
                else (
                  am_fin [(z_P_put, 0, [.ref 3, .int a1, .int a2, .int a3, .null, .null], []), (z_L_stay, 30, [.ref 1, .int a1, .int a2, .int a3], [])] (hp L xs A V K T) v h')))))))) : am_fin [(z_L_stay, 0, [.ref 1, .int a1, .int a2, .int a3], [])] (hp L xs A V K T) v h' :=
  fn_iload_n rl_L_stay_0 rfl (fn_stat (as := [.int a1]) (r := []) (ls' := [.int a1]) rl_L_stay_1 rfl rfl rfl rfl pl_L_isPlace rfl rfl (fn_iload_n rl_L_isPlace_0 rfl (fn_iconst rl_L_isPlace_1 (fn_iconst rl_L_isPlace_2 (fn_stat (as := [.int a1, .int (-1), .int 5]) (r := []) (ls' := [.int a1, .int (-1), .int 5]) rl_L_isPlace_3 rfl rfl rfl rfl pl_L_isAmong rfl rfl (fn_iload_n rl_L_isAmong_0 rfl (fn_iload_n rl_L_isAmong_1 rfl (fn_icmp_lt rl_L_isAmong_2 (fun k23 => fn_iconst rl_L_isAmong_14 (fn_retci rl_L_isAmong_15 rfl (fn_retci rl_L_isPlace_6 rfl (fn_if_eq_t rl_L_stay_4 (by decide +kernel) (fn_iconst rl_L_stay_15 (fn_reti rl_L_stay_16 rfl k23)))))) (fun k24 => fn_iload_n rl_L_isAmong_5 rfl (fn_iload_n rl_L_isAmong_6 rfl (fn_icmp_gt rl_L_isAmong_7 (fun k21 => fn_iconst rl_L_isAmong_14 (fn_retci rl_L_isAmong_15 rfl (fn_retci rl_L_isPlace_6 rfl (fn_if_eq_t rl_L_stay_4 (by decide +kernel) (fn_iconst rl_L_stay_15 (fn_reti rl_L_stay_16 rfl k21)))))) (fun k22 => fn_iconst rl_L_isAmong_10 (fn_goto rl_L_isAmong_11 (fn_retci rl_L_isAmong_15 rfl (fn_retci rl_L_isPlace_6 rfl (fn_if_eq_f rl_L_stay_4 (by decide +kernel) (fn_iload_n rl_L_stay_7 rfl (fn_iload_n rl_L_stay_8 rfl (fn_stat (as := [.int a2, .int a3]) (r := []) (ls' := [.int a2, .int a3]) rl_L_stay_9 rfl rfl rfl rfl pl_L_isSpan rfl rfl (fn_iload_n rl_L_isSpan_0 rfl (fn_stat (as := [.int a2]) (r := []) (ls' := [.int a2]) rl_L_isSpan_1 rfl rfl rfl rfl pl_L_isDay rfl rfl (fn_iload_n rl_L_isDay_0 rfl (fn_iconst rl_L_isDay_1 (fn_sipush rl_L_isDay_2 (fn_stat (as := [.int a2, .int 0, .int 1079]) (r := []) (ls' := [.int a2, .int 0, .int 1079]) rl_L_isDay_5 rfl rfl rfl rfl pl_L_isAmong rfl rfl (fn_iload_n rl_L_isAmong_0 rfl (fn_iload_n rl_L_isAmong_1 rfl (fn_icmp_lt rl_L_isAmong_2 (fun k19 => fn_iconst rl_L_isAmong_14 (fn_retci rl_L_isAmong_15 rfl (fn_retci rl_L_isDay_8 rfl (fn_if_eq_t rl_L_isSpan_4 (by decide +kernel) (fn_iconst rl_L_isSpan_23 (fn_retci rl_L_isSpan_24 rfl (fn_if_ne_t rl_L_stay_12 (by decide +kernel) (fn_iconst rl_L_stay_15 (fn_reti rl_L_stay_16 rfl k19))))))))) (fun k20 => fn_iload_n rl_L_isAmong_5 rfl (fn_iload_n rl_L_isAmong_6 rfl (fn_icmp_gt rl_L_isAmong_7 (fun k17 => fn_iconst rl_L_isAmong_14 (fn_retci rl_L_isAmong_15 rfl (fn_retci rl_L_isDay_8 rfl (fn_if_eq_t rl_L_isSpan_4 (by decide +kernel) (fn_iconst rl_L_isSpan_23 (fn_retci rl_L_isSpan_24 rfl (fn_if_ne_t rl_L_stay_12 (by decide +kernel) (fn_iconst rl_L_stay_15 (fn_reti rl_L_stay_16 rfl k17))))))))) (fun k18 => fn_iconst rl_L_isAmong_10 (fn_goto rl_L_isAmong_11 (fn_retci rl_L_isAmong_15 rfl (fn_retci rl_L_isDay_8 rfl (fn_if_eq_f rl_L_isSpan_4 (by decide +kernel) (fn_iload_n rl_L_isSpan_7 rfl (fn_stat (as := [.int a3]) (r := []) (ls' := [.int a3]) rl_L_isSpan_8 rfl rfl rfl rfl pl_L_isDay rfl rfl (fn_iload_n rl_L_isDay_0 rfl (fn_iconst rl_L_isDay_1 (fn_sipush rl_L_isDay_2 (fn_stat (as := [.int a3, .int 0, .int 1079]) (r := []) (ls' := [.int a3, .int 0, .int 1079]) rl_L_isDay_5 rfl rfl rfl rfl pl_L_isAmong rfl rfl (fn_iload_n rl_L_isAmong_0 rfl (fn_iload_n rl_L_isAmong_1 rfl (fn_icmp_lt rl_L_isAmong_2 (fun k15 => fn_iconst rl_L_isAmong_14 (fn_retci rl_L_isAmong_15 rfl (fn_retci rl_L_isDay_8 rfl (fn_if_eq_t rl_L_isSpan_11 (by decide +kernel) (fn_iconst rl_L_isSpan_23 (fn_retci rl_L_isSpan_24 rfl (fn_if_ne_t rl_L_stay_12 (by decide +kernel) (fn_iconst rl_L_stay_15 (fn_reti rl_L_stay_16 rfl k15))))))))) (fun k16 => fn_iload_n rl_L_isAmong_5 rfl (fn_iload_n rl_L_isAmong_6 rfl (fn_icmp_gt rl_L_isAmong_7 (fun k13 => fn_iconst rl_L_isAmong_14 (fn_retci rl_L_isAmong_15 rfl (fn_retci rl_L_isDay_8 rfl (fn_if_eq_t rl_L_isSpan_11 (by decide +kernel) (fn_iconst rl_L_isSpan_23 (fn_retci rl_L_isSpan_24 rfl (fn_if_ne_t rl_L_stay_12 (by decide +kernel) (fn_iconst rl_L_stay_15 (fn_reti rl_L_stay_16 rfl k13))))))))) (fun k14 => fn_iconst rl_L_isAmong_10 (fn_goto rl_L_isAmong_11 (fn_retci rl_L_isAmong_15 rfl (fn_retci rl_L_isDay_8 rfl (fn_if_eq_f rl_L_isSpan_11 (by decide +kernel) (fn_iload_n rl_L_isSpan_14 rfl (fn_iload_n rl_L_isSpan_15 rfl (fn_icmp_gt rl_L_isSpan_16 (fun k11 => fn_iconst rl_L_isSpan_23 (fn_retci rl_L_isSpan_24 rfl (fn_if_ne_t rl_L_stay_12 (by decide +kernel) (fn_iconst rl_L_stay_15 (fn_reti rl_L_stay_16 rfl k11))))) (fun k12 => fn_iconst rl_L_isSpan_19 (fn_goto rl_L_isSpan_20 (fn_retci rl_L_isSpan_24 rfl (fn_if_ne_f rl_L_stay_12 (by decide +kernel) (fn_aload_n rl_L_stay_17 rfl (fn_get rl_L_stay_18 hp_1 rfl (fn_get rl_L_stay_21 hp_2 rfl (fn_iload_n rl_L_stay_24 rfl (fn_iload_n rl_L_stay_25 rfl (fn_iload_n rl_L_stay_26 rfl (fn_virt (as := [.ref 3, .int a1, .int a2, .int a3]) (r := []) (ls' := [.ref 3, .int a1, .int a2, .int a3, .null, .null]) rl_L_stay_27 rfl hp_3 rfl rfl pl_P_put rfl rfl (k12)))))))))))) k14)))))))) k16))) k18)))))))))))))) k20))) k22))))))))))))))))) k24))) k0))))))))
set_option maxRecDepth 100000 in
set_option maxHeartbeats 4000000 in
theorem sg_L_stay_30r {L : Nat} {xs : Nat → Int32} {A V : Nat → Nat → Int32} {K : Nat → Option Nat} {T : am_H} {v : Option Int32} {h' : am_H} {v1 v2 v3 r : Int32} (k0 :
    v = some r ∧ h' = hp L xs A V K T) : am_fin [(z_L_stay, 30, [.ref 1, .int v1, .int v2, .int v3], [.int r])] (hp L xs A V K T) v h' :=
  fn_reti rl_L_stay_30 rfl k0
set_option maxRecDepth 100000 in
set_option maxHeartbeats 4000000 in
theorem sg_L_home_0 {L : Nat} {xs : Nat → Int32} {A V : Nat → Nat → Int32} {K : Nat → Option Nat} {T : am_H} {v : Option Int32} {h' : am_H} {a1 a2 a3 a4 : Int32} (k0 :
    if a1 < 0 then (
      v = some (-1) ∧ h' = hp L xs A V K T)
    else (
      if 5 < a1 then (
        v = some (-1) ∧ h' = hp L xs A V K T)
      else (
        if a2 < 0 then (
          v = some (-1) ∧ h' = hp L xs A V K T)
        else (
          if 1079 < a2 then (
            v = some (-1) ∧ h' = hp L xs A V K T)
          else (
            if a3 < 0 then (
              v = some (-1) ∧ h' = hp L xs A V K T)
            else (
              if 1079 < a3 then (
                v = some (-1) ∧ h' = hp L xs A V K T)
              else (
                if a3 < a2 then (
                  v = some (-1) ∧ h' = hp L xs A V K T)
                else (
                  am_fin [(z_L_home, 23, [.ref 1, .int a1, .int a2, .int a3, .int a4, .int 0, .int a2], [])] (hp L xs A V K T) v h')))))))) : am_fin [(z_L_home, 0, [.ref 1, .int a1, .int a2, .int a3, .int a4, .null, .null], [])] (hp L xs A V K T) v h' :=
  fn_iload_n rl_L_home_0 rfl (fn_stat (as := [.int a1]) (r := []) (ls' := [.int a1]) rl_L_home_1 rfl rfl rfl rfl pl_L_isLand rfl rfl (fn_iload_n rl_L_isLand_0 rfl (fn_iconst rl_L_isLand_1 (fn_iconst rl_L_isLand_2 (fn_stat (as := [.int a1, .int 0, .int 5]) (r := []) (ls' := [.int a1, .int 0, .int 5]) rl_L_isLand_3 rfl rfl rfl rfl pl_L_isAmong rfl rfl (fn_iload_n rl_L_isAmong_0 rfl (fn_iload_n rl_L_isAmong_1 rfl (fn_icmp_lt rl_L_isAmong_2 (fun k37 => fn_iconst rl_L_isAmong_14 (fn_retci rl_L_isAmong_15 rfl (fn_retci rl_L_isLand_6 rfl (fn_if_eq_t rl_L_home_4 (by decide +kernel) (fn_iconst rl_L_home_15 (fn_reti rl_L_home_16 rfl k37)))))) (fun k38 => fn_iload_n rl_L_isAmong_5 rfl (fn_iload_n rl_L_isAmong_6 rfl (fn_icmp_gt rl_L_isAmong_7 (fun k35 => fn_iconst rl_L_isAmong_14 (fn_retci rl_L_isAmong_15 rfl (fn_retci rl_L_isLand_6 rfl (fn_if_eq_t rl_L_home_4 (by decide +kernel) (fn_iconst rl_L_home_15 (fn_reti rl_L_home_16 rfl k35)))))) (fun k36 => fn_iconst rl_L_isAmong_10 (fn_goto rl_L_isAmong_11 (fn_retci rl_L_isAmong_15 rfl (fn_retci rl_L_isLand_6 rfl (fn_if_eq_f rl_L_home_4 (by decide +kernel) (fn_iload_n rl_L_home_7 rfl (fn_iload_n rl_L_home_8 rfl (fn_stat (as := [.int a2, .int a3]) (r := []) (ls' := [.int a2, .int a3]) rl_L_home_9 rfl rfl rfl rfl pl_L_isSpan rfl rfl (fn_iload_n rl_L_isSpan_0 rfl (fn_stat (as := [.int a2]) (r := []) (ls' := [.int a2]) rl_L_isSpan_1 rfl rfl rfl rfl pl_L_isDay rfl rfl (fn_iload_n rl_L_isDay_0 rfl (fn_iconst rl_L_isDay_1 (fn_sipush rl_L_isDay_2 (fn_stat (as := [.int a2, .int 0, .int 1079]) (r := []) (ls' := [.int a2, .int 0, .int 1079]) rl_L_isDay_5 rfl rfl rfl rfl pl_L_isAmong rfl rfl (fn_iload_n rl_L_isAmong_0 rfl (fn_iload_n rl_L_isAmong_1 rfl (fn_icmp_lt rl_L_isAmong_2 (fun k33 => fn_iconst rl_L_isAmong_14 (fn_retci rl_L_isAmong_15 rfl (fn_retci rl_L_isDay_8 rfl (fn_if_eq_t rl_L_isSpan_4 (by decide +kernel) (fn_iconst rl_L_isSpan_23 (fn_retci rl_L_isSpan_24 rfl (fn_if_ne_t rl_L_home_12 (by decide +kernel) (fn_iconst rl_L_home_15 (fn_reti rl_L_home_16 rfl k33))))))))) (fun k34 => fn_iload_n rl_L_isAmong_5 rfl (fn_iload_n rl_L_isAmong_6 rfl (fn_icmp_gt rl_L_isAmong_7 (fun k31 => fn_iconst rl_L_isAmong_14 (fn_retci rl_L_isAmong_15 rfl (fn_retci rl_L_isDay_8 rfl (fn_if_eq_t rl_L_isSpan_4 (by decide +kernel) (fn_iconst rl_L_isSpan_23 (fn_retci rl_L_isSpan_24 rfl (fn_if_ne_t rl_L_home_12 (by decide +kernel) (fn_iconst rl_L_home_15 (fn_reti rl_L_home_16 rfl k31))))))))) (fun k32 => fn_iconst rl_L_isAmong_10 (fn_goto rl_L_isAmong_11 (fn_retci rl_L_isAmong_15 rfl (fn_retci rl_L_isDay_8 rfl (fn_if_eq_f rl_L_isSpan_4 (by decide +kernel) (fn_iload_n rl_L_isSpan_7 rfl (fn_stat (as := [.int a3]) (r := []) (ls' := [.int a3]) rl_L_isSpan_8 rfl rfl rfl rfl pl_L_isDay rfl rfl (fn_iload_n rl_L_isDay_0 rfl (fn_iconst rl_L_isDay_1 (fn_sipush rl_L_isDay_2 (fn_stat (as := [.int a3, .int 0, .int 1079]) (r := []) (ls' := [.int a3, .int 0, .int 1079]) rl_L_isDay_5 rfl rfl rfl rfl pl_L_isAmong rfl rfl (fn_iload_n rl_L_isAmong_0 rfl (fn_iload_n rl_L_isAmong_1 rfl (fn_icmp_lt rl_L_isAmong_2 (fun k29 => fn_iconst rl_L_isAmong_14 (fn_retci rl_L_isAmong_15 rfl (fn_retci rl_L_isDay_8 rfl (fn_if_eq_t rl_L_isSpan_11 (by decide +kernel) (fn_iconst rl_L_isSpan_23 (fn_retci rl_L_isSpan_24 rfl (fn_if_ne_t rl_L_home_12 (by decide +kernel) (fn_iconst rl_L_home_15 (fn_reti rl_L_home_16 rfl k29))))))))) (fun k30 => fn_iload_n rl_L_isAmong_5 rfl (fn_iload_n rl_L_isAmong_6 rfl (fn_icmp_gt rl_L_isAmong_7 (fun k27 => fn_iconst rl_L_isAmong_14 (fn_retci rl_L_isAmong_15 rfl (fn_retci rl_L_isDay_8 rfl (fn_if_eq_t rl_L_isSpan_11 (by decide +kernel) (fn_iconst rl_L_isSpan_23 (fn_retci rl_L_isSpan_24 rfl (fn_if_ne_t rl_L_home_12 (by decide +kernel) (fn_iconst rl_L_home_15 (fn_reti rl_L_home_16 rfl k27))))))))) (fun k28 => fn_iconst rl_L_isAmong_10 (fn_goto rl_L_isAmong_11 (fn_retci rl_L_isAmong_15 rfl (fn_retci rl_L_isDay_8 rfl (fn_if_eq_f rl_L_isSpan_11 (by decide +kernel) (fn_iload_n rl_L_isSpan_14 rfl (fn_iload_n rl_L_isSpan_15 rfl (fn_icmp_gt rl_L_isSpan_16 (fun k25 => fn_iconst rl_L_isSpan_23 (fn_retci rl_L_isSpan_24 rfl (fn_if_ne_t rl_L_home_12 (by decide +kernel) (fn_iconst rl_L_home_15 (fn_reti rl_L_home_16 rfl k25))))) (fun k26 => fn_iconst rl_L_isSpan_19 (fn_goto rl_L_isSpan_20 (fn_retci rl_L_isSpan_24 rfl (fn_if_ne_f rl_L_home_12 (by decide +kernel) (fn_iconst rl_L_home_17 (fn_istore (ls' := [.ref 1, .int a1, .int a2, .int a3, .int a4, .int 0, .null]) rl_L_home_18 rfl rfl (fn_iload_n rl_L_home_20 rfl (fn_istore (ls' := [.ref 1, .int a1, .int a2, .int a3, .int a4, .int 0, .int a2]) rl_L_home_21 rfl rfl (k26))))))))) k28)))))))) k30))) k32)))))))))))))) k34))) k36))))))))))))))))) k38))) k0))))))))
set_option maxRecDepth 100000 in
set_option maxHeartbeats 4000000 in
theorem sg_L_home_23 {L : Nat} {xs : Nat → Int32} {A V : Nat → Nat → Int32} {K : Nat → Option Nat} {T : am_H} {v : Option Int32} {h' : am_H} {v1 v2 v3 v4 v5 v6 : Int32} (k0 :
    if v3 < v6 then (
      v = some v5 ∧ h' = hp L xs A V K T)
    else (
      ¬ (v6 < 0 ∨ 1080 ≤ v6.toNatClampNeg) ∧ (
      if (((((A 9) v6.toNatClampNeg) : Int32) >>> (v1 &&& 31 : Int32)) &&& 1) = 1 then (
        if 1 = v4 then (
          am_fin [(z_L_home, 23, [.ref 1, .int v1, .int v2, .int v3, .int v4, .int v5, .int (v6 + 1)], [])] (hp L xs A V K T) v h')
        else (
          ¬ (v6 < 0 ∨ 1080 ≤ v6.toNatClampNeg) ∧ (
          ¬ (v6 < 0 ∨ 1080 ≤ v6.toNatClampNeg) ∧ (
          am_fin [(z_L_home, 23, [.ref 1, .int v1, .int v2, .int v3, .int v4, .int (v5 + 1), .int (v6 + 1)], [])] (hp L xs (upA A 9 (upd (A 9) v6.toNatClampNeg (((A 9) v6.toNatClampNeg) ^^^ ((1 : Int32) <<< (v1 &&& 31 : Int32))))) V K T) v h'))))
      else (
        if 0 = v4 then (
          am_fin [(z_L_home, 23, [.ref 1, .int v1, .int v2, .int v3, .int v4, .int v5, .int (v6 + 1)], [])] (hp L xs A V K T) v h')
        else (
          ¬ (v6 < 0 ∨ 1080 ≤ v6.toNatClampNeg) ∧ (
          ¬ (v6 < 0 ∨ 1080 ≤ v6.toNatClampNeg) ∧ (
          am_fin [(z_L_home, 23, [.ref 1, .int v1, .int v2, .int v3, .int v4, .int (v5 + 1), .int (v6 + 1)], [])] (hp L xs (upA A 9 (upd (A 9) v6.toNatClampNeg (((A 9) v6.toNatClampNeg) ^^^ ((1 : Int32) <<< (v1 &&& 31 : Int32))))) V K T) v h'))))))) : am_fin [(z_L_home, 23, [.ref 1, .int v1, .int v2, .int v3, .int v4, .int v5, .int v6], [])] (hp L xs A V K T) v h' :=
  fn_iload rl_L_home_23 rfl (fn_iload_n rl_L_home_25 rfl (fn_icmp_gt rl_L_home_26 (fun k50 => fn_iload rl_L_home_69 rfl (fn_reti rl_L_home_71 rfl k50)) (fun k51 => fn_aload_n rl_L_home_29 rfl (fn_get rl_L_home_30 hp_1 rfl (fn_iload_n rl_L_home_33 rfl (fn_iload rl_L_home_34 rfl (fn_virt (as := [.ref 2, .int v1, .int v6]) (r := []) (ls' := [.ref 2, .int v1, .int v6]) rl_L_home_36 rfl hp_2 rfl rfl pl_S_hasHome rfl rfl (fn_aload_n rl_S_hasHome_0 rfl (fn_get rl_S_hasHome_1 hp_2 rfl (fn_iload_n rl_S_hasHome_4 rfl (fn_iald rl_S_hasHome_5 hp_9 (fun k49 => fn_iload_n rl_S_hasHome_6 rfl (fn_stat (as := [.int ((A 9) v6.toNatClampNeg), .int v1]) (r := []) (ls' := [.int ((A 9) v6.toNatClampNeg), .int v1]) rl_S_hasHome_7 rfl rfl rfl rfl pl_L_hasBit rfl rfl (fn_iload_n rl_L_hasBit_0 rfl (fn_iload_n rl_L_hasBit_1 rfl (fn_ishr rl_L_hasBit_2 (fn_iconst rl_L_hasBit_3 (fn_iand rl_L_hasBit_4 (fn_iconst rl_L_hasBit_5 (fn_icmp_ne rl_L_hasBit_6 (fun k47 => fn_iconst rl_L_hasBit_9 (fn_goto rl_L_hasBit_10 (fn_retci rl_L_hasBit_14 rfl (fn_retci rl_S_hasHome_10 rfl (fn_iload rl_L_home_39 rfl (fn_icmp_eq rl_L_home_41 (fun k41 => fn_iinc (ls' := [.ref 1, .int v1, .int v2, .int v3, .int v4, .int v5, .int (v6 + 1)]) rl_L_home_63 rfl rfl rfl (fn_goto rl_L_home_66 (k41))) (fun k42 => fn_aload_n rl_L_home_44 rfl (fn_get rl_L_home_45 hp_1 rfl (fn_get rl_L_home_48 hp_2 rfl (fn_iload rl_L_home_51 rfl (fn_dup2 rl_L_home_53 (fn_iald rl_L_home_54 hp_9 (fun k40 => fn_iconst rl_L_home_55 (fn_iload_n rl_L_home_56 rfl (fn_ishl rl_L_home_57 (fn_ixor rl_L_home_58 (fn_iast rl_L_home_59 hp_9 hps_9 (fun k39 => fn_iinc (ls' := [.ref 1, .int v1, .int v2, .int v3, .int v4, .int (v5 + 1), .int v6]) rl_L_home_60 rfl rfl rfl (fn_iinc (ls' := [.ref 1, .int v1, .int v2, .int v3, .int v4, .int (v5 + 1), .int (v6 + 1)]) rl_L_home_63 rfl rfl rfl (fn_goto rl_L_home_66 (k39)))) k40))))) k42)))))) k47)))))) (fun k48 => fn_iconst rl_L_hasBit_13 (fn_retci rl_L_hasBit_14 rfl (fn_retci rl_S_hasHome_10 rfl (fn_iload rl_L_home_39 rfl (fn_icmp_eq rl_L_home_41 (fun k45 => fn_iinc (ls' := [.ref 1, .int v1, .int v2, .int v3, .int v4, .int v5, .int (v6 + 1)]) rl_L_home_63 rfl rfl rfl (fn_goto rl_L_home_66 (k45))) (fun k46 => fn_aload_n rl_L_home_44 rfl (fn_get rl_L_home_45 hp_1 rfl (fn_get rl_L_home_48 hp_2 rfl (fn_iload rl_L_home_51 rfl (fn_dup2 rl_L_home_53 (fn_iald rl_L_home_54 hp_9 (fun k44 => fn_iconst rl_L_home_55 (fn_iload_n rl_L_home_56 rfl (fn_ishl rl_L_home_57 (fn_ixor rl_L_home_58 (fn_iast rl_L_home_59 hp_9 hps_9 (fun k43 => fn_iinc (ls' := [.ref 1, .int v1, .int v2, .int v3, .int v4, .int (v5 + 1), .int v6]) rl_L_home_60 rfl rfl rfl (fn_iinc (ls' := [.ref 1, .int v1, .int v2, .int v3, .int v4, .int (v5 + 1), .int (v6 + 1)]) rl_L_home_63 rfl rfl rfl (fn_goto rl_L_home_66 (k43)))) k44))))) k46)))))) k48))))) k49))))))))) k51))))))))) k0))
set_option maxRecDepth 100000 in
set_option maxHeartbeats 4000000 in
theorem sg_L_centre_0 {L : Nat} {xs : Nat → Int32} {A V : Nat → Nat → Int32} {K : Nat → Option Nat} {T : am_H} {v : Option Int32} {h' : am_H} {a1 a2 a3 : Int32} (k0 :
    if a1 < (-1) then (
      v = some (-1) ∧ h' = hp L xs A V K T)
    else (
      if 5 < a1 then (
        v = some (-1) ∧ h' = hp L xs A V K T)
      else (
        if a2 < 0 then (
          v = some (-1) ∧ h' = hp L xs A V K T)
        else (
          if 1079 < a2 then (
            v = some (-1) ∧ h' = hp L xs A V K T)
          else (
            if a3 < 0 then (
              v = some (-1) ∧ h' = hp L xs A V K T)
            else (
              if 1079 < a3 then (
                v = some (-1) ∧ h' = hp L xs A V K T)
              else (
                if a3 < a2 then (
                  v = some (-1) ∧ h' = hp L xs A V K T)
                else (
                  am_fin [(z_P_put, 0, [.ref 5, .int a1, .int a2, .int a3, .null, .null], []), (z_L_centre, 30, [.ref 1, .int a1, .int a2, .int a3], [])] (hp L xs A V K T) v h')))))))) : am_fin [(z_L_centre, 0, [.ref 1, .int a1, .int a2, .int a3], [])] (hp L xs A V K T) v h' :=
  fn_iload_n rl_L_centre_0 rfl (fn_stat (as := [.int a1]) (r := []) (ls' := [.int a1]) rl_L_centre_1 rfl rfl rfl rfl pl_L_isPlace rfl rfl (fn_iload_n rl_L_isPlace_0 rfl (fn_iconst rl_L_isPlace_1 (fn_iconst rl_L_isPlace_2 (fn_stat (as := [.int a1, .int (-1), .int 5]) (r := []) (ls' := [.int a1, .int (-1), .int 5]) rl_L_isPlace_3 rfl rfl rfl rfl pl_L_isAmong rfl rfl (fn_iload_n rl_L_isAmong_0 rfl (fn_iload_n rl_L_isAmong_1 rfl (fn_icmp_lt rl_L_isAmong_2 (fun k64 => fn_iconst rl_L_isAmong_14 (fn_retci rl_L_isAmong_15 rfl (fn_retci rl_L_isPlace_6 rfl (fn_if_eq_t rl_L_centre_4 (by decide +kernel) (fn_iconst rl_L_centre_15 (fn_reti rl_L_centre_16 rfl k64)))))) (fun k65 => fn_iload_n rl_L_isAmong_5 rfl (fn_iload_n rl_L_isAmong_6 rfl (fn_icmp_gt rl_L_isAmong_7 (fun k62 => fn_iconst rl_L_isAmong_14 (fn_retci rl_L_isAmong_15 rfl (fn_retci rl_L_isPlace_6 rfl (fn_if_eq_t rl_L_centre_4 (by decide +kernel) (fn_iconst rl_L_centre_15 (fn_reti rl_L_centre_16 rfl k62)))))) (fun k63 => fn_iconst rl_L_isAmong_10 (fn_goto rl_L_isAmong_11 (fn_retci rl_L_isAmong_15 rfl (fn_retci rl_L_isPlace_6 rfl (fn_if_eq_f rl_L_centre_4 (by decide +kernel) (fn_iload_n rl_L_centre_7 rfl (fn_iload_n rl_L_centre_8 rfl (fn_stat (as := [.int a2, .int a3]) (r := []) (ls' := [.int a2, .int a3]) rl_L_centre_9 rfl rfl rfl rfl pl_L_isSpan rfl rfl (fn_iload_n rl_L_isSpan_0 rfl (fn_stat (as := [.int a2]) (r := []) (ls' := [.int a2]) rl_L_isSpan_1 rfl rfl rfl rfl pl_L_isDay rfl rfl (fn_iload_n rl_L_isDay_0 rfl (fn_iconst rl_L_isDay_1 (fn_sipush rl_L_isDay_2 (fn_stat (as := [.int a2, .int 0, .int 1079]) (r := []) (ls' := [.int a2, .int 0, .int 1079]) rl_L_isDay_5 rfl rfl rfl rfl pl_L_isAmong rfl rfl (fn_iload_n rl_L_isAmong_0 rfl (fn_iload_n rl_L_isAmong_1 rfl (fn_icmp_lt rl_L_isAmong_2 (fun k60 => fn_iconst rl_L_isAmong_14 (fn_retci rl_L_isAmong_15 rfl (fn_retci rl_L_isDay_8 rfl (fn_if_eq_t rl_L_isSpan_4 (by decide +kernel) (fn_iconst rl_L_isSpan_23 (fn_retci rl_L_isSpan_24 rfl (fn_if_ne_t rl_L_centre_12 (by decide +kernel) (fn_iconst rl_L_centre_15 (fn_reti rl_L_centre_16 rfl k60))))))))) (fun k61 => fn_iload_n rl_L_isAmong_5 rfl (fn_iload_n rl_L_isAmong_6 rfl (fn_icmp_gt rl_L_isAmong_7 (fun k58 => fn_iconst rl_L_isAmong_14 (fn_retci rl_L_isAmong_15 rfl (fn_retci rl_L_isDay_8 rfl (fn_if_eq_t rl_L_isSpan_4 (by decide +kernel) (fn_iconst rl_L_isSpan_23 (fn_retci rl_L_isSpan_24 rfl (fn_if_ne_t rl_L_centre_12 (by decide +kernel) (fn_iconst rl_L_centre_15 (fn_reti rl_L_centre_16 rfl k58))))))))) (fun k59 => fn_iconst rl_L_isAmong_10 (fn_goto rl_L_isAmong_11 (fn_retci rl_L_isAmong_15 rfl (fn_retci rl_L_isDay_8 rfl (fn_if_eq_f rl_L_isSpan_4 (by decide +kernel) (fn_iload_n rl_L_isSpan_7 rfl (fn_stat (as := [.int a3]) (r := []) (ls' := [.int a3]) rl_L_isSpan_8 rfl rfl rfl rfl pl_L_isDay rfl rfl (fn_iload_n rl_L_isDay_0 rfl (fn_iconst rl_L_isDay_1 (fn_sipush rl_L_isDay_2 (fn_stat (as := [.int a3, .int 0, .int 1079]) (r := []) (ls' := [.int a3, .int 0, .int 1079]) rl_L_isDay_5 rfl rfl rfl rfl pl_L_isAmong rfl rfl (fn_iload_n rl_L_isAmong_0 rfl (fn_iload_n rl_L_isAmong_1 rfl (fn_icmp_lt rl_L_isAmong_2 (fun k56 => fn_iconst rl_L_isAmong_14 (fn_retci rl_L_isAmong_15 rfl (fn_retci rl_L_isDay_8 rfl (fn_if_eq_t rl_L_isSpan_11 (by decide +kernel) (fn_iconst rl_L_isSpan_23 (fn_retci rl_L_isSpan_24 rfl (fn_if_ne_t rl_L_centre_12 (by decide +kernel) (fn_iconst rl_L_centre_15 (fn_reti rl_L_centre_16 rfl k56))))))))) (fun k57 => fn_iload_n rl_L_isAmong_5 rfl (fn_iload_n rl_L_isAmong_6 rfl (fn_icmp_gt rl_L_isAmong_7 (fun k54 => fn_iconst rl_L_isAmong_14 (fn_retci rl_L_isAmong_15 rfl (fn_retci rl_L_isDay_8 rfl (fn_if_eq_t rl_L_isSpan_11 (by decide +kernel) (fn_iconst rl_L_isSpan_23 (fn_retci rl_L_isSpan_24 rfl (fn_if_ne_t rl_L_centre_12 (by decide +kernel) (fn_iconst rl_L_centre_15 (fn_reti rl_L_centre_16 rfl k54))))))))) (fun k55 => fn_iconst rl_L_isAmong_10 (fn_goto rl_L_isAmong_11 (fn_retci rl_L_isAmong_15 rfl (fn_retci rl_L_isDay_8 rfl (fn_if_eq_f rl_L_isSpan_11 (by decide +kernel) (fn_iload_n rl_L_isSpan_14 rfl (fn_iload_n rl_L_isSpan_15 rfl (fn_icmp_gt rl_L_isSpan_16 (fun k52 => fn_iconst rl_L_isSpan_23 (fn_retci rl_L_isSpan_24 rfl (fn_if_ne_t rl_L_centre_12 (by decide +kernel) (fn_iconst rl_L_centre_15 (fn_reti rl_L_centre_16 rfl k52))))) (fun k53 => fn_iconst rl_L_isSpan_19 (fn_goto rl_L_isSpan_20 (fn_retci rl_L_isSpan_24 rfl (fn_if_ne_f rl_L_centre_12 (by decide +kernel) (fn_aload_n rl_L_centre_17 rfl (fn_get rl_L_centre_18 hp_1 rfl (fn_get rl_L_centre_21 hp_2 rfl (fn_iload_n rl_L_centre_24 rfl (fn_iload_n rl_L_centre_25 rfl (fn_iload_n rl_L_centre_26 rfl (fn_virt (as := [.ref 5, .int a1, .int a2, .int a3]) (r := []) (ls' := [.ref 5, .int a1, .int a2, .int a3, .null, .null]) rl_L_centre_27 rfl hp_5 rfl rfl pl_P_put rfl rfl (k53)))))))))))) k55)))))))) k57))) k59)))))))))))))) k61))) k63))))))))))))))))) k65))) k0))))))))
set_option maxRecDepth 100000 in
set_option maxHeartbeats 4000000 in
theorem sg_L_centre_30r {L : Nat} {xs : Nat → Int32} {A V : Nat → Nat → Int32} {K : Nat → Option Nat} {T : am_H} {v : Option Int32} {h' : am_H} {v1 v2 v3 r : Int32} (k0 :
    v = some r ∧ h' = hp L xs A V K T) : am_fin [(z_L_centre, 30, [.ref 1, .int v1, .int v2, .int v3], [.int r])] (hp L xs A V K T) v h' :=
  fn_reti rl_L_centre_30 rfl k0
set_option maxRecDepth 100000 in
set_option maxHeartbeats 4000000 in
theorem sg_L_nation_0 {L : Nat} {xs : Nat → Int32} {A V : Nat → Nat → Int32} {K : Nat → Option Nat} {T : am_H} {v : Option Int32} {h' : am_H} {a1 a2 : Int32} (k0 :
    if a1 < 0 then (
      v = some 0 ∧ h' = hp L xs A V K T)
    else (
      if 5 < a1 then (
        v = some 0 ∧ h' = hp L xs A V K T)
      else (
        if ((((V 10 7) : Int32) >>> (a1 &&& 31 : Int32)) &&& 1) = 1 then (
          if 1 = a2 then (
            v = some 0 ∧ h' = hp L xs A V K T)
          else (
            v = some 1 ∧ h' = hp L xs A (upV V 10 7 ((V 10 7) ^^^ ((1 : Int32) <<< (a1 &&& 31 : Int32)))) K T))
        else (
          if 0 = a2 then (
            v = some 0 ∧ h' = hp L xs A V K T)
          else (
            v = some 1 ∧ h' = hp L xs A (upV V 10 7 ((V 10 7) ^^^ ((1 : Int32) <<< (a1 &&& 31 : Int32)))) K T))))) : am_fin [(z_L_nation, 0, [.ref 1, .int a1, .int a2], [])] (hp L xs A V K T) v h' :=
  fn_iload_n rl_L_nation_0 rfl (fn_stat (as := [.int a1]) (r := []) (ls' := [.int a1]) rl_L_nation_1 rfl rfl rfl rfl pl_L_isLand rfl rfl (fn_iload_n rl_L_isLand_0 rfl (fn_iconst rl_L_isLand_1 (fn_iconst rl_L_isLand_2 (fn_stat (as := [.int a1, .int 0, .int 5]) (r := []) (ls' := [.int a1, .int 0, .int 5]) rl_L_isLand_3 rfl rfl rfl rfl pl_L_isAmong rfl rfl (fn_iload_n rl_L_isAmong_0 rfl (fn_iload_n rl_L_isAmong_1 rfl (fn_icmp_lt rl_L_isAmong_2 (fun k74 => fn_iconst rl_L_isAmong_14 (fn_retci rl_L_isAmong_15 rfl (fn_retci rl_L_isLand_6 rfl (fn_if_eq_t rl_L_nation_4 (by decide +kernel) (fn_iconst rl_L_nation_22 (fn_reti rl_L_nation_23 rfl k74)))))) (fun k75 => fn_iload_n rl_L_isAmong_5 rfl (fn_iload_n rl_L_isAmong_6 rfl (fn_icmp_gt rl_L_isAmong_7 (fun k72 => fn_iconst rl_L_isAmong_14 (fn_retci rl_L_isAmong_15 rfl (fn_retci rl_L_isLand_6 rfl (fn_if_eq_t rl_L_nation_4 (by decide +kernel) (fn_iconst rl_L_nation_22 (fn_reti rl_L_nation_23 rfl k72)))))) (fun k73 => fn_iconst rl_L_isAmong_10 (fn_goto rl_L_isAmong_11 (fn_retci rl_L_isAmong_15 rfl (fn_retci rl_L_isLand_6 rfl (fn_if_eq_f rl_L_nation_4 (by decide +kernel) (fn_aload_n rl_L_nation_7 rfl (fn_get rl_L_nation_8 hp_1 rfl (fn_get rl_L_nation_11 hp_2 rfl (fn_iload_n rl_L_nation_14 rfl (fn_virt (as := [.ref 10, .int a1]) (r := []) (ls' := [.ref 10, .int a1]) rl_L_nation_15 rfl hp_10 rfl rfl pl_R_isNation rfl rfl (fn_aload_n rl_R_isNation_0 rfl (fn_get rl_R_isNation_1 hp_10 rfl (fn_iload_n rl_R_isNation_4 rfl (fn_stat (as := [.int (V 10 7), .int a1]) (r := []) (ls' := [.int (V 10 7), .int a1]) rl_R_isNation_5 rfl rfl rfl rfl pl_L_hasBit rfl rfl (fn_iload_n rl_L_hasBit_0 rfl (fn_iload_n rl_L_hasBit_1 rfl (fn_ishr rl_L_hasBit_2 (fn_iconst rl_L_hasBit_3 (fn_iand rl_L_hasBit_4 (fn_iconst rl_L_hasBit_5 (fn_icmp_ne rl_L_hasBit_6 (fun k70 => fn_iconst rl_L_hasBit_9 (fn_goto rl_L_hasBit_10 (fn_retci rl_L_hasBit_14 rfl (fn_retci rl_R_isNation_8 rfl (fn_iload_n rl_L_nation_18 rfl (fn_icmp_ne rl_L_nation_19 (fun k66 => fn_iconst rl_L_nation_22 (fn_reti rl_L_nation_23 rfl k66)) (fun k67 => fn_aload_n rl_L_nation_24 rfl (fn_get rl_L_nation_25 hp_1 rfl (fn_get rl_L_nation_28 hp_2 rfl (fn_dup_ref rl_L_nation_31 (fn_get rl_L_nation_32 hp_10 rfl (fn_iconst rl_L_nation_35 (fn_iload_n rl_L_nation_36 rfl (fn_ishl rl_L_nation_37 (fn_ixor rl_L_nation_38 (fn_put rl_L_nation_39 hp_10 rfl hpv_10_7 (fn_iconst rl_L_nation_42 (fn_reti rl_L_nation_43 rfl k67)))))))))))) k70)))))) (fun k71 => fn_iconst rl_L_hasBit_13 (fn_retci rl_L_hasBit_14 rfl (fn_retci rl_R_isNation_8 rfl (fn_iload_n rl_L_nation_18 rfl (fn_icmp_ne rl_L_nation_19 (fun k68 => fn_iconst rl_L_nation_22 (fn_reti rl_L_nation_23 rfl k68)) (fun k69 => fn_aload_n rl_L_nation_24 rfl (fn_get rl_L_nation_25 hp_1 rfl (fn_get rl_L_nation_28 hp_2 rfl (fn_dup_ref rl_L_nation_31 (fn_get rl_L_nation_32 hp_10 rfl (fn_iconst rl_L_nation_35 (fn_iload_n rl_L_nation_36 rfl (fn_ishl rl_L_nation_37 (fn_ixor rl_L_nation_38 (fn_put rl_L_nation_39 hp_10 rfl hpv_10_7 (fn_iconst rl_L_nation_42 (fn_reti rl_L_nation_43 rfl k69)))))))))))) k71))))) k73))))))))))))))))))))) k75))) k0))))))))
set_option maxRecDepth 100000 in
set_option maxHeartbeats 4000000 in
theorem sg_L_drawn_0 {L : Nat} {xs : Nat → Int32} {A V : Nat → Nat → Int32} {K : Nat → Option Nat} {T : am_H} {v : Option Int32} {h' : am_H} {a1 a2 a3 : Int32} (k0 :
    if a2 < 1 then (
      v = some (-1) ∧ h' = hp L xs A V K T)
    else (
      if 100 < a2 then (
        v = some (-1) ∧ h' = hp L xs A V K T)
      else (
        if a3 < 1 then (
          v = some (-1) ∧ h' = hp L xs A V K T)
        else (
          if 360 < a3 then (
            v = some (-1) ∧ h' = hp L xs A V K T)
          else (
            am_fin [(z_P_put, 0, [.ref 3, .int (-1), .int 0, .int 1079, .null, .null], []), (z_L_drawn, 38, [.ref 1, .int a1, .int a2, .int a3, .null, .null, .null, .null, .null], [])] (hp L xs A V K T) v h'))))) : am_fin [(z_L_drawn, 0, [.ref 1, .int a1, .int a2, .int a3, .null, .null, .null, .null, .null], [])] (hp L xs A V K T) v h' :=
  fn_iload_n rl_L_drawn_0 rfl (fn_iconst rl_L_drawn_1 (fn_bipush rl_L_drawn_2 (fn_stat (as := [.int a2, .int 1, .int 100]) (r := []) (ls' := [.int a2, .int 1, .int 100]) rl_L_drawn_4 rfl rfl rfl rfl pl_L_isAmong rfl rfl (fn_iload_n rl_L_isAmong_0 rfl (fn_iload_n rl_L_isAmong_1 rfl (fn_icmp_lt rl_L_isAmong_2 (fun k82 => fn_iconst rl_L_isAmong_14 (fn_retci rl_L_isAmong_15 rfl (fn_if_eq_t rl_L_drawn_7 (by decide +kernel) (fn_iconst rl_L_drawn_21 (fn_reti rl_L_drawn_22 rfl k82))))) (fun k83 => fn_iload_n rl_L_isAmong_5 rfl (fn_iload_n rl_L_isAmong_6 rfl (fn_icmp_gt rl_L_isAmong_7 (fun k80 => fn_iconst rl_L_isAmong_14 (fn_retci rl_L_isAmong_15 rfl (fn_if_eq_t rl_L_drawn_7 (by decide +kernel) (fn_iconst rl_L_drawn_21 (fn_reti rl_L_drawn_22 rfl k80))))) (fun k81 => fn_iconst rl_L_isAmong_10 (fn_goto rl_L_isAmong_11 (fn_retci rl_L_isAmong_15 rfl (fn_if_eq_f rl_L_drawn_7 (by decide +kernel) (fn_iload_n rl_L_drawn_10 rfl (fn_iconst rl_L_drawn_11 (fn_sipush rl_L_drawn_12 (fn_stat (as := [.int a3, .int 1, .int 360]) (r := []) (ls' := [.int a3, .int 1, .int 360]) rl_L_drawn_15 rfl rfl rfl rfl pl_L_isAmong rfl rfl (fn_iload_n rl_L_isAmong_0 rfl (fn_iload_n rl_L_isAmong_1 rfl (fn_icmp_lt rl_L_isAmong_2 (fun k78 => fn_iconst rl_L_isAmong_14 (fn_retci rl_L_isAmong_15 rfl (fn_if_ne_t rl_L_drawn_18 (by decide +kernel) (fn_iconst rl_L_drawn_21 (fn_reti rl_L_drawn_22 rfl k78))))) (fun k79 => fn_iload_n rl_L_isAmong_5 rfl (fn_iload_n rl_L_isAmong_6 rfl (fn_icmp_gt rl_L_isAmong_7 (fun k76 => fn_iconst rl_L_isAmong_14 (fn_retci rl_L_isAmong_15 rfl (fn_if_ne_t rl_L_drawn_18 (by decide +kernel) (fn_iconst rl_L_drawn_21 (fn_reti rl_L_drawn_22 rfl k76))))) (fun k77 => fn_iconst rl_L_isAmong_10 (fn_goto rl_L_isAmong_11 (fn_retci rl_L_isAmong_15 rfl (fn_if_ne_f rl_L_drawn_18 (by decide +kernel) (fn_aload_n rl_L_drawn_23 rfl (fn_get rl_L_drawn_24 hp_1 rfl (fn_get rl_L_drawn_27 hp_2 rfl (fn_iconst rl_L_drawn_30 (fn_iconst rl_L_drawn_31 (fn_sipush rl_L_drawn_32 (fn_virt (as := [.ref 3, .int (-1), .int 0, .int 1079]) (r := []) (ls' := [.ref 3, .int (-1), .int 0, .int 1079, .null, .null]) rl_L_drawn_35 rfl hp_3 rfl rfl pl_P_put rfl rfl (k77)))))))))))) k79))) k81))))))))))) k83))) k0))))))
set_option maxRecDepth 100000 in
set_option maxHeartbeats 4000000 in
theorem sg_L_drawn_38r {L : Nat} {xs : Nat → Int32} {A V : Nat → Nat → Int32} {K : Nat → Option Nat} {T : am_H} {v : Option Int32} {h' : am_H} {v1 v2 v3 r : Int32} (k0 :
    am_fin [(z_L_drawn, 51, [.ref 1, .int v1, .int v2, .int v3, .int (v1 &&& 65535), .int 0, .int 0, .null, .null], [])] (hp L xs A V K T) v h') : am_fin [(z_L_drawn, 38, [.ref 1, .int v1, .int v2, .int v3, .null, .null, .null, .null, .null], [.int r])] (hp L xs A V K T) v h' :=
  fn_pop_int rl_L_drawn_38 (fn_iload_n rl_L_drawn_39 rfl (fn_ldc rl_L_drawn_40 (fn_iand rl_L_drawn_42 (fn_istore (ls' := [.ref 1, .int v1, .int v2, .int v3, .int (v1 &&& 65535), .null, .null, .null, .null]) rl_L_drawn_43 rfl rfl (fn_iconst rl_L_drawn_45 (fn_istore (ls' := [.ref 1, .int v1, .int v2, .int v3, .int (v1 &&& 65535), .int 0, .null, .null, .null]) rl_L_drawn_46 rfl rfl (fn_iconst rl_L_drawn_48 (fn_istore (ls' := [.ref 1, .int v1, .int v2, .int v3, .int (v1 &&& 65535), .int 0, .int 0, .null, .null]) rl_L_drawn_49 rfl rfl (k0)))))))))
set_option maxRecDepth 100000 in
set_option maxHeartbeats 4000000 in
theorem sg_L_drawn_51 {L : Nat} {xs : Nat → Int32} {A V : Nat → Nat → Int32} {K : Nat → Option Nat} {T : am_H} {v : Option Int32} {h' : am_H} {v1 v2 v3 v4 v5 v6 : Int32} (k0 :
    if v2 ≤ v6 then (
      v = some v5 ∧ h' = hp L xs A V K T)
    else (
      if 1080 ≤ v5 then (
        v = some v5 ∧ h' = hp L xs A V K T)
      else (
        ¬ v3 = 0 ∧ (
        am_fin [(z_P_put, 0, [.ref 3, .int ((((((25173 * v4) + 13849) &&& 65535) / 4) - ((((25173 * v4) + 13849) &&& 65535) / 4) / 7 * 7) - 1), .int v5, .int ((if 1080 < ((v5 + (((((25173 * (((25173 * v4) + 13849) &&& 65535)) + 13849) &&& 65535) / 4) - ((((25173 * (((25173 * v4) + 13849) &&& 65535)) + 13849) &&& 65535) / 4) / v3 * v3)) + 1) then 1080 else ((v5 + (((((25173 * (((25173 * v4) + 13849) &&& 65535)) + 13849) &&& 65535) / 4) - ((((25173 * (((25173 * v4) + 13849) &&& 65535)) + 13849) &&& 65535) / 4) / v3 * v3)) + 1) : Int32) - 1), .null, .null], []), (z_L_drawn, 127, [.ref 1, .int v1, .int v2, .int v3, .int (((25173 * (((25173 * v4) + 13849) &&& 65535)) + 13849) &&& 65535), .int v5, .int v6, .int ((((((25173 * v4) + 13849) &&& 65535) / 4) - ((((25173 * v4) + 13849) &&& 65535) / 4) / 7 * 7) - 1), .int (if 1080 < ((v5 + (((((25173 * (((25173 * v4) + 13849) &&& 65535)) + 13849) &&& 65535) / 4) - ((((25173 * (((25173 * v4) + 13849) &&& 65535)) + 13849) &&& 65535) / 4) / v3 * v3)) + 1) then 1080 else ((v5 + (((((25173 * (((25173 * v4) + 13849) &&& 65535)) + 13849) &&& 65535) / 4) - ((((25173 * (((25173 * v4) + 13849) &&& 65535)) + 13849) &&& 65535) / 4) / v3 * v3)) + 1) : Int32)], [])] (hp L xs A V K T) v h')))) : am_fin [(z_L_drawn, 51, [.ref 1, .int v1, .int v2, .int v3, .int v4, .int v5, .int v6, .null, .null], [])] (hp L xs A V K T) v h' :=
  fn_iload rl_L_drawn_51 rfl (fn_iload_n rl_L_drawn_53 rfl (fn_icmp_ge rl_L_drawn_54 (fun k86 => fn_iload rl_L_drawn_138 rfl (fn_reti rl_L_drawn_140 rfl k86)) (fun k87 => fn_iload rl_L_drawn_57 rfl (fn_sipush rl_L_drawn_59 (fn_icmp_ge rl_L_drawn_62 (fun k84 => fn_iload rl_L_drawn_138 rfl (fn_reti rl_L_drawn_140 rfl k84)) (fun k85 => fn_iload rl_L_drawn_65 rfl (fn_stat (as := [.int v4]) (r := []) (ls' := [.int v4]) rl_L_drawn_67 rfl rfl rfl rfl pl_L_nextDraw rfl rfl (fn_sipush rl_L_nextDraw_0 (fn_iload_n rl_L_nextDraw_3 rfl (fn_imul rl_L_nextDraw_4 (fn_sipush rl_L_nextDraw_5 (fn_iadd rl_L_nextDraw_8 (fn_ldc rl_L_nextDraw_9 (fn_iand rl_L_nextDraw_11 (fn_retci rl_L_nextDraw_12 rfl (fn_istore (ls' := [.ref 1, .int v1, .int v2, .int v3, .int (((25173 * v4) + 13849) &&& 65535), .int v5, .int v6, .null, .null]) rl_L_drawn_70 rfl rfl (fn_iload rl_L_drawn_72 rfl (fn_iconst rl_L_drawn_74 (fn_idiv rl_L_drawn_75 (by decide +kernel) (fn_bipush rl_L_drawn_76 (fn_irem rl_L_drawn_78 (by decide +kernel) (fn_iconst rl_L_drawn_79 (fn_isub rl_L_drawn_80 (fn_istore (ls' := [.ref 1, .int v1, .int v2, .int v3, .int (((25173 * v4) + 13849) &&& 65535), .int v5, .int v6, .int ((((((25173 * v4) + 13849) &&& 65535) / 4) - ((((25173 * v4) + 13849) &&& 65535) / 4) / 7 * 7) - 1), .null]) rl_L_drawn_81 rfl rfl (fn_iload rl_L_drawn_83 rfl (fn_stat (as := [.int (((25173 * v4) + 13849) &&& 65535)]) (r := []) (ls' := [.int (((25173 * v4) + 13849) &&& 65535)]) rl_L_drawn_85 rfl rfl rfl rfl pl_L_nextDraw rfl rfl (fn_sipush rl_L_nextDraw_0 (fn_iload_n rl_L_nextDraw_3 rfl (fn_imul rl_L_nextDraw_4 (fn_sipush rl_L_nextDraw_5 (fn_iadd rl_L_nextDraw_8 (fn_ldc rl_L_nextDraw_9 (fn_iand rl_L_nextDraw_11 (fn_retci rl_L_nextDraw_12 rfl (fn_istore (ls' := [.ref 1, .int v1, .int v2, .int v3, .int (((25173 * (((25173 * v4) + 13849) &&& 65535)) + 13849) &&& 65535), .int v5, .int v6, .int ((((((25173 * v4) + 13849) &&& 65535) / 4) - ((((25173 * v4) + 13849) &&& 65535) / 4) / 7 * 7) - 1), .null]) rl_L_drawn_88 rfl rfl (fn_iload rl_L_drawn_90 rfl (fn_iload rl_L_drawn_92 rfl (fn_iconst rl_L_drawn_94 (fn_idiv rl_L_drawn_95 (by decide +kernel) (fn_iload_n rl_L_drawn_96 rfl (fn_irem rl_L_drawn_97 k85.1 (fn_iadd rl_L_drawn_98 (fn_iconst rl_L_drawn_99 (fn_iadd rl_L_drawn_100 (fn_sipush rl_L_drawn_101 (fn_min rl_L_drawn_104 rfl (fn_istore (ls' := [.ref 1, .int v1, .int v2, .int v3, .int (((25173 * (((25173 * v4) + 13849) &&& 65535)) + 13849) &&& 65535), .int v5, .int v6, .int ((((((25173 * v4) + 13849) &&& 65535) / 4) - ((((25173 * v4) + 13849) &&& 65535) / 4) / 7 * 7) - 1), .int (if 1080 < ((v5 + (((((25173 * (((25173 * v4) + 13849) &&& 65535)) + 13849) &&& 65535) / 4) - ((((25173 * (((25173 * v4) + 13849) &&& 65535)) + 13849) &&& 65535) / 4) / v3 * v3)) + 1) then 1080 else ((v5 + (((((25173 * (((25173 * v4) + 13849) &&& 65535)) + 13849) &&& 65535) / 4) - ((((25173 * (((25173 * v4) + 13849) &&& 65535)) + 13849) &&& 65535) / 4) / v3 * v3)) + 1) : Int32)]) rl_L_drawn_107 rfl rfl (fn_aload_n rl_L_drawn_109 rfl (fn_get rl_L_drawn_110 hp_1 rfl (fn_get rl_L_drawn_113 hp_2 rfl (fn_iload rl_L_drawn_116 rfl (fn_iload rl_L_drawn_118 rfl (fn_iload rl_L_drawn_120 rfl (fn_iconst rl_L_drawn_122 (fn_isub rl_L_drawn_123 (fn_virt (as := [.ref 3, .int ((((((25173 * v4) + 13849) &&& 65535) / 4) - ((((25173 * v4) + 13849) &&& 65535) / 4) / 7 * 7) - 1), .int v5, .int ((if 1080 < ((v5 + (((((25173 * (((25173 * v4) + 13849) &&& 65535)) + 13849) &&& 65535) / 4) - ((((25173 * (((25173 * v4) + 13849) &&& 65535)) + 13849) &&& 65535) / 4) / v3 * v3)) + 1) then 1080 else ((v5 + (((((25173 * (((25173 * v4) + 13849) &&& 65535)) + 13849) &&& 65535) / 4) - ((((25173 * (((25173 * v4) + 13849) &&& 65535)) + 13849) &&& 65535) / 4) / v3 * v3)) + 1) : Int32) - 1)]) (r := []) (ls' := [.ref 3, .int ((((((25173 * v4) + 13849) &&& 65535) / 4) - ((((25173 * v4) + 13849) &&& 65535) / 4) / 7 * 7) - 1), .int v5, .int ((if 1080 < ((v5 + (((((25173 * (((25173 * v4) + 13849) &&& 65535)) + 13849) &&& 65535) / 4) - ((((25173 * (((25173 * v4) + 13849) &&& 65535)) + 13849) &&& 65535) / 4) / v3 * v3)) + 1) then 1080 else ((v5 + (((((25173 * (((25173 * v4) + 13849) &&& 65535)) + 13849) &&& 65535) / 4) - ((((25173 * (((25173 * v4) + 13849) &&& 65535)) + 13849) &&& 65535) / 4) / v3 * v3)) + 1) : Int32) - 1), .null, .null]) rl_L_drawn_124 rfl hp_3 rfl rfl pl_P_put rfl rfl (k85.2)))))))))))))))))))))))))))))))))))))))))))))))))))) k87))) k0))
set_option maxRecDepth 100000 in
set_option maxHeartbeats 4000000 in
theorem sg_L_drawn_127r {L : Nat} {xs : Nat → Int32} {A V : Nat → Nat → Int32} {K : Nat → Option Nat} {T : am_H} {v : Option Int32} {h' : am_H} {v1 v2 v3 v4 v5 v6 v7 v8 r : Int32} (k0 :
    am_fin [(z_L_drawn, 51, [.ref 1, .int v1, .int v2, .int v3, .int v4, .int v8, .int (v6 + 1), .int v7, .int v8], [])] (hp L xs A V K T) v h') : am_fin [(z_L_drawn, 127, [.ref 1, .int v1, .int v2, .int v3, .int v4, .int v5, .int v6, .int v7, .int v8], [.int r])] (hp L xs A V K T) v h' :=
  fn_pop_int rl_L_drawn_127 (fn_iload rl_L_drawn_128 rfl (fn_istore (ls' := [.ref 1, .int v1, .int v2, .int v3, .int v4, .int v8, .int v6, .int v7, .int v8]) rl_L_drawn_130 rfl rfl (fn_iinc (ls' := [.ref 1, .int v1, .int v2, .int v3, .int v4, .int v8, .int (v6 + 1), .int v7, .int v8]) rl_L_drawn_132 rfl rfl rfl (fn_goto rl_L_drawn_135 (k0)))))
set_option maxRecDepth 100000 in
set_option maxHeartbeats 4000000 in
theorem sg_L_at_0 {L : Nat} {xs : Nat → Int32} {A V : Nat → Nat → Int32} {K : Nat → Option Nat} {T : am_H} {v : Option Int32} {h' : am_H} {a1 a2 : Int32} (k0 :
    if a1 < 0 then (
      v = some (-1) ∧ h' = hp L xs A V K T)
    else (
      if 1079 < a1 then (
        v = some (-1) ∧ h' = hp L xs A V K T)
      else (
        if a2 < 0 then (
          v = some (-1) ∧ h' = hp L xs A V K T)
        else (
          if 2 < a2 then (
            v = some (-1) ∧ h' = hp L xs A V K T)
          else (
            if a2 = 2 then (
              ¬ (a1 < 0 ∨ 1080 ≤ a1.toNatClampNeg) ∧ (
              v = some ((A 9) a1.toNatClampNeg) ∧ h' = hp L xs A V K T))
            else (
              if a2 = 0 then (
                am_fin [(z_P_landOn, 0, [.ref 3, .int a1], []), (z_L_at, 48, [.ref 1, .int a1, .int a2, .null], [])] (hp L xs A V K T) v h')
              else (
                am_fin [(z_P_landOn, 0, [.ref 5, .int a1], []), (z_L_at, 62, [.ref 1, .int a1, .int a2, .null], [])] (hp L xs A V K T) v h'))))))) : am_fin [(z_L_at, 0, [.ref 1, .int a1, .int a2, .null], [])] (hp L xs A V K T) v h' :=
  fn_iload_n rl_L_at_0 rfl (fn_stat (as := [.int a1]) (r := []) (ls' := [.int a1]) rl_L_at_1 rfl rfl rfl rfl pl_L_isDay rfl rfl (fn_iload_n rl_L_isDay_0 rfl (fn_iconst rl_L_isDay_1 (fn_sipush rl_L_isDay_2 (fn_stat (as := [.int a1, .int 0, .int 1079]) (r := []) (ls' := [.int a1, .int 0, .int 1079]) rl_L_isDay_5 rfl rfl rfl rfl pl_L_isAmong rfl rfl (fn_iload_n rl_L_isAmong_0 rfl (fn_iload_n rl_L_isAmong_1 rfl (fn_icmp_lt rl_L_isAmong_2 (fun k99 => fn_iconst rl_L_isAmong_14 (fn_retci rl_L_isAmong_15 rfl (fn_retci rl_L_isDay_8 rfl (fn_if_eq_t rl_L_at_4 (by decide +kernel) (fn_iconst rl_L_at_16 (fn_reti rl_L_at_17 rfl k99)))))) (fun k100 => fn_iload_n rl_L_isAmong_5 rfl (fn_iload_n rl_L_isAmong_6 rfl (fn_icmp_gt rl_L_isAmong_7 (fun k97 => fn_iconst rl_L_isAmong_14 (fn_retci rl_L_isAmong_15 rfl (fn_retci rl_L_isDay_8 rfl (fn_if_eq_t rl_L_at_4 (by decide +kernel) (fn_iconst rl_L_at_16 (fn_reti rl_L_at_17 rfl k97)))))) (fun k98 => fn_iconst rl_L_isAmong_10 (fn_goto rl_L_isAmong_11 (fn_retci rl_L_isAmong_15 rfl (fn_retci rl_L_isDay_8 rfl (fn_if_eq_f rl_L_at_4 (by decide +kernel) (fn_iload_n rl_L_at_7 rfl (fn_iconst rl_L_at_8 (fn_iconst rl_L_at_9 (fn_stat (as := [.int a2, .int 0, .int 2]) (r := []) (ls' := [.int a2, .int 0, .int 2]) rl_L_at_10 rfl rfl rfl rfl pl_L_isAmong rfl rfl (fn_iload_n rl_L_isAmong_0 rfl (fn_iload_n rl_L_isAmong_1 rfl (fn_icmp_lt rl_L_isAmong_2 (fun k95 => fn_iconst rl_L_isAmong_14 (fn_retci rl_L_isAmong_15 rfl (fn_if_ne_t rl_L_at_13 (by decide +kernel) (fn_iconst rl_L_at_16 (fn_reti rl_L_at_17 rfl k95))))) (fun k96 => fn_iload_n rl_L_isAmong_5 rfl (fn_iload_n rl_L_isAmong_6 rfl (fn_icmp_gt rl_L_isAmong_7 (fun k93 => fn_iconst rl_L_isAmong_14 (fn_retci rl_L_isAmong_15 rfl (fn_if_ne_t rl_L_at_13 (by decide +kernel) (fn_iconst rl_L_at_16 (fn_reti rl_L_at_17 rfl k93))))) (fun k94 => fn_iconst rl_L_isAmong_10 (fn_goto rl_L_isAmong_11 (fn_retci rl_L_isAmong_15 rfl (fn_if_ne_f rl_L_at_13 (by decide +kernel) (fn_iload_n rl_L_at_18 rfl (fn_iconst rl_L_at_19 (fn_icmp_ne rl_L_at_20 (fun k91 => fn_aload_n rl_L_at_23 rfl (fn_get rl_L_at_24 hp_1 rfl (fn_get rl_L_at_27 hp_2 rfl (fn_iload_n rl_L_at_30 rfl (fn_iald rl_L_at_31 hp_9 (fun k88 => fn_reti rl_L_at_32 rfl k88) k91))))) (fun k92 => fn_iload_n rl_L_at_33 rfl (fn_if_ne rl_L_at_34 (fun k89 => fn_aload_n rl_L_at_37 rfl (fn_get rl_L_at_38 hp_1 rfl (fn_get rl_L_at_41 hp_2 rfl (fn_iload_n rl_L_at_44 rfl (fn_virt (as := [.ref 3, .int a1]) (r := []) (ls' := [.ref 3, .int a1]) rl_L_at_45 rfl hp_3 rfl rfl pl_P_landOn rfl rfl (k89)))))) (fun k90 => fn_aload_n rl_L_at_51 rfl (fn_get rl_L_at_52 hp_1 rfl (fn_get rl_L_at_55 hp_2 rfl (fn_iload_n rl_L_at_58 rfl (fn_virt (as := [.ref 5, .int a1]) (r := []) (ls' := [.ref 5, .int a1]) rl_L_at_59 rfl hp_5 rfl rfl pl_P_landOn rfl rfl (k90)))))) k92)) k94))))))) k96))) k98)))))))))))) k100))) k0))))))))
set_option maxRecDepth 100000 in
set_option maxHeartbeats 4000000 in
theorem sg_L_at_48r {L : Nat} {xs : Nat → Int32} {A V : Nat → Nat → Int32} {K : Nat → Option Nat} {T : am_H} {v : Option Int32} {h' : am_H} {v1 v2 r : Int32} (k0 :
    if r = (-1) then (
      v = some (-2) ∧ h' = hp L xs A V K T)
    else (
      v = some r ∧ h' = hp L xs A V K T)) : am_fin [(z_L_at, 48, [.ref 1, .int v1, .int v2, .null], [.int r])] (hp L xs A V K T) v h' :=
  fn_goto rl_L_at_48 (fn_istore_n (ls' := [.ref 1, .int v1, .int v2, .int r]) rl_L_at_62 rfl rfl (fn_iload_n rl_L_at_63 rfl (fn_iconst rl_L_at_64 (fn_icmp_ne rl_L_at_65 (fun k101 => fn_bipush rl_L_at_68 (fn_goto rl_L_at_70 (fn_reti rl_L_at_74 rfl k101))) (fun k102 => fn_iload_n rl_L_at_73 rfl (fn_reti rl_L_at_74 rfl k102)) k0))))
set_option maxRecDepth 100000 in
set_option maxHeartbeats 4000000 in
theorem sg_L_at_62r {L : Nat} {xs : Nat → Int32} {A V : Nat → Nat → Int32} {K : Nat → Option Nat} {T : am_H} {v : Option Int32} {h' : am_H} {v1 v2 r : Int32} (k0 :
    if r = (-1) then (
      v = some (-2) ∧ h' = hp L xs A V K T)
    else (
      v = some r ∧ h' = hp L xs A V K T)) : am_fin [(z_L_at, 62, [.ref 1, .int v1, .int v2, .null], [.int r])] (hp L xs A V K T) v h' :=
  fn_istore_n (ls' := [.ref 1, .int v1, .int v2, .int r]) rl_L_at_62 rfl rfl (fn_iload_n rl_L_at_63 rfl (fn_iconst rl_L_at_64 (fn_icmp_ne rl_L_at_65 (fun k103 => fn_bipush rl_L_at_68 (fn_goto rl_L_at_70 (fn_reti rl_L_at_74 rfl k103))) (fun k104 => fn_iload_n rl_L_at_73 rfl (fn_reti rl_L_at_74 rfl k104)) k0)))
set_option maxRecDepth 100000 in
set_option maxHeartbeats 4000000 in
theorem sg_L_letter_0 {L : Nat} {xs : Nat → Int32} {A V : Nat → Nat → Int32} {K : Nat → Option Nat} {T : am_H} {v : Option Int32} {h' : am_H} {a1 : Int32} (k0 :
    if (-1) ≤ a1 then (
      am_fin [(z_E_spell, 0, [.ref 25, .ref 3, .int a1, .null], []), (z_L_letter, 22, [.ref 1, .int a1], [])] (hp L xs A V K T) v h')
    else (
      v = some (-1) ∧ h' = hp L xs A V K T)) : am_fin [(z_L_letter, 0, [.ref 1, .int a1], [])] (hp L xs A V K T) v h' :=
  fn_iload_n rl_L_letter_0 rfl (fn_iconst rl_L_letter_1 (fn_icmp_ge rl_L_letter_2 (fun k105 => fn_aload_n rl_L_letter_7 rfl (fn_get rl_L_letter_8 hp_1 rfl (fn_aload_n rl_L_letter_11 rfl (fn_get rl_L_letter_12 hp_1 rfl (fn_get rl_L_letter_15 hp_2 rfl (fn_iload_n rl_L_letter_18 rfl (fn_virt (as := [.ref 25, .ref 3, .int a1]) (r := []) (ls' := [.ref 25, .ref 3, .int a1, .null]) rl_L_letter_19 rfl hp_25 rfl rfl pl_E_spell rfl rfl (k105)))))))) (fun k106 => fn_iconst rl_L_letter_5 (fn_reti rl_L_letter_6 rfl k106)) k0))
set_option maxRecDepth 100000 in
set_option maxHeartbeats 4000000 in
theorem sg_L_letter_22r {L : Nat} {xs : Nat → Int32} {A V : Nat → Nat → Int32} {K : Nat → Option Nat} {T : am_H} {v : Option Int32} {h' : am_H} {v1 : Int32} (k0 :
    if v1 = (-1) then (
      v = some (V 25 0) ∧ h' = hp L xs A V K T)
    else (
      if (V 25 0) ≤ v1 then (
        v = some (-2) ∧ h' = hp L xs A V K T)
      else (
        v = some (V 25 2) ∧ h' = hp L xs A V K T))) : am_fin [(z_L_letter, 22, [.ref 1, .int v1], [])] (hp L xs A V K T) v h' :=
  fn_iload_n rl_L_letter_22 rfl (fn_iconst rl_L_letter_23 (fn_icmp_ne rl_L_letter_24 (fun k109 => fn_aload_n rl_L_letter_27 rfl (fn_get rl_L_letter_28 hp_1 rfl (fn_get rl_L_letter_31 hp_25 rfl (fn_reti rl_L_letter_34 rfl k109)))) (fun k110 => fn_iload_n rl_L_letter_35 rfl (fn_aload_n rl_L_letter_36 rfl (fn_get rl_L_letter_37 hp_1 rfl (fn_get rl_L_letter_40 hp_25 rfl (fn_icmp_ge rl_L_letter_43 (fun k107 => fn_bipush rl_L_letter_56 (fn_reti rl_L_letter_58 rfl k107)) (fun k108 => fn_aload_n rl_L_letter_46 rfl (fn_get rl_L_letter_47 hp_1 rfl (fn_get rl_L_letter_50 hp_25 rfl (fn_goto rl_L_letter_53 (fn_reti rl_L_letter_58 rfl k108))))) k110))))) k0))
set_option maxRecDepth 100000 in
set_option maxHeartbeats 4000000 in
theorem sg_L_window_0 {L : Nat} {xs : Nat → Int32} {A V : Nat → Nat → Int32} {K : Nat → Option Nat} {T : am_H} {v : Option Int32} {h' : am_H} {a1 a2 a3 : Int32} (k0 :
    if a1 < 0 then (
      v = some (-1) ∧ h' = hp L xs A V K T)
    else (
      if 5 < a1 then (
        v = some (-1) ∧ h' = hp L xs A V K T)
      else (
        if a2 < 0 then (
          v = some (-1) ∧ h' = hp L xs A V K T)
        else (
          if 360 < a2 then (
            v = some (-1) ∧ h' = hp L xs A V K T)
          else (
            if a3 < 0 then (
              v = some (-1) ∧ h' = hp L xs A V K T)
            else (
              if a2 < a3 then (
                v = some (-1) ∧ h' = hp L xs A V K T)
              else (
                ¬ (a1 < 0 ∨ 6 ≤ a1.toNatClampNeg) ∧ (
                ¬ (a1 < 0 ∨ 6 ≤ a1.toNatClampNeg) ∧ (
                ¬ (a1 < 0 ∨ 6 ≤ a1.toNatClampNeg) ∧ (
                v = some ((A 11) a1.toNatClampNeg) ∧ h' = hp L xs (upA (upA A 11 (upd (A 11) a1.toNatClampNeg a2)) 12 (upd ((upA A 11 (upd (A 11) a1.toNatClampNeg a2)) 12) a1.toNatClampNeg a3)) V K T)))))))))) : am_fin [(z_L_window, 0, [.ref 1, .int a1, .int a2, .int a3, .null], [])] (hp L xs A V K T) v h' :=
  fn_iload_n rl_L_window_0 rfl (fn_stat (as := [.int a1]) (r := []) (ls' := [.int a1]) rl_L_window_1 rfl rfl rfl rfl pl_L_isLand rfl rfl (fn_iload_n rl_L_isLand_0 rfl (fn_iconst rl_L_isLand_1 (fn_iconst rl_L_isLand_2 (fn_stat (as := [.int a1, .int 0, .int 5]) (r := []) (ls' := [.int a1, .int 0, .int 5]) rl_L_isLand_3 rfl rfl rfl rfl pl_L_isAmong rfl rfl (fn_iload_n rl_L_isAmong_0 rfl (fn_iload_n rl_L_isAmong_1 rfl (fn_icmp_lt rl_L_isAmong_2 (fun k124 => fn_iconst rl_L_isAmong_14 (fn_retci rl_L_isAmong_15 rfl (fn_retci rl_L_isLand_6 rfl (fn_if_eq_t rl_L_window_4 (by decide +kernel) (fn_iconst rl_L_window_27 (fn_reti rl_L_window_28 rfl k124)))))) (fun k125 => fn_iload_n rl_L_isAmong_5 rfl (fn_iload_n rl_L_isAmong_6 rfl (fn_icmp_gt rl_L_isAmong_7 (fun k122 => fn_iconst rl_L_isAmong_14 (fn_retci rl_L_isAmong_15 rfl (fn_retci rl_L_isLand_6 rfl (fn_if_eq_t rl_L_window_4 (by decide +kernel) (fn_iconst rl_L_window_27 (fn_reti rl_L_window_28 rfl k122)))))) (fun k123 => fn_iconst rl_L_isAmong_10 (fn_goto rl_L_isAmong_11 (fn_retci rl_L_isAmong_15 rfl (fn_retci rl_L_isLand_6 rfl (fn_if_eq_f rl_L_window_4 (by decide +kernel) (fn_iload_n rl_L_window_7 rfl (fn_iconst rl_L_window_8 (fn_sipush rl_L_window_9 (fn_stat (as := [.int a2, .int 0, .int 360]) (r := []) (ls' := [.int a2, .int 0, .int 360]) rl_L_window_12 rfl rfl rfl rfl pl_L_isAmong rfl rfl (fn_iload_n rl_L_isAmong_0 rfl (fn_iload_n rl_L_isAmong_1 rfl (fn_icmp_lt rl_L_isAmong_2 (fun k120 => fn_iconst rl_L_isAmong_14 (fn_retci rl_L_isAmong_15 rfl (fn_if_eq_t rl_L_window_15 (by decide +kernel) (fn_iconst rl_L_window_27 (fn_reti rl_L_window_28 rfl k120))))) (fun k121 => fn_iload_n rl_L_isAmong_5 rfl (fn_iload_n rl_L_isAmong_6 rfl (fn_icmp_gt rl_L_isAmong_7 (fun k118 => fn_iconst rl_L_isAmong_14 (fn_retci rl_L_isAmong_15 rfl (fn_if_eq_t rl_L_window_15 (by decide +kernel) (fn_iconst rl_L_window_27 (fn_reti rl_L_window_28 rfl k118))))) (fun k119 => fn_iconst rl_L_isAmong_10 (fn_goto rl_L_isAmong_11 (fn_retci rl_L_isAmong_15 rfl (fn_if_eq_f rl_L_window_15 (by decide +kernel) (fn_iload_n rl_L_window_18 rfl (fn_iconst rl_L_window_19 (fn_iload_n rl_L_window_20 rfl (fn_stat (as := [.int a3, .int 0, .int a2]) (r := []) (ls' := [.int a3, .int 0, .int a2]) rl_L_window_21 rfl rfl rfl rfl pl_L_isAmong rfl rfl (fn_iload_n rl_L_isAmong_0 rfl (fn_iload_n rl_L_isAmong_1 rfl (fn_icmp_lt rl_L_isAmong_2 (fun k116 => fn_iconst rl_L_isAmong_14 (fn_retci rl_L_isAmong_15 rfl (fn_if_ne_t rl_L_window_24 (by decide +kernel) (fn_iconst rl_L_window_27 (fn_reti rl_L_window_28 rfl k116))))) (fun k117 => fn_iload_n rl_L_isAmong_5 rfl (fn_iload_n rl_L_isAmong_6 rfl (fn_icmp_gt rl_L_isAmong_7 (fun k114 => fn_iconst rl_L_isAmong_14 (fn_retci rl_L_isAmong_15 rfl (fn_if_ne_t rl_L_window_24 (by decide +kernel) (fn_iconst rl_L_window_27 (fn_reti rl_L_window_28 rfl k114))))) (fun k115 => fn_iconst rl_L_isAmong_10 (fn_goto rl_L_isAmong_11 (fn_retci rl_L_isAmong_15 rfl (fn_if_ne_f rl_L_window_24 (by decide +kernel) (fn_aload_n rl_L_window_29 rfl (fn_get rl_L_window_30 hp_1 rfl (fn_get rl_L_window_33 hp_2 rfl (fn_get rl_L_window_36 hp_10 rfl (fn_iload_n rl_L_window_39 rfl (fn_iald rl_L_window_40 hp_11 (fun k113 => fn_istore (ls' := [.ref 1, .int a1, .int a2, .int a3, .int ((A 11) a1.toNatClampNeg)]) rl_L_window_41 rfl rfl (fn_aload_n rl_L_window_43 rfl (fn_get rl_L_window_44 hp_1 rfl (fn_get rl_L_window_47 hp_2 rfl (fn_get rl_L_window_50 hp_10 rfl (fn_iload_n rl_L_window_53 rfl (fn_iload_n rl_L_window_54 rfl (fn_iast rl_L_window_55 hp_11 hps_11 (fun k112 => fn_aload_n rl_L_window_56 rfl (fn_get rl_L_window_57 hp_1 rfl (fn_get rl_L_window_60 hp_2 rfl (fn_get rl_L_window_63 hp_10 rfl (fn_iload_n rl_L_window_66 rfl (fn_iload_n rl_L_window_67 rfl (fn_iast rl_L_window_68 hp_12 hps_12 (fun k111 => fn_iload rl_L_window_69 rfl (fn_reti rl_L_window_71 rfl k111)) k112))))))) k113)))))))) k115)))))))))) k117))) k119))))))))))) k121))) k123)))))))))))) k125))) k0))))))))
set_option maxRecDepth 100000 in
set_option maxHeartbeats 4000000 in
theorem sg_L_rule_0 {L : Nat} {xs : Nat → Int32} {A V : Nat → Nat → Int32} {K : Nat → Option Nat} {T : am_H} {v : Option Int32} {h' : am_H} {a1 a2 a3 : Int32} (k0 :
    if a1 < 0 then (
      v = some (-1) ∧ h' = hp L xs A V K T)
    else (
      if 5 < a1 then (
        v = some (-1) ∧ h' = hp L xs A V K T)
      else (
        if a2 < 0 then (
          v = some (-1) ∧ h' = hp L xs A V K T)
        else (
          if 2 < a2 then (
            v = some (-1) ∧ h' = hp L xs A V K T)
          else (
            if a3 < 0 then (
              v = some (-1) ∧ h' = hp L xs A V K T)
            else (
              if 360 < a3 then (
                v = some (-1) ∧ h' = hp L xs A V K T)
              else (
                ¬ (((a1 * 3) + a2) < 0 ∨ 18 ≤ ((a1 * 3) + a2).toNatClampNeg) ∧ (
                ¬ (((a1 * 3) + a2) < 0 ∨ 18 ≤ ((a1 * 3) + a2).toNatClampNeg) ∧ (
                v = some ((A 13) ((a1 * 3) + a2).toNatClampNeg) ∧ h' = hp L xs (upA A 13 (upd (A 13) ((a1 * 3) + a2).toNatClampNeg a3)) V K T))))))))) : am_fin [(z_L_rule, 0, [.ref 1, .int a1, .int a2, .int a3, .null], [])] (hp L xs A V K T) v h' :=
  fn_iload_n rl_L_rule_0 rfl (fn_stat (as := [.int a1]) (r := []) (ls' := [.int a1]) rl_L_rule_1 rfl rfl rfl rfl pl_L_isLand rfl rfl (fn_iload_n rl_L_isLand_0 rfl (fn_iconst rl_L_isLand_1 (fn_iconst rl_L_isLand_2 (fn_stat (as := [.int a1, .int 0, .int 5]) (r := []) (ls' := [.int a1, .int 0, .int 5]) rl_L_isLand_3 rfl rfl rfl rfl pl_L_isAmong rfl rfl (fn_iload_n rl_L_isAmong_0 rfl (fn_iload_n rl_L_isAmong_1 rfl (fn_icmp_lt rl_L_isAmong_2 (fun k138 => fn_iconst rl_L_isAmong_14 (fn_retci rl_L_isAmong_15 rfl (fn_retci rl_L_isLand_6 rfl (fn_if_eq_t rl_L_rule_4 (by decide +kernel) (fn_iconst rl_L_rule_25 (fn_reti rl_L_rule_26 rfl k138)))))) (fun k139 => fn_iload_n rl_L_isAmong_5 rfl (fn_iload_n rl_L_isAmong_6 rfl (fn_icmp_gt rl_L_isAmong_7 (fun k136 => fn_iconst rl_L_isAmong_14 (fn_retci rl_L_isAmong_15 rfl (fn_retci rl_L_isLand_6 rfl (fn_if_eq_t rl_L_rule_4 (by decide +kernel) (fn_iconst rl_L_rule_25 (fn_reti rl_L_rule_26 rfl k136)))))) (fun k137 => fn_iconst rl_L_isAmong_10 (fn_goto rl_L_isAmong_11 (fn_retci rl_L_isAmong_15 rfl (fn_retci rl_L_isLand_6 rfl (fn_if_eq_f rl_L_rule_4 (by decide +kernel) (fn_iload_n rl_L_rule_7 rfl (fn_stat (as := [.int a2]) (r := []) (ls' := [.int a2]) rl_L_rule_8 rfl rfl rfl rfl pl_L_isSort rfl rfl (fn_iload_n rl_L_isSort_0 rfl (fn_iconst rl_L_isSort_1 (fn_iconst rl_L_isSort_2 (fn_stat (as := [.int a2, .int 0, .int 2]) (r := []) (ls' := [.int a2, .int 0, .int 2]) rl_L_isSort_3 rfl rfl rfl rfl pl_L_isAmong rfl rfl (fn_iload_n rl_L_isAmong_0 rfl (fn_iload_n rl_L_isAmong_1 rfl (fn_icmp_lt rl_L_isAmong_2 (fun k134 => fn_iconst rl_L_isAmong_14 (fn_retci rl_L_isAmong_15 rfl (fn_retci rl_L_isSort_6 rfl (fn_if_eq_t rl_L_rule_11 (by decide +kernel) (fn_iconst rl_L_rule_25 (fn_reti rl_L_rule_26 rfl k134)))))) (fun k135 => fn_iload_n rl_L_isAmong_5 rfl (fn_iload_n rl_L_isAmong_6 rfl (fn_icmp_gt rl_L_isAmong_7 (fun k132 => fn_iconst rl_L_isAmong_14 (fn_retci rl_L_isAmong_15 rfl (fn_retci rl_L_isSort_6 rfl (fn_if_eq_t rl_L_rule_11 (by decide +kernel) (fn_iconst rl_L_rule_25 (fn_reti rl_L_rule_26 rfl k132)))))) (fun k133 => fn_iconst rl_L_isAmong_10 (fn_goto rl_L_isAmong_11 (fn_retci rl_L_isAmong_15 rfl (fn_retci rl_L_isSort_6 rfl (fn_if_eq_f rl_L_rule_11 (by decide +kernel) (fn_iload_n rl_L_rule_14 rfl (fn_iconst rl_L_rule_15 (fn_sipush rl_L_rule_16 (fn_stat (as := [.int a3, .int 0, .int 360]) (r := []) (ls' := [.int a3, .int 0, .int 360]) rl_L_rule_19 rfl rfl rfl rfl pl_L_isAmong rfl rfl (fn_iload_n rl_L_isAmong_0 rfl (fn_iload_n rl_L_isAmong_1 rfl (fn_icmp_lt rl_L_isAmong_2 (fun k130 => fn_iconst rl_L_isAmong_14 (fn_retci rl_L_isAmong_15 rfl (fn_if_ne_t rl_L_rule_22 (by decide +kernel) (fn_iconst rl_L_rule_25 (fn_reti rl_L_rule_26 rfl k130))))) (fun k131 => fn_iload_n rl_L_isAmong_5 rfl (fn_iload_n rl_L_isAmong_6 rfl (fn_icmp_gt rl_L_isAmong_7 (fun k128 => fn_iconst rl_L_isAmong_14 (fn_retci rl_L_isAmong_15 rfl (fn_if_ne_t rl_L_rule_22 (by decide +kernel) (fn_iconst rl_L_rule_25 (fn_reti rl_L_rule_26 rfl k128))))) (fun k129 => fn_iconst rl_L_isAmong_10 (fn_goto rl_L_isAmong_11 (fn_retci rl_L_isAmong_15 rfl (fn_if_ne_f rl_L_rule_22 (by decide +kernel) (fn_aload_n rl_L_rule_27 rfl (fn_get rl_L_rule_28 hp_1 rfl (fn_get rl_L_rule_31 hp_2 rfl (fn_iload_n rl_L_rule_34 rfl (fn_iload_n rl_L_rule_35 rfl (fn_virt (as := [.ref 10, .int a1, .int a2]) (r := []) (ls' := [.ref 10, .int a1, .int a2]) rl_L_rule_36 rfl hp_10 rfl rfl pl_R_needed rfl rfl (fn_aload_n rl_R_needed_0 rfl (fn_get rl_R_needed_1 hp_10 rfl (fn_iload_n rl_R_needed_4 rfl (fn_iconst rl_R_needed_5 (fn_imul rl_R_needed_6 (fn_iload_n rl_R_needed_7 rfl (fn_iadd rl_R_needed_8 (fn_iald rl_R_needed_9 hp_13 (fun k127 => fn_retci rl_R_needed_10 rfl (fn_istore (ls' := [.ref 1, .int a1, .int a2, .int a3, .int ((A 13) ((a1 * 3) + a2).toNatClampNeg)]) rl_L_rule_39 rfl rfl (fn_aload_n rl_L_rule_41 rfl (fn_get rl_L_rule_42 hp_1 rfl (fn_get rl_L_rule_45 hp_2 rfl (fn_get rl_L_rule_48 hp_10 rfl (fn_iload_n rl_L_rule_51 rfl (fn_iconst rl_L_rule_52 (fn_imul rl_L_rule_53 (fn_iload_n rl_L_rule_54 rfl (fn_iadd rl_L_rule_55 (fn_iload_n rl_L_rule_56 rfl (fn_iast rl_L_rule_57 hp_13 hps_13 (fun k126 => fn_iload rl_L_rule_58 rfl (fn_reti rl_L_rule_60 rfl k126)) k127))))))))))))) k129)))))))))))))))))) k131))) k133)))))))))))) k135))) k137)))))))))))))) k139))) k0))))))))
set_option maxRecDepth 100000 in
set_option maxHeartbeats 4000000 in
theorem sg_L_order_0 {L : Nat} {xs : Nat → Int32} {A V : Nat → Nat → Int32} {K : Nat → Option Nat} {T : am_H} {v : Option Int32} {h' : am_H} {a1 a2 : Int32} (k0 :
    if a1 < 0 then (
      v = some 0 ∧ h' = hp L xs A V K T)
    else (
      if 5 < a1 then (
        v = some 0 ∧ h' = hp L xs A V K T)
      else (
        if a2 < 0 then (
          v = some 0 ∧ h' = hp L xs A V K T)
        else (
          if 4 < a2 then (
            v = some 0 ∧ h' = hp L xs A V K T)
          else (
            if (V 19 1) < a2 then (
              v = some 0 ∧ h' = hp L xs A V K T)
            else (
              am_fin [(z_T_takeRow, 0, [.ref 19, .int a2, .null, .null, .null, .null], []), (z_L_order, 25, [.ref 1, .int a1, .int a2, .null], [])] (hp L xs A V K T) v h')))))) : am_fin [(z_L_order, 0, [.ref 1, .int a1, .int a2, .null], [])] (hp L xs A V K T) v h' :=
  fn_iload_n rl_L_order_0 rfl (fn_stat (as := [.int a1]) (r := []) (ls' := [.int a1]) rl_L_order_1 rfl rfl rfl rfl pl_L_isLand rfl rfl (fn_iload_n rl_L_isLand_0 rfl (fn_iconst rl_L_isLand_1 (fn_iconst rl_L_isLand_2 (fn_stat (as := [.int a1, .int 0, .int 5]) (r := []) (ls' := [.int a1, .int 0, .int 5]) rl_L_isLand_3 rfl rfl rfl rfl pl_L_isAmong rfl rfl (fn_iload_n rl_L_isAmong_0 rfl (fn_iload_n rl_L_isAmong_1 rfl (fn_icmp_lt rl_L_isAmong_2 (fun k148 => fn_iconst rl_L_isAmong_14 (fn_retci rl_L_isAmong_15 rfl (fn_retci rl_L_isLand_6 rfl (fn_if_eq_t rl_L_order_4 (by decide +kernel) (fn_iconst rl_L_order_15 (fn_reti rl_L_order_16 rfl k148)))))) (fun k149 => fn_iload_n rl_L_isAmong_5 rfl (fn_iload_n rl_L_isAmong_6 rfl (fn_icmp_gt rl_L_isAmong_7 (fun k146 => fn_iconst rl_L_isAmong_14 (fn_retci rl_L_isAmong_15 rfl (fn_retci rl_L_isLand_6 rfl (fn_if_eq_t rl_L_order_4 (by decide +kernel) (fn_iconst rl_L_order_15 (fn_reti rl_L_order_16 rfl k146)))))) (fun k147 => fn_iconst rl_L_isAmong_10 (fn_goto rl_L_isAmong_11 (fn_retci rl_L_isAmong_15 rfl (fn_retci rl_L_isLand_6 rfl (fn_if_eq_f rl_L_order_4 (by decide +kernel) (fn_aload_n rl_L_order_7 rfl (fn_iload_n rl_L_order_8 rfl (fn_virt (as := [.ref 1, .int a2]) (r := []) (ls' := [.ref 1, .int a2]) rl_L_order_9 rfl hp_1 rfl rfl pl_L_isRow rfl rfl (fn_iload_n rl_L_isRow_0 rfl (fn_iconst rl_L_isRow_1 (fn_iconst rl_L_isRow_2 (fn_stat (as := [.int a2, .int 0, .int 4]) (r := []) (ls' := [.int a2, .int 0, .int 4]) rl_L_isRow_3 rfl rfl rfl rfl pl_L_isAmong rfl rfl (fn_iload_n rl_L_isAmong_0 rfl (fn_iload_n rl_L_isAmong_1 rfl (fn_icmp_lt rl_L_isAmong_2 (fun k144 => fn_iconst rl_L_isAmong_14 (fn_retci rl_L_isAmong_15 rfl (fn_if_eq_t rl_L_isRow_6 (by decide +kernel) (fn_iconst rl_L_isRow_24 (fn_retci rl_L_isRow_25 rfl (fn_if_ne_t rl_L_order_12 (by decide +kernel) (fn_iconst rl_L_order_15 (fn_reti rl_L_order_16 rfl k144)))))))) (fun k145 => fn_iload_n rl_L_isAmong_5 rfl (fn_iload_n rl_L_isAmong_6 rfl (fn_icmp_gt rl_L_isAmong_7 (fun k142 => fn_iconst rl_L_isAmong_14 (fn_retci rl_L_isAmong_15 rfl (fn_if_eq_t rl_L_isRow_6 (by decide +kernel) (fn_iconst rl_L_isRow_24 (fn_retci rl_L_isRow_25 rfl (fn_if_ne_t rl_L_order_12 (by decide +kernel) (fn_iconst rl_L_order_15 (fn_reti rl_L_order_16 rfl k142)))))))) (fun k143 => fn_iconst rl_L_isAmong_10 (fn_goto rl_L_isAmong_11 (fn_retci rl_L_isAmong_15 rfl (fn_if_eq_f rl_L_isRow_6 (by decide +kernel) (fn_iload_n rl_L_isRow_9 rfl (fn_aload_n rl_L_isRow_10 rfl (fn_get rl_L_isRow_11 hp_1 rfl (fn_get rl_L_isRow_14 hp_19 rfl (fn_icmp_gt rl_L_isRow_17 (fun k140 => fn_iconst rl_L_isRow_24 (fn_retci rl_L_isRow_25 rfl (fn_if_ne_t rl_L_order_12 (by decide +kernel) (fn_iconst rl_L_order_15 (fn_reti rl_L_order_16 rfl k140))))) (fun k141 => fn_iconst rl_L_isRow_20 (fn_goto rl_L_isRow_21 (fn_retci rl_L_isRow_25 rfl (fn_if_ne_f rl_L_order_12 (by decide +kernel) (fn_aload_n rl_L_order_17 rfl (fn_get rl_L_order_18 hp_1 rfl (fn_iload_n rl_L_order_21 rfl (fn_virt (as := [.ref 19, .int a2]) (r := []) (ls' := [.ref 19, .int a2, .null, .null, .null, .null]) rl_L_order_22 rfl hp_19 rfl rfl pl_T_takeRow rfl rfl (k141))))))))) k143))))))))) k145))) k147))))))))))))))) k149))) k0))))))))
set_option maxRecDepth 100000 in
set_option maxHeartbeats 4000000 in
theorem sg_L_order_25r {L : Nat} {xs : Nat → Int32} {A V : Nat → Nat → Int32} {K : Nat → Option Nat} {T : am_H} {v : Option Int32} {h' : am_H} {v1 v2 r : Int32} (k0 :
    if r = (-1) then (
      v = some 0 ∧ h' = hp L xs A V K T)
    else (
      ¬ (v1 < 0 ∨ 6 ≤ v1.toNatClampNeg) ∧ (
      v = some 1 ∧ h' = hp L xs (upA A 16 (upd (A 16) v1.toNatClampNeg r)) V K T))) : am_fin [(z_L_order, 25, [.ref 1, .int v1, .int v2, .null], [.int r])] (hp L xs A V K T) v h' :=
  fn_istore_n (ls' := [.ref 1, .int v1, .int v2, .int r]) rl_L_order_25 rfl rfl (fn_iload_n rl_L_order_26 rfl (fn_iconst rl_L_order_27 (fn_icmp_ne rl_L_order_28 (fun k151 => fn_iconst rl_L_order_31 (fn_reti rl_L_order_32 rfl k151)) (fun k152 => fn_aload_n rl_L_order_33 rfl (fn_get rl_L_order_34 hp_1 rfl (fn_get rl_L_order_37 hp_2 rfl (fn_get rl_L_order_40 hp_10 rfl (fn_iload_n rl_L_order_43 rfl (fn_iload_n rl_L_order_44 rfl (fn_iast rl_L_order_45 hp_16 hps_16 (fun k150 => fn_iconst rl_L_order_46 (fn_reti rl_L_order_47 rfl k150)) k152))))))) k0)))
set_option maxRecDepth 100000 in
set_option maxHeartbeats 4000000 in
theorem sg_L_entries_0 {L : Nat} {xs : Nat → Int32} {A V : Nat → Nat → Int32} {K : Nat → Option Nat} {T : am_H} {v : Option Int32} {h' : am_H} {a1 a2 : Int32} (k0 :
    if a1 < 0 then (
      v = some (-1) ∧ h' = hp L xs A V K T)
    else (
      if 5 < a1 then (
        v = some (-1) ∧ h' = hp L xs A V K T)
      else (
        if a2 < 0 then (
          v = some (-1) ∧ h' = hp L xs A V K T)
        else (
          if 100 < a2 then (
            v = some (-1) ∧ h' = hp L xs A V K T)
          else (
            ¬ (a1 < 0 ∨ 6 ≤ a1.toNatClampNeg) ∧ (
            ¬ (a1 < 0 ∨ 6 ≤ a1.toNatClampNeg) ∧ (
            v = some ((A 15) a1.toNatClampNeg) ∧ h' = hp L xs (upA A 15 (upd (A 15) a1.toNatClampNeg a2)) V K T))))))) : am_fin [(z_L_entries, 0, [.ref 1, .int a1, .int a2, .null], [])] (hp L xs A V K T) v h' :=
  fn_iload_n rl_L_entries_0 rfl (fn_stat (as := [.int a1]) (r := []) (ls' := [.int a1]) rl_L_entries_1 rfl rfl rfl rfl pl_L_isLand rfl rfl (fn_iload_n rl_L_isLand_0 rfl (fn_iconst rl_L_isLand_1 (fn_iconst rl_L_isLand_2 (fn_stat (as := [.int a1, .int 0, .int 5]) (r := []) (ls' := [.int a1, .int 0, .int 5]) rl_L_isLand_3 rfl rfl rfl rfl pl_L_isAmong rfl rfl (fn_iload_n rl_L_isAmong_0 rfl (fn_iload_n rl_L_isAmong_1 rfl (fn_icmp_lt rl_L_isAmong_2 (fun k161 => fn_iconst rl_L_isAmong_14 (fn_retci rl_L_isAmong_15 rfl (fn_retci rl_L_isLand_6 rfl (fn_if_eq_t rl_L_entries_4 (by decide +kernel) (fn_iconst rl_L_entries_17 (fn_reti rl_L_entries_18 rfl k161)))))) (fun k162 => fn_iload_n rl_L_isAmong_5 rfl (fn_iload_n rl_L_isAmong_6 rfl (fn_icmp_gt rl_L_isAmong_7 (fun k159 => fn_iconst rl_L_isAmong_14 (fn_retci rl_L_isAmong_15 rfl (fn_retci rl_L_isLand_6 rfl (fn_if_eq_t rl_L_entries_4 (by decide +kernel) (fn_iconst rl_L_entries_17 (fn_reti rl_L_entries_18 rfl k159)))))) (fun k160 => fn_iconst rl_L_isAmong_10 (fn_goto rl_L_isAmong_11 (fn_retci rl_L_isAmong_15 rfl (fn_retci rl_L_isLand_6 rfl (fn_if_eq_f rl_L_entries_4 (by decide +kernel) (fn_iload_n rl_L_entries_7 rfl (fn_iconst rl_L_entries_8 (fn_bipush rl_L_entries_9 (fn_stat (as := [.int a2, .int 0, .int 100]) (r := []) (ls' := [.int a2, .int 0, .int 100]) rl_L_entries_11 rfl rfl rfl rfl pl_L_isAmong rfl rfl (fn_iload_n rl_L_isAmong_0 rfl (fn_iload_n rl_L_isAmong_1 rfl (fn_icmp_lt rl_L_isAmong_2 (fun k157 => fn_iconst rl_L_isAmong_14 (fn_retci rl_L_isAmong_15 rfl (fn_if_ne_t rl_L_entries_14 (by decide +kernel) (fn_iconst rl_L_entries_17 (fn_reti rl_L_entries_18 rfl k157))))) (fun k158 => fn_iload_n rl_L_isAmong_5 rfl (fn_iload_n rl_L_isAmong_6 rfl (fn_icmp_gt rl_L_isAmong_7 (fun k155 => fn_iconst rl_L_isAmong_14 (fn_retci rl_L_isAmong_15 rfl (fn_if_ne_t rl_L_entries_14 (by decide +kernel) (fn_iconst rl_L_entries_17 (fn_reti rl_L_entries_18 rfl k155))))) (fun k156 => fn_iconst rl_L_isAmong_10 (fn_goto rl_L_isAmong_11 (fn_retci rl_L_isAmong_15 rfl (fn_if_ne_f rl_L_entries_14 (by decide +kernel) (fn_aload_n rl_L_entries_19 rfl (fn_get rl_L_entries_20 hp_1 rfl (fn_get rl_L_entries_23 hp_2 rfl (fn_get rl_L_entries_26 hp_10 rfl (fn_iload_n rl_L_entries_29 rfl (fn_iald rl_L_entries_30 hp_15 (fun k154 => fn_istore_n (ls' := [.ref 1, .int a1, .int a2, .int ((A 15) a1.toNatClampNeg)]) rl_L_entries_31 rfl rfl (fn_aload_n rl_L_entries_32 rfl (fn_get rl_L_entries_33 hp_1 rfl (fn_get rl_L_entries_36 hp_2 rfl (fn_get rl_L_entries_39 hp_10 rfl (fn_iload_n rl_L_entries_42 rfl (fn_iload_n rl_L_entries_43 rfl (fn_iast rl_L_entries_44 hp_15 hps_15 (fun k153 => fn_iload_n rl_L_entries_45 rfl (fn_reti rl_L_entries_46 rfl k153)) k154)))))))) k156)))))))))) k158))) k160)))))))))))) k162))) k0))))))))
set_option maxRecDepth 100000 in
set_option maxHeartbeats 4000000 in
theorem sg_L_entered_0 {L : Nat} {xs : Nat → Int32} {A V : Nat → Nat → Int32} {K : Nat → Option Nat} {T : am_H} {v : Option Int32} {h' : am_H} {a1 a2 a3 : Int32} (k0 :
    if a1 < 0 then (
      v = some (-1) ∧ h' = hp L xs A V K T)
    else (
      if 5 < a1 then (
        v = some (-1) ∧ h' = hp L xs A V K T)
      else (
        if a2 < 0 then (
          v = some (-1) ∧ h' = hp L xs A V K T)
        else (
          if 2 < a2 then (
            v = some (-1) ∧ h' = hp L xs A V K T)
          else (
            if a3 < 0 then (
              v = some (-1) ∧ h' = hp L xs A V K T)
            else (
              if 2 < a3 then (
                v = some (-1) ∧ h' = hp L xs A V K T)
              else (
                ¬ (a1 < 0 ∨ 6 ≤ a1.toNatClampNeg) ∧ (
                am_fin [(z_L_entered, 52, [.ref 1, .int a1, .int a2, .int a3, .int ((A 15) a1.toNatClampNeg), .int 0, .int (-2), .int (a2 * 360)], [])] (hp L xs A V K T) v h')))))))) : am_fin [(z_L_entered, 0, [.ref 1, .int a1, .int a2, .int a3, .null, .null, .null, .null], [])] (hp L xs A V K T) v h' :=
  fn_iload_n rl_L_entered_0 rfl (fn_stat (as := [.int a1]) (r := []) (ls' := [.int a1]) rl_L_entered_1 rfl rfl rfl rfl pl_L_isLand rfl rfl (fn_iload_n rl_L_isLand_0 rfl (fn_iconst rl_L_isLand_1 (fn_iconst rl_L_isLand_2 (fn_stat (as := [.int a1, .int 0, .int 5]) (r := []) (ls' := [.int a1, .int 0, .int 5]) rl_L_isLand_3 rfl rfl rfl rfl pl_L_isAmong rfl rfl (fn_iload_n rl_L_isAmong_0 rfl (fn_iload_n rl_L_isAmong_1 rfl (fn_icmp_lt rl_L_isAmong_2 (fun k174 => fn_iconst rl_L_isAmong_14 (fn_retci rl_L_isAmong_15 rfl (fn_retci rl_L_isLand_6 rfl (fn_if_eq_t rl_L_entered_4 (by decide +kernel) (fn_iconst rl_L_entered_23 (fn_reti rl_L_entered_24 rfl k174)))))) (fun k175 => fn_iload_n rl_L_isAmong_5 rfl (fn_iload_n rl_L_isAmong_6 rfl (fn_icmp_gt rl_L_isAmong_7 (fun k172 => fn_iconst rl_L_isAmong_14 (fn_retci rl_L_isAmong_15 rfl (fn_retci rl_L_isLand_6 rfl (fn_if_eq_t rl_L_entered_4 (by decide +kernel) (fn_iconst rl_L_entered_23 (fn_reti rl_L_entered_24 rfl k172)))))) (fun k173 => fn_iconst rl_L_isAmong_10 (fn_goto rl_L_isAmong_11 (fn_retci rl_L_isAmong_15 rfl (fn_retci rl_L_isLand_6 rfl (fn_if_eq_f rl_L_entered_4 (by decide +kernel) (fn_iload_n rl_L_entered_7 rfl (fn_stat (as := [.int a2]) (r := []) (ls' := [.int a2]) rl_L_entered_8 rfl rfl rfl rfl pl_L_isYear rfl rfl (fn_iload_n rl_L_isYear_0 rfl (fn_iconst rl_L_isYear_1 (fn_iconst rl_L_isYear_2 (fn_stat (as := [.int a2, .int 0, .int 2]) (r := []) (ls' := [.int a2, .int 0, .int 2]) rl_L_isYear_3 rfl rfl rfl rfl pl_L_isAmong rfl rfl (fn_iload_n rl_L_isAmong_0 rfl (fn_iload_n rl_L_isAmong_1 rfl (fn_icmp_lt rl_L_isAmong_2 (fun k170 => fn_iconst rl_L_isAmong_14 (fn_retci rl_L_isAmong_15 rfl (fn_retci rl_L_isYear_6 rfl (fn_if_eq_t rl_L_entered_11 (by decide +kernel) (fn_iconst rl_L_entered_23 (fn_reti rl_L_entered_24 rfl k170)))))) (fun k171 => fn_iload_n rl_L_isAmong_5 rfl (fn_iload_n rl_L_isAmong_6 rfl (fn_icmp_gt rl_L_isAmong_7 (fun k168 => fn_iconst rl_L_isAmong_14 (fn_retci rl_L_isAmong_15 rfl (fn_retci rl_L_isYear_6 rfl (fn_if_eq_t rl_L_entered_11 (by decide +kernel) (fn_iconst rl_L_entered_23 (fn_reti rl_L_entered_24 rfl k168)))))) (fun k169 => fn_iconst rl_L_isAmong_10 (fn_goto rl_L_isAmong_11 (fn_retci rl_L_isAmong_15 rfl (fn_retci rl_L_isYear_6 rfl (fn_if_eq_f rl_L_entered_11 (by decide +kernel) (fn_iload_n rl_L_entered_14 rfl (fn_iconst rl_L_entered_15 (fn_iconst rl_L_entered_16 (fn_stat (as := [.int a3, .int 0, .int 2]) (r := []) (ls' := [.int a3, .int 0, .int 2]) rl_L_entered_17 rfl rfl rfl rfl pl_L_isAmong rfl rfl (fn_iload_n rl_L_isAmong_0 rfl (fn_iload_n rl_L_isAmong_1 rfl (fn_icmp_lt rl_L_isAmong_2 (fun k166 => fn_iconst rl_L_isAmong_14 (fn_retci rl_L_isAmong_15 rfl (fn_if_ne_t rl_L_entered_20 (by decide +kernel) (fn_iconst rl_L_entered_23 (fn_reti rl_L_entered_24 rfl k166))))) (fun k167 => fn_iload_n rl_L_isAmong_5 rfl (fn_iload_n rl_L_isAmong_6 rfl (fn_icmp_gt rl_L_isAmong_7 (fun k164 => fn_iconst rl_L_isAmong_14 (fn_retci rl_L_isAmong_15 rfl (fn_if_ne_t rl_L_entered_20 (by decide +kernel) (fn_iconst rl_L_entered_23 (fn_reti rl_L_entered_24 rfl k164))))) (fun k165 => fn_iconst rl_L_isAmong_10 (fn_goto rl_L_isAmong_11 (fn_retci rl_L_isAmong_15 rfl (fn_if_ne_f rl_L_entered_20 (by decide +kernel) (fn_aload_n rl_L_entered_25 rfl (fn_get rl_L_entered_26 hp_1 rfl (fn_get rl_L_entered_29 hp_2 rfl (fn_get rl_L_entered_32 hp_10 rfl (fn_iload_n rl_L_entered_35 rfl (fn_iald rl_L_entered_36 hp_15 (fun k163 => fn_istore (ls' := [.ref 1, .int a1, .int a2, .int a3, .int ((A 15) a1.toNatClampNeg), .null, .null, .null]) rl_L_entered_37 rfl rfl (fn_iconst rl_L_entered_39 (fn_istore (ls' := [.ref 1, .int a1, .int a2, .int a3, .int ((A 15) a1.toNatClampNeg), .int 0, .null, .null]) rl_L_entered_40 rfl rfl (fn_bipush rl_L_entered_42 (fn_istore (ls' := [.ref 1, .int a1, .int a2, .int a3, .int ((A 15) a1.toNatClampNeg), .int 0, .int (-2), .null]) rl_L_entered_44 rfl rfl (fn_iload_n rl_L_entered_46 rfl (fn_stat (as := [.int a2]) (r := []) (ls' := [.int a2]) rl_L_entered_47 rfl rfl rfl rfl pl_L_firstOf rfl rfl (fn_iload_n rl_L_firstOf_0 rfl (fn_sipush rl_L_firstOf_1 (fn_imul rl_L_firstOf_4 (fn_retci rl_L_firstOf_5 rfl (fn_istore (ls' := [.ref 1, .int a1, .int a2, .int a3, .int ((A 15) a1.toNatClampNeg), .int 0, .int (-2), .int (a2 * 360)]) rl_L_entered_50 rfl rfl (k163))))))))))))) k165)))))))))) k167))) k169)))))))))))) k171))) k173)))))))))))))) k175))) k0))))))))
set_option maxRecDepth 100000 in
set_option maxHeartbeats 4000000 in
theorem sg_L_entered_52 {L : Nat} {xs : Nat → Int32} {A V : Nat → Nat → Int32} {K : Nat → Option Nat} {T : am_H} {v : Option Int32} {h' : am_H} {v1 v2 v3 v4 v5 v6 v7 : Int32} (k0 :
    if (((v2 * 360) + 360) - 1) < v7 then (
      if v3 = 0 then (
        v = some v5 ∧ h' = hp L xs A V K T)
      else (
        if v3 = 1 then (
          if v4 ≤ 0 then (
            v = some 0 ∧ h' = hp L xs A V K T)
          else (
            v = some (if (v5 - v4) < 0 then 0 else (v5 - v4) : Int32) ∧ h' = hp L xs A V K T))
        else (
          v = some v6 ∧ h' = hp L xs A V K T)))
    else (
      am_fin [(z_P_landOn, 0, [.ref 3, .int v7], []), (z_L_entered, 73, [.ref 1, .int v1, .int v2, .int v3, .int v4, .int v5, .int v6, .int v7], [])] (hp L xs A V K T) v h')) : am_fin [(z_L_entered, 52, [.ref 1, .int v1, .int v2, .int v3, .int v4, .int v5, .int v6, .int v7], [])] (hp L xs A V K T) v h' :=
  fn_iload rl_L_entered_52 rfl (fn_iload_n rl_L_entered_54 rfl (fn_stat (as := [.int v2]) (r := [.int v7]) (ls' := [.int v2]) rl_L_entered_55 rfl rfl rfl rfl pl_L_lastOf rfl rfl (fn_iload_n rl_L_lastOf_0 rfl (fn_sipush rl_L_lastOf_1 (fn_imul rl_L_lastOf_4 (fn_sipush rl_L_lastOf_5 (fn_iadd rl_L_lastOf_8 (fn_iconst rl_L_lastOf_9 (fn_isub rl_L_lastOf_10 (fn_retci rl_L_lastOf_11 rfl (fn_icmp_gt rl_L_entered_58 (fun k182 => fn_iload_n rl_L_entered_119 rfl (fn_if_ne rl_L_entered_120 (fun k180 => fn_iload rl_L_entered_123 rfl (fn_reti rl_L_entered_125 rfl k180)) (fun k181 => fn_iload_n rl_L_entered_126 rfl (fn_iconst rl_L_entered_127 (fn_icmp_ne rl_L_entered_128 (fun k178 => fn_iload rl_L_entered_131 rfl (fn_if_le rl_L_entered_133 (fun k176 => fn_iconst rl_L_entered_148 (fn_reti rl_L_entered_149 rfl k176)) (fun k177 => fn_iload rl_L_entered_136 rfl (fn_iload rl_L_entered_138 rfl (fn_isub rl_L_entered_140 (fn_iconst rl_L_entered_141 (fn_max rl_L_entered_142 rfl (fn_goto rl_L_entered_145 (fn_reti rl_L_entered_149 rfl k177))))))) k178)) (fun k179 => fn_iload rl_L_entered_150 rfl (fn_reti rl_L_entered_152 rfl k179)) k181))) k182)) (fun k183 => fn_aload_n rl_L_entered_61 rfl (fn_get rl_L_entered_62 hp_1 rfl (fn_get rl_L_entered_65 hp_2 rfl (fn_iload rl_L_entered_68 rfl (fn_virt (as := [.ref 3, .int v7]) (r := []) (ls' := [.ref 3, .int v7]) rl_L_entered_70 rfl hp_3 rfl rfl pl_P_landOn rfl rfl (k183)))))) k0)))))))))))
set_option maxRecDepth 100000 in
set_option maxHeartbeats 4000000 in
theorem sg_L_entered_73r {L : Nat} {xs : Nat → Int32} {A V : Nat → Nat → Int32} {K : Nat → Option Nat} {T : am_H} {v : Option Int32} {h' : am_H} {v1 v2 v3 v4 v5 v6 v7 r : Int32} (k0 :
    if r = v1 then (
      am_fin [(z_P_startsStay, 0, [.ref 3, .int v7], []), (z_L_entered, 89, [.ref 1, .int v1, .int v2, .int v3, .int v4, .int v5, .int v6, .int v7], [])] (hp L xs A V K T) v h')
    else (
      am_fin [(z_L_entered, 52, [.ref 1, .int v1, .int v2, .int v3, .int v4, .int v5, .int v6, .int (v7 + 1)], [])] (hp L xs A V K T) v h')) : am_fin [(z_L_entered, 73, [.ref 1, .int v1, .int v2, .int v3, .int v4, .int v5, .int v6, .int v7], [.int r])] (hp L xs A V K T) v h' :=
  fn_iload_n rl_L_entered_73 rfl (fn_icmp_ne rl_L_entered_74 (fun k184 => fn_aload_n rl_L_entered_77 rfl (fn_get rl_L_entered_78 hp_1 rfl (fn_get rl_L_entered_81 hp_2 rfl (fn_iload rl_L_entered_84 rfl (fn_virt (as := [.ref 3, .int v7]) (r := []) (ls' := [.ref 3, .int v7]) rl_L_entered_86 rfl hp_3 rfl rfl pl_P_startsStay rfl rfl (k184)))))) (fun k185 => fn_iinc (ls' := [.ref 1, .int v1, .int v2, .int v3, .int v4, .int v5, .int v6, .int (v7 + 1)]) rl_L_entered_113 rfl rfl rfl (fn_goto rl_L_entered_116 (k185))) k0)
set_option maxRecDepth 100000 in
set_option maxHeartbeats 4000000 in
theorem sg_L_entered_89r {L : Nat} {xs : Nat → Int32} {A V : Nat → Nat → Int32} {K : Nat → Option Nat} {T : am_H} {v : Option Int32} {h' : am_H} {v1 v2 v3 v4 v5 v6 v7 r : Int32} (k0 :
    if r = 0 then (
      am_fin [(z_L_entered, 52, [.ref 1, .int v1, .int v2, .int v3, .int v4, .int v5, .int v6, .int (v7 + 1)], [])] (hp L xs A V K T) v h')
    else (
      if v4 ≤ 0 then (
        am_fin [(z_L_entered, 52, [.ref 1, .int v1, .int v2, .int v3, .int v4, .int (v5 + 1), .int v6, .int (v7 + 1)], [])] (hp L xs A V K T) v h')
      else (
        if (v5 + 1) = (v4 + 1) then (
          am_fin [(z_L_entered, 52, [.ref 1, .int v1, .int v2, .int v3, .int v4, .int (v5 + 1), .int v7, .int (v7 + 1)], [])] (hp L xs A V K T) v h')
        else (
          am_fin [(z_L_entered, 52, [.ref 1, .int v1, .int v2, .int v3, .int v4, .int (v5 + 1), .int v6, .int (v7 + 1)], [])] (hp L xs A V K T) v h')))) : am_fin [(z_L_entered, 89, [.ref 1, .int v1, .int v2, .int v3, .int v4, .int v5, .int v6, .int v7], [.int r])] (hp L xs A V K T) v h' :=
  fn_if_eq rl_L_entered_89 (fun k190 => fn_iinc (ls' := [.ref 1, .int v1, .int v2, .int v3, .int v4, .int v5, .int v6, .int (v7 + 1)]) rl_L_entered_113 rfl rfl rfl (fn_goto rl_L_entered_116 (k190))) (fun k191 => fn_iinc (ls' := [.ref 1, .int v1, .int v2, .int v3, .int v4, .int (v5 + 1), .int v6, .int v7]) rl_L_entered_92 rfl rfl rfl (fn_iload rl_L_entered_95 rfl (fn_if_le rl_L_entered_97 (fun k188 => fn_iinc (ls' := [.ref 1, .int v1, .int v2, .int v3, .int v4, .int (v5 + 1), .int v6, .int (v7 + 1)]) rl_L_entered_113 rfl rfl rfl (fn_goto rl_L_entered_116 (k188))) (fun k189 => fn_iload rl_L_entered_100 rfl (fn_iload rl_L_entered_102 rfl (fn_iconst rl_L_entered_104 (fn_iadd rl_L_entered_105 (fn_icmp_ne rl_L_entered_106 (fun k186 => fn_iload rl_L_entered_109 rfl (fn_istore (ls' := [.ref 1, .int v1, .int v2, .int v3, .int v4, .int (v5 + 1), .int v7, .int v7]) rl_L_entered_111 rfl rfl (fn_iinc (ls' := [.ref 1, .int v1, .int v2, .int v3, .int v4, .int (v5 + 1), .int v7, .int (v7 + 1)]) rl_L_entered_113 rfl rfl rfl (fn_goto rl_L_entered_116 (k186))))) (fun k187 => fn_iinc (ls' := [.ref 1, .int v1, .int v2, .int v3, .int v4, .int (v5 + 1), .int v6, .int (v7 + 1)]) rl_L_entered_113 rfl rfl rfl (fn_goto rl_L_entered_116 (k187))) k189))))) k191))) k0
set_option maxRecDepth 100000 in
set_option maxHeartbeats 4000000 in
theorem sg_L_treaty_0 {L : Nat} {xs : Nat → Int32} {A V : Nat → Nat → Int32} {K : Nat → Option Nat} {T : am_H} {v : Option Int32} {h' : am_H} {a1 a2 a3 : Int32} (k0 :
    if a1 < 0 then (
      v = some 0 ∧ h' = hp L xs A V K T)
    else (
      if 5 < a1 then (
        v = some 0 ∧ h' = hp L xs A V K T)
      else (
        if a2 < 0 then (
          v = some 0 ∧ h' = hp L xs A V K T)
        else (
          if 5 < a2 then (
            v = some 0 ∧ h' = hp L xs A V K T)
          else (
            if a1 = a2 then (
              v = some 0 ∧ h' = hp L xs A V K T)
            else (
              if a3 < 0 then (
                v = some 0 ∧ h' = hp L xs A V K T)
              else (
                if 4 < a3 then (
                  v = some 0 ∧ h' = hp L xs A V K T)
                else (
                  if (V 19 1) < a3 then (
                    v = some 0 ∧ h' = hp L xs A V K T)
                  else (
                    am_fin [(z_T_takeRow, 0, [.ref 19, .int a3, .null, .null, .null, .null], []), (z_L_treaty, 26, [.ref 1, .int a1, .int a2, .int a3, .null], [])] (hp L xs A V K T) v h'))))))))) : am_fin [(z_L_treaty, 0, [.ref 1, .int a1, .int a2, .int a3, .null], [])] (hp L xs A V K T) v h' :=
  fn_iload_n rl_L_treaty_0 rfl (fn_iload_n rl_L_treaty_1 rfl (fn_stat (as := [.int a1, .int a2]) (r := []) (ls' := [.int a1, .int a2]) rl_L_treaty_2 rfl rfl rfl rfl pl_L_isPair rfl rfl (fn_iload_n rl_L_isPair_0 rfl (fn_stat (as := [.int a1]) (r := []) (ls' := [.int a1]) rl_L_isPair_1 rfl rfl rfl rfl pl_L_isLand rfl rfl (fn_iload_n rl_L_isLand_0 rfl (fn_iconst rl_L_isLand_1 (fn_iconst rl_L_isLand_2 (fn_stat (as := [.int a1, .int 0, .int 5]) (r := []) (ls' := [.int a1, .int 0, .int 5]) rl_L_isLand_3 rfl rfl rfl rfl pl_L_isAmong rfl rfl (fn_iload_n rl_L_isAmong_0 rfl (fn_iload_n rl_L_isAmong_1 rfl (fn_icmp_lt rl_L_isAmong_2 (fun k206 => fn_iconst rl_L_isAmong_14 (fn_retci rl_L_isAmong_15 rfl (fn_retci rl_L_isLand_6 rfl (fn_if_eq_t rl_L_isPair_4 (by decide +kernel) (fn_iconst rl_L_isPair_23 (fn_retci rl_L_isPair_24 rfl (fn_if_eq_t rl_L_treaty_5 (by decide +kernel) (fn_iconst rl_L_treaty_16 (fn_reti rl_L_treaty_17 rfl k206))))))))) (fun k207 => fn_iload_n rl_L_isAmong_5 rfl (fn_iload_n rl_L_isAmong_6 rfl (fn_icmp_gt rl_L_isAmong_7 (fun k204 => fn_iconst rl_L_isAmong_14 (fn_retci rl_L_isAmong_15 rfl (fn_retci rl_L_isLand_6 rfl (fn_if_eq_t rl_L_isPair_4 (by decide +kernel) (fn_iconst rl_L_isPair_23 (fn_retci rl_L_isPair_24 rfl (fn_if_eq_t rl_L_treaty_5 (by decide +kernel) (fn_iconst rl_L_treaty_16 (fn_reti rl_L_treaty_17 rfl k204))))))))) (fun k205 => fn_iconst rl_L_isAmong_10 (fn_goto rl_L_isAmong_11 (fn_retci rl_L_isAmong_15 rfl (fn_retci rl_L_isLand_6 rfl (fn_if_eq_f rl_L_isPair_4 (by decide +kernel) (fn_iload_n rl_L_isPair_7 rfl (fn_stat (as := [.int a2]) (r := []) (ls' := [.int a2]) rl_L_isPair_8 rfl rfl rfl rfl pl_L_isLand rfl rfl (fn_iload_n rl_L_isLand_0 rfl (fn_iconst rl_L_isLand_1 (fn_iconst rl_L_isLand_2 (fn_stat (as := [.int a2, .int 0, .int 5]) (r := []) (ls' := [.int a2, .int 0, .int 5]) rl_L_isLand_3 rfl rfl rfl rfl pl_L_isAmong rfl rfl (fn_iload_n rl_L_isAmong_0 rfl (fn_iload_n rl_L_isAmong_1 rfl (fn_icmp_lt rl_L_isAmong_2 (fun k202 => fn_iconst rl_L_isAmong_14 (fn_retci rl_L_isAmong_15 rfl (fn_retci rl_L_isLand_6 rfl (fn_if_eq_t rl_L_isPair_11 (by decide +kernel) (fn_iconst rl_L_isPair_23 (fn_retci rl_L_isPair_24 rfl (fn_if_eq_t rl_L_treaty_5 (by decide +kernel) (fn_iconst rl_L_treaty_16 (fn_reti rl_L_treaty_17 rfl k202))))))))) (fun k203 => fn_iload_n rl_L_isAmong_5 rfl (fn_iload_n rl_L_isAmong_6 rfl (fn_icmp_gt rl_L_isAmong_7 (fun k200 => fn_iconst rl_L_isAmong_14 (fn_retci rl_L_isAmong_15 rfl (fn_retci rl_L_isLand_6 rfl (fn_if_eq_t rl_L_isPair_11 (by decide +kernel) (fn_iconst rl_L_isPair_23 (fn_retci rl_L_isPair_24 rfl (fn_if_eq_t rl_L_treaty_5 (by decide +kernel) (fn_iconst rl_L_treaty_16 (fn_reti rl_L_treaty_17 rfl k200))))))))) (fun k201 => fn_iconst rl_L_isAmong_10 (fn_goto rl_L_isAmong_11 (fn_retci rl_L_isAmong_15 rfl (fn_retci rl_L_isLand_6 rfl (fn_if_eq_f rl_L_isPair_11 (by decide +kernel) (fn_iload_n rl_L_isPair_14 rfl (fn_iload_n rl_L_isPair_15 rfl (fn_icmp_eq rl_L_isPair_16 (fun k198 => fn_iconst rl_L_isPair_23 (fn_retci rl_L_isPair_24 rfl (fn_if_eq_t rl_L_treaty_5 (by decide +kernel) (fn_iconst rl_L_treaty_16 (fn_reti rl_L_treaty_17 rfl k198))))) (fun k199 => fn_iconst rl_L_isPair_19 (fn_goto rl_L_isPair_20 (fn_retci rl_L_isPair_24 rfl (fn_if_eq_f rl_L_treaty_5 (by decide +kernel) (fn_aload_n rl_L_treaty_8 rfl (fn_iload_n rl_L_treaty_9 rfl (fn_virt (as := [.ref 1, .int a3]) (r := []) (ls' := [.ref 1, .int a3]) rl_L_treaty_10 rfl hp_1 rfl rfl pl_L_isRow rfl rfl (fn_iload_n rl_L_isRow_0 rfl (fn_iconst rl_L_isRow_1 (fn_iconst rl_L_isRow_2 (fn_stat (as := [.int a3, .int 0, .int 4]) (r := []) (ls' := [.int a3, .int 0, .int 4]) rl_L_isRow_3 rfl rfl rfl rfl pl_L_isAmong rfl rfl (fn_iload_n rl_L_isAmong_0 rfl (fn_iload_n rl_L_isAmong_1 rfl (fn_icmp_lt rl_L_isAmong_2 (fun k196 => fn_iconst rl_L_isAmong_14 (fn_retci rl_L_isAmong_15 rfl (fn_if_eq_t rl_L_isRow_6 (by decide +kernel) (fn_iconst rl_L_isRow_24 (fn_retci rl_L_isRow_25 rfl (fn_if_ne_t rl_L_treaty_13 (by decide +kernel) (fn_iconst rl_L_treaty_16 (fn_reti rl_L_treaty_17 rfl k196)))))))) (fun k197 => fn_iload_n rl_L_isAmong_5 rfl (fn_iload_n rl_L_isAmong_6 rfl (fn_icmp_gt rl_L_isAmong_7 (fun k194 => fn_iconst rl_L_isAmong_14 (fn_retci rl_L_isAmong_15 rfl (fn_if_eq_t rl_L_isRow_6 (by decide +kernel) (fn_iconst rl_L_isRow_24 (fn_retci rl_L_isRow_25 rfl (fn_if_ne_t rl_L_treaty_13 (by decide +kernel) (fn_iconst rl_L_treaty_16 (fn_reti rl_L_treaty_17 rfl k194)))))))) (fun k195 => fn_iconst rl_L_isAmong_10 (fn_goto rl_L_isAmong_11 (fn_retci rl_L_isAmong_15 rfl (fn_if_eq_f rl_L_isRow_6 (by decide +kernel) (fn_iload_n rl_L_isRow_9 rfl (fn_aload_n rl_L_isRow_10 rfl (fn_get rl_L_isRow_11 hp_1 rfl (fn_get rl_L_isRow_14 hp_19 rfl (fn_icmp_gt rl_L_isRow_17 (fun k192 => fn_iconst rl_L_isRow_24 (fn_retci rl_L_isRow_25 rfl (fn_if_ne_t rl_L_treaty_13 (by decide +kernel) (fn_iconst rl_L_treaty_16 (fn_reti rl_L_treaty_17 rfl k192))))) (fun k193 => fn_iconst rl_L_isRow_20 (fn_goto rl_L_isRow_21 (fn_retci rl_L_isRow_25 rfl (fn_if_ne_f rl_L_treaty_13 (by decide +kernel) (fn_aload_n rl_L_treaty_18 rfl (fn_get rl_L_treaty_19 hp_1 rfl (fn_iload_n rl_L_treaty_22 rfl (fn_virt (as := [.ref 19, .int a3]) (r := []) (ls' := [.ref 19, .int a3, .null, .null, .null, .null]) rl_L_treaty_23 rfl hp_19 rfl rfl pl_T_takeRow rfl rfl (k193))))))))) k195))))))))) k197))) k199)))))))))))))) k201)))))))) k203))) k205)))))))))))))) k207))) k0)))))))))))
set_option maxRecDepth 100000 in
set_option maxHeartbeats 4000000 in
theorem sg_L_treaty_26r {L : Nat} {xs : Nat → Int32} {A V : Nat → Nat → Int32} {K : Nat → Option Nat} {T : am_H} {v : Option Int32} {h' : am_H} {v1 v2 v3 r : Int32} (k0 :
    if r = (-1) then (
      v = some 0 ∧ h' = hp L xs A V K T)
    else (
      ¬ (((v1 * 6) + v2) < 0 ∨ 36 ≤ ((v1 * 6) + v2).toNatClampNeg) ∧ (
      ¬ (((v2 * 6) + v1) < 0 ∨ 36 ≤ ((v2 * 6) + v1).toNatClampNeg) ∧ (
      v = some 1 ∧ h' = hp L xs (upA (upA A 17 (upd (A 17) ((v1 * 6) + v2).toNatClampNeg r)) 17 (upd ((upA A 17 (upd (A 17) ((v1 * 6) + v2).toNatClampNeg r)) 17) ((v2 * 6) + v1).toNatClampNeg r)) V K T)))) : am_fin [(z_L_treaty, 26, [.ref 1, .int v1, .int v2, .int v3, .null], [.int r])] (hp L xs A V K T) v h' :=
  fn_istore (ls' := [.ref 1, .int v1, .int v2, .int v3, .int r]) rl_L_treaty_26 rfl rfl (fn_iload rl_L_treaty_28 rfl (fn_iconst rl_L_treaty_30 (fn_icmp_ne rl_L_treaty_31 (fun k210 => fn_iconst rl_L_treaty_34 (fn_reti rl_L_treaty_35 rfl k210)) (fun k211 => fn_aload_n rl_L_treaty_36 rfl (fn_get rl_L_treaty_37 hp_1 rfl (fn_get rl_L_treaty_40 hp_2 rfl (fn_iload_n rl_L_treaty_43 rfl (fn_iload_n rl_L_treaty_44 rfl (fn_iload rl_L_treaty_45 rfl (fn_virt (as := [.ref 10, .int v1, .int v2, .int r]) (r := []) (ls' := [.ref 10, .int v1, .int v2, .int r]) rl_L_treaty_47 rfl hp_10 rfl rfl pl_R_setTreaty rfl rfl (fn_aload_n rl_R_setTreaty_0 rfl (fn_get rl_R_setTreaty_1 hp_10 rfl (fn_iload_n rl_R_setTreaty_4 rfl (fn_bipush rl_R_setTreaty_5 (fn_imul rl_R_setTreaty_7 (fn_iload_n rl_R_setTreaty_8 rfl (fn_iadd rl_R_setTreaty_9 (fn_iload_n rl_R_setTreaty_10 rfl (fn_iast rl_R_setTreaty_11 hp_17 hps_17 (fun k209 => fn_aload_n rl_R_setTreaty_12 rfl (fn_get rl_R_setTreaty_13 hp_10 rfl (fn_iload_n rl_R_setTreaty_16 rfl (fn_bipush rl_R_setTreaty_17 (fn_imul rl_R_setTreaty_19 (fn_iload_n rl_R_setTreaty_20 rfl (fn_iadd rl_R_setTreaty_21 (fn_iload_n rl_R_setTreaty_22 rfl (fn_iast rl_R_setTreaty_23 hp_17 hps_17 (fun k208 => fn_retcv rl_R_setTreaty_24 (fn_iconst rl_L_treaty_50 (fn_reti rl_L_treaty_51 rfl k208))) k209))))))))) k211)))))))))))))))) k0)))
set_option maxRecDepth 100000 in
set_option maxHeartbeats 4000000 in
theorem sg_L_without_0 {L : Nat} {xs : Nat → Int32} {A V : Nat → Nat → Int32} {K : Nat → Option Nat} {T : am_H} {v : Option Int32} {h' : am_H} {a1 a2 : Int32} (k0 :
    if a1 < 0 then (
      v = some 0 ∧ h' = hp L xs A V K T)
    else (
      if 5 < a1 then (
        v = some 0 ∧ h' = hp L xs A V K T)
      else (
        if a2 < 0 then (
          v = some 0 ∧ h' = hp L xs A V K T)
        else (
          if 5 < a2 then (
            v = some 0 ∧ h' = hp L xs A V K T)
          else (
            if a1 = a2 then (
              v = some 0 ∧ h' = hp L xs A V K T)
            else (
              ¬ (((a1 * 6) + a2) < 0 ∨ 36 ≤ ((a1 * 6) + a2).toNatClampNeg) ∧ (
              if ((A 17) ((a1 * 6) + a2).toNatClampNeg) = (-1) then (
                v = some 0 ∧ h' = hp L xs A V K T)
              else (
                ¬ (((a1 * 6) + a2) < 0 ∨ 36 ≤ ((a1 * 6) + a2).toNatClampNeg) ∧ (
                ¬ (((a2 * 6) + a1) < 0 ∨ 36 ≤ ((a2 * 6) + a1).toNatClampNeg) ∧ (
                v = some 1 ∧ h' = hp L xs (upA (upA A 17 (upd (A 17) ((a1 * 6) + a2).toNatClampNeg (-1))) 17 (upd ((upA A 17 (upd (A 17) ((a1 * 6) + a2).toNatClampNeg (-1))) 17) ((a2 * 6) + a1).toNatClampNeg (-1))) V K T)))))))))) : am_fin [(z_L_without, 0, [.ref 1, .int a1, .int a2], [])] (hp L xs A V K T) v h' :=
  fn_iload_n rl_L_without_0 rfl (fn_iload_n rl_L_without_1 rfl (fn_stat (as := [.int a1, .int a2]) (r := []) (ls' := [.int a1, .int a2]) rl_L_without_2 rfl rfl rfl rfl pl_L_isPair rfl rfl (fn_iload_n rl_L_isPair_0 rfl (fn_stat (as := [.int a1]) (r := []) (ls' := [.int a1]) rl_L_isPair_1 rfl rfl rfl rfl pl_L_isLand rfl rfl (fn_iload_n rl_L_isLand_0 rfl (fn_iconst rl_L_isLand_1 (fn_iconst rl_L_isLand_2 (fn_stat (as := [.int a1, .int 0, .int 5]) (r := []) (ls' := [.int a1, .int 0, .int 5]) rl_L_isLand_3 rfl rfl rfl rfl pl_L_isAmong rfl rfl (fn_iload_n rl_L_isAmong_0 rfl (fn_iload_n rl_L_isAmong_1 rfl (fn_icmp_lt rl_L_isAmong_2 (fun k225 => fn_iconst rl_L_isAmong_14 (fn_retci rl_L_isAmong_15 rfl (fn_retci rl_L_isLand_6 rfl (fn_if_eq_t rl_L_isPair_4 (by decide +kernel) (fn_iconst rl_L_isPair_23 (fn_retci rl_L_isPair_24 rfl (fn_if_eq_t rl_L_without_5 (by decide +kernel) (fn_iconst rl_L_without_24 (fn_reti rl_L_without_25 rfl k225))))))))) (fun k226 => fn_iload_n rl_L_isAmong_5 rfl (fn_iload_n rl_L_isAmong_6 rfl (fn_icmp_gt rl_L_isAmong_7 (fun k223 => fn_iconst rl_L_isAmong_14 (fn_retci rl_L_isAmong_15 rfl (fn_retci rl_L_isLand_6 rfl (fn_if_eq_t rl_L_isPair_4 (by decide +kernel) (fn_iconst rl_L_isPair_23 (fn_retci rl_L_isPair_24 rfl (fn_if_eq_t rl_L_without_5 (by decide +kernel) (fn_iconst rl_L_without_24 (fn_reti rl_L_without_25 rfl k223))))))))) (fun k224 => fn_iconst rl_L_isAmong_10 (fn_goto rl_L_isAmong_11 (fn_retci rl_L_isAmong_15 rfl (fn_retci rl_L_isLand_6 rfl (fn_if_eq_f rl_L_isPair_4 (by decide +kernel) (fn_iload_n rl_L_isPair_7 rfl (fn_stat (as := [.int a2]) (r := []) (ls' := [.int a2]) rl_L_isPair_8 rfl rfl rfl rfl pl_L_isLand rfl rfl (fn_iload_n rl_L_isLand_0 rfl (fn_iconst rl_L_isLand_1 (fn_iconst rl_L_isLand_2 (fn_stat (as := [.int a2, .int 0, .int 5]) (r := []) (ls' := [.int a2, .int 0, .int 5]) rl_L_isLand_3 rfl rfl rfl rfl pl_L_isAmong rfl rfl (fn_iload_n rl_L_isAmong_0 rfl (fn_iload_n rl_L_isAmong_1 rfl (fn_icmp_lt rl_L_isAmong_2 (fun k221 => fn_iconst rl_L_isAmong_14 (fn_retci rl_L_isAmong_15 rfl (fn_retci rl_L_isLand_6 rfl (fn_if_eq_t rl_L_isPair_11 (by decide +kernel) (fn_iconst rl_L_isPair_23 (fn_retci rl_L_isPair_24 rfl (fn_if_eq_t rl_L_without_5 (by decide +kernel) (fn_iconst rl_L_without_24 (fn_reti rl_L_without_25 rfl k221))))))))) (fun k222 => fn_iload_n rl_L_isAmong_5 rfl (fn_iload_n rl_L_isAmong_6 rfl (fn_icmp_gt rl_L_isAmong_7 (fun k219 => fn_iconst rl_L_isAmong_14 (fn_retci rl_L_isAmong_15 rfl (fn_retci rl_L_isLand_6 rfl (fn_if_eq_t rl_L_isPair_11 (by decide +kernel) (fn_iconst rl_L_isPair_23 (fn_retci rl_L_isPair_24 rfl (fn_if_eq_t rl_L_without_5 (by decide +kernel) (fn_iconst rl_L_without_24 (fn_reti rl_L_without_25 rfl k219))))))))) (fun k220 => fn_iconst rl_L_isAmong_10 (fn_goto rl_L_isAmong_11 (fn_retci rl_L_isAmong_15 rfl (fn_retci rl_L_isLand_6 rfl (fn_if_eq_f rl_L_isPair_11 (by decide +kernel) (fn_iload_n rl_L_isPair_14 rfl (fn_iload_n rl_L_isPair_15 rfl (fn_icmp_eq rl_L_isPair_16 (fun k217 => fn_iconst rl_L_isPair_23 (fn_retci rl_L_isPair_24 rfl (fn_if_eq_t rl_L_without_5 (by decide +kernel) (fn_iconst rl_L_without_24 (fn_reti rl_L_without_25 rfl k217))))) (fun k218 => fn_iconst rl_L_isPair_19 (fn_goto rl_L_isPair_20 (fn_retci rl_L_isPair_24 rfl (fn_if_eq_f rl_L_without_5 (by decide +kernel) (fn_aload_n rl_L_without_8 rfl (fn_get rl_L_without_9 hp_1 rfl (fn_get rl_L_without_12 hp_2 rfl (fn_iload_n rl_L_without_15 rfl (fn_iload_n rl_L_without_16 rfl (fn_virt (as := [.ref 10, .int a1, .int a2]) (r := []) (ls' := [.ref 10, .int a1, .int a2]) rl_L_without_17 rfl hp_10 rfl rfl pl_R_treatyRow rfl rfl (fn_aload_n rl_R_treatyRow_0 rfl (fn_get rl_R_treatyRow_1 hp_10 rfl (fn_iload_n rl_R_treatyRow_4 rfl (fn_bipush rl_R_treatyRow_5 (fn_imul rl_R_treatyRow_7 (fn_iload_n rl_R_treatyRow_8 rfl (fn_iadd rl_R_treatyRow_9 (fn_iald rl_R_treatyRow_10 hp_17 (fun k216 => fn_retci rl_R_treatyRow_11 rfl (fn_iconst rl_L_without_20 (fn_icmp_ne rl_L_without_21 (fun k214 => fn_iconst rl_L_without_24 (fn_reti rl_L_without_25 rfl k214)) (fun k215 => fn_aload_n rl_L_without_26 rfl (fn_get rl_L_without_27 hp_1 rfl (fn_get rl_L_without_30 hp_2 rfl (fn_iload_n rl_L_without_33 rfl (fn_iload_n rl_L_without_34 rfl (fn_iconst rl_L_without_35 (fn_virt (as := [.ref 10, .int a1, .int a2, .int (-1)]) (r := []) (ls' := [.ref 10, .int a1, .int a2, .int (-1)]) rl_L_without_36 rfl hp_10 rfl rfl pl_R_setTreaty rfl rfl (fn_aload_n rl_R_setTreaty_0 rfl (fn_get rl_R_setTreaty_1 hp_10 rfl (fn_iload_n rl_R_setTreaty_4 rfl (fn_bipush rl_R_setTreaty_5 (fn_imul rl_R_setTreaty_7 (fn_iload_n rl_R_setTreaty_8 rfl (fn_iadd rl_R_setTreaty_9 (fn_iload_n rl_R_setTreaty_10 rfl (fn_iast rl_R_setTreaty_11 hp_17 hps_17 (fun k213 => fn_aload_n rl_R_setTreaty_12 rfl (fn_get rl_R_setTreaty_13 hp_10 rfl (fn_iload_n rl_R_setTreaty_16 rfl (fn_bipush rl_R_setTreaty_17 (fn_imul rl_R_setTreaty_19 (fn_iload_n rl_R_setTreaty_20 rfl (fn_iadd rl_R_setTreaty_21 (fn_iload_n rl_R_setTreaty_22 rfl (fn_iast rl_R_setTreaty_23 hp_17 hps_17 (fun k212 => fn_retcv rl_R_setTreaty_24 (fn_iconst rl_L_without_39 (fn_reti rl_L_without_40 rfl k212))) k213))))))))) k215)))))))))))))))) k216))) k218)))))))))))))))))) k220)))))))) k222))) k224)))))))))))))) k226))) k0)))))))))))
set_option maxRecDepth 100000 in
set_option maxHeartbeats 4000000 in
theorem sg_L_tax_0 {L : Nat} {xs : Nat → Int32} {A V : Nat → Nat → Int32} {K : Nat → Option Nat} {T : am_H} {v : Option Int32} {h' : am_H} {a1 a2 : Int32} (k0 :
    if a1 < 0 then (
      v = some (-1) ∧ h' = hp L xs A V K T)
    else (
      if 5 < a1 then (
        v = some (-1) ∧ h' = hp L xs A V K T)
      else (
        if a2 < 0 then (
          v = some (-1) ∧ h' = hp L xs A V K T)
        else (
          if 60 < a2 then (
            v = some (-1) ∧ h' = hp L xs A V K T)
          else (
            ¬ (a1 < 0 ∨ 6 ≤ a1.toNatClampNeg) ∧ (
            ¬ (a1 < 0 ∨ 6 ≤ a1.toNatClampNeg) ∧ (
            v = some ((A 14) a1.toNatClampNeg) ∧ h' = hp L xs (upA A 14 (upd (A 14) a1.toNatClampNeg a2)) V K T))))))) : am_fin [(z_L_tax, 0, [.ref 1, .int a1, .int a2, .null], [])] (hp L xs A V K T) v h' :=
  fn_iload_n rl_L_tax_0 rfl (fn_stat (as := [.int a1]) (r := []) (ls' := [.int a1]) rl_L_tax_1 rfl rfl rfl rfl pl_L_isLand rfl rfl (fn_iload_n rl_L_isLand_0 rfl (fn_iconst rl_L_isLand_1 (fn_iconst rl_L_isLand_2 (fn_stat (as := [.int a1, .int 0, .int 5]) (r := []) (ls' := [.int a1, .int 0, .int 5]) rl_L_isLand_3 rfl rfl rfl rfl pl_L_isAmong rfl rfl (fn_iload_n rl_L_isAmong_0 rfl (fn_iload_n rl_L_isAmong_1 rfl (fn_icmp_lt rl_L_isAmong_2 (fun k235 => fn_iconst rl_L_isAmong_14 (fn_retci rl_L_isAmong_15 rfl (fn_retci rl_L_isLand_6 rfl (fn_if_eq_t rl_L_tax_4 (by decide +kernel) (fn_iconst rl_L_tax_17 (fn_reti rl_L_tax_18 rfl k235)))))) (fun k236 => fn_iload_n rl_L_isAmong_5 rfl (fn_iload_n rl_L_isAmong_6 rfl (fn_icmp_gt rl_L_isAmong_7 (fun k233 => fn_iconst rl_L_isAmong_14 (fn_retci rl_L_isAmong_15 rfl (fn_retci rl_L_isLand_6 rfl (fn_if_eq_t rl_L_tax_4 (by decide +kernel) (fn_iconst rl_L_tax_17 (fn_reti rl_L_tax_18 rfl k233)))))) (fun k234 => fn_iconst rl_L_isAmong_10 (fn_goto rl_L_isAmong_11 (fn_retci rl_L_isAmong_15 rfl (fn_retci rl_L_isLand_6 rfl (fn_if_eq_f rl_L_tax_4 (by decide +kernel) (fn_iload_n rl_L_tax_7 rfl (fn_iconst rl_L_tax_8 (fn_bipush rl_L_tax_9 (fn_stat (as := [.int a2, .int 0, .int 60]) (r := []) (ls' := [.int a2, .int 0, .int 60]) rl_L_tax_11 rfl rfl rfl rfl pl_L_isAmong rfl rfl (fn_iload_n rl_L_isAmong_0 rfl (fn_iload_n rl_L_isAmong_1 rfl (fn_icmp_lt rl_L_isAmong_2 (fun k231 => fn_iconst rl_L_isAmong_14 (fn_retci rl_L_isAmong_15 rfl (fn_if_ne_t rl_L_tax_14 (by decide +kernel) (fn_iconst rl_L_tax_17 (fn_reti rl_L_tax_18 rfl k231))))) (fun k232 => fn_iload_n rl_L_isAmong_5 rfl (fn_iload_n rl_L_isAmong_6 rfl (fn_icmp_gt rl_L_isAmong_7 (fun k229 => fn_iconst rl_L_isAmong_14 (fn_retci rl_L_isAmong_15 rfl (fn_if_ne_t rl_L_tax_14 (by decide +kernel) (fn_iconst rl_L_tax_17 (fn_reti rl_L_tax_18 rfl k229))))) (fun k230 => fn_iconst rl_L_isAmong_10 (fn_goto rl_L_isAmong_11 (fn_retci rl_L_isAmong_15 rfl (fn_if_ne_f rl_L_tax_14 (by decide +kernel) (fn_aload_n rl_L_tax_19 rfl (fn_get rl_L_tax_20 hp_1 rfl (fn_get rl_L_tax_23 hp_2 rfl (fn_get rl_L_tax_26 hp_10 rfl (fn_iload_n rl_L_tax_29 rfl (fn_iald rl_L_tax_30 hp_14 (fun k228 => fn_istore_n (ls' := [.ref 1, .int a1, .int a2, .int ((A 14) a1.toNatClampNeg)]) rl_L_tax_31 rfl rfl (fn_aload_n rl_L_tax_32 rfl (fn_get rl_L_tax_33 hp_1 rfl (fn_get rl_L_tax_36 hp_2 rfl (fn_get rl_L_tax_39 hp_10 rfl (fn_iload_n rl_L_tax_42 rfl (fn_iload_n rl_L_tax_43 rfl (fn_iast rl_L_tax_44 hp_14 hps_14 (fun k227 => fn_iload_n rl_L_tax_45 rfl (fn_reti rl_L_tax_46 rfl k227)) k228)))))))) k230)))))))))) k232))) k234)))))))))))) k236))) k0))))))))
set_option maxRecDepth 100000 in
set_option maxHeartbeats 4000000 in
theorem sg_L_told_0 {L : Nat} {xs : Nat → Int32} {A V : Nat → Nat → Int32} {K : Nat → Option Nat} {T : am_H} {v : Option Int32} {h' : am_H} {a1 a2 : Int32} (k0 :
    if a1 < 0 then (
      v = some (-1) ∧ h' = hp L xs A V K T)
    else (
      if 5 < a1 then (
        v = some (-1) ∧ h' = hp L xs A V K T)
      else (
        if a2 < 0 then (
          v = some (-1) ∧ h' = hp L xs A V K T)
        else (
          if 11 < a2 then (
            v = some (-1) ∧ h' = hp L xs A V K T)
          else (
            if a2 = 0 then (
              ¬ (a1 < 0 ∨ 6 ≤ a1.toNatClampNeg) ∧ (
              v = some ((A 11) a1.toNatClampNeg) ∧ h' = hp L xs A V K T))
            else (
              if a2 = 1 then (
              ¬ (a1 < 0 ∨ 6 ≤ a1.toNatClampNeg) ∧ (
              v = some ((A 12) a1.toNatClampNeg) ∧ h' = hp L xs A V K T))
            else (
              if a2 = 2 then (
              ¬ (((a1 * 3) + (a2 - 2)) < 0 ∨ 18 ≤ ((a1 * 3) + (a2 - 2)).toNatClampNeg) ∧ (
              v = some ((A 13) ((a1 * 3) + (a2 - 2)).toNatClampNeg) ∧ h' = hp L xs A V K T))
            else (
              if a2 = 3 then (
              ¬ (((a1 * 3) + (a2 - 2)) < 0 ∨ 18 ≤ ((a1 * 3) + (a2 - 2)).toNatClampNeg) ∧ (
              v = some ((A 13) ((a1 * 3) + (a2 - 2)).toNatClampNeg) ∧ h' = hp L xs A V K T))
            else (
              if a2 = 4 then (
              ¬ (((a1 * 3) + (a2 - 2)) < 0 ∨ 18 ≤ ((a1 * 3) + (a2 - 2)).toNatClampNeg) ∧ (
              v = some ((A 13) ((a1 * 3) + (a2 - 2)).toNatClampNeg) ∧ h' = hp L xs A V K T))
            else (
              if a2 = 5 then (
              ¬ (a1 < 0 ∨ 6 ≤ a1.toNatClampNeg) ∧ (
              v = some ((A 14) a1.toNatClampNeg) ∧ h' = hp L xs A V K T))
            else (
              if a2 = 6 then (
              if ((((V 10 7) : Int32) >>> (a1 &&& 31 : Int32)) &&& 1) = 1 then (
                v = some 1 ∧ h' = hp L xs A V K T)
              else (
                v = some 0 ∧ h' = hp L xs A V K T))
            else (
              if a2 = 7 then (
              ¬ (a1 < 0 ∨ 6 ≤ a1.toNatClampNeg) ∧ (
              v = some (((A 16) a1.toNatClampNeg) &&& 7) ∧ h' = hp L xs A V K T))
            else (
              ¬ (a1 < 0 ∨ 6 ≤ a1.toNatClampNeg) ∧ (
              if (((A 16) a1.toNatClampNeg) &&& 7) ≤ (a2 - 8) then (
                v = some (-2) ∧ h' = hp L xs A V K T)
              else (
                ¬ (a1 < 0 ∨ 6 ≤ a1.toNatClampNeg) ∧ (
                v = some (((((A 16) a1.toNatClampNeg) : Int32) >>> ((3 + (2 * (a2 - 8))) &&& 31 : Int32)) &&& 3) ∧ h' = hp L xs A V K T)))))))))))))))) : am_fin [(z_L_told, 0, [.ref 1, .int a1, .int a2, .null, .null], [])] (hp L xs A V K T) v h' :=
  fn_iload_n rl_L_told_0 rfl (fn_stat (as := [.int a1]) (r := []) (ls' := [.int a1]) rl_L_told_1 rfl rfl rfl rfl pl_L_isLand rfl rfl (fn_iload_n rl_L_isLand_0 rfl (fn_iconst rl_L_isLand_1 (fn_iconst rl_L_isLand_2 (fn_stat (as := [.int a1, .int 0, .int 5]) (r := []) (ls' := [.int a1, .int 0, .int 5]) rl_L_isLand_3 rfl rfl rfl rfl pl_L_isAmong rfl rfl (fn_iload_n rl_L_isAmong_0 rfl (fn_iload_n rl_L_isAmong_1 rfl (fn_icmp_lt rl_L_isAmong_2 (fun k272 => fn_iconst rl_L_isAmong_14 (fn_retci rl_L_isAmong_15 rfl (fn_retci rl_L_isLand_6 rfl (fn_if_eq_t rl_L_told_4 (by decide +kernel) (fn_iconst rl_L_told_17 (fn_reti rl_L_told_18 rfl k272)))))) (fun k273 => fn_iload_n rl_L_isAmong_5 rfl (fn_iload_n rl_L_isAmong_6 rfl (fn_icmp_gt rl_L_isAmong_7 (fun k270 => fn_iconst rl_L_isAmong_14 (fn_retci rl_L_isAmong_15 rfl (fn_retci rl_L_isLand_6 rfl (fn_if_eq_t rl_L_told_4 (by decide +kernel) (fn_iconst rl_L_told_17 (fn_reti rl_L_told_18 rfl k270)))))) (fun k271 => fn_iconst rl_L_isAmong_10 (fn_goto rl_L_isAmong_11 (fn_retci rl_L_isAmong_15 rfl (fn_retci rl_L_isLand_6 rfl (fn_if_eq_f rl_L_told_4 (by decide +kernel) (fn_iload_n rl_L_told_7 rfl (fn_iconst rl_L_told_8 (fn_bipush rl_L_told_9 (fn_stat (as := [.int a2, .int 0, .int 11]) (r := []) (ls' := [.int a2, .int 0, .int 11]) rl_L_told_11 rfl rfl rfl rfl pl_L_isAmong rfl rfl (fn_iload_n rl_L_isAmong_0 rfl (fn_iload_n rl_L_isAmong_1 rfl (fn_icmp_lt rl_L_isAmong_2 (fun k268 => fn_iconst rl_L_isAmong_14 (fn_retci rl_L_isAmong_15 rfl (fn_if_ne_t rl_L_told_14 (by decide +kernel) (fn_iconst rl_L_told_17 (fn_reti rl_L_told_18 rfl k268))))) (fun k269 => fn_iload_n rl_L_isAmong_5 rfl (fn_iload_n rl_L_isAmong_6 rfl (fn_icmp_gt rl_L_isAmong_7 (fun k266 => fn_iconst rl_L_isAmong_14 (fn_retci rl_L_isAmong_15 rfl (fn_if_ne_t rl_L_told_14 (by decide +kernel) (fn_iconst rl_L_told_17 (fn_reti rl_L_told_18 rfl k266))))) (fun k267 => fn_iconst rl_L_isAmong_10 (fn_goto rl_L_isAmong_11 (fn_retci rl_L_isAmong_15 rfl (fn_if_ne_f rl_L_told_14 (by decide +kernel) (fn_aload_n rl_L_told_19 rfl (fn_get rl_L_told_20 hp_1 rfl (fn_get rl_L_told_23 hp_2 rfl (fn_astore_n (ls' := [.ref 1, .int a1, .int a2, .ref 10, .null]) rl_L_told_26 rfl rfl (fn_iload_n rl_L_told_27 rfl (fn_tableP rl_L_told_28 (fn_swC (tg := 0) (F := fun t => am_fin ((z_L_told, t, [.ref 1, .int a1, .int a2, .ref 10, .null], []) :: []) (hp L xs A V K T) v h') (fun k264 => fn_aload_n rl_L_told_76 rfl (fn_get rl_L_told_77 hp_10 rfl (fn_iload_n rl_L_told_80 rfl (fn_iald rl_L_told_81 hp_11 (fun k237 => fn_reti rl_L_told_82 rfl k237) k264)))) (fun k265 => fn_swC (tg := 0) (F := fun t => am_fin ((z_L_told, t, [.ref 1, .int a1, .int a2, .ref 10, .null], []) :: []) (hp L xs A V K T) v h') (fun k262 => fn_aload_n rl_L_told_83 rfl (fn_get rl_L_told_84 hp_10 rfl (fn_iload_n rl_L_told_87 rfl (fn_iald rl_L_told_88 hp_12 (fun k238 => fn_reti rl_L_told_89 rfl k238) k262)))) (fun k263 => fn_swC (tg := 0) (F := fun t => am_fin ((z_L_told, t, [.ref 1, .int a1, .int a2, .ref 10, .null], []) :: []) (hp L xs A V K T) v h') (fun k260 => fn_aload_n rl_L_told_90 rfl (fn_iload_n rl_L_told_91 rfl (fn_iload_n rl_L_told_92 rfl (fn_iconst rl_L_told_93 (fn_isub rl_L_told_94 (fn_virt (as := [.ref 10, .int a1, .int (a2 - 2)]) (r := []) (ls' := [.ref 10, .int a1, .int (a2 - 2)]) rl_L_told_95 rfl hp_10 rfl rfl pl_R_needed rfl rfl (fn_aload_n rl_R_needed_0 rfl (fn_get rl_R_needed_1 hp_10 rfl (fn_iload_n rl_R_needed_4 rfl (fn_iconst rl_R_needed_5 (fn_imul rl_R_needed_6 (fn_iload_n rl_R_needed_7 rfl (fn_iadd rl_R_needed_8 (fn_iald rl_R_needed_9 hp_13 (fun k239 => fn_retci rl_R_needed_10 rfl (fn_reti rl_L_told_98 rfl k239)) k260)))))))))))))) (fun k261 => fn_swC (tg := 0) (F := fun t => am_fin ((z_L_told, t, [.ref 1, .int a1, .int a2, .ref 10, .null], []) :: []) (hp L xs A V K T) v h') (fun k258 => fn_aload_n rl_L_told_90 rfl (fn_iload_n rl_L_told_91 rfl (fn_iload_n rl_L_told_92 rfl (fn_iconst rl_L_told_93 (fn_isub rl_L_told_94 (fn_virt (as := [.ref 10, .int a1, .int (a2 - 2)]) (r := []) (ls' := [.ref 10, .int a1, .int (a2 - 2)]) rl_L_told_95 rfl hp_10 rfl rfl pl_R_needed rfl rfl (fn_aload_n rl_R_needed_0 rfl (fn_get rl_R_needed_1 hp_10 rfl (fn_iload_n rl_R_needed_4 rfl (fn_iconst rl_R_needed_5 (fn_imul rl_R_needed_6 (fn_iload_n rl_R_needed_7 rfl (fn_iadd rl_R_needed_8 (fn_iald rl_R_needed_9 hp_13 (fun k240 => fn_retci rl_R_needed_10 rfl (fn_reti rl_L_told_98 rfl k240)) k258)))))))))))))) (fun k259 => fn_swC (tg := 0) (F := fun t => am_fin ((z_L_told, t, [.ref 1, .int a1, .int a2, .ref 10, .null], []) :: []) (hp L xs A V K T) v h') (fun k256 => fn_aload_n rl_L_told_90 rfl (fn_iload_n rl_L_told_91 rfl (fn_iload_n rl_L_told_92 rfl (fn_iconst rl_L_told_93 (fn_isub rl_L_told_94 (fn_virt (as := [.ref 10, .int a1, .int (a2 - 2)]) (r := []) (ls' := [.ref 10, .int a1, .int (a2 - 2)]) rl_L_told_95 rfl hp_10 rfl rfl pl_R_needed rfl rfl (fn_aload_n rl_R_needed_0 rfl (fn_get rl_R_needed_1 hp_10 rfl (fn_iload_n rl_R_needed_4 rfl (fn_iconst rl_R_needed_5 (fn_imul rl_R_needed_6 (fn_iload_n rl_R_needed_7 rfl (fn_iadd rl_R_needed_8 (fn_iald rl_R_needed_9 hp_13 (fun k241 => fn_retci rl_R_needed_10 rfl (fn_reti rl_L_told_98 rfl k241)) k256)))))))))))))) (fun k257 => fn_swC (tg := 0) (F := fun t => am_fin ((z_L_told, t, [.ref 1, .int a1, .int a2, .ref 10, .null], []) :: []) (hp L xs A V K T) v h') (fun k254 => fn_aload_n rl_L_told_99 rfl (fn_get rl_L_told_100 hp_10 rfl (fn_iload_n rl_L_told_103 rfl (fn_iald rl_L_told_104 hp_14 (fun k242 => fn_reti rl_L_told_105 rfl k242) k254)))) (fun k255 => fn_swC (tg := 0) (F := fun t => am_fin ((z_L_told, t, [.ref 1, .int a1, .int a2, .ref 10, .null], []) :: []) (hp L xs A V K T) v h') (fun k252 => fn_aload_n rl_L_told_106 rfl (fn_iload_n rl_L_told_107 rfl (fn_virt (as := [.ref 10, .int a1]) (r := []) (ls' := [.ref 10, .int a1]) rl_L_told_108 rfl hp_10 rfl rfl pl_R_isNation rfl rfl (fn_aload_n rl_R_isNation_0 rfl (fn_get rl_R_isNation_1 hp_10 rfl (fn_iload_n rl_R_isNation_4 rfl (fn_stat (as := [.int (V 10 7), .int a1]) (r := []) (ls' := [.int (V 10 7), .int a1]) rl_R_isNation_5 rfl rfl rfl rfl pl_L_hasBit rfl rfl (fn_iload_n rl_L_hasBit_0 rfl (fn_iload_n rl_L_hasBit_1 rfl (fn_ishr rl_L_hasBit_2 (fn_iconst rl_L_hasBit_3 (fn_iand rl_L_hasBit_4 (fn_iconst rl_L_hasBit_5 (fn_icmp_ne rl_L_hasBit_6 (fun k243 => fn_iconst rl_L_hasBit_9 (fn_goto rl_L_hasBit_10 (fn_retci rl_L_hasBit_14 rfl (fn_retci rl_R_isNation_8 rfl (fn_if_eq_f rl_L_told_111 (by decide +kernel) (fn_iconst rl_L_told_114 (fn_goto rl_L_told_115 (fn_reti rl_L_told_119 rfl k243)))))))) (fun k244 => fn_iconst rl_L_hasBit_13 (fn_retci rl_L_hasBit_14 rfl (fn_retci rl_R_isNation_8 rfl (fn_if_eq_t rl_L_told_111 (by decide +kernel) (fn_iconst rl_L_told_118 (fn_reti rl_L_told_119 rfl k244)))))) k252)))))))))))))) (fun k253 => fn_swC (tg := 0) (F := fun t => am_fin ((z_L_told, t, [.ref 1, .int a1, .int a2, .ref 10, .null], []) :: []) (hp L xs A V K T) v h') (fun k250 => fn_aload_n rl_L_told_120 rfl (fn_get rl_L_told_121 hp_10 rfl (fn_iload_n rl_L_told_124 rfl (fn_iald rl_L_told_125 hp_16 (fun k245 => fn_stat (as := [.int ((A 16) a1.toNatClampNeg)]) (r := []) (ls' := [.int ((A 16) a1.toNatClampNeg)]) rl_L_told_126 rfl rfl rfl rfl pl_L_rowLength rfl rfl (fn_iload_n rl_L_rowLength_0 rfl (fn_bipush rl_L_rowLength_1 (fn_iand rl_L_rowLength_3 (fn_retci rl_L_rowLength_4 rfl (fn_reti rl_L_told_129 rfl k245)))))) k250)))) (fun k251 => fn_iload_n rl_L_told_130 rfl (fn_bipush rl_L_told_131 (fn_isub rl_L_told_133 (fn_istore (ls' := [.ref 1, .int a1, .int a2, .ref 10, .int (a2 - 8)]) rl_L_told_134 rfl rfl (fn_iload rl_L_told_136 rfl (fn_aload_n rl_L_told_138 rfl (fn_get rl_L_told_139 hp_10 rfl (fn_iload_n rl_L_told_142 rfl (fn_iald rl_L_told_143 hp_16 (fun k249 => fn_stat (as := [.int ((A 16) a1.toNatClampNeg)]) (r := [.int (a2 - 8)]) (ls' := [.int ((A 16) a1.toNatClampNeg)]) rl_L_told_144 rfl rfl rfl rfl pl_L_rowLength rfl rfl (fn_iload_n rl_L_rowLength_0 rfl (fn_bipush rl_L_rowLength_1 (fn_iand rl_L_rowLength_3 (fn_retci rl_L_rowLength_4 rfl (fn_icmp_ge rl_L_told_147 (fun k247 => fn_bipush rl_L_told_164 (fn_reti rl_L_told_166 rfl k247)) (fun k248 => fn_aload_n rl_L_told_150 rfl (fn_get rl_L_told_151 hp_10 rfl (fn_iload_n rl_L_told_154 rfl (fn_iald rl_L_told_155 hp_16 (fun k246 => fn_iload rl_L_told_156 rfl (fn_stat (as := [.int ((A 16) a1.toNatClampNeg), .int (a2 - 8)]) (r := []) (ls' := [.int ((A 16) a1.toNatClampNeg), .int (a2 - 8)]) rl_L_told_158 rfl rfl rfl rfl pl_L_rowLetter rfl rfl (fn_iload_n rl_L_rowLetter_0 rfl (fn_iconst rl_L_rowLetter_1 (fn_iconst rl_L_rowLetter_2 (fn_iload_n rl_L_rowLetter_3 rfl (fn_imul rl_L_rowLetter_4 (fn_iadd rl_L_rowLetter_5 (fn_ishr rl_L_rowLetter_6 (fn_iconst rl_L_rowLetter_7 (fn_iand rl_L_rowLetter_8 (fn_retci rl_L_rowLetter_9 rfl (fn_goto rl_L_told_161 (fn_reti rl_L_told_166 rfl k246)))))))))))))) k248)))) k249)))))) k251))))))))) k253) k255) k257) k259) k261) k263) k265) k267))))))))))) k269))) k271)))))))))))) k273))) k0))))))))
set_option maxRecDepth 100000 in
set_option maxHeartbeats 4000000 in
theorem sg_L_days_0 {L : Nat} {xs : Nat → Int32} {A V : Nat → Nat → Int32} {K : Nat → Option Nat} {T : am_H} {v : Option Int32} {h' : am_H} {a1 a2 a3 : Int32} (k0 :
    if a1 < 0 then (
      v = some (-1) ∧ h' = hp L xs A V K T)
    else (
      if 5 < a1 then (
        v = some (-1) ∧ h' = hp L xs A V K T)
      else (
        if a2 < 0 then (
          v = some (-1) ∧ h' = hp L xs A V K T)
        else (
          if 2 < a2 then (
            v = some (-1) ∧ h' = hp L xs A V K T)
          else (
            if a3 < 0 then (
              v = some (-1) ∧ h' = hp L xs A V K T)
            else (
              if 4 < a3 then (
                v = some (-1) ∧ h' = hp L xs A V K T)
              else (
                if a3 = 0 then (
                  am_fin [(z_P_countOf, 0, [.ref 3, .int a1, .int (a2 * 360), .int (((a2 * 360) + 360) - 1), .null, .null], []), (z_L_days, 75, [.ref 1, .int a1, .int a2, .int a3], [])] (hp L xs A V K T) v h')
                else (
                  if a3 = 1 then (
                  am_fin [(z_S_homeDays, 0, [.ref 2, .int a1, .int (a2 * 360), .int (((a2 * 360) + 360) - 1), .null, .null], []), (z_L_days, 92, [.ref 1, .int a1, .int a2, .int a3], [])] (hp L xs A V K T) v h')
                else (
                  if a3 = 2 then (
                  am_fin [(z_P_countOf, 0, [.ref 5, .int a1, .int (a2 * 360), .int (((a2 * 360) + 360) - 1), .null, .null], []), (z_L_days, 112, [.ref 1, .int a1, .int a2, .int a3], [])] (hp L xs A V K T) v h')
                else (
                  if a3 = 3 then (
                  am_fin [(z_P_rowsOf, 0, [.ref 3, .int a1, .int (a2 * 360), .int (((a2 * 360) + 360) - 1), .null, .null], []), (z_L_days, 132, [.ref 1, .int a1, .int a2, .int a3], [])] (hp L xs A V K T) v h')
                else (
                  am_fin [(z_P_longestRow, 0, [.ref 3, .int a1, .int (a2 * 360), .int (((a2 * 360) + 360) - 1), .null, .null, .null], []), (z_L_days, 152, [.ref 1, .int a1, .int a2, .int a3], [])] (hp L xs A V K T) v h'))))))))))) : am_fin [(z_L_days, 0, [.ref 1, .int a1, .int a2, .int a3], [])] (hp L xs A V K T) v h' :=
  fn_iload_n rl_L_days_0 rfl (fn_stat (as := [.int a1]) (r := []) (ls' := [.int a1]) rl_L_days_1 rfl rfl rfl rfl pl_L_isLand rfl rfl (fn_iload_n rl_L_isLand_0 rfl (fn_iconst rl_L_isLand_1 (fn_iconst rl_L_isLand_2 (fn_stat (as := [.int a1, .int 0, .int 5]) (r := []) (ls' := [.int a1, .int 0, .int 5]) rl_L_isLand_3 rfl rfl rfl rfl pl_L_isAmong rfl rfl (fn_iload_n rl_L_isAmong_0 rfl (fn_iload_n rl_L_isAmong_1 rfl (fn_icmp_lt rl_L_isAmong_2 (fun k292 => fn_iconst rl_L_isAmong_14 (fn_retci rl_L_isAmong_15 rfl (fn_retci rl_L_isLand_6 rfl (fn_if_eq_t rl_L_days_4 (by decide +kernel) (fn_iconst rl_L_days_23 (fn_reti rl_L_days_24 rfl k292)))))) (fun k293 => fn_iload_n rl_L_isAmong_5 rfl (fn_iload_n rl_L_isAmong_6 rfl (fn_icmp_gt rl_L_isAmong_7 (fun k290 => fn_iconst rl_L_isAmong_14 (fn_retci rl_L_isAmong_15 rfl (fn_retci rl_L_isLand_6 rfl (fn_if_eq_t rl_L_days_4 (by decide +kernel) (fn_iconst rl_L_days_23 (fn_reti rl_L_days_24 rfl k290)))))) (fun k291 => fn_iconst rl_L_isAmong_10 (fn_goto rl_L_isAmong_11 (fn_retci rl_L_isAmong_15 rfl (fn_retci rl_L_isLand_6 rfl (fn_if_eq_f rl_L_days_4 (by decide +kernel) (fn_iload_n rl_L_days_7 rfl (fn_stat (as := [.int a2]) (r := []) (ls' := [.int a2]) rl_L_days_8 rfl rfl rfl rfl pl_L_isYear rfl rfl (fn_iload_n rl_L_isYear_0 rfl (fn_iconst rl_L_isYear_1 (fn_iconst rl_L_isYear_2 (fn_stat (as := [.int a2, .int 0, .int 2]) (r := []) (ls' := [.int a2, .int 0, .int 2]) rl_L_isYear_3 rfl rfl rfl rfl pl_L_isAmong rfl rfl (fn_iload_n rl_L_isAmong_0 rfl (fn_iload_n rl_L_isAmong_1 rfl (fn_icmp_lt rl_L_isAmong_2 (fun k288 => fn_iconst rl_L_isAmong_14 (fn_retci rl_L_isAmong_15 rfl (fn_retci rl_L_isYear_6 rfl (fn_if_eq_t rl_L_days_11 (by decide +kernel) (fn_iconst rl_L_days_23 (fn_reti rl_L_days_24 rfl k288)))))) (fun k289 => fn_iload_n rl_L_isAmong_5 rfl (fn_iload_n rl_L_isAmong_6 rfl (fn_icmp_gt rl_L_isAmong_7 (fun k286 => fn_iconst rl_L_isAmong_14 (fn_retci rl_L_isAmong_15 rfl (fn_retci rl_L_isYear_6 rfl (fn_if_eq_t rl_L_days_11 (by decide +kernel) (fn_iconst rl_L_days_23 (fn_reti rl_L_days_24 rfl k286)))))) (fun k287 => fn_iconst rl_L_isAmong_10 (fn_goto rl_L_isAmong_11 (fn_retci rl_L_isAmong_15 rfl (fn_retci rl_L_isYear_6 rfl (fn_if_eq_f rl_L_days_11 (by decide +kernel) (fn_iload_n rl_L_days_14 rfl (fn_iconst rl_L_days_15 (fn_iconst rl_L_days_16 (fn_stat (as := [.int a3, .int 0, .int 4]) (r := []) (ls' := [.int a3, .int 0, .int 4]) rl_L_days_17 rfl rfl rfl rfl pl_L_isAmong rfl rfl (fn_iload_n rl_L_isAmong_0 rfl (fn_iload_n rl_L_isAmong_1 rfl (fn_icmp_lt rl_L_isAmong_2 (fun k284 => fn_iconst rl_L_isAmong_14 (fn_retci rl_L_isAmong_15 rfl (fn_if_ne_t rl_L_days_20 (by decide +kernel) (fn_iconst rl_L_days_23 (fn_reti rl_L_days_24 rfl k284))))) (fun k285 => fn_iload_n rl_L_isAmong_5 rfl (fn_iload_n rl_L_isAmong_6 rfl (fn_icmp_gt rl_L_isAmong_7 (fun k282 => fn_iconst rl_L_isAmong_14 (fn_retci rl_L_isAmong_15 rfl (fn_if_ne_t rl_L_days_20 (by decide +kernel) (fn_iconst rl_L_days_23 (fn_reti rl_L_days_24 rfl k282))))) (fun k283 => fn_iconst rl_L_isAmong_10 (fn_goto rl_L_isAmong_11 (fn_retci rl_L_isAmong_15 rfl (fn_if_ne_f rl_L_days_20 (by decide +kernel) (fn_iload_n rl_L_days_25 rfl (fn_tableP rl_L_days_26 (fn_swC (tg := 0) (F := fun t => am_fin ((z_L_days, t, [.ref 1, .int a1, .int a2, .int a3], []) :: []) (hp L xs A V K T) v h') (fun k280 => fn_aload_n rl_L_days_56 rfl (fn_get rl_L_days_57 hp_1 rfl (fn_get rl_L_days_60 hp_2 rfl (fn_iload_n rl_L_days_63 rfl (fn_iload_n rl_L_days_64 rfl (fn_stat (as := [.int a2]) (r := [.int a1, .ref 3]) (ls' := [.int a2]) rl_L_days_65 rfl rfl rfl rfl pl_L_firstOf rfl rfl (fn_iload_n rl_L_firstOf_0 rfl (fn_sipush rl_L_firstOf_1 (fn_imul rl_L_firstOf_4 (fn_retci rl_L_firstOf_5 rfl (fn_iload_n rl_L_days_68 rfl (fn_stat (as := [.int a2]) (r := [.int (a2 * 360), .int a1, .ref 3]) (ls' := [.int a2]) rl_L_days_69 rfl rfl rfl rfl pl_L_lastOf rfl rfl (fn_iload_n rl_L_lastOf_0 rfl (fn_sipush rl_L_lastOf_1 (fn_imul rl_L_lastOf_4 (fn_sipush rl_L_lastOf_5 (fn_iadd rl_L_lastOf_8 (fn_iconst rl_L_lastOf_9 (fn_isub rl_L_lastOf_10 (fn_retci rl_L_lastOf_11 rfl (fn_virt (as := [.ref 3, .int a1, .int (a2 * 360), .int (((a2 * 360) + 360) - 1)]) (r := []) (ls' := [.ref 3, .int a1, .int (a2 * 360), .int (((a2 * 360) + 360) - 1), .null, .null]) rl_L_days_72 rfl hp_3 rfl rfl pl_P_countOf rfl rfl (k280)))))))))))))))))))))) (fun k281 => fn_swC (tg := 0) (F := fun t => am_fin ((z_L_days, t, [.ref 1, .int a1, .int a2, .int a3], []) :: []) (hp L xs A V K T) v h') (fun k278 => fn_aload_n rl_L_days_76 rfl (fn_get rl_L_days_77 hp_1 rfl (fn_iload_n rl_L_days_80 rfl (fn_iload_n rl_L_days_81 rfl (fn_stat (as := [.int a2]) (r := [.int a1, .ref 2]) (ls' := [.int a2]) rl_L_days_82 rfl rfl rfl rfl pl_L_firstOf rfl rfl (fn_iload_n rl_L_firstOf_0 rfl (fn_sipush rl_L_firstOf_1 (fn_imul rl_L_firstOf_4 (fn_retci rl_L_firstOf_5 rfl (fn_iload_n rl_L_days_85 rfl (fn_stat (as := [.int a2]) (r := [.int (a2 * 360), .int a1, .ref 2]) (ls' := [.int a2]) rl_L_days_86 rfl rfl rfl rfl pl_L_lastOf rfl rfl (fn_iload_n rl_L_lastOf_0 rfl (fn_sipush rl_L_lastOf_1 (fn_imul rl_L_lastOf_4 (fn_sipush rl_L_lastOf_5 (fn_iadd rl_L_lastOf_8 (fn_iconst rl_L_lastOf_9 (fn_isub rl_L_lastOf_10 (fn_retci rl_L_lastOf_11 rfl (fn_virt (as := [.ref 2, .int a1, .int (a2 * 360), .int (((a2 * 360) + 360) - 1)]) (r := []) (ls' := [.ref 2, .int a1, .int (a2 * 360), .int (((a2 * 360) + 360) - 1), .null, .null]) rl_L_days_89 rfl hp_2 rfl rfl pl_S_homeDays rfl rfl (k278))))))))))))))))))))) (fun k279 => fn_swC (tg := 0) (F := fun t => am_fin ((z_L_days, t, [.ref 1, .int a1, .int a2, .int a3], []) :: []) (hp L xs A V K T) v h') (fun k276 => fn_aload_n rl_L_days_93 rfl (fn_get rl_L_days_94 hp_1 rfl (fn_get rl_L_days_97 hp_2 rfl (fn_iload_n rl_L_days_100 rfl (fn_iload_n rl_L_days_101 rfl (fn_stat (as := [.int a2]) (r := [.int a1, .ref 5]) (ls' := [.int a2]) rl_L_days_102 rfl rfl rfl rfl pl_L_firstOf rfl rfl (fn_iload_n rl_L_firstOf_0 rfl (fn_sipush rl_L_firstOf_1 (fn_imul rl_L_firstOf_4 (fn_retci rl_L_firstOf_5 rfl (fn_iload_n rl_L_days_105 rfl (fn_stat (as := [.int a2]) (r := [.int (a2 * 360), .int a1, .ref 5]) (ls' := [.int a2]) rl_L_days_106 rfl rfl rfl rfl pl_L_lastOf rfl rfl (fn_iload_n rl_L_lastOf_0 rfl (fn_sipush rl_L_lastOf_1 (fn_imul rl_L_lastOf_4 (fn_sipush rl_L_lastOf_5 (fn_iadd rl_L_lastOf_8 (fn_iconst rl_L_lastOf_9 (fn_isub rl_L_lastOf_10 (fn_retci rl_L_lastOf_11 rfl (fn_virt (as := [.ref 5, .int a1, .int (a2 * 360), .int (((a2 * 360) + 360) - 1)]) (r := []) (ls' := [.ref 5, .int a1, .int (a2 * 360), .int (((a2 * 360) + 360) - 1), .null, .null]) rl_L_days_109 rfl hp_5 rfl rfl pl_P_countOf rfl rfl (k276)))))))))))))))))))))) (fun k277 => fn_swC (tg := 0) (F := fun t => am_fin ((z_L_days, t, [.ref 1, .int a1, .int a2, .int a3], []) :: []) (hp L xs A V K T) v h') (fun k274 => fn_aload_n rl_L_days_113 rfl (fn_get rl_L_days_114 hp_1 rfl (fn_get rl_L_days_117 hp_2 rfl (fn_iload_n rl_L_days_120 rfl (fn_iload_n rl_L_days_121 rfl (fn_stat (as := [.int a2]) (r := [.int a1, .ref 3]) (ls' := [.int a2]) rl_L_days_122 rfl rfl rfl rfl pl_L_firstOf rfl rfl (fn_iload_n rl_L_firstOf_0 rfl (fn_sipush rl_L_firstOf_1 (fn_imul rl_L_firstOf_4 (fn_retci rl_L_firstOf_5 rfl (fn_iload_n rl_L_days_125 rfl (fn_stat (as := [.int a2]) (r := [.int (a2 * 360), .int a1, .ref 3]) (ls' := [.int a2]) rl_L_days_126 rfl rfl rfl rfl pl_L_lastOf rfl rfl (fn_iload_n rl_L_lastOf_0 rfl (fn_sipush rl_L_lastOf_1 (fn_imul rl_L_lastOf_4 (fn_sipush rl_L_lastOf_5 (fn_iadd rl_L_lastOf_8 (fn_iconst rl_L_lastOf_9 (fn_isub rl_L_lastOf_10 (fn_retci rl_L_lastOf_11 rfl (fn_virt (as := [.ref 3, .int a1, .int (a2 * 360), .int (((a2 * 360) + 360) - 1)]) (r := []) (ls' := [.ref 3, .int a1, .int (a2 * 360), .int (((a2 * 360) + 360) - 1), .null, .null]) rl_L_days_129 rfl hp_3 rfl rfl pl_P_rowsOf rfl rfl (k274)))))))))))))))))))))) (fun k275 => fn_aload_n rl_L_days_133 rfl (fn_get rl_L_days_134 hp_1 rfl (fn_get rl_L_days_137 hp_2 rfl (fn_iload_n rl_L_days_140 rfl (fn_iload_n rl_L_days_141 rfl (fn_stat (as := [.int a2]) (r := [.int a1, .ref 3]) (ls' := [.int a2]) rl_L_days_142 rfl rfl rfl rfl pl_L_firstOf rfl rfl (fn_iload_n rl_L_firstOf_0 rfl (fn_sipush rl_L_firstOf_1 (fn_imul rl_L_firstOf_4 (fn_retci rl_L_firstOf_5 rfl (fn_iload_n rl_L_days_145 rfl (fn_stat (as := [.int a2]) (r := [.int (a2 * 360), .int a1, .ref 3]) (ls' := [.int a2]) rl_L_days_146 rfl rfl rfl rfl pl_L_lastOf rfl rfl (fn_iload_n rl_L_lastOf_0 rfl (fn_sipush rl_L_lastOf_1 (fn_imul rl_L_lastOf_4 (fn_sipush rl_L_lastOf_5 (fn_iadd rl_L_lastOf_8 (fn_iconst rl_L_lastOf_9 (fn_isub rl_L_lastOf_10 (fn_retci rl_L_lastOf_11 rfl (fn_virt (as := [.ref 3, .int a1, .int (a2 * 360), .int (((a2 * 360) + 360) - 1)]) (r := []) (ls' := [.ref 3, .int a1, .int (a2 * 360), .int (((a2 * 360) + 360) - 1), .null, .null, .null]) rl_L_days_149 rfl hp_3 rfl rfl pl_P_longestRow rfl rfl (k275)))))))))))))))))))))) k277) k279) k281) k283))))))) k285))) k287)))))))))))) k289))) k291)))))))))))))) k293))) k0))))))))
set_option maxRecDepth 100000 in
set_option maxHeartbeats 4000000 in
theorem sg_L_days_75r {L : Nat} {xs : Nat → Int32} {A V : Nat → Nat → Int32} {K : Nat → Option Nat} {T : am_H} {v : Option Int32} {h' : am_H} {v1 v2 v3 r : Int32} (k0 :
    v = some r ∧ h' = hp L xs A V K T) : am_fin [(z_L_days, 75, [.ref 1, .int v1, .int v2, .int v3], [.int r])] (hp L xs A V K T) v h' :=
  fn_reti rl_L_days_75 rfl k0
set_option maxRecDepth 100000 in
set_option maxHeartbeats 4000000 in
theorem sg_L_days_92r {L : Nat} {xs : Nat → Int32} {A V : Nat → Nat → Int32} {K : Nat → Option Nat} {T : am_H} {v : Option Int32} {h' : am_H} {v1 v2 v3 r : Int32} (k0 :
    v = some r ∧ h' = hp L xs A V K T) : am_fin [(z_L_days, 92, [.ref 1, .int v1, .int v2, .int v3], [.int r])] (hp L xs A V K T) v h' :=
  fn_reti rl_L_days_92 rfl k0
set_option maxRecDepth 100000 in
set_option maxHeartbeats 4000000 in
theorem sg_L_days_112r {L : Nat} {xs : Nat → Int32} {A V : Nat → Nat → Int32} {K : Nat → Option Nat} {T : am_H} {v : Option Int32} {h' : am_H} {v1 v2 v3 r : Int32} (k0 :
    v = some r ∧ h' = hp L xs A V K T) : am_fin [(z_L_days, 112, [.ref 1, .int v1, .int v2, .int v3], [.int r])] (hp L xs A V K T) v h' :=
  fn_reti rl_L_days_112 rfl k0
set_option maxRecDepth 100000 in
set_option maxHeartbeats 4000000 in
theorem sg_L_days_132r {L : Nat} {xs : Nat → Int32} {A V : Nat → Nat → Int32} {K : Nat → Option Nat} {T : am_H} {v : Option Int32} {h' : am_H} {v1 v2 v3 r : Int32} (k0 :
    v = some r ∧ h' = hp L xs A V K T) : am_fin [(z_L_days, 132, [.ref 1, .int v1, .int v2, .int v3], [.int r])] (hp L xs A V K T) v h' :=
  fn_reti rl_L_days_132 rfl k0
set_option maxRecDepth 100000 in
set_option maxHeartbeats 4000000 in
theorem sg_L_days_152r {L : Nat} {xs : Nat → Int32} {A V : Nat → Nat → Int32} {K : Nat → Option Nat} {T : am_H} {v : Option Int32} {h' : am_H} {v1 v2 v3 r : Int32} (k0 :
    v = some r ∧ h' = hp L xs A V K T) : am_fin [(z_L_days, 152, [.ref 1, .int v1, .int v2, .int v3], [.int r])] (hp L xs A V K T) v h' :=
  fn_reti rl_L_days_152 rfl k0
set_option maxRecDepth 100000 in
set_option maxHeartbeats 4000000 in
theorem sg_L_month_0 {L : Nat} {xs : Nat → Int32} {A V : Nat → Nat → Int32} {K : Nat → Option Nat} {T : am_H} {v : Option Int32} {h' : am_H} {a1 a2 : Int32} (k0 :
    if a1 < 0 then (
      v = some (-1) ∧ h' = hp L xs A V K T)
    else (
      if 5 < a1 then (
        v = some (-1) ∧ h' = hp L xs A V K T)
      else (
        if a2 < 0 then (
          v = some (-1) ∧ h' = hp L xs A V K T)
        else (
          if 35 < a2 then (
            v = some (-1) ∧ h' = hp L xs A V K T)
          else (
            am_fin [(z_P_countOf, 0, [.ref 3, .int a1, .int (a2 * 30), .int (((a2 * 30) + 30) - 1), .null, .null], []), (z_L_month, 42, [.ref 1, .int a1, .int a2, .int (a2 * 30)], [])] (hp L xs A V K T) v h'))))) : am_fin [(z_L_month, 0, [.ref 1, .int a1, .int a2, .null], [])] (hp L xs A V K T) v h' :=
  fn_iload_n rl_L_month_0 rfl (fn_stat (as := [.int a1]) (r := []) (ls' := [.int a1]) rl_L_month_1 rfl rfl rfl rfl pl_L_isLand rfl rfl (fn_iload_n rl_L_isLand_0 rfl (fn_iconst rl_L_isLand_1 (fn_iconst rl_L_isLand_2 (fn_stat (as := [.int a1, .int 0, .int 5]) (r := []) (ls' := [.int a1, .int 0, .int 5]) rl_L_isLand_3 rfl rfl rfl rfl pl_L_isAmong rfl rfl (fn_iload_n rl_L_isAmong_0 rfl (fn_iload_n rl_L_isAmong_1 rfl (fn_icmp_lt rl_L_isAmong_2 (fun k300 => fn_iconst rl_L_isAmong_14 (fn_retci rl_L_isAmong_15 rfl (fn_retci rl_L_isLand_6 rfl (fn_if_eq_t rl_L_month_4 (by decide +kernel) (fn_iconst rl_L_month_17 (fn_reti rl_L_month_18 rfl k300)))))) (fun k301 => fn_iload_n rl_L_isAmong_5 rfl (fn_iload_n rl_L_isAmong_6 rfl (fn_icmp_gt rl_L_isAmong_7 (fun k298 => fn_iconst rl_L_isAmong_14 (fn_retci rl_L_isAmong_15 rfl (fn_retci rl_L_isLand_6 rfl (fn_if_eq_t rl_L_month_4 (by decide +kernel) (fn_iconst rl_L_month_17 (fn_reti rl_L_month_18 rfl k298)))))) (fun k299 => fn_iconst rl_L_isAmong_10 (fn_goto rl_L_isAmong_11 (fn_retci rl_L_isAmong_15 rfl (fn_retci rl_L_isLand_6 rfl (fn_if_eq_f rl_L_month_4 (by decide +kernel) (fn_iload_n rl_L_month_7 rfl (fn_iconst rl_L_month_8 (fn_bipush rl_L_month_9 (fn_stat (as := [.int a2, .int 0, .int 35]) (r := []) (ls' := [.int a2, .int 0, .int 35]) rl_L_month_11 rfl rfl rfl rfl pl_L_isAmong rfl rfl (fn_iload_n rl_L_isAmong_0 rfl (fn_iload_n rl_L_isAmong_1 rfl (fn_icmp_lt rl_L_isAmong_2 (fun k296 => fn_iconst rl_L_isAmong_14 (fn_retci rl_L_isAmong_15 rfl (fn_if_ne_t rl_L_month_14 (by decide +kernel) (fn_iconst rl_L_month_17 (fn_reti rl_L_month_18 rfl k296))))) (fun k297 => fn_iload_n rl_L_isAmong_5 rfl (fn_iload_n rl_L_isAmong_6 rfl (fn_icmp_gt rl_L_isAmong_7 (fun k294 => fn_iconst rl_L_isAmong_14 (fn_retci rl_L_isAmong_15 rfl (fn_if_ne_t rl_L_month_14 (by decide +kernel) (fn_iconst rl_L_month_17 (fn_reti rl_L_month_18 rfl k294))))) (fun k295 => fn_iconst rl_L_isAmong_10 (fn_goto rl_L_isAmong_11 (fn_retci rl_L_isAmong_15 rfl (fn_if_ne_f rl_L_month_14 (by decide +kernel) (fn_iload_n rl_L_month_19 rfl (fn_bipush rl_L_month_20 (fn_imul rl_L_month_22 (fn_istore_n (ls' := [.ref 1, .int a1, .int a2, .int (a2 * 30)]) rl_L_month_23 rfl rfl (fn_aload_n rl_L_month_24 rfl (fn_get rl_L_month_25 hp_1 rfl (fn_get rl_L_month_28 hp_2 rfl (fn_iload_n rl_L_month_31 rfl (fn_iload_n rl_L_month_32 rfl (fn_iload_n rl_L_month_33 rfl (fn_bipush rl_L_month_34 (fn_iadd rl_L_month_36 (fn_iconst rl_L_month_37 (fn_isub rl_L_month_38 (fn_virt (as := [.ref 3, .int a1, .int (a2 * 30), .int (((a2 * 30) + 30) - 1)]) (r := []) (ls' := [.ref 3, .int a1, .int (a2 * 30), .int (((a2 * 30) + 30) - 1), .null, .null]) rl_L_month_39 rfl hp_3 rfl rfl pl_P_countOf rfl rfl (k295)))))))))))))))))))) k297))) k299)))))))))))) k301))) k0))))))))
set_option maxRecDepth 100000 in
set_option maxHeartbeats 4000000 in
theorem sg_L_month_42r {L : Nat} {xs : Nat → Int32} {A V : Nat → Nat → Int32} {K : Nat → Option Nat} {T : am_H} {v : Option Int32} {h' : am_H} {v1 v2 v3 r : Int32} (k0 :
    v = some r ∧ h' = hp L xs A V K T) : am_fin [(z_L_month, 42, [.ref 1, .int v1, .int v2, .int v3], [.int r])] (hp L xs A V K T) v h' :=
  fn_reti rl_L_month_42 rfl k0
set_option maxRecDepth 100000 in
set_option maxHeartbeats 4000000 in
theorem sg_L_within_0 {L : Nat} {xs : Nat → Int32} {A V : Nat → Nat → Int32} {K : Nat → Option Nat} {T : am_H} {v : Option Int32} {h' : am_H} {a1 a2 a3 : Int32} (k0 :
    if a1 < 0 then (
      v = some (-1) ∧ h' = hp L xs A V K T)
    else (
      if 5 < a1 then (
        v = some (-1) ∧ h' = hp L xs A V K T)
      else (
        if a2 < 0 then (
          v = some (-1) ∧ h' = hp L xs A V K T)
        else (
          if 1079 < a2 then (
            v = some (-1) ∧ h' = hp L xs A V K T)
          else (
            if a3 < 1 then (
              v = some (-1) ∧ h' = hp L xs A V K T)
            else (
              if 1080 < a3 then (
                v = some (-1) ∧ h' = hp L xs A V K T)
              else (
                am_fin [(z_P_countOf, 0, [.ref 3, .int a1, .int (if ((a2 - a3) + 1) < 0 then 0 else ((a2 - a3) + 1) : Int32), .int a2, .null, .null], []), (z_L_within, 48, [.ref 1, .int a1, .int a2, .int a3], [])] (hp L xs A V K T) v h'))))))) : am_fin [(z_L_within, 0, [.ref 1, .int a1, .int a2, .int a3], [])] (hp L xs A V K T) v h' :=
  fn_iload_n rl_L_within_0 rfl (fn_stat (as := [.int a1]) (r := []) (ls' := [.int a1]) rl_L_within_1 rfl rfl rfl rfl pl_L_isLand rfl rfl (fn_iload_n rl_L_isLand_0 rfl (fn_iconst rl_L_isLand_1 (fn_iconst rl_L_isLand_2 (fn_stat (as := [.int a1, .int 0, .int 5]) (r := []) (ls' := [.int a1, .int 0, .int 5]) rl_L_isLand_3 rfl rfl rfl rfl pl_L_isAmong rfl rfl (fn_iload_n rl_L_isAmong_0 rfl (fn_iload_n rl_L_isAmong_1 rfl (fn_icmp_lt rl_L_isAmong_2 (fun k312 => fn_iconst rl_L_isAmong_14 (fn_retci rl_L_isAmong_15 rfl (fn_retci rl_L_isLand_6 rfl (fn_if_eq_t rl_L_within_4 (by decide +kernel) (fn_iconst rl_L_within_25 (fn_reti rl_L_within_26 rfl k312)))))) (fun k313 => fn_iload_n rl_L_isAmong_5 rfl (fn_iload_n rl_L_isAmong_6 rfl (fn_icmp_gt rl_L_isAmong_7 (fun k310 => fn_iconst rl_L_isAmong_14 (fn_retci rl_L_isAmong_15 rfl (fn_retci rl_L_isLand_6 rfl (fn_if_eq_t rl_L_within_4 (by decide +kernel) (fn_iconst rl_L_within_25 (fn_reti rl_L_within_26 rfl k310)))))) (fun k311 => fn_iconst rl_L_isAmong_10 (fn_goto rl_L_isAmong_11 (fn_retci rl_L_isAmong_15 rfl (fn_retci rl_L_isLand_6 rfl (fn_if_eq_f rl_L_within_4 (by decide +kernel) (fn_iload_n rl_L_within_7 rfl (fn_stat (as := [.int a2]) (r := []) (ls' := [.int a2]) rl_L_within_8 rfl rfl rfl rfl pl_L_isDay rfl rfl (fn_iload_n rl_L_isDay_0 rfl (fn_iconst rl_L_isDay_1 (fn_sipush rl_L_isDay_2 (fn_stat (as := [.int a2, .int 0, .int 1079]) (r := []) (ls' := [.int a2, .int 0, .int 1079]) rl_L_isDay_5 rfl rfl rfl rfl pl_L_isAmong rfl rfl (fn_iload_n rl_L_isAmong_0 rfl (fn_iload_n rl_L_isAmong_1 rfl (fn_icmp_lt rl_L_isAmong_2 (fun k308 => fn_iconst rl_L_isAmong_14 (fn_retci rl_L_isAmong_15 rfl (fn_retci rl_L_isDay_8 rfl (fn_if_eq_t rl_L_within_11 (by decide +kernel) (fn_iconst rl_L_within_25 (fn_reti rl_L_within_26 rfl k308)))))) (fun k309 => fn_iload_n rl_L_isAmong_5 rfl (fn_iload_n rl_L_isAmong_6 rfl (fn_icmp_gt rl_L_isAmong_7 (fun k306 => fn_iconst rl_L_isAmong_14 (fn_retci rl_L_isAmong_15 rfl (fn_retci rl_L_isDay_8 rfl (fn_if_eq_t rl_L_within_11 (by decide +kernel) (fn_iconst rl_L_within_25 (fn_reti rl_L_within_26 rfl k306)))))) (fun k307 => fn_iconst rl_L_isAmong_10 (fn_goto rl_L_isAmong_11 (fn_retci rl_L_isAmong_15 rfl (fn_retci rl_L_isDay_8 rfl (fn_if_eq_f rl_L_within_11 (by decide +kernel) (fn_iload_n rl_L_within_14 rfl (fn_iconst rl_L_within_15 (fn_sipush rl_L_within_16 (fn_stat (as := [.int a3, .int 1, .int 1080]) (r := []) (ls' := [.int a3, .int 1, .int 1080]) rl_L_within_19 rfl rfl rfl rfl pl_L_isAmong rfl rfl (fn_iload_n rl_L_isAmong_0 rfl (fn_iload_n rl_L_isAmong_1 rfl (fn_icmp_lt rl_L_isAmong_2 (fun k304 => fn_iconst rl_L_isAmong_14 (fn_retci rl_L_isAmong_15 rfl (fn_if_ne_t rl_L_within_22 (by decide +kernel) (fn_iconst rl_L_within_25 (fn_reti rl_L_within_26 rfl k304))))) (fun k305 => fn_iload_n rl_L_isAmong_5 rfl (fn_iload_n rl_L_isAmong_6 rfl (fn_icmp_gt rl_L_isAmong_7 (fun k302 => fn_iconst rl_L_isAmong_14 (fn_retci rl_L_isAmong_15 rfl (fn_if_ne_t rl_L_within_22 (by decide +kernel) (fn_iconst rl_L_within_25 (fn_reti rl_L_within_26 rfl k302))))) (fun k303 => fn_iconst rl_L_isAmong_10 (fn_goto rl_L_isAmong_11 (fn_retci rl_L_isAmong_15 rfl (fn_if_ne_f rl_L_within_22 (by decide +kernel) (fn_aload_n rl_L_within_27 rfl (fn_get rl_L_within_28 hp_1 rfl (fn_get rl_L_within_31 hp_2 rfl (fn_iload_n rl_L_within_34 rfl (fn_iload_n rl_L_within_35 rfl (fn_iload_n rl_L_within_36 rfl (fn_isub rl_L_within_37 (fn_iconst rl_L_within_38 (fn_iadd rl_L_within_39 (fn_iconst rl_L_within_40 (fn_max rl_L_within_41 rfl (fn_iload_n rl_L_within_44 rfl (fn_virt (as := [.ref 3, .int a1, .int (if ((a2 - a3) + 1) < 0 then 0 else ((a2 - a3) + 1) : Int32), .int a2]) (r := []) (ls' := [.ref 3, .int a1, .int (if ((a2 - a3) + 1) < 0 then 0 else ((a2 - a3) + 1) : Int32), .int a2, .null, .null]) rl_L_within_45 rfl hp_3 rfl rfl pl_P_countOf rfl rfl (k303)))))))))))))))))) k305))) k307)))))))))))) k309))) k311)))))))))))))) k313))) k0))))))))
set_option maxRecDepth 100000 in
set_option maxHeartbeats 4000000 in
theorem sg_L_within_48r {L : Nat} {xs : Nat → Int32} {A V : Nat → Nat → Int32} {K : Nat → Option Nat} {T : am_H} {v : Option Int32} {h' : am_H} {v1 v2 v3 r : Int32} (k0 :
    v = some r ∧ h' = hp L xs A V K T) : am_fin [(z_L_within, 48, [.ref 1, .int v1, .int v2, .int v3], [.int r])] (hp L xs A V K T) v h' :=
  fn_reti rl_L_within_48 rfl k0
set_option maxRecDepth 100000 in
set_option maxHeartbeats 4000000 in
theorem sg_L_overstays_0 {L : Nat} {xs : Nat → Int32} {A V : Nat → Nat → Int32} {K : Nat → Option Nat} {T : am_H} {v : Option Int32} {h' : am_H} {a1 a2 a3 a4 : Int32} (k0 :
    if a1 < 0 then (
      v = some (-1) ∧ h' = hp L xs A V K T)
    else (
      if 5 < a1 then (
        v = some (-1) ∧ h' = hp L xs A V K T)
      else (
        if a2 < 0 then (
          v = some (-1) ∧ h' = hp L xs A V K T)
        else (
          if 1079 < a2 then (
            v = some (-1) ∧ h' = hp L xs A V K T)
          else (
            if a3 < 0 then (
              v = some (-1) ∧ h' = hp L xs A V K T)
            else (
              if 1079 < a3 then (
                v = some (-1) ∧ h' = hp L xs A V K T)
              else (
                if a3 < a2 then (
                  v = some (-1) ∧ h' = hp L xs A V K T)
                else (
                  if a4 < 0 then (
                    v = some (-1) ∧ h' = hp L xs A V K T)
                  else (
                    if 2 < a4 then (
                      v = some (-1) ∧ h' = hp L xs A V K T)
                    else (
                      am_fin [(z_O_read, 0, [.ref 30, .ref 3, .int a1, .null], []), (z_L_overstays, 42, [.ref 1, .int a1, .int a2, .int a3, .int a4, .null, .null, .null, .null, .null], [])] (hp L xs A V K T) v h')))))))))) : am_fin [(z_L_overstays, 0, [.ref 1, .int a1, .int a2, .int a3, .int a4, .null, .null, .null, .null, .null], [])] (hp L xs A V K T) v h' :=
  fn_iload_n rl_L_overstays_0 rfl (fn_stat (as := [.int a1]) (r := []) (ls' := [.int a1]) rl_L_overstays_1 rfl rfl rfl rfl pl_L_isLand rfl rfl (fn_iload_n rl_L_isLand_0 rfl (fn_iconst rl_L_isLand_1 (fn_iconst rl_L_isLand_2 (fn_stat (as := [.int a1, .int 0, .int 5]) (r := []) (ls' := [.int a1, .int 0, .int 5]) rl_L_isLand_3 rfl rfl rfl rfl pl_L_isAmong rfl rfl (fn_iload_n rl_L_isAmong_0 rfl (fn_iload_n rl_L_isAmong_1 rfl (fn_icmp_lt rl_L_isAmong_2 (fun k330 => fn_iconst rl_L_isAmong_14 (fn_retci rl_L_isAmong_15 rfl (fn_retci rl_L_isLand_6 rfl (fn_if_eq_t rl_L_overstays_4 (by decide +kernel) (fn_iconst rl_L_overstays_25 (fn_reti rl_L_overstays_26 rfl k330)))))) (fun k331 => fn_iload_n rl_L_isAmong_5 rfl (fn_iload_n rl_L_isAmong_6 rfl (fn_icmp_gt rl_L_isAmong_7 (fun k328 => fn_iconst rl_L_isAmong_14 (fn_retci rl_L_isAmong_15 rfl (fn_retci rl_L_isLand_6 rfl (fn_if_eq_t rl_L_overstays_4 (by decide +kernel) (fn_iconst rl_L_overstays_25 (fn_reti rl_L_overstays_26 rfl k328)))))) (fun k329 => fn_iconst rl_L_isAmong_10 (fn_goto rl_L_isAmong_11 (fn_retci rl_L_isAmong_15 rfl (fn_retci rl_L_isLand_6 rfl (fn_if_eq_f rl_L_overstays_4 (by decide +kernel) (fn_iload_n rl_L_overstays_7 rfl (fn_iload_n rl_L_overstays_8 rfl (fn_stat (as := [.int a2, .int a3]) (r := []) (ls' := [.int a2, .int a3]) rl_L_overstays_9 rfl rfl rfl rfl pl_L_isSpan rfl rfl (fn_iload_n rl_L_isSpan_0 rfl (fn_stat (as := [.int a2]) (r := []) (ls' := [.int a2]) rl_L_isSpan_1 rfl rfl rfl rfl pl_L_isDay rfl rfl (fn_iload_n rl_L_isDay_0 rfl (fn_iconst rl_L_isDay_1 (fn_sipush rl_L_isDay_2 (fn_stat (as := [.int a2, .int 0, .int 1079]) (r := []) (ls' := [.int a2, .int 0, .int 1079]) rl_L_isDay_5 rfl rfl rfl rfl pl_L_isAmong rfl rfl (fn_iload_n rl_L_isAmong_0 rfl (fn_iload_n rl_L_isAmong_1 rfl (fn_icmp_lt rl_L_isAmong_2 (fun k326 => fn_iconst rl_L_isAmong_14 (fn_retci rl_L_isAmong_15 rfl (fn_retci rl_L_isDay_8 rfl (fn_if_eq_t rl_L_isSpan_4 (by decide +kernel) (fn_iconst rl_L_isSpan_23 (fn_retci rl_L_isSpan_24 rfl (fn_if_eq_t rl_L_overstays_12 (by decide +kernel) (fn_iconst rl_L_overstays_25 (fn_reti rl_L_overstays_26 rfl k326))))))))) (fun k327 => fn_iload_n rl_L_isAmong_5 rfl (fn_iload_n rl_L_isAmong_6 rfl (fn_icmp_gt rl_L_isAmong_7 (fun k324 => fn_iconst rl_L_isAmong_14 (fn_retci rl_L_isAmong_15 rfl (fn_retci rl_L_isDay_8 rfl (fn_if_eq_t rl_L_isSpan_4 (by decide +kernel) (fn_iconst rl_L_isSpan_23 (fn_retci rl_L_isSpan_24 rfl (fn_if_eq_t rl_L_overstays_12 (by decide +kernel) (fn_iconst rl_L_overstays_25 (fn_reti rl_L_overstays_26 rfl k324))))))))) (fun k325 => fn_iconst rl_L_isAmong_10 (fn_goto rl_L_isAmong_11 (fn_retci rl_L_isAmong_15 rfl (fn_retci rl_L_isDay_8 rfl (fn_if_eq_f rl_L_isSpan_4 (by decide +kernel) (fn_iload_n rl_L_isSpan_7 rfl (fn_stat (as := [.int a3]) (r := []) (ls' := [.int a3]) rl_L_isSpan_8 rfl rfl rfl rfl pl_L_isDay rfl rfl (fn_iload_n rl_L_isDay_0 rfl (fn_iconst rl_L_isDay_1 (fn_sipush rl_L_isDay_2 (fn_stat (as := [.int a3, .int 0, .int 1079]) (r := []) (ls' := [.int a3, .int 0, .int 1079]) rl_L_isDay_5 rfl rfl rfl rfl pl_L_isAmong rfl rfl (fn_iload_n rl_L_isAmong_0 rfl (fn_iload_n rl_L_isAmong_1 rfl (fn_icmp_lt rl_L_isAmong_2 (fun k322 => fn_iconst rl_L_isAmong_14 (fn_retci rl_L_isAmong_15 rfl (fn_retci rl_L_isDay_8 rfl (fn_if_eq_t rl_L_isSpan_11 (by decide +kernel) (fn_iconst rl_L_isSpan_23 (fn_retci rl_L_isSpan_24 rfl (fn_if_eq_t rl_L_overstays_12 (by decide +kernel) (fn_iconst rl_L_overstays_25 (fn_reti rl_L_overstays_26 rfl k322))))))))) (fun k323 => fn_iload_n rl_L_isAmong_5 rfl (fn_iload_n rl_L_isAmong_6 rfl (fn_icmp_gt rl_L_isAmong_7 (fun k320 => fn_iconst rl_L_isAmong_14 (fn_retci rl_L_isAmong_15 rfl (fn_retci rl_L_isDay_8 rfl (fn_if_eq_t rl_L_isSpan_11 (by decide +kernel) (fn_iconst rl_L_isSpan_23 (fn_retci rl_L_isSpan_24 rfl (fn_if_eq_t rl_L_overstays_12 (by decide +kernel) (fn_iconst rl_L_overstays_25 (fn_reti rl_L_overstays_26 rfl k320))))))))) (fun k321 => fn_iconst rl_L_isAmong_10 (fn_goto rl_L_isAmong_11 (fn_retci rl_L_isAmong_15 rfl (fn_retci rl_L_isDay_8 rfl (fn_if_eq_f rl_L_isSpan_11 (by decide +kernel) (fn_iload_n rl_L_isSpan_14 rfl (fn_iload_n rl_L_isSpan_15 rfl (fn_icmp_gt rl_L_isSpan_16 (fun k318 => fn_iconst rl_L_isSpan_23 (fn_retci rl_L_isSpan_24 rfl (fn_if_eq_t rl_L_overstays_12 (by decide +kernel) (fn_iconst rl_L_overstays_25 (fn_reti rl_L_overstays_26 rfl k318))))) (fun k319 => fn_iconst rl_L_isSpan_19 (fn_goto rl_L_isSpan_20 (fn_retci rl_L_isSpan_24 rfl (fn_if_eq_f rl_L_overstays_12 (by decide +kernel) (fn_iload rl_L_overstays_15 rfl (fn_iconst rl_L_overstays_17 (fn_iconst rl_L_overstays_18 (fn_stat (as := [.int a4, .int 0, .int 2]) (r := []) (ls' := [.int a4, .int 0, .int 2]) rl_L_overstays_19 rfl rfl rfl rfl pl_L_isAmong rfl rfl (fn_iload_n rl_L_isAmong_0 rfl (fn_iload_n rl_L_isAmong_1 rfl (fn_icmp_lt rl_L_isAmong_2 (fun k316 => fn_iconst rl_L_isAmong_14 (fn_retci rl_L_isAmong_15 rfl (fn_if_ne_t rl_L_overstays_22 (by decide +kernel) (fn_iconst rl_L_overstays_25 (fn_reti rl_L_overstays_26 rfl k316))))) (fun k317 => fn_iload_n rl_L_isAmong_5 rfl (fn_iload_n rl_L_isAmong_6 rfl (fn_icmp_gt rl_L_isAmong_7 (fun k314 => fn_iconst rl_L_isAmong_14 (fn_retci rl_L_isAmong_15 rfl (fn_if_ne_t rl_L_overstays_22 (by decide +kernel) (fn_iconst rl_L_overstays_25 (fn_reti rl_L_overstays_26 rfl k314))))) (fun k315 => fn_iconst rl_L_isAmong_10 (fn_goto rl_L_isAmong_11 (fn_retci rl_L_isAmong_15 rfl (fn_if_ne_f rl_L_overstays_22 (by decide +kernel) (fn_aload_n rl_L_overstays_27 rfl (fn_get rl_L_overstays_28 hp_1 rfl (fn_aload_n rl_L_overstays_31 rfl (fn_get rl_L_overstays_32 hp_1 rfl (fn_get rl_L_overstays_35 hp_2 rfl (fn_iload_n rl_L_overstays_38 rfl (fn_virt (as := [.ref 30, .ref 3, .int a1]) (r := []) (ls' := [.ref 30, .ref 3, .int a1, .null]) rl_L_overstays_39 rfl hp_30 rfl rfl pl_O_read rfl rfl (k315)))))))))))) k317))) k319))))))))))) k321)))))))) k323))) k325)))))))))))))) k327))) k329))))))))))))))))) k331))) k0))))))))
set_option maxRecDepth 100000 in
set_option maxHeartbeats 4000000 in
theorem sg_L_overstays_42r {L : Nat} {xs : Nat → Int32} {A V : Nat → Nat → Int32} {K : Nat → Option Nat} {T : am_H} {v : Option Int32} {h' : am_H} {v1 v2 v3 v4 : Int32} (k0 :
    am_fin [(z_L_overstays, 55, [.ref 1, .int v1, .int v2, .int v3, .int v4, .int 0, .int (-2), .int 0, .int v2, .null], [])] (hp L xs A V K T) v h') : am_fin [(z_L_overstays, 42, [.ref 1, .int v1, .int v2, .int v3, .int v4, .null, .null, .null, .null, .null], [])] (hp L xs A V K T) v h' :=
  fn_iconst rl_L_overstays_42 (fn_istore (ls' := [.ref 1, .int v1, .int v2, .int v3, .int v4, .int 0, .null, .null, .null, .null]) rl_L_overstays_43 rfl rfl (fn_bipush rl_L_overstays_45 (fn_istore (ls' := [.ref 1, .int v1, .int v2, .int v3, .int v4, .int 0, .int (-2), .null, .null, .null]) rl_L_overstays_47 rfl rfl (fn_iconst rl_L_overstays_49 (fn_istore (ls' := [.ref 1, .int v1, .int v2, .int v3, .int v4, .int 0, .int (-2), .int 0, .null, .null]) rl_L_overstays_50 rfl rfl (fn_iload_n rl_L_overstays_52 rfl (fn_istore (ls' := [.ref 1, .int v1, .int v2, .int v3, .int v4, .int 0, .int (-2), .int 0, .int v2, .null]) rl_L_overstays_53 rfl rfl (k0))))))))
set_option maxRecDepth 100000 in
set_option maxHeartbeats 4000000 in
theorem sg_L_overstays_55 {L : Nat} {xs : Nat → Int32} {A V : Nat → Nat → Int32} {K : Nat → Option Nat} {T : am_H} {v : Option Int32} {h' : am_H} {v1 v2 v3 v4 v5 v6 v7 v8 : Int32} (k0 :
    if v3 < v8 then (
      if v4 = 0 then (
        v = some v5 ∧ h' = hp L xs A V K T)
      else (
        if v4 = 1 then (
          v = some v6 ∧ h' = hp L xs A V K T)
        else (
          v = some v7 ∧ h' = hp L xs A V K T)))
    else (
      am_fin [(z_O_beyond, 0, [.ref 30, .int v8], []), (z_L_overstays, 70, [.ref 1, .int v1, .int v2, .int v3, .int v4, .int v5, .int v6, .int v7, .int v8, .null], [])] (hp L xs A V K T) v h')) : am_fin [(z_L_overstays, 55, [.ref 1, .int v1, .int v2, .int v3, .int v4, .int v5, .int v6, .int v7, .int v8, .null], [])] (hp L xs A V K T) v h' :=
  fn_iload rl_L_overstays_55 rfl (fn_iload_n rl_L_overstays_57 rfl (fn_icmp_gt rl_L_overstays_58 (fun k336 => fn_iload rl_L_overstays_111 rfl (fn_if_ne rl_L_overstays_113 (fun k334 => fn_iload rl_L_overstays_116 rfl (fn_reti rl_L_overstays_118 rfl k334)) (fun k335 => fn_iload rl_L_overstays_119 rfl (fn_iconst rl_L_overstays_121 (fn_icmp_ne rl_L_overstays_122 (fun k332 => fn_iload rl_L_overstays_125 rfl (fn_goto rl_L_overstays_127 (fn_reti rl_L_overstays_132 rfl k332))) (fun k333 => fn_iload rl_L_overstays_130 rfl (fn_reti rl_L_overstays_132 rfl k333)) k335))) k336)) (fun k337 => fn_aload_n rl_L_overstays_61 rfl (fn_get rl_L_overstays_62 hp_1 rfl (fn_iload rl_L_overstays_65 rfl (fn_virt (as := [.ref 30, .int v8]) (r := []) (ls' := [.ref 30, .int v8]) rl_L_overstays_67 rfl hp_30 rfl rfl pl_O_beyond rfl rfl (k337))))) k0))
set_option maxRecDepth 100000 in
set_option maxHeartbeats 4000000 in
theorem sg_L_overstays_70r {L : Nat} {xs : Nat → Int32} {A V : Nat → Nat → Int32} {K : Nat → Option Nat} {T : am_H} {v : Option Int32} {h' : am_H} {v1 v2 v3 v4 v5 v6 v7 v8 r : Int32} (k0 :
    if r ≤ 0 then (
      am_fin [(z_L_overstays, 55, [.ref 1, .int v1, .int v2, .int v3, .int v4, .int v5, .int v6, .int v7, .int (v8 + 1), .int r], [])] (hp L xs A V K T) v h')
    else (
      if v6 = (-2) then (
        am_fin [(z_L_overstays, 55, [.ref 1, .int v1, .int v2, .int v3, .int v4, .int (v5 + 1), .int v8, .int (if v7 < r then r else v7 : Int32), .int (v8 + 1), .int r], [])] (hp L xs A V K T) v h')
      else (
        am_fin [(z_L_overstays, 55, [.ref 1, .int v1, .int v2, .int v3, .int v4, .int (v5 + 1), .int v6, .int (if v7 < r then r else v7 : Int32), .int (v8 + 1), .int r], [])] (hp L xs A V K T) v h'))) : am_fin [(z_L_overstays, 70, [.ref 1, .int v1, .int v2, .int v3, .int v4, .int v5, .int v6, .int v7, .int v8, .null], [.int r])] (hp L xs A V K T) v h' :=
  fn_istore (ls' := [.ref 1, .int v1, .int v2, .int v3, .int v4, .int v5, .int v6, .int v7, .int v8, .int r]) rl_L_overstays_70 rfl rfl (fn_iload rl_L_overstays_72 rfl (fn_if_le rl_L_overstays_74 (fun k340 => fn_iinc (ls' := [.ref 1, .int v1, .int v2, .int v3, .int v4, .int v5, .int v6, .int v7, .int (v8 + 1), .int r]) rl_L_overstays_105 rfl rfl rfl (fn_goto rl_L_overstays_108 (k340))) (fun k341 => fn_iinc (ls' := [.ref 1, .int v1, .int v2, .int v3, .int v4, .int (v5 + 1), .int v6, .int v7, .int v8, .int r]) rl_L_overstays_77 rfl rfl rfl (fn_iload rl_L_overstays_80 rfl (fn_bipush rl_L_overstays_82 (fn_icmp_ne rl_L_overstays_84 (fun k338 => fn_iload rl_L_overstays_87 rfl (fn_goto rl_L_overstays_89 (fn_istore (ls' := [.ref 1, .int v1, .int v2, .int v3, .int v4, .int (v5 + 1), .int v8, .int v7, .int v8, .int r]) rl_L_overstays_94 rfl rfl (fn_iload rl_L_overstays_96 rfl (fn_iload rl_L_overstays_98 rfl (fn_max rl_L_overstays_100 rfl (fn_istore (ls' := [.ref 1, .int v1, .int v2, .int v3, .int v4, .int (v5 + 1), .int v8, .int (if v7 < r then r else v7 : Int32), .int v8, .int r]) rl_L_overstays_103 rfl rfl (fn_iinc (ls' := [.ref 1, .int v1, .int v2, .int v3, .int v4, .int (v5 + 1), .int v8, .int (if v7 < r then r else v7 : Int32), .int (v8 + 1), .int r]) rl_L_overstays_105 rfl rfl rfl (fn_goto rl_L_overstays_108 (k338)))))))))) (fun k339 => fn_iload rl_L_overstays_92 rfl (fn_istore (ls' := [.ref 1, .int v1, .int v2, .int v3, .int v4, .int (v5 + 1), .int v6, .int v7, .int v8, .int r]) rl_L_overstays_94 rfl rfl (fn_iload rl_L_overstays_96 rfl (fn_iload rl_L_overstays_98 rfl (fn_max rl_L_overstays_100 rfl (fn_istore (ls' := [.ref 1, .int v1, .int v2, .int v3, .int v4, .int (v5 + 1), .int v6, .int (if v7 < r then r else v7 : Int32), .int v8, .int r]) rl_L_overstays_103 rfl rfl (fn_iinc (ls' := [.ref 1, .int v1, .int v2, .int v3, .int v4, .int (v5 + 1), .int v6, .int (if v7 < r then r else v7 : Int32), .int (v8 + 1), .int r]) rl_L_overstays_105 rfl rfl rfl (fn_goto rl_L_overstays_108 (k339))))))))) k341)))) k0))
set_option maxRecDepth 100000 in
set_option maxHeartbeats 4000000 in
theorem sg_L_nth_0 {L : Nat} {xs : Nat → Int32} {A V : Nat → Nat → Int32} {K : Nat → Option Nat} {T : am_H} {v : Option Int32} {h' : am_H} {a1 a2 a3 : Int32} (k0 :
    if a1 < 0 then (
      v = some (-1) ∧ h' = hp L xs A V K T)
    else (
      if 5 < a1 then (
        v = some (-1) ∧ h' = hp L xs A V K T)
      else (
        if a2 < 0 then (
          v = some (-1) ∧ h' = hp L xs A V K T)
        else (
          if a3 < 0 then (
            v = some (-1) ∧ h' = hp L xs A V K T)
          else (
            if 2 < a3 then (
              v = some (-1) ∧ h' = hp L xs A V K T)
            else (
              am_fin [(z_L_nth, 28, [.ref 1, .int a1, .int a2, .int a3, .int 0, .int 0, .null], [])] (hp L xs A V K T) v h')))))) : am_fin [(z_L_nth, 0, [.ref 1, .int a1, .int a2, .int a3, .null, .null, .null], [])] (hp L xs A V K T) v h' :=
  fn_iload_n rl_L_nth_0 rfl (fn_stat (as := [.int a1]) (r := []) (ls' := [.int a1]) rl_L_nth_1 rfl rfl rfl rfl pl_L_isLand rfl rfl (fn_iload_n rl_L_isLand_0 rfl (fn_iconst rl_L_isLand_1 (fn_iconst rl_L_isLand_2 (fn_stat (as := [.int a1, .int 0, .int 5]) (r := []) (ls' := [.int a1, .int 0, .int 5]) rl_L_isLand_3 rfl rfl rfl rfl pl_L_isAmong rfl rfl (fn_iload_n rl_L_isAmong_0 rfl (fn_iload_n rl_L_isAmong_1 rfl (fn_icmp_lt rl_L_isAmong_2 (fun k350 => fn_iconst rl_L_isAmong_14 (fn_retci rl_L_isAmong_15 rfl (fn_retci rl_L_isLand_6 rfl (fn_if_eq_t rl_L_nth_4 (by decide +kernel) (fn_iconst rl_L_nth_20 (fn_reti rl_L_nth_21 rfl k350)))))) (fun k351 => fn_iload_n rl_L_isAmong_5 rfl (fn_iload_n rl_L_isAmong_6 rfl (fn_icmp_gt rl_L_isAmong_7 (fun k348 => fn_iconst rl_L_isAmong_14 (fn_retci rl_L_isAmong_15 rfl (fn_retci rl_L_isLand_6 rfl (fn_if_eq_t rl_L_nth_4 (by decide +kernel) (fn_iconst rl_L_nth_20 (fn_reti rl_L_nth_21 rfl k348)))))) (fun k349 => fn_iconst rl_L_isAmong_10 (fn_goto rl_L_isAmong_11 (fn_retci rl_L_isAmong_15 rfl (fn_retci rl_L_isLand_6 rfl (fn_if_eq_f rl_L_nth_4 (by decide +kernel) (fn_iload_n rl_L_nth_7 rfl (fn_if_lt rl_L_nth_8 (fun k346 => fn_iconst rl_L_nth_20 (fn_reti rl_L_nth_21 rfl k346)) (fun k347 => fn_iload_n rl_L_nth_11 rfl (fn_iconst rl_L_nth_12 (fn_iconst rl_L_nth_13 (fn_stat (as := [.int a3, .int 0, .int 2]) (r := []) (ls' := [.int a3, .int 0, .int 2]) rl_L_nth_14 rfl rfl rfl rfl pl_L_isAmong rfl rfl (fn_iload_n rl_L_isAmong_0 rfl (fn_iload_n rl_L_isAmong_1 rfl (fn_icmp_lt rl_L_isAmong_2 (fun k344 => fn_iconst rl_L_isAmong_14 (fn_retci rl_L_isAmong_15 rfl (fn_if_ne_t rl_L_nth_17 (by decide +kernel) (fn_iconst rl_L_nth_20 (fn_reti rl_L_nth_21 rfl k344))))) (fun k345 => fn_iload_n rl_L_isAmong_5 rfl (fn_iload_n rl_L_isAmong_6 rfl (fn_icmp_gt rl_L_isAmong_7 (fun k342 => fn_iconst rl_L_isAmong_14 (fn_retci rl_L_isAmong_15 rfl (fn_if_ne_t rl_L_nth_17 (by decide +kernel) (fn_iconst rl_L_nth_20 (fn_reti rl_L_nth_21 rfl k342))))) (fun k343 => fn_iconst rl_L_isAmong_10 (fn_goto rl_L_isAmong_11 (fn_retci rl_L_isAmong_15 rfl (fn_if_ne_f rl_L_nth_17 (by decide +kernel) (fn_iconst rl_L_nth_22 (fn_istore (ls' := [.ref 1, .int a1, .int a2, .int a3, .int 0, .null, .null]) rl_L_nth_23 rfl rfl (fn_iconst rl_L_nth_25 (fn_istore (ls' := [.ref 1, .int a1, .int a2, .int a3, .int 0, .int 0, .null]) rl_L_nth_26 rfl rfl (k343))))))))) k345))) k347))))))) k349))))))) k351))) k0))))))))
set_option maxRecDepth 100000 in
set_option maxHeartbeats 4000000 in
theorem sg_L_nth_28 {L : Nat} {xs : Nat → Int32} {A V : Nat → Nat → Int32} {K : Nat → Option Nat} {T : am_H} {v : Option Int32} {h' : am_H} {v1 v2 v3 v4 v5 : Int32} (k0 :
    if 1080 ≤ v5 then (
      v = some (-2) ∧ h' = hp L xs A V K T)
    else (
      am_fin [(z_P_landOn, 0, [.ref 3, .int v5], []), (z_L_nth, 48, [.ref 1, .int v1, .int v2, .int v3, .int v4, .int v5, .null], [])] (hp L xs A V K T) v h')) : am_fin [(z_L_nth, 28, [.ref 1, .int v1, .int v2, .int v3, .int v4, .int v5, .null], [])] (hp L xs A V K T) v h' :=
  fn_iload rl_L_nth_28 rfl (fn_sipush rl_L_nth_30 (fn_icmp_ge rl_L_nth_33 (fun k352 => fn_bipush rl_L_nth_123 (fn_reti rl_L_nth_125 rfl k352)) (fun k353 => fn_aload_n rl_L_nth_36 rfl (fn_get rl_L_nth_37 hp_1 rfl (fn_get rl_L_nth_40 hp_2 rfl (fn_iload rl_L_nth_43 rfl (fn_virt (as := [.ref 3, .int v5]) (r := []) (ls' := [.ref 3, .int v5]) rl_L_nth_45 rfl hp_3 rfl rfl pl_P_landOn rfl rfl (k353)))))) k0))
set_option maxRecDepth 100000 in
set_option maxHeartbeats 4000000 in
theorem sg_L_nth_48r {L : Nat} {xs : Nat → Int32} {A V : Nat → Nat → Int32} {K : Nat → Option Nat} {T : am_H} {v : Option Int32} {h' : am_H} {v1 v2 v3 v4 v5 r : Int32} (k0 :
    if r = v1 then (
      am_fin [(z_P_startsStay, 0, [.ref 3, .int v5], []), (z_L_nth, 64, [.ref 1, .int v1, .int v2, .int v3, .int v4, .int v5, .null], [])] (hp L xs A V K T) v h')
    else (
      am_fin [(z_L_nth, 28, [.ref 1, .int v1, .int v2, .int v3, .int v4, .int (v5 + 1), .null], [])] (hp L xs A V K T) v h')) : am_fin [(z_L_nth, 48, [.ref 1, .int v1, .int v2, .int v3, .int v4, .int v5, .null], [.int r])] (hp L xs A V K T) v h' :=
  fn_iload_n rl_L_nth_48 rfl (fn_icmp_ne rl_L_nth_49 (fun k354 => fn_aload_n rl_L_nth_52 rfl (fn_get rl_L_nth_53 hp_1 rfl (fn_get rl_L_nth_56 hp_2 rfl (fn_iload rl_L_nth_59 rfl (fn_virt (as := [.ref 3, .int v5]) (r := []) (ls' := [.ref 3, .int v5]) rl_L_nth_61 rfl hp_3 rfl rfl pl_P_startsStay rfl rfl (k354)))))) (fun k355 => fn_iinc (ls' := [.ref 1, .int v1, .int v2, .int v3, .int v4, .int (v5 + 1), .null]) rl_L_nth_117 rfl rfl rfl (fn_goto rl_L_nth_120 (k355))) k0)
set_option maxRecDepth 100000 in
set_option maxHeartbeats 4000000 in
theorem sg_L_nth_64r {L : Nat} {xs : Nat → Int32} {A V : Nat → Nat → Int32} {K : Nat → Option Nat} {T : am_H} {v : Option Int32} {h' : am_H} {v1 v2 v3 v4 v5 r : Int32} (k0 :
    if r = 0 then (
      am_fin [(z_L_nth, 28, [.ref 1, .int v1, .int v2, .int v3, .int v4, .int (v5 + 1), .null], [])] (hp L xs A V K T) v h')
    else (
      if v4 = v2 then (
        am_fin [(z_P_lastOfStay, 0, [.ref 3, .int v5, .null, .null, .null], []), (z_L_nth, 85, [.ref 1, .int v1, .int v2, .int v3, .int v4, .int v5, .null], [])] (hp L xs A V K T) v h')
      else (
        am_fin [(z_L_nth, 28, [.ref 1, .int v1, .int v2, .int v3, .int (v4 + 1), .int (v5 + 1), .null], [])] (hp L xs A V K T) v h'))) : am_fin [(z_L_nth, 64, [.ref 1, .int v1, .int v2, .int v3, .int v4, .int v5, .null], [.int r])] (hp L xs A V K T) v h' :=
  fn_if_eq rl_L_nth_64 (fun k358 => fn_iinc (ls' := [.ref 1, .int v1, .int v2, .int v3, .int v4, .int (v5 + 1), .null]) rl_L_nth_117 rfl rfl rfl (fn_goto rl_L_nth_120 (k358))) (fun k359 => fn_iload rl_L_nth_67 rfl (fn_iload_n rl_L_nth_69 rfl (fn_icmp_ne rl_L_nth_70 (fun k356 => fn_aload_n rl_L_nth_73 rfl (fn_get rl_L_nth_74 hp_1 rfl (fn_get rl_L_nth_77 hp_2 rfl (fn_iload rl_L_nth_80 rfl (fn_virt (as := [.ref 3, .int v5]) (r := []) (ls' := [.ref 3, .int v5, .null, .null, .null]) rl_L_nth_82 rfl hp_3 rfl rfl pl_P_lastOfStay rfl rfl (k356)))))) (fun k357 => fn_iinc (ls' := [.ref 1, .int v1, .int v2, .int v3, .int (v4 + 1), .int v5, .null]) rl_L_nth_114 rfl rfl rfl (fn_iinc (ls' := [.ref 1, .int v1, .int v2, .int v3, .int (v4 + 1), .int (v5 + 1), .null]) rl_L_nth_117 rfl rfl rfl (fn_goto rl_L_nth_120 (k357)))) k359))) k0
