set_option maxRecDepth 100000 in
set_option maxHeartbeats 4000000 in
theorem sg_M_trip_43r {L : Nat} {xs : Nat → Int32} {A V : Nat → Nat → Int32} {K : Nat → Option Nat} {T : am_H} {v : Option Int32} {h' : am_H} {v1 v2 v3 : Int32} (k0 :
    am_fin [(z_M_asked, 0, [.ref 36, .int v2], []), (z_M_trip, 48, [.ref 36, .int v1, .int v2, .int v3, .null], [])] (hp L xs A V K T) v h') : am_fin [(z_M_trip, 43, [.ref 36, .int v1, .int v2, .int v3, .null], [])] (hp L xs A V K T) v h' :=
  fn_aload_n rl_M_trip_43 rfl (fn_iload_n rl_M_trip_44 rfl (fn_virt (as := [.ref 36, .int v2]) (r := []) (ls' := [.ref 36, .int v2]) rl_M_trip_45 rfl hp_36 rfl rfl pl_M_asked rfl rfl (k0)))
set_option maxRecDepth 100000 in
set_option maxHeartbeats 4000000 in
theorem sg_M_trip_48r {L : Nat} {xs : Nat → Int32} {A V : Nat → Nat → Int32} {K : Nat → Option Nat} {T : am_H} {v : Option Int32} {h' : am_H} {v1 v2 v3 r : Int32} (k0 :
    am_fin [(z_M_takesAside, 0, [.ref 36, .null], []), (z_M_trip, 54, [.ref 36, .int v1, .int v2, .int v3, .int r], [])] (hp L xs A V K T) v h') : am_fin [(z_M_trip, 48, [.ref 36, .int v1, .int v2, .int v3, .null], [.int r])] (hp L xs A V K T) v h' :=
  fn_istore (ls' := [.ref 36, .int v1, .int v2, .int v3, .int r]) rl_M_trip_48 rfl rfl (fn_aload_n rl_M_trip_50 rfl (fn_virt (as := [.ref 36]) (r := []) (ls' := [.ref 36, .null]) rl_M_trip_51 rfl hp_36 rfl rfl pl_M_takesAside rfl rfl (k0)))
set_option maxRecDepth 100000 in
set_option maxHeartbeats 4000000 in
theorem sg_M_trip_54r {L : Nat} {xs : Nat → Int32} {A V : Nat → Nat → Int32} {K : Nat → Option Nat} {T : am_H} {v : Option Int32} {h' : am_H} {v1 v2 v3 v4 : Int32} (k0 :
    v = some v4 ∧ h' = hp L xs A V K T) : am_fin [(z_M_trip, 54, [.ref 36, .int v1, .int v2, .int v3, .int v4], [])] (hp L xs A V K T) v h' :=
  fn_iload rl_M_trip_54 rfl (fn_reti rl_M_trip_56 rfl k0)
set_option maxRecDepth 100000 in
set_option maxHeartbeats 4000000 in
theorem sg_M_cheapest_0 {L : Nat} {xs : Nat → Int32} {A V : Nat → Nat → Int32} {K : Nat → Option Nat} {T : am_H} {v : Option Int32} {h' : am_H} {a1 a2 a3 : Int32} (k0 :
    if (lg_cmp ((a1 : Int32).toInt64) ((0 : Int32).toInt64)) < 0 then (
      v = some (-1) ∧ h' = hp L xs A V K T)
    else (
      if 0 < (lg_cmp ((a1 : Int32).toInt64) ((1079 : Int32).toInt64)) then (
        v = some (-1) ∧ h' = hp L xs A V K T)
      else (
        if (lg_cmp ((a2 : Int32).toInt64) ((a1 : Int32).toInt64)) < 0 then (
          v = some (-1) ∧ h' = hp L xs A V K T)
        else (
          if 0 < (lg_cmp ((a2 : Int32).toInt64) ((1079 : Int32).toInt64)) then (
            v = some (-1) ∧ h' = hp L xs A V K T)
          else (
            if (lg_cmp ((a3 : Int32).toInt64) ((0 : Int32).toInt64)) < 0 then (
              v = some (-1) ∧ h' = hp L xs A V K T)
            else (
              if 0 < (lg_cmp ((a3 : Int32).toInt64) ((1 : Int32).toInt64)) then (
                v = some (-1) ∧ h' = hp L xs A V K T)
              else (
                am_fin [(z_M_laysAside, 0, [.ref 36, .null], []), (z_M_cheapest, 30, [.ref 36, .int a1, .int a2, .int a3, .int (-1), .int 0, .null, .null], [])] (hp L xs A V K T) v h'))))))) : am_fin [(z_M_cheapest, 0, [.ref 36, .int a1, .int a2, .int a3, .null, .null, .null, .null], [])] (hp L xs A V K T) v h' :=
  fn_iload_n rl_M_cheapest_0 rfl (fn_iload_n rl_M_cheapest_1 rfl (fn_stat (as := [.int a1, .int a2]) (r := []) (ls' := [.int a1, .int a2]) rl_M_cheapest_2 rfl rfl rfl rfl pl_M_areDays rfl rfl (fn_iload_n rl_M_areDays_0 rfl (fn_stat (as := [.int a1]) (r := []) (ls' := [.int a1]) rl_M_areDays_1 rfl rfl rfl rfl pl_M_isDay rfl rfl (fn_iload_n rl_M_isDay_0 rfl (fn_i2l rl_M_isDay_1 (fn_lconst rl_M_isDay_2 (fn_ldc2_w rl_M_isDay_3 (fn_stat (as := [.long ((a1 : Int32).toInt64), .long ((0 : Int32).toInt64), .long ((1079 : Int32).toInt64)]) (r := []) (ls' := [.long ((a1 : Int32).toInt64), .null, .long ((0 : Int32).toInt64), .null, .long ((1079 : Int32).toInt64), .null]) rl_M_isDay_6 rfl rfl rfl rfl pl_M_in rfl rfl (fn_lload_n rl_M_in_0 rfl (fn_lload_n rl_M_in_1 rfl (fn_lcmp rl_M_in_2 (fn_if_lt rl_M_in_3 (fun k1879 => fn_iconst rl_M_in_17 (fn_retci rl_M_in_18 rfl (fn_retci rl_M_isDay_9 rfl (fn_if_eq_t rl_M_areDays_4 (by decide +kernel) (fn_iconst rl_M_areDays_24 (fn_retci rl_M_areDays_25 rfl (fn_if_eq_t rl_M_cheapest_5 (by decide +kernel) (fn_iconst rl_M_cheapest_18 (fn_reti rl_M_cheapest_19 rfl k1879))))))))) (fun k1880 => fn_lload_n rl_M_in_6 rfl (fn_lload rl_M_in_7 rfl (fn_lcmp rl_M_in_9 (fn_if_gt rl_M_in_10 (fun k1877 => fn_iconst rl_M_in_17 (fn_retci rl_M_in_18 rfl (fn_retci rl_M_isDay_9 rfl (fn_if_eq_t rl_M_areDays_4 (by decide +kernel) (fn_iconst rl_M_areDays_24 (fn_retci rl_M_areDays_25 rfl (fn_if_eq_t rl_M_cheapest_5 (by decide +kernel) (fn_iconst rl_M_cheapest_18 (fn_reti rl_M_cheapest_19 rfl k1877))))))))) (fun k1878 => fn_iconst rl_M_in_13 (fn_goto rl_M_in_14 (fn_retci rl_M_in_18 rfl (fn_retci rl_M_isDay_9 rfl (fn_if_eq_f rl_M_areDays_4 (by decide +kernel) (fn_iload_n rl_M_areDays_7 rfl (fn_i2l rl_M_areDays_8 (fn_iload_n rl_M_areDays_9 rfl (fn_i2l rl_M_areDays_10 (fn_ldc2_w rl_M_areDays_11 (fn_stat (as := [.long ((a2 : Int32).toInt64), .long ((a1 : Int32).toInt64), .long ((1079 : Int32).toInt64)]) (r := []) (ls' := [.long ((a2 : Int32).toInt64), .null, .long ((a1 : Int32).toInt64), .null, .long ((1079 : Int32).toInt64), .null]) rl_M_areDays_14 rfl rfl rfl rfl pl_M_in rfl rfl (fn_lload_n rl_M_in_0 rfl (fn_lload_n rl_M_in_1 rfl (fn_lcmp rl_M_in_2 (fn_if_lt rl_M_in_3 (fun k1875 => fn_iconst rl_M_in_17 (fn_retci rl_M_in_18 rfl (fn_if_eq_t rl_M_areDays_17 (by decide +kernel) (fn_iconst rl_M_areDays_24 (fn_retci rl_M_areDays_25 rfl (fn_if_eq_t rl_M_cheapest_5 (by decide +kernel) (fn_iconst rl_M_cheapest_18 (fn_reti rl_M_cheapest_19 rfl k1875)))))))) (fun k1876 => fn_lload_n rl_M_in_6 rfl (fn_lload rl_M_in_7 rfl (fn_lcmp rl_M_in_9 (fn_if_gt rl_M_in_10 (fun k1873 => fn_iconst rl_M_in_17 (fn_retci rl_M_in_18 rfl (fn_if_eq_t rl_M_areDays_17 (by decide +kernel) (fn_iconst rl_M_areDays_24 (fn_retci rl_M_areDays_25 rfl (fn_if_eq_t rl_M_cheapest_5 (by decide +kernel) (fn_iconst rl_M_cheapest_18 (fn_reti rl_M_cheapest_19 rfl k1873)))))))) (fun k1874 => fn_iconst rl_M_in_13 (fn_goto rl_M_in_14 (fn_retci rl_M_in_18 rfl (fn_if_eq_f rl_M_areDays_17 (by decide +kernel) (fn_iconst rl_M_areDays_20 (fn_goto rl_M_areDays_21 (fn_retci rl_M_areDays_25 rfl (fn_if_eq_f rl_M_cheapest_5 (by decide +kernel) (fn_iload_n rl_M_cheapest_8 rfl (fn_i2l rl_M_cheapest_9 (fn_lconst rl_M_cheapest_10 (fn_lconst rl_M_cheapest_11 (fn_stat (as := [.long ((a3 : Int32).toInt64), .long ((0 : Int32).toInt64), .long ((1 : Int32).toInt64)]) (r := []) (ls' := [.long ((a3 : Int32).toInt64), .null, .long ((0 : Int32).toInt64), .null, .long ((1 : Int32).toInt64), .null]) rl_M_cheapest_12 rfl rfl rfl rfl pl_M_in rfl rfl (fn_lload_n rl_M_in_0 rfl (fn_lload_n rl_M_in_1 rfl (fn_lcmp rl_M_in_2 (fn_if_lt rl_M_in_3 (fun k1871 => fn_iconst rl_M_in_17 (fn_retci rl_M_in_18 rfl (fn_if_ne_t rl_M_cheapest_15 (by decide +kernel) (fn_iconst rl_M_cheapest_18 (fn_reti rl_M_cheapest_19 rfl k1871))))) (fun k1872 => fn_lload_n rl_M_in_6 rfl (fn_lload rl_M_in_7 rfl (fn_lcmp rl_M_in_9 (fn_if_gt rl_M_in_10 (fun k1869 => fn_iconst rl_M_in_17 (fn_retci rl_M_in_18 rfl (fn_if_ne_t rl_M_cheapest_15 (by decide +kernel) (fn_iconst rl_M_cheapest_18 (fn_reti rl_M_cheapest_19 rfl k1869))))) (fun k1870 => fn_iconst rl_M_in_13 (fn_goto rl_M_in_14 (fn_retci rl_M_in_18 rfl (fn_if_ne_f rl_M_cheapest_15 (by decide +kernel) (fn_iconst rl_M_cheapest_20 (fn_istore (ls' := [.ref 36, .int a1, .int a2, .int a3, .int (-1), .null, .null, .null]) rl_M_cheapest_21 rfl rfl (fn_iconst rl_M_cheapest_23 (fn_istore (ls' := [.ref 36, .int a1, .int a2, .int a3, .int (-1), .int 0, .null, .null]) rl_M_cheapest_24 rfl rfl (fn_aload_n rl_M_cheapest_26 rfl (fn_virt (as := [.ref 36]) (r := []) (ls' := [.ref 36, .null]) rl_M_cheapest_27 rfl hp_36 rfl rfl pl_M_laysAside rfl rfl (k1870))))))))))) k1872)))) k1874))))))))))))))))) k1876)))) k1878))))))))))))))) k1880)))) k0)))))))))))))
set_option maxRecDepth 100000 in
set_option maxHeartbeats 4000000 in
theorem sg_M_cheapest_30r {L : Nat} {xs : Nat → Int32} {A V : Nat → Nat → Int32} {K : Nat → Option Nat} {T : am_H} {v : Option Int32} {h' : am_H} {v1 v2 v3 v4 v5 : Int32} (k0 :
    am_fin [(z_M_cheapest, 33, [.ref 36, .int v1, .int v2, .int v3, .int v4, .int v5, .int 0, .null], [])] (hp L xs A V K T) v h') : am_fin [(z_M_cheapest, 30, [.ref 36, .int v1, .int v2, .int v3, .int v4, .int v5, .null, .null], [])] (hp L xs A V K T) v h' :=
  fn_iconst rl_M_cheapest_30 (fn_istore (ls' := [.ref 36, .int v1, .int v2, .int v3, .int v4, .int v5, .int 0, .null]) rl_M_cheapest_31 rfl rfl (k0))
set_option maxRecDepth 100000 in
set_option maxHeartbeats 4000000 in
theorem sg_M_cheapest_33 {L : Nat} {xs : Nat → Int32} {A V : Nat → Nat → Int32} {K : Nat → Option Nat} {T : am_H} {v : Option Int32} {h' : am_H} {v1 v2 v3 v4 v5 v6 : Int32} (k0 :
    if 6 ≤ v6 then (
      if v3 = 0 then (
        v = some v4 ∧ h' = hp L xs A V K T)
      else (
        v = some v5 ∧ h' = hp L xs A V K T))
    else (
      am_fin [(z_M_goes, 0, [.ref 36, .int v6, .int v1, .int v2, .null], []), (z_M_cheapest, 48, [.ref 36, .int v1, .int v2, .int v3, .int v4, .int v5, .int v6, .null], [])] (hp L xs A V K T) v h')) : am_fin [(z_M_cheapest, 33, [.ref 36, .int v1, .int v2, .int v3, .int v4, .int v5, .int v6, .null], [])] (hp L xs A V K T) v h' :=
  fn_iload rl_M_cheapest_33 rfl (fn_bipush rl_M_cheapest_35 (fn_icmp_ge rl_M_cheapest_37 (fun k1883 => fn_iload_n rl_M_cheapest_88 rfl (fn_if_ne rl_M_cheapest_89 (fun k1881 => fn_iload rl_M_cheapest_92 rfl (fn_goto rl_M_cheapest_94 (fn_reti rl_M_cheapest_99 rfl k1881))) (fun k1882 => fn_iload rl_M_cheapest_97 rfl (fn_reti rl_M_cheapest_99 rfl k1882)) k1883)) (fun k1884 => fn_aload_n rl_M_cheapest_40 rfl (fn_iload rl_M_cheapest_41 rfl (fn_iload_n rl_M_cheapest_43 rfl (fn_iload_n rl_M_cheapest_44 rfl (fn_virt (as := [.ref 36, .int v6, .int v1, .int v2]) (r := []) (ls' := [.ref 36, .int v6, .int v1, .int v2, .null]) rl_M_cheapest_45 rfl hp_36 rfl rfl pl_M_goes rfl rfl (k1884)))))) k0))
set_option maxRecDepth 100000 in
set_option maxHeartbeats 4000000 in
theorem sg_M_cheapest_48r {L : Nat} {xs : Nat → Int32} {A V : Nat → Nat → Int32} {K : Nat → Option Nat} {T : am_H} {v : Option Int32} {h' : am_H} {v1 v2 v3 v4 v5 v6 : Int32} (k0 :
    am_fin [(z_M_owesAll, 0, [.ref 36, .null, .null], []), (z_M_cheapest, 52, [.ref 36, .int v1, .int v2, .int v3, .int v4, .int v5, .int v6, .null], [])] (hp L xs A V K T) v h') : am_fin [(z_M_cheapest, 48, [.ref 36, .int v1, .int v2, .int v3, .int v4, .int v5, .int v6, .null], [])] (hp L xs A V K T) v h' :=
  fn_aload_n rl_M_cheapest_48 rfl (fn_virt (as := [.ref 36]) (r := []) (ls' := [.ref 36, .null, .null]) rl_M_cheapest_49 rfl hp_36 rfl rfl pl_M_owesAll rfl rfl (k0))
set_option maxRecDepth 100000 in
set_option maxHeartbeats 4000000 in
theorem sg_M_cheapest_52r {L : Nat} {xs : Nat → Int32} {A V : Nat → Nat → Int32} {K : Nat → Option Nat} {T : am_H} {v : Option Int32} {h' : am_H} {v1 v2 v3 v4 v5 v6 r : Int32} (k0 :
    am_fin [(z_M_takesAside, 0, [.ref 36, .null], []), (z_M_cheapest, 58, [.ref 36, .int v1, .int v2, .int v3, .int v4, .int v5, .int v6, .int r], [])] (hp L xs A V K T) v h') : am_fin [(z_M_cheapest, 52, [.ref 36, .int v1, .int v2, .int v3, .int v4, .int v5, .int v6, .null], [.int r])] (hp L xs A V K T) v h' :=
  fn_istore (ls' := [.ref 36, .int v1, .int v2, .int v3, .int v4, .int v5, .int v6, .int r]) rl_M_cheapest_52 rfl rfl (fn_aload_n rl_M_cheapest_54 rfl (fn_virt (as := [.ref 36]) (r := []) (ls' := [.ref 36, .null]) rl_M_cheapest_55 rfl hp_36 rfl rfl pl_M_takesAside rfl rfl (k0)))
set_option maxRecDepth 100000 in
set_option maxHeartbeats 4000000 in
theorem sg_M_cheapest_58r {L : Nat} {xs : Nat → Int32} {A V : Nat → Nat → Int32} {K : Nat → Option Nat} {T : am_H} {v : Option Int32} {h' : am_H} {v1 v2 v3 v4 v5 v6 v7 : Int32} (k0 :
    if v4 = (-1) then (
      am_fin [(z_M_cheapest, 33, [.ref 36, .int v1, .int v2, .int v3, .int v6, .int v7, .int (v6 + 1), .int v7], [])] (hp L xs A V K T) v h')
    else (
      if v7 < v5 then (
        am_fin [(z_M_cheapest, 33, [.ref 36, .int v1, .int v2, .int v3, .int v6, .int v7, .int (v6 + 1), .int v7], [])] (hp L xs A V K T) v h')
      else (
        am_fin [(z_M_cheapest, 33, [.ref 36, .int v1, .int v2, .int v3, .int v4, .int v5, .int (v6 + 1), .int v7], [])] (hp L xs A V K T) v h'))) : am_fin [(z_M_cheapest, 58, [.ref 36, .int v1, .int v2, .int v3, .int v4, .int v5, .int v6, .int v7], [])] (hp L xs A V K T) v h' :=
  fn_iload rl_M_cheapest_58 rfl (fn_iconst rl_M_cheapest_60 (fn_icmp_eq rl_M_cheapest_61 (fun k1887 => fn_iload rl_M_cheapest_74 rfl (fn_istore (ls' := [.ref 36, .int v1, .int v2, .int v3, .int v6, .int v5, .int v6, .int v7]) rl_M_cheapest_76 rfl rfl (fn_iload rl_M_cheapest_78 rfl (fn_istore (ls' := [.ref 36, .int v1, .int v2, .int v3, .int v6, .int v7, .int v6, .int v7]) rl_M_cheapest_80 rfl rfl (fn_iinc (ls' := [.ref 36, .int v1, .int v2, .int v3, .int v6, .int v7, .int (v6 + 1), .int v7]) rl_M_cheapest_82 rfl rfl rfl (fn_goto rl_M_cheapest_85 (k1887))))))) (fun k1888 => fn_iload rl_M_cheapest_64 rfl (fn_iload rl_M_cheapest_66 rfl (fn_icmp_lt rl_M_cheapest_68 (fun k1885 => fn_iload rl_M_cheapest_74 rfl (fn_istore (ls' := [.ref 36, .int v1, .int v2, .int v3, .int v6, .int v5, .int v6, .int v7]) rl_M_cheapest_76 rfl rfl (fn_iload rl_M_cheapest_78 rfl (fn_istore (ls' := [.ref 36, .int v1, .int v2, .int v3, .int v6, .int v7, .int v6, .int v7]) rl_M_cheapest_80 rfl rfl (fn_iinc (ls' := [.ref 36, .int v1, .int v2, .int v3, .int v6, .int v7, .int (v6 + 1), .int v7]) rl_M_cheapest_82 rfl rfl rfl (fn_goto rl_M_cheapest_85 (k1885))))))) (fun k1886 => fn_goto rl_M_cheapest_71 (fn_iinc (ls' := [.ref 36, .int v1, .int v2, .int v3, .int v4, .int v5, .int (v6 + 1), .int v7]) rl_M_cheapest_82 rfl rfl rfl (fn_goto rl_M_cheapest_85 (k1886)))) k1888))) k0))
set_option maxRecDepth 100000 in
set_option maxHeartbeats 4000000 in
theorem sg_M_trade_0 {L : Nat} {xs : Nat → Int32} {A V : Nat → Nat → Int32} {K : Nat → Option Nat} {T : am_H} {v : Option Int32} {h' : am_H} {a1 a2 a3 a4 : Int32} (k0 :
    if (lg_cmp ((a1 : Int32).toInt64) ((0 : Int32).toInt64)) < 0 then (
      v = some (-1) ∧ h' = hp L xs A V K T)
    else (
      if 0 < (lg_cmp ((a1 : Int32).toInt64) ((5 : Int32).toInt64)) then (
        v = some (-1) ∧ h' = hp L xs A V K T)
      else (
        if (lg_cmp ((a2 : Int32).toInt64) ((0 : Int32).toInt64)) < 0 then (
          v = some (-1) ∧ h' = hp L xs A V K T)
        else (
          if 0 < (lg_cmp ((a2 : Int32).toInt64) ((5 : Int32).toInt64)) then (
            v = some (-1) ∧ h' = hp L xs A V K T)
          else (
            if a1 = a2 then (
              v = some (-1) ∧ h' = hp L xs A V K T)
            else (
              if (lg_cmp ((a3 : Int32).toInt64) ((0 : Int32).toInt64)) < 0 then (
                v = some (-1) ∧ h' = hp L xs A V K T)
              else (
                if 0 < (lg_cmp ((a3 : Int32).toInt64) ((1079 : Int32).toInt64)) then (
                  v = some (-1) ∧ h' = hp L xs A V K T)
                else (
                  if (lg_cmp ((a4 : Int32).toInt64) ((a3 : Int32).toInt64)) < 0 then (
                    v = some (-1) ∧ h' = hp L xs A V K T)
                  else (
                    if 0 < (lg_cmp ((a4 : Int32).toInt64) ((1079 : Int32).toInt64)) then (
                      v = some (-1) ∧ h' = hp L xs A V K T)
                    else (
                      am_fin [(z_M_trade, 25, [.ref 36, .int a1, .int a2, .int a3, .int a4, .int 0, .int a3, .null], [])] (hp L xs A V K T) v h')))))))))) : am_fin [(z_M_trade, 0, [.ref 36, .int a1, .int a2, .int a3, .int a4, .null, .null, .null], [])] (hp L xs A V K T) v h' :=
  fn_iload_n rl_M_trade_0 rfl (fn_iload_n rl_M_trade_1 rfl (fn_stat (as := [.int a1, .int a2]) (r := []) (ls' := [.int a1, .int a2]) rl_M_trade_2 rfl rfl rfl rfl pl_M_areTwo rfl rfl (fn_iload_n rl_M_areTwo_0 rfl (fn_stat (as := [.int a1]) (r := []) (ls' := [.int a1]) rl_M_areTwo_1 rfl rfl rfl rfl pl_M_isLand rfl rfl (fn_iload_n rl_M_isLand_0 rfl (fn_i2l rl_M_isLand_1 (fn_lconst rl_M_isLand_2 (fn_ldc2_w rl_M_isLand_3 (fn_stat (as := [.long ((a1 : Int32).toInt64), .long ((0 : Int32).toInt64), .long ((5 : Int32).toInt64)]) (r := []) (ls' := [.long ((a1 : Int32).toInt64), .null, .long ((0 : Int32).toInt64), .null, .long ((5 : Int32).toInt64), .null]) rl_M_isLand_6 rfl rfl rfl rfl pl_M_in rfl rfl (fn_lload_n rl_M_in_0 rfl (fn_lload_n rl_M_in_1 rfl (fn_lcmp rl_M_in_2 (fn_if_lt rl_M_in_3 (fun k1905 => fn_iconst rl_M_in_17 (fn_retci rl_M_in_18 rfl (fn_retci rl_M_isLand_9 rfl (fn_if_eq_t rl_M_areTwo_4 (by decide +kernel) (fn_iconst rl_M_areTwo_23 (fn_retci rl_M_areTwo_24 rfl (fn_if_eq_t rl_M_trade_5 (by decide +kernel) (fn_iconst rl_M_trade_17 (fn_reti rl_M_trade_18 rfl k1905))))))))) (fun k1906 => fn_lload_n rl_M_in_6 rfl (fn_lload rl_M_in_7 rfl (fn_lcmp rl_M_in_9 (fn_if_gt rl_M_in_10 (fun k1903 => fn_iconst rl_M_in_17 (fn_retci rl_M_in_18 rfl (fn_retci rl_M_isLand_9 rfl (fn_if_eq_t rl_M_areTwo_4 (by decide +kernel) (fn_iconst rl_M_areTwo_23 (fn_retci rl_M_areTwo_24 rfl (fn_if_eq_t rl_M_trade_5 (by decide +kernel) (fn_iconst rl_M_trade_17 (fn_reti rl_M_trade_18 rfl k1903))))))))) (fun k1904 => fn_iconst rl_M_in_13 (fn_goto rl_M_in_14 (fn_retci rl_M_in_18 rfl (fn_retci rl_M_isLand_9 rfl (fn_if_eq_f rl_M_areTwo_4 (by decide +kernel) (fn_iload_n rl_M_areTwo_7 rfl (fn_stat (as := [.int a2]) (r := []) (ls' := [.int a2]) rl_M_areTwo_8 rfl rfl rfl rfl pl_M_isLand rfl rfl (fn_iload_n rl_M_isLand_0 rfl (fn_i2l rl_M_isLand_1 (fn_lconst rl_M_isLand_2 (fn_ldc2_w rl_M_isLand_3 (fn_stat (as := [.long ((a2 : Int32).toInt64), .long ((0 : Int32).toInt64), .long ((5 : Int32).toInt64)]) (r := []) (ls' := [.long ((a2 : Int32).toInt64), .null, .long ((0 : Int32).toInt64), .null, .long ((5 : Int32).toInt64), .null]) rl_M_isLand_6 rfl rfl rfl rfl pl_M_in rfl rfl (fn_lload_n rl_M_in_0 rfl (fn_lload_n rl_M_in_1 rfl (fn_lcmp rl_M_in_2 (fn_if_lt rl_M_in_3 (fun k1901 => fn_iconst rl_M_in_17 (fn_retci rl_M_in_18 rfl (fn_retci rl_M_isLand_9 rfl (fn_if_eq_t rl_M_areTwo_11 (by decide +kernel) (fn_iconst rl_M_areTwo_23 (fn_retci rl_M_areTwo_24 rfl (fn_if_eq_t rl_M_trade_5 (by decide +kernel) (fn_iconst rl_M_trade_17 (fn_reti rl_M_trade_18 rfl k1901))))))))) (fun k1902 => fn_lload_n rl_M_in_6 rfl (fn_lload rl_M_in_7 rfl (fn_lcmp rl_M_in_9 (fn_if_gt rl_M_in_10 (fun k1899 => fn_iconst rl_M_in_17 (fn_retci rl_M_in_18 rfl (fn_retci rl_M_isLand_9 rfl (fn_if_eq_t rl_M_areTwo_11 (by decide +kernel) (fn_iconst rl_M_areTwo_23 (fn_retci rl_M_areTwo_24 rfl (fn_if_eq_t rl_M_trade_5 (by decide +kernel) (fn_iconst rl_M_trade_17 (fn_reti rl_M_trade_18 rfl k1899))))))))) (fun k1900 => fn_iconst rl_M_in_13 (fn_goto rl_M_in_14 (fn_retci rl_M_in_18 rfl (fn_retci rl_M_isLand_9 rfl (fn_if_eq_f rl_M_areTwo_11 (by decide +kernel) (fn_iload_n rl_M_areTwo_14 rfl (fn_iload_n rl_M_areTwo_15 rfl (fn_icmp_eq rl_M_areTwo_16 (fun k1897 => fn_iconst rl_M_areTwo_23 (fn_retci rl_M_areTwo_24 rfl (fn_if_eq_t rl_M_trade_5 (by decide +kernel) (fn_iconst rl_M_trade_17 (fn_reti rl_M_trade_18 rfl k1897))))) (fun k1898 => fn_iconst rl_M_areTwo_19 (fn_goto rl_M_areTwo_20 (fn_retci rl_M_areTwo_24 rfl (fn_if_eq_f rl_M_trade_5 (by decide +kernel) (fn_iload_n rl_M_trade_8 rfl (fn_iload rl_M_trade_9 rfl (fn_stat (as := [.int a3, .int a4]) (r := []) (ls' := [.int a3, .int a4]) rl_M_trade_11 rfl rfl rfl rfl pl_M_areDays rfl rfl (fn_iload_n rl_M_areDays_0 rfl (fn_stat (as := [.int a3]) (r := []) (ls' := [.int a3]) rl_M_areDays_1 rfl rfl rfl rfl pl_M_isDay rfl rfl (fn_iload_n rl_M_isDay_0 rfl (fn_i2l rl_M_isDay_1 (fn_lconst rl_M_isDay_2 (fn_ldc2_w rl_M_isDay_3 (fn_stat (as := [.long ((a3 : Int32).toInt64), .long ((0 : Int32).toInt64), .long ((1079 : Int32).toInt64)]) (r := []) (ls' := [.long ((a3 : Int32).toInt64), .null, .long ((0 : Int32).toInt64), .null, .long ((1079 : Int32).toInt64), .null]) rl_M_isDay_6 rfl rfl rfl rfl pl_M_in rfl rfl (fn_lload_n rl_M_in_0 rfl (fn_lload_n rl_M_in_1 rfl (fn_lcmp rl_M_in_2 (fn_if_lt rl_M_in_3 (fun k1895 => fn_iconst rl_M_in_17 (fn_retci rl_M_in_18 rfl (fn_retci rl_M_isDay_9 rfl (fn_if_eq_t rl_M_areDays_4 (by decide +kernel) (fn_iconst rl_M_areDays_24 (fn_retci rl_M_areDays_25 rfl (fn_if_ne_t rl_M_trade_14 (by decide +kernel) (fn_iconst rl_M_trade_17 (fn_reti rl_M_trade_18 rfl k1895))))))))) (fun k1896 => fn_lload_n rl_M_in_6 rfl (fn_lload rl_M_in_7 rfl (fn_lcmp rl_M_in_9 (fn_if_gt rl_M_in_10 (fun k1893 => fn_iconst rl_M_in_17 (fn_retci rl_M_in_18 rfl (fn_retci rl_M_isDay_9 rfl (fn_if_eq_t rl_M_areDays_4 (by decide +kernel) (fn_iconst rl_M_areDays_24 (fn_retci rl_M_areDays_25 rfl (fn_if_ne_t rl_M_trade_14 (by decide +kernel) (fn_iconst rl_M_trade_17 (fn_reti rl_M_trade_18 rfl k1893))))))))) (fun k1894 => fn_iconst rl_M_in_13 (fn_goto rl_M_in_14 (fn_retci rl_M_in_18 rfl (fn_retci rl_M_isDay_9 rfl (fn_if_eq_f rl_M_areDays_4 (by decide +kernel) (fn_iload_n rl_M_areDays_7 rfl (fn_i2l rl_M_areDays_8 (fn_iload_n rl_M_areDays_9 rfl (fn_i2l rl_M_areDays_10 (fn_ldc2_w rl_M_areDays_11 (fn_stat (as := [.long ((a4 : Int32).toInt64), .long ((a3 : Int32).toInt64), .long ((1079 : Int32).toInt64)]) (r := []) (ls' := [.long ((a4 : Int32).toInt64), .null, .long ((a3 : Int32).toInt64), .null, .long ((1079 : Int32).toInt64), .null]) rl_M_areDays_14 rfl rfl rfl rfl pl_M_in rfl rfl (fn_lload_n rl_M_in_0 rfl (fn_lload_n rl_M_in_1 rfl (fn_lcmp rl_M_in_2 (fn_if_lt rl_M_in_3 (fun k1891 => fn_iconst rl_M_in_17 (fn_retci rl_M_in_18 rfl (fn_if_eq_t rl_M_areDays_17 (by decide +kernel) (fn_iconst rl_M_areDays_24 (fn_retci rl_M_areDays_25 rfl (fn_if_ne_t rl_M_trade_14 (by decide +kernel) (fn_iconst rl_M_trade_17 (fn_reti rl_M_trade_18 rfl k1891)))))))) (fun k1892 => fn_lload_n rl_M_in_6 rfl (fn_lload rl_M_in_7 rfl (fn_lcmp rl_M_in_9 (fn_if_gt rl_M_in_10 (fun k1889 => fn_iconst rl_M_in_17 (fn_retci rl_M_in_18 rfl (fn_if_eq_t rl_M_areDays_17 (by decide +kernel) (fn_iconst rl_M_areDays_24 (fn_retci rl_M_areDays_25 rfl (fn_if_ne_t rl_M_trade_14 (by decide +kernel) (fn_iconst rl_M_trade_17 (fn_reti rl_M_trade_18 rfl k1889)))))))) (fun k1890 => fn_iconst rl_M_in_13 (fn_goto rl_M_in_14 (fn_retci rl_M_in_18 rfl (fn_if_eq_f rl_M_areDays_17 (by decide +kernel) (fn_iconst rl_M_areDays_20 (fn_goto rl_M_areDays_21 (fn_retci rl_M_areDays_25 rfl (fn_if_ne_f rl_M_trade_14 (by decide +kernel) (fn_iconst rl_M_trade_19 (fn_istore (ls' := [.ref 36, .int a1, .int a2, .int a3, .int a4, .int 0, .null, .null]) rl_M_trade_20 rfl rfl (fn_iload_n rl_M_trade_22 rfl (fn_istore (ls' := [.ref 36, .int a1, .int a2, .int a3, .int a4, .int 0, .int a3, .null]) rl_M_trade_23 rfl rfl (k1890))))))))))))) k1892)))) k1894))))))))))))))) k1896)))) k1898)))))))))))))))))) k1900)))))))) k1902)))) k1904)))))))))))))))) k1906)))) k0)))))))))))))
set_option maxRecDepth 100000 in
set_option maxHeartbeats 4000000 in
theorem sg_M_trade_25 {L : Nat} {xs : Nat → Int32} {A V : Nat → Nat → Int32} {K : Nat → Option Nat} {T : am_H} {v : Option Int32} {h' : am_H} {v1 v2 v3 v4 v5 v6 : Int32} (k0 :
    if v4 < v6 then (
      v = some v5 ∧ h' = hp L xs A V K T)
    else (
      ¬ (v6 < 0 ∨ 1080 ≤ v6.toNatClampNeg) ∧ (
      if ((A 37) v6.toNatClampNeg) = v1 then (
        if ((A 37) v6.toNatClampNeg) = v1 then (
          ¬ (v6 < 0 ∨ 1080 ≤ v6.toNatClampNeg) ∧ (
          am_fin [(z_M_trade, 25, [.ref 36, .int v1, .int v2, .int v3, .int v4, .int (v5 + 1), .int (v6 + 1), .int ((A 37) v6.toNatClampNeg)], [])] (hp L xs (upA A 37 (upd (A 37) v6.toNatClampNeg v2)) V K T) v h'))
        else (
          ¬ (v6 < 0 ∨ 1080 ≤ v6.toNatClampNeg) ∧ (
          am_fin [(z_M_trade, 25, [.ref 36, .int v1, .int v2, .int v3, .int v4, .int (v5 + 1), .int (v6 + 1), .int ((A 37) v6.toNatClampNeg)], [])] (hp L xs (upA A 37 (upd (A 37) v6.toNatClampNeg v1)) V K T) v h')))
      else (
        if ((A 37) v6.toNatClampNeg) = v2 then (
          if ((A 37) v6.toNatClampNeg) = v1 then (
            ¬ (v6 < 0 ∨ 1080 ≤ v6.toNatClampNeg) ∧ (
            am_fin [(z_M_trade, 25, [.ref 36, .int v1, .int v2, .int v3, .int v4, .int (v5 + 1), .int (v6 + 1), .int ((A 37) v6.toNatClampNeg)], [])] (hp L xs (upA A 37 (upd (A 37) v6.toNatClampNeg v2)) V K T) v h'))
          else (
            ¬ (v6 < 0 ∨ 1080 ≤ v6.toNatClampNeg) ∧ (
            am_fin [(z_M_trade, 25, [.ref 36, .int v1, .int v2, .int v3, .int v4, .int (v5 + 1), .int (v6 + 1), .int ((A 37) v6.toNatClampNeg)], [])] (hp L xs (upA A 37 (upd (A 37) v6.toNatClampNeg v1)) V K T) v h')))
        else (
          am_fin [(z_M_trade, 25, [.ref 36, .int v1, .int v2, .int v3, .int v4, .int v5, .int (v6 + 1), .int ((A 37) v6.toNatClampNeg)], [])] (hp L xs A V K T) v h'))))) : am_fin [(z_M_trade, 25, [.ref 36, .int v1, .int v2, .int v3, .int v4, .int v5, .int v6, .null], [])] (hp L xs A V K T) v h' :=
  fn_iload rl_M_trade_25 rfl (fn_iload rl_M_trade_27 rfl (fn_icmp_gt rl_M_trade_29 (fun k1920 => fn_iload rl_M_trade_86 rfl (fn_reti rl_M_trade_88 rfl k1920)) (fun k1921 => fn_aload_n rl_M_trade_32 rfl (fn_get rl_M_trade_33 hp_36 rfl (fn_iload rl_M_trade_36 rfl (fn_iald rl_M_trade_38 hp_37 (fun k1919 => fn_istore (ls' := [.ref 36, .int v1, .int v2, .int v3, .int v4, .int v5, .int v6, .int ((A 37) v6.toNatClampNeg)]) rl_M_trade_39 rfl rfl (fn_iload rl_M_trade_41 rfl (fn_iload_n rl_M_trade_43 rfl (fn_icmp_eq rl_M_trade_44 (fun k1917 => fn_aload_n rl_M_trade_56 rfl (fn_get rl_M_trade_57 hp_36 rfl (fn_iload rl_M_trade_60 rfl (fn_iload rl_M_trade_62 rfl (fn_iload_n rl_M_trade_64 rfl (fn_icmp_ne rl_M_trade_65 (fun k1909 => fn_iload_n rl_M_trade_68 rfl (fn_goto rl_M_trade_69 (fn_iast rl_M_trade_73 hp_37 hps_37 (fun k1907 => fn_iload rl_M_trade_74 rfl (fn_iconst rl_M_trade_76 (fn_iadd rl_M_trade_77 (fn_istore (ls' := [.ref 36, .int v1, .int v2, .int v3, .int v4, .int (v5 + 1), .int v6, .int ((A 37) v6.toNatClampNeg)]) rl_M_trade_78 rfl rfl (fn_iinc (ls' := [.ref 36, .int v1, .int v2, .int v3, .int v4, .int (v5 + 1), .int (v6 + 1), .int ((A 37) v6.toNatClampNeg)]) rl_M_trade_80 rfl rfl rfl (fn_goto rl_M_trade_83 (k1907))))))) k1909))) (fun k1910 => fn_iload_n rl_M_trade_72 rfl (fn_iast rl_M_trade_73 hp_37 hps_37 (fun k1908 => fn_iload rl_M_trade_74 rfl (fn_iconst rl_M_trade_76 (fn_iadd rl_M_trade_77 (fn_istore (ls' := [.ref 36, .int v1, .int v2, .int v3, .int v4, .int (v5 + 1), .int v6, .int ((A 37) v6.toNatClampNeg)]) rl_M_trade_78 rfl rfl (fn_iinc (ls' := [.ref 36, .int v1, .int v2, .int v3, .int v4, .int (v5 + 1), .int (v6 + 1), .int ((A 37) v6.toNatClampNeg)]) rl_M_trade_80 rfl rfl rfl (fn_goto rl_M_trade_83 (k1908))))))) k1910)) k1917)))))) (fun k1918 => fn_iload rl_M_trade_47 rfl (fn_iload_n rl_M_trade_49 rfl (fn_icmp_eq rl_M_trade_50 (fun k1915 => fn_aload_n rl_M_trade_56 rfl (fn_get rl_M_trade_57 hp_36 rfl (fn_iload rl_M_trade_60 rfl (fn_iload rl_M_trade_62 rfl (fn_iload_n rl_M_trade_64 rfl (fn_icmp_ne rl_M_trade_65 (fun k1913 => fn_iload_n rl_M_trade_68 rfl (fn_goto rl_M_trade_69 (fn_iast rl_M_trade_73 hp_37 hps_37 (fun k1911 => fn_iload rl_M_trade_74 rfl (fn_iconst rl_M_trade_76 (fn_iadd rl_M_trade_77 (fn_istore (ls' := [.ref 36, .int v1, .int v2, .int v3, .int v4, .int (v5 + 1), .int v6, .int ((A 37) v6.toNatClampNeg)]) rl_M_trade_78 rfl rfl (fn_iinc (ls' := [.ref 36, .int v1, .int v2, .int v3, .int v4, .int (v5 + 1), .int (v6 + 1), .int ((A 37) v6.toNatClampNeg)]) rl_M_trade_80 rfl rfl rfl (fn_goto rl_M_trade_83 (k1911))))))) k1913))) (fun k1914 => fn_iload_n rl_M_trade_72 rfl (fn_iast rl_M_trade_73 hp_37 hps_37 (fun k1912 => fn_iload rl_M_trade_74 rfl (fn_iconst rl_M_trade_76 (fn_iadd rl_M_trade_77 (fn_istore (ls' := [.ref 36, .int v1, .int v2, .int v3, .int v4, .int (v5 + 1), .int v6, .int ((A 37) v6.toNatClampNeg)]) rl_M_trade_78 rfl rfl (fn_iinc (ls' := [.ref 36, .int v1, .int v2, .int v3, .int v4, .int (v5 + 1), .int (v6 + 1), .int ((A 37) v6.toNatClampNeg)]) rl_M_trade_80 rfl rfl rfl (fn_goto rl_M_trade_83 (k1912))))))) k1914)) k1915)))))) (fun k1916 => fn_goto rl_M_trade_53 (fn_iinc (ls' := [.ref 36, .int v1, .int v2, .int v3, .int v4, .int v5, .int (v6 + 1), .int ((A 37) v6.toNatClampNeg)]) rl_M_trade_80 rfl rfl rfl (fn_goto rl_M_trade_83 (k1916)))) k1918))) k1919)))) k1921)))) k0))
set_option maxRecDepth 100000 in
set_option maxHeartbeats 4000000 in
theorem sg_M_erase_0 {L : Nat} {xs : Nat → Int32} {A V : Nat → Nat → Int32} {K : Nat → Option Nat} {T : am_H} {v : Option Int32} {h' : am_H} {a1 a2 : Int32} (k0 :
    if (lg_cmp ((a1 : Int32).toInt64) ((0 : Int32).toInt64)) < 0 then (
      v = some (-1) ∧ h' = hp L xs A V K T)
    else (
      if 0 < (lg_cmp ((a1 : Int32).toInt64) ((5 : Int32).toInt64)) then (
        v = some (-1) ∧ h' = hp L xs A V K T)
      else (
        if (lg_cmp ((a2 : Int32).toInt64) ((1 : Int32).toInt64)) < 0 then (
          v = some (-1) ∧ h' = hp L xs A V K T)
        else (
          if 0 < (lg_cmp ((a2 : Int32).toInt64) ((360 : Int32).toInt64)) then (
            v = some (-1) ∧ h' = hp L xs A V K T)
          else (
            am_fin [(z_M_erase, 21, [.ref 36, .int a1, .int a2, .int 0, .int 0, .null], [])] (hp L xs A V K T) v h'))))) : am_fin [(z_M_erase, 0, [.ref 36, .int a1, .int a2, .null, .null, .null], [])] (hp L xs A V K T) v h' :=
  fn_iload_n rl_M_erase_0 rfl (fn_stat (as := [.int a1]) (r := []) (ls' := [.int a1]) rl_M_erase_1 rfl rfl rfl rfl pl_M_isLand rfl rfl (fn_iload_n rl_M_isLand_0 rfl (fn_i2l rl_M_isLand_1 (fn_lconst rl_M_isLand_2 (fn_ldc2_w rl_M_isLand_3 (fn_stat (as := [.long ((a1 : Int32).toInt64), .long ((0 : Int32).toInt64), .long ((5 : Int32).toInt64)]) (r := []) (ls' := [.long ((a1 : Int32).toInt64), .null, .long ((0 : Int32).toInt64), .null, .long ((5 : Int32).toInt64), .null]) rl_M_isLand_6 rfl rfl rfl rfl pl_M_in rfl rfl (fn_lload_n rl_M_in_0 rfl (fn_lload_n rl_M_in_1 rfl (fn_lcmp rl_M_in_2 (fn_if_lt rl_M_in_3 (fun k1928 => fn_iconst rl_M_in_17 (fn_retci rl_M_in_18 rfl (fn_retci rl_M_isLand_9 rfl (fn_if_eq_t rl_M_erase_4 (by decide +kernel) (fn_iconst rl_M_erase_14 (fn_reti rl_M_erase_15 rfl k1928)))))) (fun k1929 => fn_lload_n rl_M_in_6 rfl (fn_lload rl_M_in_7 rfl (fn_lcmp rl_M_in_9 (fn_if_gt rl_M_in_10 (fun k1926 => fn_iconst rl_M_in_17 (fn_retci rl_M_in_18 rfl (fn_retci rl_M_isLand_9 rfl (fn_if_eq_t rl_M_erase_4 (by decide +kernel) (fn_iconst rl_M_erase_14 (fn_reti rl_M_erase_15 rfl k1926)))))) (fun k1927 => fn_iconst rl_M_in_13 (fn_goto rl_M_in_14 (fn_retci rl_M_in_18 rfl (fn_retci rl_M_isLand_9 rfl (fn_if_eq_f rl_M_erase_4 (by decide +kernel) (fn_iload_n rl_M_erase_7 rfl (fn_stat (as := [.int a2]) (r := []) (ls' := [.int a2]) rl_M_erase_8 rfl rfl rfl rfl pl_M_isSpan rfl rfl (fn_iload_n rl_M_isSpan_0 rfl (fn_i2l rl_M_isSpan_1 (fn_lconst rl_M_isSpan_2 (fn_ldc2_w rl_M_isSpan_3 (fn_stat (as := [.long ((a2 : Int32).toInt64), .long ((1 : Int32).toInt64), .long ((360 : Int32).toInt64)]) (r := []) (ls' := [.long ((a2 : Int32).toInt64), .null, .long ((1 : Int32).toInt64), .null, .long ((360 : Int32).toInt64), .null]) rl_M_isSpan_6 rfl rfl rfl rfl pl_M_in rfl rfl (fn_lload_n rl_M_in_0 rfl (fn_lload_n rl_M_in_1 rfl (fn_lcmp rl_M_in_2 (fn_if_lt rl_M_in_3 (fun k1924 => fn_iconst rl_M_in_17 (fn_retci rl_M_in_18 rfl (fn_retci rl_M_isSpan_9 rfl (fn_if_ne_t rl_M_erase_11 (by decide +kernel) (fn_iconst rl_M_erase_14 (fn_reti rl_M_erase_15 rfl k1924)))))) (fun k1925 => fn_lload_n rl_M_in_6 rfl (fn_lload rl_M_in_7 rfl (fn_lcmp rl_M_in_9 (fn_if_gt rl_M_in_10 (fun k1922 => fn_iconst rl_M_in_17 (fn_retci rl_M_in_18 rfl (fn_retci rl_M_isSpan_9 rfl (fn_if_ne_t rl_M_erase_11 (by decide +kernel) (fn_iconst rl_M_erase_14 (fn_reti rl_M_erase_15 rfl k1922)))))) (fun k1923 => fn_iconst rl_M_in_13 (fn_goto rl_M_in_14 (fn_retci rl_M_in_18 rfl (fn_retci rl_M_isSpan_9 rfl (fn_if_ne_f rl_M_erase_11 (by decide +kernel) (fn_iconst rl_M_erase_16 (fn_istore_n (ls' := [.ref 36, .int a1, .int a2, .int 0, .null, .null]) rl_M_erase_17 rfl rfl (fn_iconst rl_M_erase_18 (fn_istore (ls' := [.ref 36, .int a1, .int a2, .int 0, .int 0, .null]) rl_M_erase_19 rfl rfl (k1923)))))))))) k1925)))) k1927)))))))))))))))) k1929)))) k0))))))))))
set_option maxRecDepth 100000 in
set_option maxHeartbeats 4000000 in
theorem sg_M_erase_21 {L : Nat} {xs : Nat → Int32} {A V : Nat → Nat → Int32} {K : Nat → Option Nat} {T : am_H} {v : Option Int32} {h' : am_H} {v1 v2 v3 v4 : Int32} (k0 :
    if 1080 ≤ v4 then (
      v = some v3 ∧ h' = hp L xs A V K T)
    else (
      ¬ (v4 < 0 ∨ 1080 ≤ v4.toNatClampNeg) ∧ (
      if ((A 37) v4.toNatClampNeg) = v1 then (
        am_fin [(z_M_begins, 0, [.ref 36, .int v4], []), (z_M_erase, 46, [.ref 36, .int v1, .int v2, .int v3, .int v4, .null], [])] (hp L xs A V K T) v h')
      else (
        am_fin [(z_M_erase, 21, [.ref 36, .int v1, .int v2, .int v3, .int (v4 + 1), .null], [])] (hp L xs A V K T) v h')))) : am_fin [(z_M_erase, 21, [.ref 36, .int v1, .int v2, .int v3, .int v4, .null], [])] (hp L xs A V K T) v h' :=
  fn_iload rl_M_erase_21 rfl (fn_sipush rl_M_erase_23 (fn_icmp_ge rl_M_erase_26 (fun k1933 => fn_iload_n rl_M_erase_92 rfl (fn_reti rl_M_erase_93 rfl k1933)) (fun k1934 => fn_aload_n rl_M_erase_29 rfl (fn_get rl_M_erase_30 hp_36 rfl (fn_iload rl_M_erase_33 rfl (fn_iald rl_M_erase_35 hp_37 (fun k1932 => fn_iload_n rl_M_erase_36 rfl (fn_icmp_ne rl_M_erase_37 (fun k1930 => fn_aload_n rl_M_erase_40 rfl (fn_iload rl_M_erase_41 rfl (fn_virt (as := [.ref 36, .int v4]) (r := []) (ls' := [.ref 36, .int v4]) rl_M_erase_43 rfl hp_36 rfl rfl pl_M_begins rfl rfl (k1930)))) (fun k1931 => fn_iinc (ls' := [.ref 36, .int v1, .int v2, .int v3, .int (v4 + 1), .null]) rl_M_erase_86 rfl rfl rfl (fn_goto rl_M_erase_89 (k1931))) k1932)) k1934)))) k0))
set_option maxRecDepth 100000 in
set_option maxHeartbeats 4000000 in
theorem sg_M_erase_46r {L : Nat} {xs : Nat → Int32} {A V : Nat → Nat → Int32} {K : Nat → Option Nat} {T : am_H} {v : Option Int32} {h' : am_H} {v1 v2 v3 v4 r : Int32} (k0 :
    if r = 0 then (
      am_fin [(z_M_erase, 21, [.ref 36, .int v1, .int v2, .int v3, .int (v4 + 1), .null], [])] (hp L xs A V K T) v h')
    else (
      am_fin [(z_M_endOf, 0, [.ref 36, .int v4, .null], []), (z_M_erase, 58, [.ref 36, .int v1, .int v2, .int v3, .int v4, .null], [])] (hp L xs A V K T) v h')) : am_fin [(z_M_erase, 46, [.ref 36, .int v1, .int v2, .int v3, .int v4, .null], [.int r])] (hp L xs A V K T) v h' :=
  fn_if_ne rl_M_erase_46 (fun k1935 => fn_goto rl_M_erase_49 (fn_iinc (ls' := [.ref 36, .int v1, .int v2, .int v3, .int (v4 + 1), .null]) rl_M_erase_86 rfl rfl rfl (fn_goto rl_M_erase_89 (k1935)))) (fun k1936 => fn_aload_n rl_M_erase_52 rfl (fn_iload rl_M_erase_53 rfl (fn_virt (as := [.ref 36, .int v4]) (r := []) (ls' := [.ref 36, .int v4, .null]) rl_M_erase_55 rfl hp_36 rfl rfl pl_M_endOf rfl rfl (k1936)))) k0
set_option maxRecDepth 100000 in
set_option maxHeartbeats 4000000 in
theorem sg_M_erase_58r {L : Nat} {xs : Nat → Int32} {A V : Nat → Nat → Int32} {K : Nat → Option Nat} {T : am_H} {v : Option Int32} {h' : am_H} {v1 v2 v3 v4 r : Int32} (k0 :
    if v2 ≤ (r - v4) then (
      am_fin [(z_M_erase, 21, [.ref 36, .int v1, .int v2, .int v3, .int (r + 1), .int r], [])] (hp L xs A V K T) v h')
    else (
      am_fin [(z_M_goes, 0, [.ref 36, .int (-1), .int v4, .int r, .null], []), (z_M_erase, 78, [.ref 36, .int v1, .int v2, .int v3, .int v4, .int r], [])] (hp L xs A V K T) v h')) : am_fin [(z_M_erase, 58, [.ref 36, .int v1, .int v2, .int v3, .int v4, .null], [.int r])] (hp L xs A V K T) v h' :=
  fn_istore (ls' := [.ref 36, .int v1, .int v2, .int v3, .int v4, .int r]) rl_M_erase_58 rfl rfl (fn_iload rl_M_erase_60 rfl (fn_iload rl_M_erase_62 rfl (fn_isub rl_M_erase_64 (fn_iload_n rl_M_erase_65 rfl (fn_icmp_ge rl_M_erase_66 (fun k1937 => fn_iload rl_M_erase_82 rfl (fn_istore (ls' := [.ref 36, .int v1, .int v2, .int v3, .int r, .int r]) rl_M_erase_84 rfl rfl (fn_iinc (ls' := [.ref 36, .int v1, .int v2, .int v3, .int (r + 1), .int r]) rl_M_erase_86 rfl rfl rfl (fn_goto rl_M_erase_89 (k1937))))) (fun k1938 => fn_aload_n rl_M_erase_69 rfl (fn_iconst rl_M_erase_70 (fn_iload rl_M_erase_71 rfl (fn_iload rl_M_erase_73 rfl (fn_virt (as := [.ref 36, .int (-1), .int v4, .int r]) (r := []) (ls' := [.ref 36, .int (-1), .int v4, .int r, .null]) rl_M_erase_75 rfl hp_36 rfl rfl pl_M_goes rfl rfl (k1938)))))) k0)))))
set_option maxRecDepth 100000 in
set_option maxHeartbeats 4000000 in
theorem sg_M_erase_78r {L : Nat} {xs : Nat → Int32} {A V : Nat → Nat → Int32} {K : Nat → Option Nat} {T : am_H} {v : Option Int32} {h' : am_H} {v1 v2 v3 v4 v5 : Int32} (k0 :
    am_fin [(z_M_erase, 21, [.ref 36, .int v1, .int v2, .int (v3 + 1), .int (v5 + 1), .int v5], [])] (hp L xs A V K T) v h') : am_fin [(z_M_erase, 78, [.ref 36, .int v1, .int v2, .int v3, .int v4, .int v5], [])] (hp L xs A V K T) v h' :=
  fn_iload_n rl_M_erase_78 rfl (fn_iconst rl_M_erase_79 (fn_iadd rl_M_erase_80 (fn_istore_n (ls' := [.ref 36, .int v1, .int v2, .int (v3 + 1), .int v4, .int v5]) rl_M_erase_81 rfl rfl (fn_iload rl_M_erase_82 rfl (fn_istore (ls' := [.ref 36, .int v1, .int v2, .int (v3 + 1), .int v5, .int v5]) rl_M_erase_84 rfl rfl (fn_iinc (ls' := [.ref 36, .int v1, .int v2, .int (v3 + 1), .int (v5 + 1), .int v5]) rl_M_erase_86 rfl rfl rfl (fn_goto rl_M_erase_89 (k0))))))))
set_option maxRecDepth 100000 in
set_option maxHeartbeats 4000000 in
theorem sg_M_routes_0 {L : Nat} {xs : Nat → Int32} {A V : Nat → Nat → Int32} {K : Nat → Option Nat} {T : am_H} {v : Option Int32} {h' : am_H} {a1 a2 a3 : Int32} (k0 :
    if (lg_cmp ((a1 : Int32).toInt64) (((-1) : Int32).toInt64)) < 0 then (
      v = some (-1) ∧ h' = hp L xs A V K T)
    else (
      if 0 < (lg_cmp ((a1 : Int32).toInt64) ((5 : Int32).toInt64)) then (
        v = some (-1) ∧ h' = hp L xs A V K T)
      else (
        if (lg_cmp ((a2 : Int32).toInt64) (((-1) : Int32).toInt64)) < 0 then (
          v = some (-1) ∧ h' = hp L xs A V K T)
        else (
          if 0 < (lg_cmp ((a2 : Int32).toInt64) ((5 : Int32).toInt64)) then (
            v = some (-1) ∧ h' = hp L xs A V K T)
          else (
            if a1 = a2 then (
              v = some (-1) ∧ h' = hp L xs A V K T)
            else (
              if (lg_cmp ((a3 : Int32).toInt64) ((0 : Int32).toInt64)) < 0 then (
                v = some (-1) ∧ h' = hp L xs A V K T)
              else (
                if 0 < (lg_cmp ((a3 : Int32).toInt64) ((2 : Int32).toInt64)) then (
                  v = some (-1) ∧ h' = hp L xs A V K T)
                else (
                  if 1 ≤ (360 * a3) then (
                    am_fin [(z_M_routes, 42, [.ref 36, .int a1, .int a2, .int a3, .int 0, .int (360 * a3)], [])] (hp L xs A V K T) v h')
                  else (
                    am_fin [(z_M_routes, 42, [.ref 36, .int a1, .int a2, .int a3, .int 0, .int 1], [])] (hp L xs A V K T) v h'))))))))) : am_fin [(z_M_routes, 0, [.ref 36, .int a1, .int a2, .int a3, .null, .null], [])] (hp L xs A V K T) v h' :=
  fn_iload_n rl_M_routes_0 rfl (fn_stat (as := [.int a1]) (r := []) (ls' := [.int a1]) rl_M_routes_1 rfl rfl rfl rfl pl_M_isPlace rfl rfl (fn_iload_n rl_M_isPlace_0 rfl (fn_i2l rl_M_isPlace_1 (fn_ldc2_w rl_M_isPlace_2 (fn_ldc2_w rl_M_isPlace_5 (fn_stat (as := [.long ((a1 : Int32).toInt64), .long (((-1) : Int32).toInt64), .long ((5 : Int32).toInt64)]) (r := []) (ls' := [.long ((a1 : Int32).toInt64), .null, .long (((-1) : Int32).toInt64), .null, .long ((5 : Int32).toInt64), .null]) rl_M_isPlace_8 rfl rfl rfl rfl pl_M_in rfl rfl (fn_lload_n rl_M_in_0 rfl (fn_lload_n rl_M_in_1 rfl (fn_lcmp rl_M_in_2 (fn_if_lt rl_M_in_3 (fun k1953 => fn_iconst rl_M_in_17 (fn_retci rl_M_in_18 rfl (fn_retci rl_M_isPlace_11 rfl (fn_if_eq_t rl_M_routes_4 (by decide +kernel) (fn_iconst rl_M_routes_26 (fn_reti rl_M_routes_27 rfl k1953)))))) (fun k1954 => fn_lload_n rl_M_in_6 rfl (fn_lload rl_M_in_7 rfl (fn_lcmp rl_M_in_9 (fn_if_gt rl_M_in_10 (fun k1951 => fn_iconst rl_M_in_17 (fn_retci rl_M_in_18 rfl (fn_retci rl_M_isPlace_11 rfl (fn_if_eq_t rl_M_routes_4 (by decide +kernel) (fn_iconst rl_M_routes_26 (fn_reti rl_M_routes_27 rfl k1951)))))) (fun k1952 => fn_iconst rl_M_in_13 (fn_goto rl_M_in_14 (fn_retci rl_M_in_18 rfl (fn_retci rl_M_isPlace_11 rfl (fn_if_eq_f rl_M_routes_4 (by decide +kernel) (fn_iload_n rl_M_routes_7 rfl (fn_stat (as := [.int a2]) (r := []) (ls' := [.int a2]) rl_M_routes_8 rfl rfl rfl rfl pl_M_isPlace rfl rfl (fn_iload_n rl_M_isPlace_0 rfl (fn_i2l rl_M_isPlace_1 (fn_ldc2_w rl_M_isPlace_2 (fn_ldc2_w rl_M_isPlace_5 (fn_stat (as := [.long ((a2 : Int32).toInt64), .long (((-1) : Int32).toInt64), .long ((5 : Int32).toInt64)]) (r := []) (ls' := [.long ((a2 : Int32).toInt64), .null, .long (((-1) : Int32).toInt64), .null, .long ((5 : Int32).toInt64), .null]) rl_M_isPlace_8 rfl rfl rfl rfl pl_M_in rfl rfl (fn_lload_n rl_M_in_0 rfl (fn_lload_n rl_M_in_1 rfl (fn_lcmp rl_M_in_2 (fn_if_lt rl_M_in_3 (fun k1949 => fn_iconst rl_M_in_17 (fn_retci rl_M_in_18 rfl (fn_retci rl_M_isPlace_11 rfl (fn_if_eq_t rl_M_routes_11 (by decide +kernel) (fn_iconst rl_M_routes_26 (fn_reti rl_M_routes_27 rfl k1949)))))) (fun k1950 => fn_lload_n rl_M_in_6 rfl (fn_lload rl_M_in_7 rfl (fn_lcmp rl_M_in_9 (fn_if_gt rl_M_in_10 (fun k1947 => fn_iconst rl_M_in_17 (fn_retci rl_M_in_18 rfl (fn_retci rl_M_isPlace_11 rfl (fn_if_eq_t rl_M_routes_11 (by decide +kernel) (fn_iconst rl_M_routes_26 (fn_reti rl_M_routes_27 rfl k1947)))))) (fun k1948 => fn_iconst rl_M_in_13 (fn_goto rl_M_in_14 (fn_retci rl_M_in_18 rfl (fn_retci rl_M_isPlace_11 rfl (fn_if_eq_f rl_M_routes_11 (by decide +kernel) (fn_iload_n rl_M_routes_14 rfl (fn_iload_n rl_M_routes_15 rfl (fn_icmp_eq rl_M_routes_16 (fun k1945 => fn_iconst rl_M_routes_26 (fn_reti rl_M_routes_27 rfl k1945)) (fun k1946 => fn_iload_n rl_M_routes_19 rfl (fn_stat (as := [.int a3]) (r := []) (ls' := [.int a3]) rl_M_routes_20 rfl rfl rfl rfl pl_M_isYear rfl rfl (fn_iload_n rl_M_isYear_0 rfl (fn_i2l rl_M_isYear_1 (fn_lconst rl_M_isYear_2 (fn_ldc2_w rl_M_isYear_3 (fn_stat (as := [.long ((a3 : Int32).toInt64), .long ((0 : Int32).toInt64), .long ((2 : Int32).toInt64)]) (r := []) (ls' := [.long ((a3 : Int32).toInt64), .null, .long ((0 : Int32).toInt64), .null, .long ((2 : Int32).toInt64), .null]) rl_M_isYear_6 rfl rfl rfl rfl pl_M_in rfl rfl (fn_lload_n rl_M_in_0 rfl (fn_lload_n rl_M_in_1 rfl (fn_lcmp rl_M_in_2 (fn_if_lt rl_M_in_3 (fun k1943 => fn_iconst rl_M_in_17 (fn_retci rl_M_in_18 rfl (fn_retci rl_M_isYear_9 rfl (fn_if_ne_t rl_M_routes_23 (by decide +kernel) (fn_iconst rl_M_routes_26 (fn_reti rl_M_routes_27 rfl k1943)))))) (fun k1944 => fn_lload_n rl_M_in_6 rfl (fn_lload rl_M_in_7 rfl (fn_lcmp rl_M_in_9 (fn_if_gt rl_M_in_10 (fun k1941 => fn_iconst rl_M_in_17 (fn_retci rl_M_in_18 rfl (fn_retci rl_M_isYear_9 rfl (fn_if_ne_t rl_M_routes_23 (by decide +kernel) (fn_iconst rl_M_routes_26 (fn_reti rl_M_routes_27 rfl k1941)))))) (fun k1942 => fn_iconst rl_M_in_13 (fn_goto rl_M_in_14 (fn_retci rl_M_in_18 rfl (fn_retci rl_M_isYear_9 rfl (fn_if_ne_f rl_M_routes_23 (by decide +kernel) (fn_iconst rl_M_routes_28 (fn_istore (ls' := [.ref 36, .int a1, .int a2, .int a3, .int 0, .null]) rl_M_routes_29 rfl rfl (fn_iconst rl_M_routes_31 (fn_sipush rl_M_routes_32 (fn_iload_n rl_M_routes_35 rfl (fn_imul rl_M_routes_36 (fn_stat (as := [.int 1, .int (360 * a3)]) (r := []) (ls' := [.int 1, .int (360 * a3)]) rl_M_routes_37 rfl rfl rfl rfl pl_M_more rfl rfl (fn_iload_n rl_M_more_0 rfl (fn_iload_n rl_M_more_1 rfl (fn_icmp_le rl_M_more_2 (fun k1939 => fn_iload_n rl_M_more_9 rfl (fn_retci rl_M_more_10 rfl (fn_istore (ls' := [.ref 36, .int a1, .int a2, .int a3, .int 0, .int (360 * a3)]) rl_M_routes_40 rfl rfl (k1939)))) (fun k1940 => fn_iload_n rl_M_more_5 rfl (fn_goto rl_M_more_6 (fn_retci rl_M_more_10 rfl (fn_istore (ls' := [.ref 36, .int a1, .int a2, .int a3, .int 0, .int 1]) rl_M_routes_40 rfl rfl (k1940))))) k1942))))))))))))))) k1944)))) k1946))))))))))) k1948)))))))) k1950)))) k1952)))))))))))))))) k1954)))) k0))))))))))
set_option maxRecDepth 100000 in
set_option maxHeartbeats 4000000 in
theorem sg_M_routes_42 {L : Nat} {xs : Nat → Int32} {A V : Nat → Nat → Int32} {K : Nat → Option Nat} {T : am_H} {v : Option Int32} {h' : am_H} {v1 v2 v3 v4 v5 : Int32} (k0 :
    if ((360 * v3) + 360) ≤ v5 then (
      v = some v4 ∧ h' = hp L xs A V K T)
    else (
      ¬ ((v5 - 1) < 0 ∨ 1080 ≤ (v5 - 1).toNatClampNeg) ∧ (
      if ((A 37) (v5 - 1).toNatClampNeg) = v1 then (
        ¬ (v5 < 0 ∨ 1080 ≤ v5.toNatClampNeg) ∧ (
        if ((A 37) v5.toNatClampNeg) = v2 then (
          am_fin [(z_M_routes, 42, [.ref 36, .int v1, .int v2, .int v3, .int (v4 + 1), .int (v5 + 1)], [])] (hp L xs A V K T) v h')
        else (
          am_fin [(z_M_routes, 42, [.ref 36, .int v1, .int v2, .int v3, .int (v4 + 0), .int (v5 + 1)], [])] (hp L xs A V K T) v h')))
      else (
        am_fin [(z_M_routes, 42, [.ref 36, .int v1, .int v2, .int v3, .int (v4 + 0), .int (v5 + 1)], [])] (hp L xs A V K T) v h')))) : am_fin [(z_M_routes, 42, [.ref 36, .int v1, .int v2, .int v3, .int v4, .int v5], [])] (hp L xs A V K T) v h' :=
  fn_iload rl_M_routes_42 rfl (fn_sipush rl_M_routes_44 (fn_iload_n rl_M_routes_47 rfl (fn_imul rl_M_routes_48 (fn_sipush rl_M_routes_49 (fn_iadd rl_M_routes_52 (fn_icmp_ge rl_M_routes_53 (fun k1961 => fn_iload rl_M_routes_96 rfl (fn_reti rl_M_routes_98 rfl k1961)) (fun k1962 => fn_iload rl_M_routes_56 rfl (fn_aload_n rl_M_routes_58 rfl (fn_get rl_M_routes_59 hp_36 rfl (fn_iload rl_M_routes_62 rfl (fn_iconst rl_M_routes_64 (fn_isub rl_M_routes_65 (fn_iald rl_M_routes_66 hp_37 (fun k1960 => fn_iload_n rl_M_routes_67 rfl (fn_icmp_ne rl_M_routes_68 (fun k1958 => fn_aload_n rl_M_routes_71 rfl (fn_get rl_M_routes_72 hp_36 rfl (fn_iload rl_M_routes_75 rfl (fn_iald rl_M_routes_77 hp_37 (fun k1957 => fn_iload_n rl_M_routes_78 rfl (fn_icmp_ne rl_M_routes_79 (fun k1955 => fn_iconst rl_M_routes_82 (fn_goto rl_M_routes_83 (fn_iadd rl_M_routes_87 (fn_istore (ls' := [.ref 36, .int v1, .int v2, .int v3, .int (v4 + 1), .int v5]) rl_M_routes_88 rfl rfl (fn_iinc (ls' := [.ref 36, .int v1, .int v2, .int v3, .int (v4 + 1), .int (v5 + 1)]) rl_M_routes_90 rfl rfl rfl (fn_goto rl_M_routes_93 (k1955))))))) (fun k1956 => fn_iconst rl_M_routes_86 (fn_iadd rl_M_routes_87 (fn_istore (ls' := [.ref 36, .int v1, .int v2, .int v3, .int (v4 + 0), .int v5]) rl_M_routes_88 rfl rfl (fn_iinc (ls' := [.ref 36, .int v1, .int v2, .int v3, .int (v4 + 0), .int (v5 + 1)]) rl_M_routes_90 rfl rfl rfl (fn_goto rl_M_routes_93 (k1956)))))) k1957)) k1958)))) (fun k1959 => fn_iconst rl_M_routes_86 (fn_iadd rl_M_routes_87 (fn_istore (ls' := [.ref 36, .int v1, .int v2, .int v3, .int (v4 + 0), .int v5]) rl_M_routes_88 rfl rfl (fn_iinc (ls' := [.ref 36, .int v1, .int v2, .int v3, .int (v4 + 0), .int (v5 + 1)]) rl_M_routes_90 rfl rfl rfl (fn_goto rl_M_routes_93 (k1959)))))) k1960)) k1962))))))) k0))))))
set_option maxRecDepth 100000 in
set_option maxHeartbeats 4000000 in
theorem sg_M_latest_0 {L : Nat} {xs : Nat → Int32} {A V : Nat → Nat → Int32} {K : Nat → Option Nat} {T : am_H} {v : Option Int32} {h' : am_H} {a1 a2 : Int32} (k0 :
    if (lg_cmp ((a1 : Int32).toInt64) ((0 : Int32).toInt64)) < 0 then (
      v = some (-1) ∧ h' = hp L xs A V K T)
    else (
      if 0 < (lg_cmp ((a1 : Int32).toInt64) ((5 : Int32).toInt64)) then (
        v = some (-1) ∧ h' = hp L xs A V K T)
      else (
        if (lg_cmp ((a2 : Int32).toInt64) ((0 : Int32).toInt64)) < 0 then (
          v = some (-1) ∧ h' = hp L xs A V K T)
        else (
          if 0 < (lg_cmp ((a2 : Int32).toInt64) ((2 : Int32).toInt64)) then (
            v = some (-1) ∧ h' = hp L xs A V K T)
          else (
            am_fin [(z_M_laysCounts, 0, [.ref 36, .null, .null, .null], []), (z_M_latest, 20, [.ref 36, .int a1, .int a2, .null], [])] (hp L xs A V K T) v h'))))) : am_fin [(z_M_latest, 0, [.ref 36, .int a1, .int a2, .null], [])] (hp L xs A V K T) v h' :=
  fn_iload_n rl_M_latest_0 rfl (fn_stat (as := [.int a1]) (r := []) (ls' := [.int a1]) rl_M_latest_1 rfl rfl rfl rfl pl_M_isLand rfl rfl (fn_iload_n rl_M_isLand_0 rfl (fn_i2l rl_M_isLand_1 (fn_lconst rl_M_isLand_2 (fn_ldc2_w rl_M_isLand_3 (fn_stat (as := [.long ((a1 : Int32).toInt64), .long ((0 : Int32).toInt64), .long ((5 : Int32).toInt64)]) (r := []) (ls' := [.long ((a1 : Int32).toInt64), .null, .long ((0 : Int32).toInt64), .null, .long ((5 : Int32).toInt64), .null]) rl_M_isLand_6 rfl rfl rfl rfl pl_M_in rfl rfl (fn_lload_n rl_M_in_0 rfl (fn_lload_n rl_M_in_1 rfl (fn_lcmp rl_M_in_2 (fn_if_lt rl_M_in_3 (fun k1969 => fn_iconst rl_M_in_17 (fn_retci rl_M_in_18 rfl (fn_retci rl_M_isLand_9 rfl (fn_if_eq_t rl_M_latest_4 (by decide +kernel) (fn_iconst rl_M_latest_14 (fn_reti rl_M_latest_15 rfl k1969)))))) (fun k1970 => fn_lload_n rl_M_in_6 rfl (fn_lload rl_M_in_7 rfl (fn_lcmp rl_M_in_9 (fn_if_gt rl_M_in_10 (fun k1967 => fn_iconst rl_M_in_17 (fn_retci rl_M_in_18 rfl (fn_retci rl_M_isLand_9 rfl (fn_if_eq_t rl_M_latest_4 (by decide +kernel) (fn_iconst rl_M_latest_14 (fn_reti rl_M_latest_15 rfl k1967)))))) (fun k1968 => fn_iconst rl_M_in_13 (fn_goto rl_M_in_14 (fn_retci rl_M_in_18 rfl (fn_retci rl_M_isLand_9 rfl (fn_if_eq_f rl_M_latest_4 (by decide +kernel) (fn_iload_n rl_M_latest_7 rfl (fn_stat (as := [.int a2]) (r := []) (ls' := [.int a2]) rl_M_latest_8 rfl rfl rfl rfl pl_M_isYear rfl rfl (fn_iload_n rl_M_isYear_0 rfl (fn_i2l rl_M_isYear_1 (fn_lconst rl_M_isYear_2 (fn_ldc2_w rl_M_isYear_3 (fn_stat (as := [.long ((a2 : Int32).toInt64), .long ((0 : Int32).toInt64), .long ((2 : Int32).toInt64)]) (r := []) (ls' := [.long ((a2 : Int32).toInt64), .null, .long ((0 : Int32).toInt64), .null, .long ((2 : Int32).toInt64), .null]) rl_M_isYear_6 rfl rfl rfl rfl pl_M_in rfl rfl (fn_lload_n rl_M_in_0 rfl (fn_lload_n rl_M_in_1 rfl (fn_lcmp rl_M_in_2 (fn_if_lt rl_M_in_3 (fun k1965 => fn_iconst rl_M_in_17 (fn_retci rl_M_in_18 rfl (fn_retci rl_M_isYear_9 rfl (fn_if_ne_t rl_M_latest_11 (by decide +kernel) (fn_iconst rl_M_latest_14 (fn_reti rl_M_latest_15 rfl k1965)))))) (fun k1966 => fn_lload_n rl_M_in_6 rfl (fn_lload rl_M_in_7 rfl (fn_lcmp rl_M_in_9 (fn_if_gt rl_M_in_10 (fun k1963 => fn_iconst rl_M_in_17 (fn_retci rl_M_in_18 rfl (fn_retci rl_M_isYear_9 rfl (fn_if_ne_t rl_M_latest_11 (by decide +kernel) (fn_iconst rl_M_latest_14 (fn_reti rl_M_latest_15 rfl k1963)))))) (fun k1964 => fn_iconst rl_M_in_13 (fn_goto rl_M_in_14 (fn_retci rl_M_in_18 rfl (fn_retci rl_M_isYear_9 rfl (fn_if_ne_f rl_M_latest_11 (by decide +kernel) (fn_aload_n rl_M_latest_16 rfl (fn_virt (as := [.ref 36]) (r := []) (ls' := [.ref 36, .null, .null, .null]) rl_M_latest_17 rfl hp_36 rfl rfl pl_M_laysCounts rfl rfl (k1964)))))))) k1966)))) k1968)))))))))))))))) k1970)))) k0))))))))))
set_option maxRecDepth 100000 in
set_option maxHeartbeats 4000000 in
theorem sg_M_latest_20r {L : Nat} {xs : Nat → Int32} {A V : Nat → Nat → Int32} {K : Nat → Option Nat} {T : am_H} {v : Option Int32} {h' : am_H} {v1 v2 : Int32} (k0 :
    am_fin [(z_M_latest, 32, [.ref 36, .int v1, .int v2, .int (((360 * v2) + 360) - 1)], [])] (hp L xs A V K T) v h') : am_fin [(z_M_latest, 20, [.ref 36, .int v1, .int v2, .null], [])] (hp L xs A V K T) v h' :=
  fn_sipush rl_M_latest_20 (fn_iload_n rl_M_latest_23 rfl (fn_imul rl_M_latest_24 (fn_sipush rl_M_latest_25 (fn_iadd rl_M_latest_28 (fn_iconst rl_M_latest_29 (fn_isub rl_M_latest_30 (fn_istore_n (ls' := [.ref 36, .int v1, .int v2, .int (((360 * v2) + 360) - 1)]) rl_M_latest_31 rfl rfl (k0))))))))
set_option maxRecDepth 100000 in
set_option maxHeartbeats 4000000 in
theorem sg_M_latest_32 {L : Nat} {xs : Nat → Int32} {A V : Nat → Nat → Int32} {K : Nat → Option Nat} {T : am_H} {v : Option Int32} {h' : am_H} {v1 v2 v3 : Int32} (k0 :
    if v3 < (360 * v2) then (
      v = some (-2) ∧ h' = hp L xs A V K T)
    else (
      ¬ (v3 < 0 ∨ 1080 ≤ v3.toNatClampNeg) ∧ (
      if ((A 37) v3.toNatClampNeg) = v1 then (
        am_fin [(z_M_isClaimed, 0, [.ref 36, .int v1, .int v2], []), (z_M_latest, 64, [.ref 36, .int v1, .int v2, .int v3], [])] (hp L xs A V K T) v h')
      else (
        if v1 = (-1) then (
          am_fin [(z_M_isClaimed, 0, [.ref 36, .int v1, .int v2], []), (z_M_latest, 64, [.ref 36, .int v1, .int v2, .int v3], [])] (hp L xs A V K T) v h')
        else (
          ¬ ((((18 * 0) + (3 * v1)) + v2) < 0 ∨ 54 ≤ (((18 * 0) + (3 * v1)) + v2).toNatClampNeg) ∧ (
          ¬ ((((18 * 0) + (3 * v1)) + v2) < 0 ∨ 54 ≤ (((18 * 0) + (3 * v1)) + v2).toNatClampNeg) ∧ (
          am_fin [(z_M_isClaimed, 0, [.ref 36, .int v1, .int v2], []), (z_M_latest, 64, [.ref 36, .int v1, .int v2, .int v3], [])] (hp L xs (upA A 47 (upd (A 47) (((18 * 0) + (3 * v1)) + v2).toNatClampNeg (((A 47) (((18 * 0) + (3 * v1)) + v2).toNatClampNeg) + 1))) V K T) v h'))))))) : am_fin [(z_M_latest, 32, [.ref 36, .int v1, .int v2, .int v3], [])] (hp L xs A V K T) v h' :=
  fn_iload_n rl_M_latest_32 rfl (fn_sipush rl_M_latest_33 (fn_iload_n rl_M_latest_36 rfl (fn_imul rl_M_latest_37 (fn_icmp_lt rl_M_latest_38 (fun k1978 => fn_bipush rl_M_latest_75 (fn_reti rl_M_latest_77 rfl k1978)) (fun k1979 => fn_aload_n rl_M_latest_41 rfl (fn_get rl_M_latest_42 hp_36 rfl (fn_iload_n rl_M_latest_45 rfl (fn_iald rl_M_latest_46 hp_37 (fun k1977 => fn_iload_n rl_M_latest_47 rfl (fn_icmp_eq rl_M_latest_48 (fun k1975 => fn_aload_n rl_M_latest_58 rfl (fn_iload_n rl_M_latest_59 rfl (fn_iload_n rl_M_latest_60 rfl (fn_virt (as := [.ref 36, .int v1, .int v2]) (r := []) (ls' := [.ref 36, .int v1, .int v2]) rl_M_latest_61 rfl hp_36 rfl rfl pl_M_isClaimed rfl rfl (k1975))))) (fun k1976 => fn_aload_n rl_M_latest_51 rfl (fn_iload_n rl_M_latest_52 rfl (fn_iload_n rl_M_latest_53 rfl (fn_iconst rl_M_latest_54 (fn_virt (as := [.ref 36, .int v1, .int v2, .int 1]) (r := []) (ls' := [.ref 36, .int v1, .int v2, .int 1]) rl_M_latest_55 rfl hp_36 rfl rfl pl_M_adds rfl rfl (fn_iload_n rl_M_adds_0 rfl (fn_iconst rl_M_adds_1 (fn_icmp_eq rl_M_adds_2 (fun k1973 => fn_retcv rl_M_adds_29 (fn_aload_n rl_M_latest_58 rfl (fn_iload_n rl_M_latest_59 rfl (fn_iload_n rl_M_latest_60 rfl (fn_virt (as := [.ref 36, .int v1, .int v2]) (r := []) (ls' := [.ref 36, .int v1, .int v2]) rl_M_latest_61 rfl hp_36 rfl rfl pl_M_isClaimed rfl rfl (k1973)))))) (fun k1974 => fn_aload_n rl_M_adds_5 rfl (fn_get rl_M_adds_6 hp_36 rfl (fn_iconst rl_M_adds_9 (fn_iload_n rl_M_adds_10 rfl (fn_iload_n rl_M_adds_11 rfl (fn_stat (as := [.int 0, .int v1, .int v2]) (r := [.ref 47]) (ls' := [.int 0, .int v1, .int v2]) rl_M_adds_12 rfl rfl rfl rfl pl_M_countAt rfl rfl (fn_bipush rl_M_countAt_0 (fn_iload_n rl_M_countAt_2 rfl (fn_imul rl_M_countAt_3 (fn_iconst rl_M_countAt_4 (fn_iload_n rl_M_countAt_5 rfl (fn_imul rl_M_countAt_6 (fn_iadd rl_M_countAt_7 (fn_iload_n rl_M_countAt_8 rfl (fn_iadd rl_M_countAt_9 (fn_retci rl_M_countAt_10 rfl (fn_aload_n rl_M_adds_15 rfl (fn_get rl_M_adds_16 hp_36 rfl (fn_iconst rl_M_adds_19 (fn_iload_n rl_M_adds_20 rfl (fn_iload_n rl_M_adds_21 rfl (fn_stat (as := [.int 0, .int v1, .int v2]) (r := [.ref 47, .int (((18 * 0) + (3 * v1)) + v2), .ref 47]) (ls' := [.int 0, .int v1, .int v2]) rl_M_adds_22 rfl rfl rfl rfl pl_M_countAt rfl rfl (fn_bipush rl_M_countAt_0 (fn_iload_n rl_M_countAt_2 rfl (fn_imul rl_M_countAt_3 (fn_iconst rl_M_countAt_4 (fn_iload_n rl_M_countAt_5 rfl (fn_imul rl_M_countAt_6 (fn_iadd rl_M_countAt_7 (fn_iload_n rl_M_countAt_8 rfl (fn_iadd rl_M_countAt_9 (fn_retci rl_M_countAt_10 rfl (fn_iald rl_M_adds_25 hp_47 (fun k1972 => fn_iload_n rl_M_adds_26 rfl (fn_iadd rl_M_adds_27 (fn_iast rl_M_adds_28 hp_47 hps_47 (fun k1971 => fn_retcv rl_M_adds_29 (fn_aload_n rl_M_latest_58 rfl (fn_iload_n rl_M_latest_59 rfl (fn_iload_n rl_M_latest_60 rfl (fn_virt (as := [.ref 36, .int v1, .int v2]) (r := []) (ls' := [.ref 36, .int v1, .int v2]) rl_M_latest_61 rfl hp_36 rfl rfl pl_M_isClaimed rfl rfl (k1971)))))) k1972))) k1974))))))))))))))))))))))))))))))))) k1976)))))))) k1977)) k1979)))) k0))))
set_option maxRecDepth 100000 in
set_option maxHeartbeats 4000000 in
theorem sg_M_latest_64r {L : Nat} {xs : Nat → Int32} {A V : Nat → Nat → Int32} {K : Nat → Option Nat} {T : am_H} {v : Option Int32} {h' : am_H} {v1 v2 v3 r : Int32} (k0 :
    if r = 0 then (
      am_fin [(z_M_latest, 32, [.ref 36, .int v1, .int v2, .int (v3 + (-1))], [])] (hp L xs A V K T) v h')
    else (
      v = some v3 ∧ h' = hp L xs A V K T)) : am_fin [(z_M_latest, 64, [.ref 36, .int v1, .int v2, .int v3], [.int r])] (hp L xs A V K T) v h' :=
  fn_if_eq rl_M_latest_64 (fun k1980 => fn_iinc (ls' := [.ref 36, .int v1, .int v2, .int (v3 + (-1))]) rl_M_latest_69 rfl rfl rfl (fn_goto rl_M_latest_72 (k1980))) (fun k1981 => fn_iload_n rl_M_latest_67 rfl (fn_reti rl_M_latest_68 rfl k1981)) k0
set_option maxRecDepth 100000 in
set_option maxHeartbeats 4000000 in
theorem sg_M_wins_0 {L : Nat} {xs : Nat → Int32} {A V : Nat → Nat → Int32} {K : Nat → Option Nat} {T : am_H} {v : Option Int32} {h' : am_H} {a1 a2 : Int32} (k0 :
    if (lg_cmp ((a1 : Int32).toInt64) ((0 : Int32).toInt64)) < 0 then (
      v = some (-1) ∧ h' = hp L xs A V K T)
    else (
      if 0 < (lg_cmp ((a1 : Int32).toInt64) ((5 : Int32).toInt64)) then (
        v = some (-1) ∧ h' = hp L xs A V K T)
      else (
        if (lg_cmp ((a2 : Int32).toInt64) ((0 : Int32).toInt64)) < 0 then (
          v = some (-1) ∧ h' = hp L xs A V K T)
        else (
          if 0 < (lg_cmp ((a2 : Int32).toInt64) ((2 : Int32).toInt64)) then (
            v = some (-1) ∧ h' = hp L xs A V K T)
          else (
            am_fin [(z_M_laysCounts, 0, [.ref 36, .null, .null, .null], []), (z_M_wins, 20, [.ref 36, .int a1, .int a2, .null, .null, .null, .null], [])] (hp L xs A V K T) v h'))))) : am_fin [(z_M_wins, 0, [.ref 36, .int a1, .int a2, .null, .null, .null, .null], [])] (hp L xs A V K T) v h' :=
  fn_iload_n rl_M_wins_0 rfl (fn_stat (as := [.int a1]) (r := []) (ls' := [.int a1]) rl_M_wins_1 rfl rfl rfl rfl pl_M_isLand rfl rfl (fn_iload_n rl_M_isLand_0 rfl (fn_i2l rl_M_isLand_1 (fn_lconst rl_M_isLand_2 (fn_ldc2_w rl_M_isLand_3 (fn_stat (as := [.long ((a1 : Int32).toInt64), .long ((0 : Int32).toInt64), .long ((5 : Int32).toInt64)]) (r := []) (ls' := [.long ((a1 : Int32).toInt64), .null, .long ((0 : Int32).toInt64), .null, .long ((5 : Int32).toInt64), .null]) rl_M_isLand_6 rfl rfl rfl rfl pl_M_in rfl rfl (fn_lload_n rl_M_in_0 rfl (fn_lload_n rl_M_in_1 rfl (fn_lcmp rl_M_in_2 (fn_if_lt rl_M_in_3 (fun k1988 => fn_iconst rl_M_in_17 (fn_retci rl_M_in_18 rfl (fn_retci rl_M_isLand_9 rfl (fn_if_eq_t rl_M_wins_4 (by decide +kernel) (fn_iconst rl_M_wins_14 (fn_reti rl_M_wins_15 rfl k1988)))))) (fun k1989 => fn_lload_n rl_M_in_6 rfl (fn_lload rl_M_in_7 rfl (fn_lcmp rl_M_in_9 (fn_if_gt rl_M_in_10 (fun k1986 => fn_iconst rl_M_in_17 (fn_retci rl_M_in_18 rfl (fn_retci rl_M_isLand_9 rfl (fn_if_eq_t rl_M_wins_4 (by decide +kernel) (fn_iconst rl_M_wins_14 (fn_reti rl_M_wins_15 rfl k1986)))))) (fun k1987 => fn_iconst rl_M_in_13 (fn_goto rl_M_in_14 (fn_retci rl_M_in_18 rfl (fn_retci rl_M_isLand_9 rfl (fn_if_eq_f rl_M_wins_4 (by decide +kernel) (fn_iload_n rl_M_wins_7 rfl (fn_stat (as := [.int a2]) (r := []) (ls' := [.int a2]) rl_M_wins_8 rfl rfl rfl rfl pl_M_isYear rfl rfl (fn_iload_n rl_M_isYear_0 rfl (fn_i2l rl_M_isYear_1 (fn_lconst rl_M_isYear_2 (fn_ldc2_w rl_M_isYear_3 (fn_stat (as := [.long ((a2 : Int32).toInt64), .long ((0 : Int32).toInt64), .long ((2 : Int32).toInt64)]) (r := []) (ls' := [.long ((a2 : Int32).toInt64), .null, .long ((0 : Int32).toInt64), .null, .long ((2 : Int32).toInt64), .null]) rl_M_isYear_6 rfl rfl rfl rfl pl_M_in rfl rfl (fn_lload_n rl_M_in_0 rfl (fn_lload_n rl_M_in_1 rfl (fn_lcmp rl_M_in_2 (fn_if_lt rl_M_in_3 (fun k1984 => fn_iconst rl_M_in_17 (fn_retci rl_M_in_18 rfl (fn_retci rl_M_isYear_9 rfl (fn_if_ne_t rl_M_wins_11 (by decide +kernel) (fn_iconst rl_M_wins_14 (fn_reti rl_M_wins_15 rfl k1984)))))) (fun k1985 => fn_lload_n rl_M_in_6 rfl (fn_lload rl_M_in_7 rfl (fn_lcmp rl_M_in_9 (fn_if_gt rl_M_in_10 (fun k1982 => fn_iconst rl_M_in_17 (fn_retci rl_M_in_18 rfl (fn_retci rl_M_isYear_9 rfl (fn_if_ne_t rl_M_wins_11 (by decide +kernel) (fn_iconst rl_M_wins_14 (fn_reti rl_M_wins_15 rfl k1982)))))) (fun k1983 => fn_iconst rl_M_in_13 (fn_goto rl_M_in_14 (fn_retci rl_M_in_18 rfl (fn_retci rl_M_isYear_9 rfl (fn_if_ne_f rl_M_wins_11 (by decide +kernel) (fn_aload_n rl_M_wins_16 rfl (fn_virt (as := [.ref 36]) (r := []) (ls' := [.ref 36, .null, .null, .null]) rl_M_wins_17 rfl hp_36 rfl rfl pl_M_laysCounts rfl rfl (k1983)))))))) k1985)))) k1987)))))))))))))))) k1989)))) k0))))))))))
set_option maxRecDepth 100000 in
set_option maxHeartbeats 4000000 in
theorem sg_M_wins_20r {L : Nat} {xs : Nat → Int32} {A V : Nat → Nat → Int32} {K : Nat → Option Nat} {T : am_H} {v : Option Int32} {h' : am_H} {v1 v2 : Int32} (k0 :
    am_fin [(z_M_claiming, 0, [.ref 36, .int v2, .null, .null], []), (z_M_wins, 25, [.ref 36, .int v1, .int v2, .null, .null, .null, .null], [])] (hp L xs A V K T) v h') : am_fin [(z_M_wins, 20, [.ref 36, .int v1, .int v2, .null, .null, .null, .null], [])] (hp L xs A V K T) v h' :=
  fn_aload_n rl_M_wins_20 rfl (fn_iload_n rl_M_wins_21 rfl (fn_virt (as := [.ref 36, .int v2]) (r := []) (ls' := [.ref 36, .int v2, .null, .null]) rl_M_wins_22 rfl hp_36 rfl rfl pl_M_claiming rfl rfl (k0)))
set_option maxRecDepth 100000 in
set_option maxHeartbeats 4000000 in
theorem sg_M_wins_25r {L : Nat} {xs : Nat → Int32} {A V : Nat → Nat → Int32} {K : Nat → Option Nat} {T : am_H} {v : Option Int32} {h' : am_H} {v1 v2 r : Int32} (k0 :
    if (((r : Int32) >>> (v1 &&& 31 : Int32)) &&& 1) = 0 then (
      v = some (-2) ∧ h' = hp L xs A V K T)
    else (
      am_fin [(z_M_wins, 43, [.ref 36, .int v1, .int v2, .int r, .int 0, .int 0, .null], [])] (hp L xs A V K T) v h')) : am_fin [(z_M_wins, 25, [.ref 36, .int v1, .int v2, .null, .null, .null, .null], [.int r])] (hp L xs A V K T) v h' :=
  fn_istore_n (ls' := [.ref 36, .int v1, .int v2, .int r, .null, .null, .null]) rl_M_wins_25 rfl rfl (fn_iload_n rl_M_wins_26 rfl (fn_iload_n rl_M_wins_27 rfl (fn_ishr rl_M_wins_28 (fn_iconst rl_M_wins_29 (fn_iand rl_M_wins_30 (fn_if_ne rl_M_wins_31 (fun k1990 => fn_bipush rl_M_wins_34 (fn_reti rl_M_wins_36 rfl k1990)) (fun k1991 => fn_iconst rl_M_wins_37 (fn_istore (ls' := [.ref 36, .int v1, .int v2, .int r, .int 0, .null, .null]) rl_M_wins_38 rfl rfl (fn_iconst rl_M_wins_40 (fn_istore (ls' := [.ref 36, .int v1, .int v2, .int r, .int 0, .int 0, .null]) rl_M_wins_41 rfl rfl (k1991))))) k0))))))
set_option maxRecDepth 100000 in
set_option maxHeartbeats 4000000 in
theorem sg_M_wins_43 {L : Nat} {xs : Nat → Int32} {A V : Nat → Nat → Int32} {K : Nat → Option Nat} {T : am_H} {v : Option Int32} {h' : am_H} {v1 v2 v3 v4 v5 : Int32} (k0 :
    if 6 ≤ v5 then (
      v = some v4 ∧ h' = hp L xs A V K T)
    else (
      if v5 = v1 then (
        am_fin [(z_M_wins, 43, [.ref 36, .int v1, .int v2, .int v3, .int (v4 + 0), .int (v5 + 1), .int 0], [])] (hp L xs A V K T) v h')
      else (
        if (((v3 : Int32) >>> (v5 &&& 31 : Int32)) &&& 1) = 1 then (
          am_fin [(z_M_answer, 0, [.ref 36, .int v1, .int v5, .int v2, .null, .null], []), (z_M_wins, 88, [.ref 36, .int v1, .int v2, .int v3, .int v4, .int v5, .int 1], [.int v4])] (hp L xs A V K T) v h')
        else (
          am_fin [(z_M_wins, 43, [.ref 36, .int v1, .int v2, .int v3, .int (v4 + 0), .int (v5 + 1), .int 0], [])] (hp L xs A V K T) v h')))) : am_fin [(z_M_wins, 43, [.ref 36, .int v1, .int v2, .int v3, .int v4, .int v5, .null], [])] (hp L xs A V K T) v h' :=
  fn_iload rl_M_wins_43 rfl (fn_bipush rl_M_wins_45 (fn_icmp_ge rl_M_wins_47 (fun k1996 => fn_iload rl_M_wins_118 rfl (fn_reti rl_M_wins_120 rfl k1996)) (fun k1997 => fn_iload rl_M_wins_50 rfl (fn_iload_n rl_M_wins_52 rfl (fn_icmp_eq rl_M_wins_53 (fun k1994 => fn_iconst rl_M_wins_70 (fn_istore (ls' := [.ref 36, .int v1, .int v2, .int v3, .int v4, .int v5, .int 0]) rl_M_wins_71 rfl rfl (fn_iload rl_M_wins_73 rfl (fn_iload rl_M_wins_75 rfl (fn_if_eq_t rl_M_wins_77 (by decide +kernel) (fn_iconst rl_M_wins_108 (fn_iadd rl_M_wins_109 (fn_istore (ls' := [.ref 36, .int v1, .int v2, .int v3, .int (v4 + 0), .int v5, .int 0]) rl_M_wins_110 rfl rfl (fn_iinc (ls' := [.ref 36, .int v1, .int v2, .int v3, .int (v4 + 0), .int (v5 + 1), .int 0]) rl_M_wins_112 rfl rfl rfl (fn_goto rl_M_wins_115 (k1994))))))))))) (fun k1995 => fn_iload_n rl_M_wins_56 rfl (fn_iload rl_M_wins_57 rfl (fn_ishr rl_M_wins_59 (fn_iconst rl_M_wins_60 (fn_iand rl_M_wins_61 (fn_iconst rl_M_wins_62 (fn_icmp_ne rl_M_wins_63 (fun k1992 => fn_iconst rl_M_wins_66 (fn_goto rl_M_wins_67 (fn_istore (ls' := [.ref 36, .int v1, .int v2, .int v3, .int v4, .int v5, .int 1]) rl_M_wins_71 rfl rfl (fn_iload rl_M_wins_73 rfl (fn_iload rl_M_wins_75 rfl (fn_if_eq_f rl_M_wins_77 (by decide +kernel) (fn_aload_n rl_M_wins_80 rfl (fn_iload_n rl_M_wins_81 rfl (fn_iload rl_M_wins_82 rfl (fn_iload_n rl_M_wins_84 rfl (fn_virt (as := [.ref 36, .int v1, .int v5, .int v2]) (r := [.int v4]) (ls' := [.ref 36, .int v1, .int v5, .int v2, .null, .null]) rl_M_wins_85 rfl hp_36 rfl rfl pl_M_answer rfl rfl (k1992)))))))))))) (fun k1993 => fn_iconst rl_M_wins_70 (fn_istore (ls' := [.ref 36, .int v1, .int v2, .int v3, .int v4, .int v5, .int 0]) rl_M_wins_71 rfl rfl (fn_iload rl_M_wins_73 rfl (fn_iload rl_M_wins_75 rfl (fn_if_eq_t rl_M_wins_77 (by decide +kernel) (fn_iconst rl_M_wins_108 (fn_iadd rl_M_wins_109 (fn_istore (ls' := [.ref 36, .int v1, .int v2, .int v3, .int (v4 + 0), .int v5, .int 0]) rl_M_wins_110 rfl rfl (fn_iinc (ls' := [.ref 36, .int v1, .int v2, .int v3, .int (v4 + 0), .int (v5 + 1), .int 0]) rl_M_wins_112 rfl rfl rfl (fn_goto rl_M_wins_115 (k1993))))))))))) k1995))))))) k1997))) k0))
set_option maxRecDepth 100000 in
set_option maxHeartbeats 4000000 in
theorem sg_M_wins_88r {L : Nat} {xs : Nat → Int32} {A V : Nat → Nat → Int32} {K : Nat → Option Nat} {T : am_H} {v : Option Int32} {h' : am_H} {v1 v2 v3 v4 v5 v6 s0 r : Int32} (k0 :
    if r = v1 then (
      am_fin [(z_M_answer, 0, [.ref 36, .int v5, .int v1, .int v2, .null, .null], []), (z_M_wins, 100, [.ref 36, .int v1, .int v2, .int v3, .int v4, .int v5, .int v6], [.int s0])] (hp L xs A V K T) v h')
    else (
      am_fin [(z_M_wins, 43, [.ref 36, .int v1, .int v2, .int v3, .int (s0 + 0), .int (v5 + 1), .int v6], [])] (hp L xs A V K T) v h')) : am_fin [(z_M_wins, 88, [.ref 36, .int v1, .int v2, .int v3, .int v4, .int v5, .int v6], [.int r, .int s0])] (hp L xs A V K T) v h' :=
  fn_iload_n rl_M_wins_88 rfl (fn_icmp_ne rl_M_wins_89 (fun k1998 => fn_aload_n rl_M_wins_92 rfl (fn_iload rl_M_wins_93 rfl (fn_iload_n rl_M_wins_95 rfl (fn_iload_n rl_M_wins_96 rfl (fn_virt (as := [.ref 36, .int v5, .int v1, .int v2]) (r := [.int s0]) (ls' := [.ref 36, .int v5, .int v1, .int v2, .null, .null]) rl_M_wins_97 rfl hp_36 rfl rfl pl_M_answer rfl rfl (k1998)))))) (fun k1999 => fn_iconst rl_M_wins_108 (fn_iadd rl_M_wins_109 (fn_istore (ls' := [.ref 36, .int v1, .int v2, .int v3, .int (s0 + 0), .int v5, .int v6]) rl_M_wins_110 rfl rfl (fn_iinc (ls' := [.ref 36, .int v1, .int v2, .int v3, .int (s0 + 0), .int (v5 + 1), .int v6]) rl_M_wins_112 rfl rfl rfl (fn_goto rl_M_wins_115 (k1999)))))) k0)
set_option maxRecDepth 100000 in
set_option maxHeartbeats 4000000 in
theorem sg_M_wins_100r {L : Nat} {xs : Nat → Int32} {A V : Nat → Nat → Int32} {K : Nat → Option Nat} {T : am_H} {v : Option Int32} {h' : am_H} {v1 v2 v3 v4 v5 v6 s0 r : Int32} (k0 :
    if r = v1 then (
      am_fin [(z_M_wins, 43, [.ref 36, .int v1, .int v2, .int v3, .int (s0 + 1), .int (v5 + 1), .int v6], [])] (hp L xs A V K T) v h')
    else (
      am_fin [(z_M_wins, 43, [.ref 36, .int v1, .int v2, .int v3, .int (s0 + 0), .int (v5 + 1), .int v6], [])] (hp L xs A V K T) v h')) : am_fin [(z_M_wins, 100, [.ref 36, .int v1, .int v2, .int v3, .int v4, .int v5, .int v6], [.int r, .int s0])] (hp L xs A V K T) v h' :=
  fn_iload_n rl_M_wins_100 rfl (fn_icmp_ne rl_M_wins_101 (fun k2000 => fn_iconst rl_M_wins_104 (fn_goto rl_M_wins_105 (fn_iadd rl_M_wins_109 (fn_istore (ls' := [.ref 36, .int v1, .int v2, .int v3, .int (s0 + 1), .int v5, .int v6]) rl_M_wins_110 rfl rfl (fn_iinc (ls' := [.ref 36, .int v1, .int v2, .int v3, .int (s0 + 1), .int (v5 + 1), .int v6]) rl_M_wins_112 rfl rfl rfl (fn_goto rl_M_wins_115 (k2000))))))) (fun k2001 => fn_iconst rl_M_wins_108 (fn_iadd rl_M_wins_109 (fn_istore (ls' := [.ref 36, .int v1, .int v2, .int v3, .int (s0 + 0), .int v5, .int v6]) rl_M_wins_110 rfl rfl (fn_iinc (ls' := [.ref 36, .int v1, .int v2, .int v3, .int (s0 + 0), .int (v5 + 1), .int v6]) rl_M_wins_112 rfl rfl rfl (fn_goto rl_M_wins_115 (k2001)))))) k0)
set_option maxRecDepth 100000 in
set_option maxHeartbeats 4000000 in
theorem sg_M_count_0 {L : Nat} {xs : Nat → Int32} {A V : Nat → Nat → Int32} {K : Nat → Option Nat} {T : am_H} {v : Option Int32} {h' : am_H} {a1 : Int32} (k0 :
    if a1 = 0 then (
      am_fin [(z_M_count, 42, [.ref 36, .int a1, .int 0, .int 0], [])] (hp L xs A V K T) v h')
    else (
      if a1 = 1 then (
      am_fin [(z_M_count, 77, [.ref 36, .int a1, .int 0, .int 0], [])] (hp L xs A V K T) v h')
    else (
      if a1 = 2 then (
      am_fin [(z_M_allOverstays, 0, [.ref 36, .null, .null], []), (z_M_count, 107, [.ref 36, .int a1, .int 0, .null], [])] (hp L xs A V K T) v h')
    else (
      if a1 = 3 then (
      am_fin [(z_M_allStays, 0, [.ref 36, .null, .null], []), (z_M_count, 112, [.ref 36, .int a1, .int 0, .null], [])] (hp L xs A V K T) v h')
    else (
      if a1 = 4 then (
      v = some (V 36 7) ∧ h' = hp L xs A V K T)
    else (
      if a1 = 5 then (
      v = some (V 36 23) ∧ h' = hp L xs A V K T)
    else (
      v = some (-1) ∧ h' = hp L xs A V K T))))))) : am_fin [(z_M_count, 0, [.ref 36, .int a1, .null, .null], [])] (hp L xs A V K T) v h' :=
  fn_iconst rl_M_count_0 (fn_istore_n (ls' := [.ref 36, .int a1, .int 0, .null]) rl_M_count_1 rfl rfl (fn_iload_n rl_M_count_2 rfl (fn_tableP rl_M_count_3 (fn_swC (tg := 0) (F := fun t => am_fin ((z_M_count, t, [.ref 36, .int a1, .int 0, .null], []) :: []) (hp L xs A V K T) v h') (fun k2012 => fn_iconst rl_M_count_40 (fn_istore_n (ls' := [.ref 36, .int a1, .int 0, .int 0]) rl_M_count_41 rfl rfl (k2012))) (fun k2013 => fn_swC (tg := 0) (F := fun t => am_fin ((z_M_count, t, [.ref 36, .int a1, .int 0, .null], []) :: []) (hp L xs A V K T) v h') (fun k2010 => fn_iconst rl_M_count_75 (fn_istore_n (ls' := [.ref 36, .int a1, .int 0, .int 0]) rl_M_count_76 rfl rfl (k2010))) (fun k2011 => fn_swC (tg := 0) (F := fun t => am_fin ((z_M_count, t, [.ref 36, .int a1, .int 0, .null], []) :: []) (hp L xs A V K T) v h') (fun k2008 => fn_aload_n rl_M_count_103 rfl (fn_virt (as := [.ref 36]) (r := []) (ls' := [.ref 36, .null, .null]) rl_M_count_104 rfl hp_36 rfl rfl pl_M_allOverstays rfl rfl (k2008))) (fun k2009 => fn_swC (tg := 0) (F := fun t => am_fin ((z_M_count, t, [.ref 36, .int a1, .int 0, .null], []) :: []) (hp L xs A V K T) v h') (fun k2006 => fn_aload_n rl_M_count_108 rfl (fn_virt (as := [.ref 36]) (r := []) (ls' := [.ref 36, .null, .null]) rl_M_count_109 rfl hp_36 rfl rfl pl_M_allStays rfl rfl (k2006))) (fun k2007 => fn_swC (tg := 0) (F := fun t => am_fin ((z_M_count, t, [.ref 36, .int a1, .int 0, .null], []) :: []) (hp L xs A V K T) v h') (fun k2004 => fn_aload_n rl_M_count_113 rfl (fn_get rl_M_count_114 hp_36 rfl (fn_reti rl_M_count_117 rfl k2004))) (fun k2005 => fn_swC (tg := 0) (F := fun t => am_fin ((z_M_count, t, [.ref 36, .int a1, .int 0, .null], []) :: []) (hp L xs A V K T) v h') (fun k2002 => fn_aload_n rl_M_count_118 rfl (fn_get rl_M_count_119 hp_36 rfl (fn_reti rl_M_count_122 rfl k2002))) (fun k2003 => fn_iconst rl_M_count_123 (fn_reti rl_M_count_124 rfl k2003)) k2005) k2007) k2009) k2011) k2013) k0))))
set_option maxRecDepth 100000 in
set_option maxHeartbeats 4000000 in
theorem sg_M_count_42 {L : Nat} {xs : Nat → Int32} {A V : Nat → Nat → Int32} {K : Nat → Option Nat} {T : am_H} {v : Option Int32} {h' : am_H} {v1 v2 v3 : Int32} (k0 :
    if 1080 ≤ v3 then (
      v = some v2 ∧ h' = hp L xs A V K T)
    else (
      ¬ (v3 < 0 ∨ 1080 ≤ v3.toNatClampNeg) ∧ (
      if ((A 37) v3.toNatClampNeg) = (-1) then (
        am_fin [(z_M_count, 42, [.ref 36, .int v1, .int (v2 + 0), .int (v3 + 1)], [])] (hp L xs A V K T) v h')
      else (
        am_fin [(z_M_count, 42, [.ref 36, .int v1, .int (v2 + 1), .int (v3 + 1)], [])] (hp L xs A V K T) v h')))) : am_fin [(z_M_count, 42, [.ref 36, .int v1, .int v2, .int v3], [])] (hp L xs A V K T) v h' :=
  fn_iload_n rl_M_count_42 rfl (fn_sipush rl_M_count_43 (fn_icmp_ge rl_M_count_46 (fun k2017 => fn_iload_n rl_M_count_73 rfl (fn_reti rl_M_count_74 rfl k2017)) (fun k2018 => fn_iload_n rl_M_count_49 rfl (fn_aload_n rl_M_count_50 rfl (fn_get rl_M_count_51 hp_36 rfl (fn_iload_n rl_M_count_54 rfl (fn_iald rl_M_count_55 hp_37 (fun k2016 => fn_iconst rl_M_count_56 (fn_icmp_ne rl_M_count_57 (fun k2014 => fn_iconst rl_M_count_60 (fn_goto rl_M_count_61 (fn_iadd rl_M_count_65 (fn_istore_n (ls' := [.ref 36, .int v1, .int (v2 + 0), .int v3]) rl_M_count_66 rfl rfl (fn_iinc (ls' := [.ref 36, .int v1, .int (v2 + 0), .int (v3 + 1)]) rl_M_count_67 rfl rfl rfl (fn_goto rl_M_count_70 (k2014))))))) (fun k2015 => fn_iconst rl_M_count_64 (fn_iadd rl_M_count_65 (fn_istore_n (ls' := [.ref 36, .int v1, .int (v2 + 1), .int v3]) rl_M_count_66 rfl rfl (fn_iinc (ls' := [.ref 36, .int v1, .int (v2 + 1), .int (v3 + 1)]) rl_M_count_67 rfl rfl rfl (fn_goto rl_M_count_70 (k2015)))))) k2016)) k2018))))) k0))
set_option maxRecDepth 100000 in
set_option maxHeartbeats 4000000 in
theorem sg_M_count_77 {L : Nat} {xs : Nat → Int32} {A V : Nat → Nat → Int32} {K : Nat → Option Nat} {T : am_H} {v : Option Int32} {h' : am_H} {v1 v2 v3 : Int32} (k0 :
    if 6 ≤ v3 then (
      v = some v2 ∧ h' = hp L xs A V K T)
    else (
      ¬ (((13 * v3) + 6) < 0 ∨ 258 ≤ ((13 * v3) + 6).toNatClampNeg) ∧ (
      am_fin [(z_M_count, 77, [.ref 36, .int v1, .int (v2 ||| ((((A 41) ((13 * v3) + 6).toNatClampNeg) : Int32) <<< (v3 &&& 31 : Int32))), .int (v3 + 1)], [])] (hp L xs A V K T) v h'))) : am_fin [(z_M_count, 77, [.ref 36, .int v1, .int v2, .int v3], [])] (hp L xs A V K T) v h' :=
  fn_iload_n rl_M_count_77 rfl (fn_bipush rl_M_count_78 (fn_icmp_ge rl_M_count_80 (fun k2020 => fn_iload_n rl_M_count_101 rfl (fn_reti rl_M_count_102 rfl k2020)) (fun k2021 => fn_iload_n rl_M_count_83 rfl (fn_aload_n rl_M_count_84 rfl (fn_iload_n rl_M_count_85 rfl (fn_bipush rl_M_count_86 (fn_virt (as := [.ref 36, .int v3, .int 6]) (r := [.int v2]) (ls' := [.ref 36, .int v3, .int 6]) rl_M_count_88 rfl hp_36 rfl rfl pl_M_of rfl rfl (fn_aload_n rl_M_of_0 rfl (fn_get rl_M_of_1 hp_36 rfl (fn_bipush rl_M_of_4 (fn_iload_n rl_M_of_6 rfl (fn_imul rl_M_of_7 (fn_iload_n rl_M_of_8 rfl (fn_iadd rl_M_of_9 (fn_iald rl_M_of_10 hp_41 (fun k2019 => fn_retci rl_M_of_11 rfl (fn_iload_n rl_M_count_91 rfl (fn_ishl rl_M_count_92 (fn_ior rl_M_count_93 (fn_istore_n (ls' := [.ref 36, .int v1, .int (v2 ||| ((((A 41) ((13 * v3) + 6).toNatClampNeg) : Int32) <<< (v3 &&& 31 : Int32))), .int v3]) rl_M_count_94 rfl rfl (fn_iinc (ls' := [.ref 36, .int v1, .int (v2 ||| ((((A 41) ((13 * v3) + 6).toNatClampNeg) : Int32) <<< (v3 &&& 31 : Int32))), .int (v3 + 1)]) rl_M_count_95 rfl rfl rfl (fn_goto rl_M_count_98 (k2019)))))))) k2021))))))))))))) k0))
set_option maxRecDepth 100000 in
set_option maxHeartbeats 4000000 in
theorem sg_M_count_107r {L : Nat} {xs : Nat → Int32} {A V : Nat → Nat → Int32} {K : Nat → Option Nat} {T : am_H} {v : Option Int32} {h' : am_H} {v1 v2 r : Int32} (k0 :
    v = some r ∧ h' = hp L xs A V K T) : am_fin [(z_M_count, 107, [.ref 36, .int v1, .int v2, .null], [.int r])] (hp L xs A V K T) v h' :=
  fn_reti rl_M_count_107 rfl k0
set_option maxRecDepth 100000 in
set_option maxHeartbeats 4000000 in
theorem sg_M_count_112r {L : Nat} {xs : Nat → Int32} {A V : Nat → Nat → Int32} {K : Nat → Option Nat} {T : am_H} {v : Option Int32} {h' : am_H} {v1 v2 r : Int32} (k0 :
    v = some r ∧ h' = hp L xs A V K T) : am_fin [(z_M_count, 112, [.ref 36, .int v1, .int v2, .null], [.int r])] (hp L xs A V K T) v h' :=
  fn_reti rl_M_count_112 rfl k0
set_option maxRecDepth 100000 in
set_option maxHeartbeats 4000000 in
theorem sg_M_keep_0 {L : Nat} {xs : Nat → Int32} {A V : Nat → Nat → Int32} {K : Nat → Option Nat} {T : am_H} {v : Option Int32} {h' : am_H} (k0 :
    if (V 36 23) = 8 then (
      v = some (-1) ∧ h' = hp L xs A V K T)
    else (
      am_fin [(z_M_keep, 13, [.ref 36, .int 0], [])] (hp L xs A V K T) v h')) : am_fin [(z_M_keep, 0, [.ref 36, .null], [])] (hp L xs A V K T) v h' :=
  fn_aload_n rl_M_keep_0 rfl (fn_get rl_M_keep_1 hp_36 rfl (fn_bipush rl_M_keep_4 (fn_icmp_ne rl_M_keep_6 (fun k2022 => fn_iconst rl_M_keep_9 (fn_reti rl_M_keep_10 rfl k2022)) (fun k2023 => fn_iconst rl_M_keep_11 (fn_istore_n (ls' := [.ref 36, .int 0]) rl_M_keep_12 rfl rfl (k2023))) k0)))
set_option maxRecDepth 100000 in
set_option maxHeartbeats 4000000 in
theorem sg_M_keep_13 {L : Nat} {xs : Nat → Int32} {A V : Nat → Nat → Int32} {K : Nat → Option Nat} {T : am_H} {v : Option Int32} {h' : am_H} {v1 : Int32} (k0 :
    if 1080 ≤ v1 then (
      am_fin [(z_M_keep, 84, [.ref 36, .int 0], [])] (hp L xs A V K T) v h')
    else (
      ¬ (v1 < 0 ∨ 1080 ≤ v1.toNatClampNeg) ∧ (
      ¬ (v1 < 0 ∨ 1080 ≤ v1.toNatClampNeg) ∧ (
      ¬ (v1 < 0 ∨ 1080 ≤ v1.toNatClampNeg) ∧ (
      ¬ (v1 < 0 ∨ 1080 ≤ v1.toNatClampNeg) ∧ (
      ¬ (((1080 * (V 36 23)) + v1) < 0 ∨ 8640 ≤ ((1080 * (V 36 23)) + v1).toNatClampNeg) ∧ (
      am_fin [(z_M_keep, 13, [.ref 36, .int (v1 + 1)], [])] (hp L xs (upA A 50 (upd (A 50) ((1080 * (V 36 23)) + v1).toNatClampNeg ((((((A 37) v1.toNatClampNeg) + 1) ||| (((((A 39) v1.toNatClampNeg) + 1) : Int32) <<< (3 &&& 31 : Int32))) ||| (((((A 40) v1.toNatClampNeg) + 1) : Int32) <<< (6 &&& 31 : Int32))) ||| ((((A 38) v1.toNatClampNeg) : Int32) <<< (9 &&& 31 : Int32))))) V K T) v h'))))))) : am_fin [(z_M_keep, 13, [.ref 36, .int v1], [])] (hp L xs A V K T) v h' :=
  fn_iload_n rl_M_keep_13 rfl (fn_sipush rl_M_keep_14 (fn_icmp_ge rl_M_keep_17 (fun k2029 => fn_iconst rl_M_keep_82 (fn_istore_n (ls' := [.ref 36, .int 0]) rl_M_keep_83 rfl rfl (k2029))) (fun k2030 => fn_aload_n rl_M_keep_20 rfl (fn_get rl_M_keep_21 hp_36 rfl (fn_sipush rl_M_keep_24 (fn_aload_n rl_M_keep_27 rfl (fn_get rl_M_keep_28 hp_36 rfl (fn_imul rl_M_keep_31 (fn_iload_n rl_M_keep_32 rfl (fn_iadd rl_M_keep_33 (fn_aload_n rl_M_keep_34 rfl (fn_get rl_M_keep_35 hp_36 rfl (fn_iload_n rl_M_keep_38 rfl (fn_iald rl_M_keep_39 hp_37 (fun k2028 => fn_iconst rl_M_keep_40 (fn_iadd rl_M_keep_41 (fn_aload_n rl_M_keep_42 rfl (fn_get rl_M_keep_43 hp_36 rfl (fn_iload_n rl_M_keep_46 rfl (fn_iald rl_M_keep_47 hp_39 (fun k2027 => fn_iconst rl_M_keep_48 (fn_iadd rl_M_keep_49 (fn_iconst rl_M_keep_50 (fn_ishl rl_M_keep_51 (fn_ior rl_M_keep_52 (fn_aload_n rl_M_keep_53 rfl (fn_get rl_M_keep_54 hp_36 rfl (fn_iload_n rl_M_keep_57 rfl (fn_iald rl_M_keep_58 hp_40 (fun k2026 => fn_iconst rl_M_keep_59 (fn_iadd rl_M_keep_60 (fn_bipush rl_M_keep_61 (fn_ishl rl_M_keep_63 (fn_ior rl_M_keep_64 (fn_aload_n rl_M_keep_65 rfl (fn_get rl_M_keep_66 hp_36 rfl (fn_iload_n rl_M_keep_69 rfl (fn_iald rl_M_keep_70 hp_38 (fun k2025 => fn_bipush rl_M_keep_71 (fn_ishl rl_M_keep_73 (fn_ior rl_M_keep_74 (fn_iast rl_M_keep_75 hp_50 hps_50 (fun k2024 => fn_iinc (ls' := [.ref 36, .int (v1 + 1)]) rl_M_keep_76 rfl rfl rfl (fn_goto rl_M_keep_79 (k2024))) k2025)))) k2026))))))))) k2027))))))))) k2028)))))) k2030)))))))))))) k0))
set_option maxRecDepth 100000 in
set_option maxHeartbeats 4000000 in
theorem sg_M_keep_84 {L : Nat} {xs : Nat → Int32} {A V : Nat → Nat → Int32} {K : Nat → Option Nat} {T : am_H} {v : Option Int32} {h' : am_H} {v1 : Int32} (k0 :
    if 258 ≤ v1 then (
      ¬ ((V 36 23) < 0 ∨ 8 ≤ (V 36 23).toNatClampNeg) ∧ (
      v = some ((upV V 36 23 ((V 36 23) + 1)) 36 23) ∧ h' = hp L xs (upA A 52 (upd (A 52) (V 36 23).toNatClampNeg (vp_nar .boolean (V 36 5)))) (upV V 36 23 ((V 36 23) + 1)) K T))
    else (
      ¬ (v1 < 0 ∨ 258 ≤ v1.toNatClampNeg) ∧ (
      ¬ (((258 * (V 36 23)) + v1) < 0 ∨ 2064 ≤ ((258 * (V 36 23)) + v1).toNatClampNeg) ∧ (
      am_fin [(z_M_keep, 84, [.ref 36, .int (v1 + 1)], [])] (hp L xs (upA A 51 (upd (A 51) ((258 * (V 36 23)) + v1).toNatClampNeg ((A 41) v1.toNatClampNeg))) V K T) v h')))) : am_fin [(z_M_keep, 84, [.ref 36, .int v1], [])] (hp L xs A V K T) v h' :=
  fn_iload_n rl_M_keep_84 rfl (fn_sipush rl_M_keep_85 (fn_icmp_ge rl_M_keep_88 (fun k2034 => fn_aload_n rl_M_keep_118 rfl (fn_get rl_M_keep_119 hp_36 rfl (fn_aload_n rl_M_keep_122 rfl (fn_get rl_M_keep_123 hp_36 rfl (fn_aload_n rl_M_keep_126 rfl (fn_get rl_M_keep_127 hp_36 rfl (fn_zast rl_M_keep_130 hp_52 hps_52 (fun k2031 => fn_aload_n rl_M_keep_131 rfl (fn_aload_n rl_M_keep_132 rfl (fn_get rl_M_keep_133 hp_36 rfl (fn_iconst rl_M_keep_136 (fn_iadd rl_M_keep_137 (fn_put rl_M_keep_138 hp_36 rfl hpv_36_23 (fn_aload_n rl_M_keep_141 rfl (fn_get rl_M_keep_142 hp_36 rfl (fn_reti rl_M_keep_145 rfl k2031))))))))) k2034))))))) (fun k2035 => fn_aload_n rl_M_keep_91 rfl (fn_get rl_M_keep_92 hp_36 rfl (fn_sipush rl_M_keep_95 (fn_aload_n rl_M_keep_98 rfl (fn_get rl_M_keep_99 hp_36 rfl (fn_imul rl_M_keep_102 (fn_iload_n rl_M_keep_103 rfl (fn_iadd rl_M_keep_104 (fn_aload_n rl_M_keep_105 rfl (fn_get rl_M_keep_106 hp_36 rfl (fn_iload_n rl_M_keep_109 rfl (fn_iald rl_M_keep_110 hp_41 (fun k2033 => fn_iast rl_M_keep_111 hp_51 hps_51 (fun k2032 => fn_iinc (ls' := [.ref 36, .int (v1 + 1)]) rl_M_keep_112 rfl rfl rfl (fn_goto rl_M_keep_115 (k2032))) k2033) k2035)))))))))))) k0))
set_option maxRecDepth 100000 in
set_option maxHeartbeats 4000000 in
theorem sg_M_typed4_0 {L : Nat} {xs : Nat → Int32} {A V : Nat → Nat → Int32} {K : Nat → Option Nat} {T : am_H} {v : Option Int32} {h' : am_H} {a1 : Int32} (k0 :
    am_fin [(z_M_typed4, 2, [.ref 36, .int a1, .int 3], [])] (hp L xs A V K T) v h') : am_fin [(z_M_typed4, 0, [.ref 36, .int a1, .null], [])] (hp L xs A V K T) v h' :=
  fn_iconst rl_M_typed4_0 (fn_istore_n (ls' := [.ref 36, .int a1, .int 3]) rl_M_typed4_1 rfl rfl (k0))
set_option maxRecDepth 100000 in
set_option maxHeartbeats 4000000 in
theorem sg_M_typed4_2 {L : Nat} {xs : Nat → Int32} {A V : Nat → Nat → Int32} {K : Nat → Option Nat} {T : am_H} {v : Option Int32} {h' : am_H} {v1 v2 : Int32} (k0 :
    if v2 < 0 then (
      v = none ∧ h' = hp L xs A V K T)
    else (
      ¬ ((V 36 7) < 0 ∨ 320 ≤ (V 36 7).toNatClampNeg) ∧ (
      am_fin [(z_M_typed4, 2, [.ref 36, .int v1, .int (v2 + (-1))], [])] (hp L xs (upA A 42 (upd (A 42) (V 36 7).toNatClampNeg (vp_nar .byte (((v1 : Int32) >>> ((8 * v2) &&& 31 : Int32) : Int32).toInt8.toInt32)))) (upV V 36 7 ((V 36 7) + 1)) K T) v h'))) : am_fin [(z_M_typed4, 2, [.ref 36, .int v1, .int v2], [])] (hp L xs A V K T) v h' :=
  fn_iload_n rl_M_typed4_2 rfl (fn_if_lt rl_M_typed4_3 (fun k2462 => fn_retv rl_M_typed4_38 k2462) (fun k2463 => fn_aload_n rl_M_typed4_6 rfl (fn_get rl_M_typed4_7 hp_36 rfl (fn_aload_n rl_M_typed4_10 rfl (fn_get rl_M_typed4_11 hp_36 rfl (fn_iload_n rl_M_typed4_14 rfl (fn_bipush rl_M_typed4_15 (fn_iload_n rl_M_typed4_17 rfl (fn_imul rl_M_typed4_18 (fn_ishr rl_M_typed4_19 (fn_i2b rl_M_typed4_20 (fn_bast rl_M_typed4_21 hp_42 hps_42 (fun k2461 => fn_aload_n rl_M_typed4_22 rfl (fn_aload_n rl_M_typed4_23 rfl (fn_get rl_M_typed4_24 hp_36 rfl (fn_iconst rl_M_typed4_27 (fn_iadd rl_M_typed4_28 (fn_put rl_M_typed4_29 hp_36 rfl hpv_36_7 (fn_iinc (ls' := [.ref 36, .int v1, .int (v2 + (-1))]) rl_M_typed4_32 rfl rfl rfl (fn_goto rl_M_typed4_35 (k2461))))))))) k2463))))))))))) k0)
set_option maxRecDepth 100000 in
set_option maxHeartbeats 4000000 in
theorem sg_M_readsAll_0 {L : Nat} {xs : Nat → Int32} {A V : Nat → Nat → Int32} {K : Nat → Option Nat} {T : am_H} {v : Option Int32} {h' : am_H} {a1 : Int32} (k0 :
    am_fin [(z_M_readsAll, 24, [.ref 36, .int a1, .int 0, .int 1], [])] (hp L xs A (upV (upV (upV (upV V 36 7 0) 36 9 a1) 36 8 0) 36 10 0) K T) v h') : am_fin [(z_M_readsAll, 0, [.ref 36, .int a1, .null, .null], [])] (hp L xs A V K T) v h' :=
  fn_aload_n rl_M_readsAll_0 rfl (fn_iconst rl_M_readsAll_1 (fn_put rl_M_readsAll_2 hp_36 rfl hpv_36_7 (fn_aload_n rl_M_readsAll_5 rfl (fn_iload_n rl_M_readsAll_6 rfl (fn_put rl_M_readsAll_7 hp_36 rfl hpv_36_9 (fn_aload_n rl_M_readsAll_10 rfl (fn_iconst rl_M_readsAll_11 (fn_put rl_M_readsAll_12 hp_36 rfl hpv_36_8 (fn_aload_n rl_M_readsAll_15 rfl (fn_iconst rl_M_readsAll_16 (fn_put rl_M_readsAll_17 hp_36 rfl hpv_36_10 (fn_iconst rl_M_readsAll_20 (fn_istore_n (ls' := [.ref 36, .int a1, .int 0, .null]) rl_M_readsAll_21 rfl rfl (fn_iconst rl_M_readsAll_22 (fn_istore_n (ls' := [.ref 36, .int a1, .int 0, .int 1]) rl_M_readsAll_23 rfl rfl (k0))))))))))))))))
set_option maxRecDepth 100000 in
set_option maxHeartbeats 4000000 in
theorem sg_M_readsAll_24 {L : Nat} {xs : Nat → Int32} {A V : Nat → Nat → Int32} {K : Nat → Option Nat} {T : am_H} {v : Option Int32} {h' : am_H} {v1 v2 v3 : Int32} (k0 :
    if v3 = 0 then (
      if (V 36 10) = 0 then (
        v = some v2 ∧ h' = hp L xs A V K T)
      else (
        v = some (V 36 10) ∧ h' = hp L xs A V K T))
    else (
      am_fin [(z_M_readsStay, 0, [.ref 36, .int v2, .null], []), (z_M_readsAll, 33, [.ref 36, .int v1, .int v2, .int v3], [])] (hp L xs A V K T) v h')) : am_fin [(z_M_readsAll, 24, [.ref 36, .int v1, .int v2, .int v3], [])] (hp L xs A V K T) v h' :=
  fn_iload_n rl_M_readsAll_24 rfl (fn_if_eq rl_M_readsAll_25 (fun k2466 => fn_aload_n rl_M_readsAll_98 rfl (fn_get rl_M_readsAll_99 hp_36 rfl (fn_if_eq rl_M_readsAll_102 (fun k2464 => fn_iload_n rl_M_readsAll_112 rfl (fn_reti rl_M_readsAll_113 rfl k2464)) (fun k2465 => fn_aload_n rl_M_readsAll_105 rfl (fn_get rl_M_readsAll_106 hp_36 rfl (fn_goto rl_M_readsAll_109 (fn_reti rl_M_readsAll_113 rfl k2465)))) k2466))) (fun k2467 => fn_aload_n rl_M_readsAll_28 rfl (fn_iload_n rl_M_readsAll_29 rfl (fn_virt (as := [.ref 36, .int v2]) (r := []) (ls' := [.ref 36, .int v2, .null]) rl_M_readsAll_30 rfl hp_36 rfl rfl pl_M_readsStay rfl rfl (k2467)))) k0)
set_option maxRecDepth 100000 in
set_option maxHeartbeats 4000000 in
theorem sg_M_readsAll_33r {L : Nat} {xs : Nat → Int32} {A V : Nat → Nat → Int32} {K : Nat → Option Nat} {T : am_H} {v : Option Int32} {h' : am_H} {v1 v2 v3 : Int32} (k0 :
    if (V 36 10) = 0 then (
      am_fin [(z_M_see, 0, [.ref 36], []), (z_M_readsAll, 48, [.ref 36, .int v1, .int (v2 + 1), .int v3], [])] (hp L xs A V K T) v h')
    else (
      am_fin [(z_M_readsAll, 24, [.ref 36, .int v1, .int (v2 + 1), .int 0], [])] (hp L xs A V K T) v h')) : am_fin [(z_M_readsAll, 33, [.ref 36, .int v1, .int v2, .int v3], [])] (hp L xs A V K T) v h' :=
  fn_iload_n rl_M_readsAll_33 rfl (fn_iconst rl_M_readsAll_34 (fn_iadd rl_M_readsAll_35 (fn_istore_n (ls' := [.ref 36, .int v1, .int (v2 + 1), .int v3]) rl_M_readsAll_36 rfl rfl (fn_aload_n rl_M_readsAll_37 rfl (fn_get rl_M_readsAll_38 hp_36 rfl (fn_if_ne rl_M_readsAll_41 (fun k2468 => fn_aload_n rl_M_readsAll_44 rfl (fn_virt (as := [.ref 36]) (r := []) (ls' := [.ref 36]) rl_M_readsAll_45 rfl hp_36 rfl rfl pl_M_see rfl rfl (k2468))) (fun k2469 => fn_iconst rl_M_readsAll_56 (fn_istore_n (ls' := [.ref 36, .int v1, .int (v2 + 1), .int 0]) rl_M_readsAll_57 rfl rfl (fn_iload_n rl_M_readsAll_58 rfl (fn_if_eq_t rl_M_readsAll_59 (by decide +kernel) (fn_iload_n rl_M_readsAll_81 rfl (fn_if_eq_t rl_M_readsAll_82 (by decide +kernel) (k2469))))))) k0))))))
set_option maxRecDepth 100000 in
set_option maxHeartbeats 4000000 in
theorem sg_M_readsAll_48r {L : Nat} {xs : Nat → Int32} {A V : Nat → Nat → Int32} {K : Nat → Option Nat} {T : am_H} {v : Option Int32} {h' : am_H} {v1 v2 v3 r : Int32} (k0 :
    if r = (-1) then (
      am_fin [(z_M_readsAll, 24, [.ref 36, .int v1, .int v2, .int 0], [])] (hp L xs A V K T) v h')
    else (
      am_fin [(z_M_see, 0, [.ref 36], []), (z_M_readsAll, 66, [.ref 36, .int v1, .int v2, .int 1], [])] (hp L xs A V K T) v h')) : am_fin [(z_M_readsAll, 48, [.ref 36, .int v1, .int v2, .int v3], [.int r])] (hp L xs A V K T) v h' :=
  fn_iconst rl_M_readsAll_48 (fn_icmp_eq rl_M_readsAll_49 (fun k2470 => fn_iconst rl_M_readsAll_56 (fn_istore_n (ls' := [.ref 36, .int v1, .int v2, .int 0]) rl_M_readsAll_57 rfl rfl (fn_iload_n rl_M_readsAll_58 rfl (fn_if_eq_t rl_M_readsAll_59 (by decide +kernel) (fn_iload_n rl_M_readsAll_81 rfl (fn_if_eq_t rl_M_readsAll_82 (by decide +kernel) (k2470))))))) (fun k2471 => fn_iconst rl_M_readsAll_52 (fn_goto rl_M_readsAll_53 (fn_istore_n (ls' := [.ref 36, .int v1, .int v2, .int 1]) rl_M_readsAll_57 rfl rfl (fn_iload_n rl_M_readsAll_58 rfl (fn_if_eq_f rl_M_readsAll_59 (by decide +kernel) (fn_aload_n rl_M_readsAll_62 rfl (fn_virt (as := [.ref 36]) (r := []) (ls' := [.ref 36]) rl_M_readsAll_63 rfl hp_36 rfl rfl pl_M_see rfl rfl (k2471)))))))) k0)
set_option maxRecDepth 100000 in
set_option maxHeartbeats 4000000 in
theorem sg_M_readsAll_66r {L : Nat} {xs : Nat → Int32} {A V : Nat → Nat → Int32} {K : Nat → Option Nat} {T : am_H} {v : Option Int32} {h' : am_H} {v1 v2 v3 r : Int32} (k0 :
    if r = 44 then (
      if v3 = 0 then (
        am_fin [(z_M_readsAll, 24, [.ref 36, .int v1, .int v2, .int v3], [])] (hp L xs A V K T) v h')
      else (
        am_fin [(z_M_readsAll, 24, [.ref 36, .int v1, .int v2, .int v3], [])] (hp L xs A (upV V 36 8 ((V 36 8) + 1)) K T) v h'))
    else (
      if (V 36 10) = 0 then (
        am_fin [(z_M_readsAll, 24, [.ref 36, .int v1, .int v2, .int 0], [])] (hp L xs A (upV V 36 10 (((-1000) * 1) - (V 36 8))) K T) v h')
      else (
        am_fin [(z_M_readsAll, 24, [.ref 36, .int v1, .int v2, .int 0], [])] (hp L xs A V K T) v h'))) : am_fin [(z_M_readsAll, 66, [.ref 36, .int v1, .int v2, .int v3], [.int r])] (hp L xs A V K T) v h' :=
  fn_bipush rl_M_readsAll_66 (fn_icmp_eq rl_M_readsAll_68 (fun k2476 => fn_iload_n rl_M_readsAll_81 rfl (fn_if_eq rl_M_readsAll_82 (fun k2472 => k2472) (fun k2473 => fn_aload_n rl_M_readsAll_85 rfl (fn_aload_n rl_M_readsAll_86 rfl (fn_get rl_M_readsAll_87 hp_36 rfl (fn_iconst rl_M_readsAll_90 (fn_iadd rl_M_readsAll_91 (fn_put rl_M_readsAll_92 hp_36 rfl hpv_36_8 (fn_goto rl_M_readsAll_95 (k2473)))))))) k2476)) (fun k2477 => fn_aload_n rl_M_readsAll_71 rfl (fn_iconst rl_M_readsAll_72 (fn_aload_n rl_M_readsAll_73 rfl (fn_get rl_M_readsAll_74 hp_36 rfl (fn_virt (as := [.ref 36, .int 1, .int (V 36 8)]) (r := []) (ls' := [.ref 36, .int 1, .int (V 36 8)]) rl_M_readsAll_77 rfl hp_36 rfl rfl pl_M_wrong rfl rfl (fn_aload_n rl_M_wrong_0 rfl (fn_get rl_M_wrong_1 hp_36 rfl (fn_if_ne rl_M_wrong_4 (fun k2474 => fn_aload_n rl_M_wrong_7 rfl (fn_sipush rl_M_wrong_8 (fn_iload_n rl_M_wrong_11 rfl (fn_imul rl_M_wrong_12 (fn_iload_n rl_M_wrong_13 rfl (fn_isub rl_M_wrong_14 (fn_put rl_M_wrong_15 hp_36 rfl hpv_36_10 (fn_iconst rl_M_wrong_18 (fn_retci rl_M_wrong_19 rfl (fn_istore_n (ls' := [.ref 36, .int v1, .int v2, .int 0]) rl_M_readsAll_80 rfl rfl (fn_iload_n rl_M_readsAll_81 rfl (fn_if_eq_t rl_M_readsAll_82 (by decide +kernel) (k2474))))))))))))) (fun k2475 => fn_iconst rl_M_wrong_18 (fn_retci rl_M_wrong_19 rfl (fn_istore_n (ls' := [.ref 36, .int v1, .int v2, .int 0]) rl_M_readsAll_80 rfl rfl (fn_iload_n rl_M_readsAll_81 rfl (fn_if_eq_t rl_M_readsAll_82 (by decide +kernel) (k2475)))))) k2477)))))))) k0)
set_option maxRecDepth 100000 in
set_option maxHeartbeats 4000000 in
theorem sg_M_laysStays_0 {L : Nat} {xs : Nat → Int32} {A V : Nat → Nat → Int32} {K : Nat → Option Nat} {T : am_H} {v : Option Int32} {h' : am_H} {a1 : Int32} (k0 :
    am_fin [(z_M_laysStays, 2, [.ref 36, .int a1, .int 0, .null], [])] (hp L xs A V K T) v h') : am_fin [(z_M_laysStays, 0, [.ref 36, .int a1, .null, .null], [])] (hp L xs A V K T) v h' :=
  fn_iconst rl_M_laysStays_0 (fn_istore_n (ls' := [.ref 36, .int a1, .int 0, .null]) rl_M_laysStays_1 rfl rfl (k0))
set_option maxRecDepth 100000 in
set_option maxHeartbeats 4000000 in
theorem sg_M_laysStays_2 {L : Nat} {xs : Nat → Int32} {A V : Nat → Nat → Int32} {K : Nat → Option Nat} {T : am_H} {v : Option Int32} {h' : am_H} {v1 v2 : Int32} (k0 :
    if v1 ≤ v2 then (
      v = none ∧ h' = hp L xs A V K T)
    else (
      ¬ (((3 * v2) + 1) < 0 ∨ 240 ≤ ((3 * v2) + 1).toNatClampNeg) ∧ (
      am_fin [(z_M_laysStays, 18, [.ref 36, .int v1, .int v2, .int ((A 43) ((3 * v2) + 1).toNatClampNeg)], [])] (hp L xs A V K T) v h'))) : am_fin [(z_M_laysStays, 2, [.ref 36, .int v1, .int v2, .null], [])] (hp L xs A V K T) v h' :=
  fn_iload_n rl_M_laysStays_2 rfl (fn_iload_n rl_M_laysStays_3 rfl (fn_icmp_ge rl_M_laysStays_4 (fun k2479 => fn_retv rl_M_laysStays_58 k2479) (fun k2480 => fn_aload_n rl_M_laysStays_7 rfl (fn_get rl_M_laysStays_8 hp_36 rfl (fn_iconst rl_M_laysStays_11 (fn_iload_n rl_M_laysStays_12 rfl (fn_imul rl_M_laysStays_13 (fn_iconst rl_M_laysStays_14 (fn_iadd rl_M_laysStays_15 (fn_iald rl_M_laysStays_16 hp_43 (fun k2478 => fn_istore_n (ls' := [.ref 36, .int v1, .int v2, .int ((A 43) ((3 * v2) + 1).toNatClampNeg)]) rl_M_laysStays_17 rfl rfl (k2478)) k2480)))))))) k0))
set_option maxRecDepth 100000 in
set_option maxHeartbeats 4000000 in
theorem sg_M_laysStays_18 {L : Nat} {xs : Nat → Int32} {A V : Nat → Nat → Int32} {K : Nat → Option Nat} {T : am_H} {v : Option Int32} {h' : am_H} {v1 v2 v3 : Int32} (k0 :
    ¬ (((3 * v2) + 2) < 0 ∨ 240 ≤ ((3 * v2) + 2).toNatClampNeg) ∧ (
    if ((A 43) ((3 * v2) + 2).toNatClampNeg) < v3 then (
      am_fin [(z_M_laysStays, 2, [.ref 36, .int v1, .int (v2 + 1), .int v3], [])] (hp L xs A V K T) v h')
    else (
      ¬ ((3 * v2) < 0 ∨ 240 ≤ (3 * v2).toNatClampNeg) ∧ (
      ¬ (v3 < 0 ∨ 1080 ≤ v3.toNatClampNeg) ∧ (
      am_fin [(z_M_laysStays, 18, [.ref 36, .int v1, .int v2, .int (v3 + 1)], [])] (hp L xs (upA A 37 (upd (A 37) v3.toNatClampNeg ((A 43) (3 * v2).toNatClampNeg))) V K T) v h'))))) : am_fin [(z_M_laysStays, 18, [.ref 36, .int v1, .int v2, .int v3], [])] (hp L xs A V K T) v h' :=
  fn_iload_n rl_M_laysStays_18 rfl (fn_aload_n rl_M_laysStays_19 rfl (fn_get rl_M_laysStays_20 hp_36 rfl (fn_iconst rl_M_laysStays_23 (fn_iload_n rl_M_laysStays_24 rfl (fn_imul rl_M_laysStays_25 (fn_iconst rl_M_laysStays_26 (fn_iadd rl_M_laysStays_27 (fn_iald rl_M_laysStays_28 hp_43 (fun k2485 => fn_icmp_gt rl_M_laysStays_29 (fun k2483 => fn_iinc (ls' := [.ref 36, .int v1, .int (v2 + 1), .int v3]) rl_M_laysStays_52 rfl rfl rfl (fn_goto rl_M_laysStays_55 (k2483))) (fun k2484 => fn_aload_n rl_M_laysStays_32 rfl (fn_get rl_M_laysStays_33 hp_36 rfl (fn_iload_n rl_M_laysStays_36 rfl (fn_aload_n rl_M_laysStays_37 rfl (fn_get rl_M_laysStays_38 hp_36 rfl (fn_iconst rl_M_laysStays_41 (fn_iload_n rl_M_laysStays_42 rfl (fn_imul rl_M_laysStays_43 (fn_iald rl_M_laysStays_44 hp_43 (fun k2482 => fn_iast rl_M_laysStays_45 hp_37 hps_37 (fun k2481 => fn_iinc (ls' := [.ref 36, .int v1, .int v2, .int (v3 + 1)]) rl_M_laysStays_46 rfl rfl rfl (fn_goto rl_M_laysStays_49 (k2481))) k2482) k2484))))))))) k2485) k0))))))))
set_option maxRecDepth 100000 in
set_option maxHeartbeats 4000000 in
theorem sg_M_begins_0 {L : Nat} {xs : Nat → Int32} {A V : Nat → Nat → Int32} {K : Nat → Option Nat} {T : am_H} {v : Option Int32} {h' : am_H} {a1 : Int32} (k0 :
    ¬ (a1 < 0 ∨ 1080 ≤ a1.toNatClampNeg) ∧ (
    if ((A 37) a1.toNatClampNeg) = (-1) then (
      v = some 0 ∧ h' = hp L xs A V K T)
    else (
      if a1 = 0 then (
        v = some 1 ∧ h' = hp L xs A V K T)
      else (
        ¬ ((a1 - 1) < 0 ∨ 1080 ≤ (a1 - 1).toNatClampNeg) ∧ (
        ¬ (a1 < 0 ∨ 1080 ≤ a1.toNatClampNeg) ∧ (
        if ((A 37) (a1 - 1).toNatClampNeg) = ((A 37) a1.toNatClampNeg) then (
          v = some 0 ∧ h' = hp L xs A V K T)
        else (
          v = some 1 ∧ h' = hp L xs A V K T))))))) : am_fin [(z_M_begins, 0, [.ref 36, .int a1], [])] (hp L xs A V K T) v h' :=
  fn_aload_n rl_M_begins_0 rfl (fn_get rl_M_begins_1 hp_36 rfl (fn_iload_n rl_M_begins_4 rfl (fn_iald rl_M_begins_5 hp_37 (fun k2494 => fn_iconst rl_M_begins_6 (fn_icmp_eq rl_M_begins_7 (fun k2492 => fn_iconst rl_M_begins_35 (fn_reti rl_M_begins_36 rfl k2492)) (fun k2493 => fn_iload_n rl_M_begins_10 rfl (fn_if_eq rl_M_begins_11 (fun k2490 => fn_iconst rl_M_begins_31 (fn_goto rl_M_begins_32 (fn_reti rl_M_begins_36 rfl k2490))) (fun k2491 => fn_aload_n rl_M_begins_14 rfl (fn_get rl_M_begins_15 hp_36 rfl (fn_iload_n rl_M_begins_18 rfl (fn_iconst rl_M_begins_19 (fn_isub rl_M_begins_20 (fn_iald rl_M_begins_21 hp_37 (fun k2489 => fn_aload_n rl_M_begins_22 rfl (fn_get rl_M_begins_23 hp_36 rfl (fn_iload_n rl_M_begins_26 rfl (fn_iald rl_M_begins_27 hp_37 (fun k2488 => fn_icmp_eq rl_M_begins_28 (fun k2486 => fn_iconst rl_M_begins_35 (fn_reti rl_M_begins_36 rfl k2486)) (fun k2487 => fn_iconst rl_M_begins_31 (fn_goto rl_M_begins_32 (fn_reti rl_M_begins_36 rfl k2487))) k2488) k2489)))) k2491)))))) k2493)) k2494)) k0)))
set_option maxRecDepth 100000 in
set_option maxHeartbeats 4000000 in
theorem sg_M_writesNumber_0 {L : Nat} {xs : Nat → Int32} {A V : Nat → Nat → Int32} {K : Nat → Option Nat} {T : am_H} {v : Option Int32} {h' : am_H} {a1 : Int32} (k0 :
    am_fin [(z_M_writesNumber, 4, [.ref 36, .int a1, .int 1000], [])] (hp L xs A V K T) v h') : am_fin [(z_M_writesNumber, 0, [.ref 36, .int a1, .null], [])] (hp L xs A V K T) v h' :=
  fn_sipush rl_M_writesNumber_0 (fn_istore_n (ls' := [.ref 36, .int a1, .int 1000]) rl_M_writesNumber_3 rfl rfl (k0))
set_option maxRecDepth 100000 in
set_option maxHeartbeats 4000000 in
theorem sg_M_writesNumber_4 {L : Nat} {xs : Nat → Int32} {A V : Nat → Nat → Int32} {K : Nat → Option Nat} {T : am_H} {v : Option Int32} {h' : am_H} {v1 v2 : Int32} (k0 :
    if v2 ≤ 0 then (
      v = none ∧ h' = hp L xs A V K T)
    else (
      if v2 ≤ v1 then (
        ¬ v2 = 0 ∧ (
        if (V 36 14) = (V 36 15) then (
          am_fin [(z_M_writesNumber, 4, [.ref 36, .int v1, .int (v2 / 10)], [])] (hp L xs A (upV (upV V 36 16 (48 + ((v1 / v2) - (v1 / v2) / 10 * 10))) 36 14 (((upV V 36 16 (48 + ((v1 / v2) - (v1 / v2) / 10 * 10))) 36 14) + 1)) K T) v h')
        else (
          am_fin [(z_M_writesNumber, 4, [.ref 36, .int v1, .int (v2 / 10)], [])] (hp L xs A (upV V 36 14 ((V 36 14) + 1)) K T) v h')))
      else (
        if v2 = 1 then (
          ¬ v2 = 0 ∧ (
          if (V 36 14) = (V 36 15) then (
            am_fin [(z_M_writesNumber, 4, [.ref 36, .int v1, .int (v2 / 10)], [])] (hp L xs A (upV (upV V 36 16 (48 + ((v1 / v2) - (v1 / v2) / 10 * 10))) 36 14 (((upV V 36 16 (48 + ((v1 / v2) - (v1 / v2) / 10 * 10))) 36 14) + 1)) K T) v h')
          else (
            am_fin [(z_M_writesNumber, 4, [.ref 36, .int v1, .int (v2 / 10)], [])] (hp L xs A (upV V 36 14 ((V 36 14) + 1)) K T) v h')))
        else (
          am_fin [(z_M_writesNumber, 4, [.ref 36, .int v1, .int (v2 / 10)], [])] (hp L xs A V K T) v h')))) : am_fin [(z_M_writesNumber, 4, [.ref 36, .int v1, .int v2], [])] (hp L xs A V K T) v h' :=
  fn_iload_n rl_M_writesNumber_4 rfl (fn_if_le rl_M_writesNumber_5 (fun k2503 => fn_retv rl_M_writesNumber_39 k2503) (fun k2504 => fn_iload_n rl_M_writesNumber_8 rfl (fn_iload_n rl_M_writesNumber_9 rfl (fn_icmp_ge rl_M_writesNumber_10 (fun k2501 => fn_aload_n rl_M_writesNumber_18 rfl (fn_bipush rl_M_writesNumber_19 (fn_iload_n rl_M_writesNumber_21 rfl (fn_iload_n rl_M_writesNumber_22 rfl (fn_idiv rl_M_writesNumber_23 k2501.1 (fn_bipush rl_M_writesNumber_24 (fn_irem rl_M_writesNumber_26 (by decide +kernel) (fn_iadd rl_M_writesNumber_27 (fn_virt (as := [.ref 36, .int (48 + ((v1 / v2) - (v1 / v2) / 10 * 10))]) (r := []) (ls' := [.ref 36, .int (48 + ((v1 / v2) - (v1 / v2) / 10 * 10))]) rl_M_writesNumber_28 rfl hp_36 rfl rfl pl_M_writes rfl rfl (fn_aload_n rl_M_writes_0 rfl (fn_get rl_M_writes_1 hp_36 rfl (fn_aload_n rl_M_writes_4 rfl (fn_get rl_M_writes_5 hp_36 rfl (fn_icmp_ne rl_M_writes_8 (fun k2495 => fn_aload_n rl_M_writes_11 rfl (fn_iload_n rl_M_writes_12 rfl (fn_put rl_M_writes_13 hp_36 rfl hpv_36_16 (fn_aload_n rl_M_writes_16 rfl (fn_aload_n rl_M_writes_17 rfl (fn_get rl_M_writes_18 hp_36 rfl (fn_iconst rl_M_writes_21 (fn_iadd rl_M_writes_22 (fn_put rl_M_writes_23 hp_36 rfl hpv_36_14 (fn_retcv rl_M_writes_26 (fn_iload_n rl_M_writesNumber_31 rfl (fn_bipush rl_M_writesNumber_32 (fn_idiv rl_M_writesNumber_34 (by decide +kernel) (fn_istore_n (ls' := [.ref 36, .int v1, .int (v2 / 10)]) rl_M_writesNumber_35 rfl rfl (fn_goto rl_M_writesNumber_36 (k2495)))))))))))))))) (fun k2496 => fn_aload_n rl_M_writes_16 rfl (fn_aload_n rl_M_writes_17 rfl (fn_get rl_M_writes_18 hp_36 rfl (fn_iconst rl_M_writes_21 (fn_iadd rl_M_writes_22 (fn_put rl_M_writes_23 hp_36 rfl hpv_36_14 (fn_retcv rl_M_writes_26 (fn_iload_n rl_M_writesNumber_31 rfl (fn_bipush rl_M_writesNumber_32 (fn_idiv rl_M_writesNumber_34 (by decide +kernel) (fn_istore_n (ls' := [.ref 36, .int v1, .int (v2 / 10)]) rl_M_writesNumber_35 rfl rfl (fn_goto rl_M_writesNumber_36 (k2496))))))))))))) k2501.2)))))))))))))) (fun k2502 => fn_iload_n rl_M_writesNumber_13 rfl (fn_iconst rl_M_writesNumber_14 (fn_icmp_ne rl_M_writesNumber_15 (fun k2499 => fn_aload_n rl_M_writesNumber_18 rfl (fn_bipush rl_M_writesNumber_19 (fn_iload_n rl_M_writesNumber_21 rfl (fn_iload_n rl_M_writesNumber_22 rfl (fn_idiv rl_M_writesNumber_23 k2499.1 (fn_bipush rl_M_writesNumber_24 (fn_irem rl_M_writesNumber_26 (by decide +kernel) (fn_iadd rl_M_writesNumber_27 (fn_virt (as := [.ref 36, .int (48 + ((v1 / v2) - (v1 / v2) / 10 * 10))]) (r := []) (ls' := [.ref 36, .int (48 + ((v1 / v2) - (v1 / v2) / 10 * 10))]) rl_M_writesNumber_28 rfl hp_36 rfl rfl pl_M_writes rfl rfl (fn_aload_n rl_M_writes_0 rfl (fn_get rl_M_writes_1 hp_36 rfl (fn_aload_n rl_M_writes_4 rfl (fn_get rl_M_writes_5 hp_36 rfl (fn_icmp_ne rl_M_writes_8 (fun k2497 => fn_aload_n rl_M_writes_11 rfl (fn_iload_n rl_M_writes_12 rfl (fn_put rl_M_writes_13 hp_36 rfl hpv_36_16 (fn_aload_n rl_M_writes_16 rfl (fn_aload_n rl_M_writes_17 rfl (fn_get rl_M_writes_18 hp_36 rfl (fn_iconst rl_M_writes_21 (fn_iadd rl_M_writes_22 (fn_put rl_M_writes_23 hp_36 rfl hpv_36_14 (fn_retcv rl_M_writes_26 (fn_iload_n rl_M_writesNumber_31 rfl (fn_bipush rl_M_writesNumber_32 (fn_idiv rl_M_writesNumber_34 (by decide +kernel) (fn_istore_n (ls' := [.ref 36, .int v1, .int (v2 / 10)]) rl_M_writesNumber_35 rfl rfl (fn_goto rl_M_writesNumber_36 (k2497)))))))))))))))) (fun k2498 => fn_aload_n rl_M_writes_16 rfl (fn_aload_n rl_M_writes_17 rfl (fn_get rl_M_writes_18 hp_36 rfl (fn_iconst rl_M_writes_21 (fn_iadd rl_M_writes_22 (fn_put rl_M_writes_23 hp_36 rfl hpv_36_14 (fn_retcv rl_M_writes_26 (fn_iload_n rl_M_writesNumber_31 rfl (fn_bipush rl_M_writesNumber_32 (fn_idiv rl_M_writesNumber_34 (by decide +kernel) (fn_istore_n (ls' := [.ref 36, .int v1, .int (v2 / 10)]) rl_M_writesNumber_35 rfl rfl (fn_goto rl_M_writesNumber_36 (k2498))))))))))))) k2499.2)))))))))))))) (fun k2500 => fn_iload_n rl_M_writesNumber_31 rfl (fn_bipush rl_M_writesNumber_32 (fn_idiv rl_M_writesNumber_34 (by decide +kernel) (fn_istore_n (ls' := [.ref 36, .int v1, .int (v2 / 10)]) rl_M_writesNumber_35 rfl rfl (fn_goto rl_M_writesNumber_36 (k2500)))))) k2502))) k2504))) k0)
set_option maxRecDepth 100000 in
set_option maxHeartbeats 4000000 in
theorem sg_M_endOf_0 {L : Nat} {xs : Nat → Int32} {A V : Nat → Nat → Int32} {K : Nat → Option Nat} {T : am_H} {v : Option Int32} {h' : am_H} {a1 : Int32} (k0 :
    am_fin [(z_M_endOf, 2, [.ref 36, .int a1, .int a1], [])] (hp L xs A V K T) v h') : am_fin [(z_M_endOf, 0, [.ref 36, .int a1, .null], [])] (hp L xs A V K T) v h' :=
  fn_iload_n rl_M_endOf_0 rfl (fn_istore_n (ls' := [.ref 36, .int a1, .int a1]) rl_M_endOf_1 rfl rfl (k0))
set_option maxRecDepth 100000 in
set_option maxHeartbeats 4000000 in
theorem sg_M_endOf_2 {L : Nat} {xs : Nat → Int32} {A V : Nat → Nat → Int32} {K : Nat → Option Nat} {T : am_H} {v : Option Int32} {h' : am_H} {v1 v2 : Int32} (k0 :
    if 1080 ≤ (v2 + 1) then (
      v = some v2 ∧ h' = hp L xs A V K T)
    else (
      ¬ ((v2 + 1) < 0 ∨ 1080 ≤ (v2 + 1).toNatClampNeg) ∧ (
      ¬ (v1 < 0 ∨ 1080 ≤ v1.toNatClampNeg) ∧ (
      if ((A 37) (v2 + 1).toNatClampNeg) = ((A 37) v1.toNatClampNeg) then (
        am_fin [(z_M_endOf, 2, [.ref 36, .int v1, .int (v2 + 1)], [])] (hp L xs A V K T) v h')
      else (
        v = some v2 ∧ h' = hp L xs A V K T))))) : am_fin [(z_M_endOf, 2, [.ref 36, .int v1, .int v2], [])] (hp L xs A V K T) v h' :=
  fn_iload_n rl_M_endOf_2 rfl (fn_iconst rl_M_endOf_3 (fn_iadd rl_M_endOf_4 (fn_sipush rl_M_endOf_5 (fn_icmp_ge rl_M_endOf_8 (fun k2509 => fn_iload_n rl_M_endOf_35 rfl (fn_reti rl_M_endOf_36 rfl k2509)) (fun k2510 => fn_aload_n rl_M_endOf_11 rfl (fn_get rl_M_endOf_12 hp_36 rfl (fn_iload_n rl_M_endOf_15 rfl (fn_iconst rl_M_endOf_16 (fn_iadd rl_M_endOf_17 (fn_iald rl_M_endOf_18 hp_37 (fun k2508 => fn_aload_n rl_M_endOf_19 rfl (fn_get rl_M_endOf_20 hp_36 rfl (fn_iload_n rl_M_endOf_23 rfl (fn_iald rl_M_endOf_24 hp_37 (fun k2507 => fn_icmp_ne rl_M_endOf_25 (fun k2505 => fn_iload_n rl_M_endOf_28 rfl (fn_iconst rl_M_endOf_29 (fn_iadd rl_M_endOf_30 (fn_istore_n (ls' := [.ref 36, .int v1, .int (v2 + 1)]) rl_M_endOf_31 rfl rfl (fn_goto rl_M_endOf_32 (k2505)))))) (fun k2506 => fn_iload_n rl_M_endOf_35 rfl (fn_reti rl_M_endOf_36 rfl k2506)) k2507) k2508)))) k2510)))))) k0))))
set_option maxRecDepth 100000 in
set_option maxHeartbeats 4000000 in
theorem sg_M_readsLetters_0 {L : Nat} {xs : Nat → Int32} {A V : Nat → Nat → Int32} {K : Nat → Option Nat} {T : am_H} {v : Option Int32} {h' : am_H} {a1 : Int32} (k0 :
    am_fin [(z_M_readsLetters, 9, [.ref 36, .int a1, .int 0, .int 0], [])] (hp L xs A (upV V 36 7 0) K T) v h') : am_fin [(z_M_readsLetters, 0, [.ref 36, .int a1, .null, .null], [])] (hp L xs A V K T) v h' :=
  fn_aload_n rl_M_readsLetters_0 rfl (fn_iconst rl_M_readsLetters_1 (fn_put rl_M_readsLetters_2 hp_36 rfl hpv_36_7 (fn_iconst rl_M_readsLetters_5 (fn_istore_n (ls' := [.ref 36, .int a1, .int 0, .null]) rl_M_readsLetters_6 rfl rfl (fn_iconst rl_M_readsLetters_7 (fn_istore_n (ls' := [.ref 36, .int a1, .int 0, .int 0]) rl_M_readsLetters_8 rfl rfl (k0)))))))
set_option maxRecDepth 100000 in
set_option maxHeartbeats 4000000 in
theorem sg_M_readsLetters_9 {L : Nat} {xs : Nat → Int32} {A V : Nat → Nat → Int32} {K : Nat → Option Nat} {T : am_H} {v : Option Int32} {h' : am_H} {v1 v2 v3 : Int32} (k0 :
    if v1 ≤ v3 then (
      v = some 1 ∧ h' = hp L xs A V K T)
    else (
      ¬ (v3 < 0 ∨ 320 ≤ v3.toNatClampNeg) ∧ (
      if ((A 42) v3.toNatClampNeg) = 104 then (
        ¬ (v3 < 0 ∨ 4 ≤ v3.toNatClampNeg) ∧ (
        ¬ (v3 < 0 ∨ 4 ≤ v3.toNatClampNeg) ∧ (
        if (((upA A 44 (upd (A 44) v3.toNatClampNeg 0)) 44) v3.toNatClampNeg) = (-1) then (
          v = some 0 ∧ h' = hp L xs (upA A 44 (upd (A 44) v3.toNatClampNeg 0)) V K T)
        else (
          ¬ (v3 < 0 ∨ 4 ≤ v3.toNatClampNeg) ∧ (
          if (((v2 : Int32) >>> ((((upA A 44 (upd (A 44) v3.toNatClampNeg 0)) 44) v3.toNatClampNeg) &&& 31 : Int32)) &&& 1) = 1 then (
            v = some 0 ∧ h' = hp L xs (upA A 44 (upd (A 44) v3.toNatClampNeg 0)) V K T)
          else (
            ¬ (v3 < 0 ∨ 4 ≤ v3.toNatClampNeg) ∧ (
            am_fin [(z_M_readsLetters, 9, [.ref 36, .int v1, .int (v2 ||| ((1 : Int32) <<< ((((upA A 44 (upd (A 44) v3.toNatClampNeg 0)) 44) v3.toNatClampNeg) &&& 31 : Int32))), .int (v3 + 1)], [])] (hp L xs (upA A 44 (upd (A 44) v3.toNatClampNeg 0)) V K T) v h')))))))
      else (
        if ((A 42) v3.toNatClampNeg) = 99 then (
          ¬ (v3 < 0 ∨ 4 ≤ v3.toNatClampNeg) ∧ (
          ¬ (v3 < 0 ∨ 4 ≤ v3.toNatClampNeg) ∧ (
          if (((upA A 44 (upd (A 44) v3.toNatClampNeg 1)) 44) v3.toNatClampNeg) = (-1) then (
            v = some 0 ∧ h' = hp L xs (upA A 44 (upd (A 44) v3.toNatClampNeg 1)) V K T)
          else (
            ¬ (v3 < 0 ∨ 4 ≤ v3.toNatClampNeg) ∧ (
            if (((v2 : Int32) >>> ((((upA A 44 (upd (A 44) v3.toNatClampNeg 1)) 44) v3.toNatClampNeg) &&& 31 : Int32)) &&& 1) = 1 then (
              v = some 0 ∧ h' = hp L xs (upA A 44 (upd (A 44) v3.toNatClampNeg 1)) V K T)
            else (
              ¬ (v3 < 0 ∨ 4 ≤ v3.toNatClampNeg) ∧ (
              am_fin [(z_M_readsLetters, 9, [.ref 36, .int v1, .int (v2 ||| ((1 : Int32) <<< ((((upA A 44 (upd (A 44) v3.toNatClampNeg 1)) 44) v3.toNatClampNeg) &&& 31 : Int32))), .int (v3 + 1)], [])] (hp L xs (upA A 44 (upd (A 44) v3.toNatClampNeg 1)) V K T) v h')))))))
        else (
          if ((A 42) v3.toNatClampNeg) = 100 then (
            ¬ (v3 < 0 ∨ 4 ≤ v3.toNatClampNeg) ∧ (
            ¬ (v3 < 0 ∨ 4 ≤ v3.toNatClampNeg) ∧ (
            if (((upA A 44 (upd (A 44) v3.toNatClampNeg 2)) 44) v3.toNatClampNeg) = (-1) then (
              v = some 0 ∧ h' = hp L xs (upA A 44 (upd (A 44) v3.toNatClampNeg 2)) V K T)
            else (
              ¬ (v3 < 0 ∨ 4 ≤ v3.toNatClampNeg) ∧ (
              if (((v2 : Int32) >>> ((((upA A 44 (upd (A 44) v3.toNatClampNeg 2)) 44) v3.toNatClampNeg) &&& 31 : Int32)) &&& 1) = 1 then (
                v = some 0 ∧ h' = hp L xs (upA A 44 (upd (A 44) v3.toNatClampNeg 2)) V K T)
              else (
                ¬ (v3 < 0 ∨ 4 ≤ v3.toNatClampNeg) ∧ (
                am_fin [(z_M_readsLetters, 9, [.ref 36, .int v1, .int (v2 ||| ((1 : Int32) <<< ((((upA A 44 (upd (A 44) v3.toNatClampNeg 2)) 44) v3.toNatClampNeg) &&& 31 : Int32))), .int (v3 + 1)], [])] (hp L xs (upA A 44 (upd (A 44) v3.toNatClampNeg 2)) V K T) v h')))))))
          else (
            if ((A 42) v3.toNatClampNeg) = 110 then (
              ¬ (v3 < 0 ∨ 4 ≤ v3.toNatClampNeg) ∧ (
              ¬ (v3 < 0 ∨ 4 ≤ v3.toNatClampNeg) ∧ (
              if (((upA A 44 (upd (A 44) v3.toNatClampNeg 3)) 44) v3.toNatClampNeg) = (-1) then (
                v = some 0 ∧ h' = hp L xs (upA A 44 (upd (A 44) v3.toNatClampNeg 3)) V K T)
              else (
                ¬ (v3 < 0 ∨ 4 ≤ v3.toNatClampNeg) ∧ (
                if (((v2 : Int32) >>> ((((upA A 44 (upd (A 44) v3.toNatClampNeg 3)) 44) v3.toNatClampNeg) &&& 31 : Int32)) &&& 1) = 1 then (
                  v = some 0 ∧ h' = hp L xs (upA A 44 (upd (A 44) v3.toNatClampNeg 3)) V K T)
                else (
                  ¬ (v3 < 0 ∨ 4 ≤ v3.toNatClampNeg) ∧ (
                  am_fin [(z_M_readsLetters, 9, [.ref 36, .int v1, .int (v2 ||| ((1 : Int32) <<< ((((upA A 44 (upd (A 44) v3.toNatClampNeg 3)) 44) v3.toNatClampNeg) &&& 31 : Int32))), .int (v3 + 1)], [])] (hp L xs (upA A 44 (upd (A 44) v3.toNatClampNeg 3)) V K T) v h')))))))
            else (
              ¬ (v3 < 0 ∨ 4 ≤ v3.toNatClampNeg) ∧ (
              ¬ (v3 < 0 ∨ 4 ≤ v3.toNatClampNeg) ∧ (
              if (((upA A 44 (upd (A 44) v3.toNatClampNeg (-1))) 44) v3.toNatClampNeg) = (-1) then (
                v = some 0 ∧ h' = hp L xs (upA A 44 (upd (A 44) v3.toNatClampNeg (-1))) V K T)
              else (
                ¬ (v3 < 0 ∨ 4 ≤ v3.toNatClampNeg) ∧ (
                if (((v2 : Int32) >>> ((((upA A 44 (upd (A 44) v3.toNatClampNeg (-1))) 44) v3.toNatClampNeg) &&& 31 : Int32)) &&& 1) = 1 then (
                  v = some 0 ∧ h' = hp L xs (upA A 44 (upd (A 44) v3.toNatClampNeg (-1))) V K T)
                else (
                  ¬ (v3 < 0 ∨ 4 ≤ v3.toNatClampNeg) ∧ (
                  am_fin [(z_M_readsLetters, 9, [.ref 36, .int v1, .int (v2 ||| ((1 : Int32) <<< ((((upA A 44 (upd (A 44) v3.toNatClampNeg (-1))) 44) v3.toNatClampNeg) &&& 31 : Int32))), .int (v3 + 1)], [])] (hp L xs (upA A 44 (upd (A 44) v3.toNatClampNeg (-1))) V K T) v h'))))))))))))) : am_fin [(z_M_readsLetters, 9, [.ref 36, .int v1, .int v2, .int v3], [])] (hp L xs A V K T) v h' :=
  fn_iload_n rl_M_readsLetters_9 rfl (fn_iload_n rl_M_readsLetters_10 rfl (fn_icmp_ge rl_M_readsLetters_11 (fun k2560 => fn_iconst rl_M_readsLetters_72 (fn_reti rl_M_readsLetters_73 rfl k2560)) (fun k2561 => fn_aload_n rl_M_readsLetters_14 rfl (fn_get rl_M_readsLetters_15 hp_36 rfl (fn_iload_n rl_M_readsLetters_18 rfl (fn_aload_n rl_M_readsLetters_19 rfl (fn_get rl_M_readsLetters_20 hp_36 rfl (fn_iload_n rl_M_readsLetters_23 rfl (fn_bald rl_M_readsLetters_24 hp_42 (fun k2559 => fn_stat (as := [.int ((A 42) v3.toNatClampNeg)]) (r := [.int v3, .ref 44]) (ls' := [.int ((A 42) v3.toNatClampNeg)]) rl_M_readsLetters_25 rfl rfl rfl rfl pl_M_letterOf rfl rfl (fn_iload_n rl_M_letterOf_0 rfl (fn_bipush rl_M_letterOf_1 (fn_icmp_ne rl_M_letterOf_3 (fun k2557 => fn_iconst rl_M_letterOf_6 (fn_goto rl_M_letterOf_7 (fn_retci rl_M_letterOf_41 rfl (fn_iast rl_M_readsLetters_28 hp_44 hps_44 (fun k2518 => fn_aload_n rl_M_readsLetters_29 rfl (fn_get rl_M_readsLetters_30 hp_36 rfl (fn_iload_n rl_M_readsLetters_33 rfl (fn_iald rl_M_readsLetters_34 hp_44 (fun k2517 => fn_iconst rl_M_readsLetters_35 (fn_icmp_eq rl_M_readsLetters_36 (fun k2515 => fn_iconst rl_M_readsLetters_53 (fn_reti rl_M_readsLetters_54 rfl k2515)) (fun k2516 => fn_iload_n rl_M_readsLetters_39 rfl (fn_aload_n rl_M_readsLetters_40 rfl (fn_get rl_M_readsLetters_41 hp_36 rfl (fn_iload_n rl_M_readsLetters_44 rfl (fn_iald rl_M_readsLetters_45 hp_44 (fun k2514 => fn_ishr rl_M_readsLetters_46 (fn_iconst rl_M_readsLetters_47 (fn_iand rl_M_readsLetters_48 (fn_iconst rl_M_readsLetters_49 (fn_icmp_ne rl_M_readsLetters_50 (fun k2512 => fn_iconst rl_M_readsLetters_53 (fn_reti rl_M_readsLetters_54 rfl k2512)) (fun k2513 => fn_iload_n rl_M_readsLetters_55 rfl (fn_iconst rl_M_readsLetters_56 (fn_aload_n rl_M_readsLetters_57 rfl (fn_get rl_M_readsLetters_58 hp_36 rfl (fn_iload_n rl_M_readsLetters_61 rfl (fn_iald rl_M_readsLetters_62 hp_44 (fun k2511 => fn_ishl rl_M_readsLetters_63 (fn_ior rl_M_readsLetters_64 (fn_istore_n (ls' := [.ref 36, .int v1, .int (v2 ||| ((1 : Int32) <<< ((((upA A 44 (upd (A 44) v3.toNatClampNeg 0)) 44) v3.toNatClampNeg) &&& 31 : Int32))), .int v3]) rl_M_readsLetters_65 rfl rfl (fn_iinc (ls' := [.ref 36, .int v1, .int (v2 ||| ((1 : Int32) <<< ((((upA A 44 (upd (A 44) v3.toNatClampNeg 0)) 44) v3.toNatClampNeg) &&& 31 : Int32))), .int (v3 + 1)]) rl_M_readsLetters_66 rfl rfl rfl (fn_goto rl_M_readsLetters_69 (k2511)))))) k2513)))))) k2514))))) k2516))))) k2517)) k2518)))) k2557)))) (fun k2558 => fn_iload_n rl_M_letterOf_10 rfl (fn_bipush rl_M_letterOf_11 (fn_icmp_ne rl_M_letterOf_13 (fun k2555 => fn_iconst rl_M_letterOf_16 (fn_goto rl_M_letterOf_17 (fn_retci rl_M_letterOf_41 rfl (fn_iast rl_M_readsLetters_28 hp_44 hps_44 (fun k2526 => fn_aload_n rl_M_readsLetters_29 rfl (fn_get rl_M_readsLetters_30 hp_36 rfl (fn_iload_n rl_M_readsLetters_33 rfl (fn_iald rl_M_readsLetters_34 hp_44 (fun k2525 => fn_iconst rl_M_readsLetters_35 (fn_icmp_eq rl_M_readsLetters_36 (fun k2523 => fn_iconst rl_M_readsLetters_53 (fn_reti rl_M_readsLetters_54 rfl k2523)) (fun k2524 => fn_iload_n rl_M_readsLetters_39 rfl (fn_aload_n rl_M_readsLetters_40 rfl (fn_get rl_M_readsLetters_41 hp_36 rfl (fn_iload_n rl_M_readsLetters_44 rfl (fn_iald rl_M_readsLetters_45 hp_44 (fun k2522 => fn_ishr rl_M_readsLetters_46 (fn_iconst rl_M_readsLetters_47 (fn_iand rl_M_readsLetters_48 (fn_iconst rl_M_readsLetters_49 (fn_icmp_ne rl_M_readsLetters_50 (fun k2520 => fn_iconst rl_M_readsLetters_53 (fn_reti rl_M_readsLetters_54 rfl k2520)) (fun k2521 => fn_iload_n rl_M_readsLetters_55 rfl (fn_iconst rl_M_readsLetters_56 (fn_aload_n rl_M_readsLetters_57 rfl (fn_get rl_M_readsLetters_58 hp_36 rfl (fn_iload_n rl_M_readsLetters_61 rfl (fn_iald rl_M_readsLetters_62 hp_44 (fun k2519 => fn_ishl rl_M_readsLetters_63 (fn_ior rl_M_readsLetters_64 (fn_istore_n (ls' := [.ref 36, .int v1, .int (v2 ||| ((1 : Int32) <<< ((((upA A 44 (upd (A 44) v3.toNatClampNeg 1)) 44) v3.toNatClampNeg) &&& 31 : Int32))), .int v3]) rl_M_readsLetters_65 rfl rfl (fn_iinc (ls' := [.ref 36, .int v1, .int (v2 ||| ((1 : Int32) <<< ((((upA A 44 (upd (A 44) v3.toNatClampNeg 1)) 44) v3.toNatClampNeg) &&& 31 : Int32))), .int (v3 + 1)]) rl_M_readsLetters_66 rfl rfl rfl (fn_goto rl_M_readsLetters_69 (k2519)))))) k2521)))))) k2522))))) k2524))))) k2525)) k2526)))) k2555)))) (fun k2556 => fn_iload_n rl_M_letterOf_20 rfl (fn_bipush rl_M_letterOf_21 (fn_icmp_ne rl_M_letterOf_23 (fun k2553 => fn_iconst rl_M_letterOf_26 (fn_goto rl_M_letterOf_27 (fn_retci rl_M_letterOf_41 rfl (fn_iast rl_M_readsLetters_28 hp_44 hps_44 (fun k2534 => fn_aload_n rl_M_readsLetters_29 rfl (fn_get rl_M_readsLetters_30 hp_36 rfl (fn_iload_n rl_M_readsLetters_33 rfl (fn_iald rl_M_readsLetters_34 hp_44 (fun k2533 => fn_iconst rl_M_readsLetters_35 (fn_icmp_eq rl_M_readsLetters_36 (fun k2531 => fn_iconst rl_M_readsLetters_53 (fn_reti rl_M_readsLetters_54 rfl k2531)) (fun k2532 => fn_iload_n rl_M_readsLetters_39 rfl (fn_aload_n rl_M_readsLetters_40 rfl (fn_get rl_M_readsLetters_41 hp_36 rfl (fn_iload_n rl_M_readsLetters_44 rfl (fn_iald rl_M_readsLetters_45 hp_44 (fun k2530 => fn_ishr rl_M_readsLetters_46 (fn_iconst rl_M_readsLetters_47 (fn_iand rl_M_readsLetters_48 (fn_iconst rl_M_readsLetters_49 (fn_icmp_ne rl_M_readsLetters_50 (fun k2528 => fn_iconst rl_M_readsLetters_53 (fn_reti rl_M_readsLetters_54 rfl k2528)) (fun k2529 => fn_iload_n rl_M_readsLetters_55 rfl (fn_iconst rl_M_readsLetters_56 (fn_aload_n rl_M_readsLetters_57 rfl (fn_get rl_M_readsLetters_58 hp_36 rfl (fn_iload_n rl_M_readsLetters_61 rfl (fn_iald rl_M_readsLetters_62 hp_44 (fun k2527 => fn_ishl rl_M_readsLetters_63 (fn_ior rl_M_readsLetters_64 (fn_istore_n (ls' := [.ref 36, .int v1, .int (v2 ||| ((1 : Int32) <<< ((((upA A 44 (upd (A 44) v3.toNatClampNeg 2)) 44) v3.toNatClampNeg) &&& 31 : Int32))), .int v3]) rl_M_readsLetters_65 rfl rfl (fn_iinc (ls' := [.ref 36, .int v1, .int (v2 ||| ((1 : Int32) <<< ((((upA A 44 (upd (A 44) v3.toNatClampNeg 2)) 44) v3.toNatClampNeg) &&& 31 : Int32))), .int (v3 + 1)]) rl_M_readsLetters_66 rfl rfl rfl (fn_goto rl_M_readsLetters_69 (k2527)))))) k2529)))))) k2530))))) k2532))))) k2533)) k2534)))) k2553)))) (fun k2554 => fn_iload_n rl_M_letterOf_30 rfl (fn_bipush rl_M_letterOf_31 (fn_icmp_ne rl_M_letterOf_33 (fun k2551 => fn_iconst rl_M_letterOf_36 (fn_goto rl_M_letterOf_37 (fn_retci rl_M_letterOf_41 rfl (fn_iast rl_M_readsLetters_28 hp_44 hps_44 (fun k2542 => fn_aload_n rl_M_readsLetters_29 rfl (fn_get rl_M_readsLetters_30 hp_36 rfl (fn_iload_n rl_M_readsLetters_33 rfl (fn_iald rl_M_readsLetters_34 hp_44 (fun k2541 => fn_iconst rl_M_readsLetters_35 (fn_icmp_eq rl_M_readsLetters_36 (fun k2539 => fn_iconst rl_M_readsLetters_53 (fn_reti rl_M_readsLetters_54 rfl k2539)) (fun k2540 => fn_iload_n rl_M_readsLetters_39 rfl (fn_aload_n rl_M_readsLetters_40 rfl (fn_get rl_M_readsLetters_41 hp_36 rfl (fn_iload_n rl_M_readsLetters_44 rfl (fn_iald rl_M_readsLetters_45 hp_44 (fun k2538 => fn_ishr rl_M_readsLetters_46 (fn_iconst rl_M_readsLetters_47 (fn_iand rl_M_readsLetters_48 (fn_iconst rl_M_readsLetters_49 (fn_icmp_ne rl_M_readsLetters_50 (fun k2536 => fn_iconst rl_M_readsLetters_53 (fn_reti rl_M_readsLetters_54 rfl k2536)) (fun k2537 => fn_iload_n rl_M_readsLetters_55 rfl (fn_iconst rl_M_readsLetters_56 (fn_aload_n rl_M_readsLetters_57 rfl (fn_get rl_M_readsLetters_58 hp_36 rfl (fn_iload_n rl_M_readsLetters_61 rfl (fn_iald rl_M_readsLetters_62 hp_44 (fun k2535 => fn_ishl rl_M_readsLetters_63 (fn_ior rl_M_readsLetters_64 (fn_istore_n (ls' := [.ref 36, .int v1, .int (v2 ||| ((1 : Int32) <<< ((((upA A 44 (upd (A 44) v3.toNatClampNeg 3)) 44) v3.toNatClampNeg) &&& 31 : Int32))), .int v3]) rl_M_readsLetters_65 rfl rfl (fn_iinc (ls' := [.ref 36, .int v1, .int (v2 ||| ((1 : Int32) <<< ((((upA A 44 (upd (A 44) v3.toNatClampNeg 3)) 44) v3.toNatClampNeg) &&& 31 : Int32))), .int (v3 + 1)]) rl_M_readsLetters_66 rfl rfl rfl (fn_goto rl_M_readsLetters_69 (k2535)))))) k2537)))))) k2538))))) k2540))))) k2541)) k2542)))) k2551)))) (fun k2552 => fn_iconst rl_M_letterOf_40 (fn_retci rl_M_letterOf_41 rfl (fn_iast rl_M_readsLetters_28 hp_44 hps_44 (fun k2550 => fn_aload_n rl_M_readsLetters_29 rfl (fn_get rl_M_readsLetters_30 hp_36 rfl (fn_iload_n rl_M_readsLetters_33 rfl (fn_iald rl_M_readsLetters_34 hp_44 (fun k2549 => fn_iconst rl_M_readsLetters_35 (fn_icmp_eq rl_M_readsLetters_36 (fun k2547 => fn_iconst rl_M_readsLetters_53 (fn_reti rl_M_readsLetters_54 rfl k2547)) (fun k2548 => fn_iload_n rl_M_readsLetters_39 rfl (fn_aload_n rl_M_readsLetters_40 rfl (fn_get rl_M_readsLetters_41 hp_36 rfl (fn_iload_n rl_M_readsLetters_44 rfl (fn_iald rl_M_readsLetters_45 hp_44 (fun k2546 => fn_ishr rl_M_readsLetters_46 (fn_iconst rl_M_readsLetters_47 (fn_iand rl_M_readsLetters_48 (fn_iconst rl_M_readsLetters_49 (fn_icmp_ne rl_M_readsLetters_50 (fun k2544 => fn_iconst rl_M_readsLetters_53 (fn_reti rl_M_readsLetters_54 rfl k2544)) (fun k2545 => fn_iload_n rl_M_readsLetters_55 rfl (fn_iconst rl_M_readsLetters_56 (fn_aload_n rl_M_readsLetters_57 rfl (fn_get rl_M_readsLetters_58 hp_36 rfl (fn_iload_n rl_M_readsLetters_61 rfl (fn_iald rl_M_readsLetters_62 hp_44 (fun k2543 => fn_ishl rl_M_readsLetters_63 (fn_ior rl_M_readsLetters_64 (fn_istore_n (ls' := [.ref 36, .int v1, .int (v2 ||| ((1 : Int32) <<< ((((upA A 44 (upd (A 44) v3.toNatClampNeg (-1))) 44) v3.toNatClampNeg) &&& 31 : Int32))), .int v3]) rl_M_readsLetters_65 rfl rfl (fn_iinc (ls' := [.ref 36, .int v1, .int (v2 ||| ((1 : Int32) <<< ((((upA A 44 (upd (A 44) v3.toNatClampNeg (-1))) 44) v3.toNatClampNeg) &&& 31 : Int32))), .int (v3 + 1)]) rl_M_readsLetters_66 rfl rfl rfl (fn_goto rl_M_readsLetters_69 (k2543)))))) k2545)))))) k2546))))) k2548))))) k2549)) k2550)))) k2552))) k2554))) k2556))) k2558))) k2559)))) k2561))))))) k0))
set_option maxRecDepth 100000 in
set_option maxHeartbeats 4000000 in
theorem sg_M_rows_0 {L : Nat} {xs : Nat → Int32} {A V : Nat → Nat → Int32} {K : Nat → Option Nat} {T : am_H} {v : Option Int32} {h' : am_H} {a1 a2 a3 : Int32} (k0 :
    am_fin [(z_M_rows, 16, [.ref 36, .int a1, .int a2, .int a3, .int 0, .int 0, .int 0, .int (360 * a2)], [])] (hp L xs A V K T) v h') : am_fin [(z_M_rows, 0, [.ref 36, .int a1, .int a2, .int a3, .null, .null, .null, .null], [])] (hp L xs A V K T) v h' :=
  fn_iconst rl_M_rows_0 (fn_istore (ls' := [.ref 36, .int a1, .int a2, .int a3, .int 0, .null, .null, .null]) rl_M_rows_1 rfl rfl (fn_iconst rl_M_rows_3 (fn_istore (ls' := [.ref 36, .int a1, .int a2, .int a3, .int 0, .int 0, .null, .null]) rl_M_rows_4 rfl rfl (fn_iconst rl_M_rows_6 (fn_istore (ls' := [.ref 36, .int a1, .int a2, .int a3, .int 0, .int 0, .int 0, .null]) rl_M_rows_7 rfl rfl (fn_sipush rl_M_rows_9 (fn_iload_n rl_M_rows_12 rfl (fn_imul rl_M_rows_13 (fn_istore (ls' := [.ref 36, .int a1, .int a2, .int a3, .int 0, .int 0, .int 0, .int (360 * a2)]) rl_M_rows_14 rfl rfl (k0))))))))))
set_option maxRecDepth 100000 in
set_option maxHeartbeats 4000000 in
theorem sg_M_rows_16 {L : Nat} {xs : Nat → Int32} {A V : Nat → Nat → Int32} {K : Nat → Option Nat} {T : am_H} {v : Option Int32} {h' : am_H} {v1 v2 v3 v4 v5 v6 v7 : Int32} (k0 :
    if ((360 * v2) + 360) ≤ v7 then (
      if v3 = 3 then (
        v = some v4 ∧ h' = hp L xs A V K T)
      else (
        v = some v5 ∧ h' = hp L xs A V K T))
    else (
      ¬ (v7 < 0 ∨ 1080 ≤ v7.toNatClampNeg) ∧ (
      if ((A 37) v7.toNatClampNeg) = v1 then (
        if (v6 + 1) = 1 then (
          if v5 ≤ (v6 + 1) then (
            am_fin [(z_M_rows, 16, [.ref 36, .int v1, .int v2, .int v3, .int (v4 + 1), .int (v6 + 1), .int (v6 + 1), .int (v7 + 1)], [])] (hp L xs A V K T) v h')
          else (
            am_fin [(z_M_rows, 16, [.ref 36, .int v1, .int v2, .int v3, .int (v4 + 1), .int v5, .int (v6 + 1), .int (v7 + 1)], [])] (hp L xs A V K T) v h'))
        else (
          if v5 ≤ (v6 + 1) then (
            am_fin [(z_M_rows, 16, [.ref 36, .int v1, .int v2, .int v3, .int (v4 + 0), .int (v6 + 1), .int (v6 + 1), .int (v7 + 1)], [])] (hp L xs A V K T) v h')
          else (
            am_fin [(z_M_rows, 16, [.ref 36, .int v1, .int v2, .int v3, .int (v4 + 0), .int v5, .int (v6 + 1), .int (v7 + 1)], [])] (hp L xs A V K T) v h')))
      else (
        if v5 ≤ 0 then (
          am_fin [(z_M_rows, 16, [.ref 36, .int v1, .int v2, .int v3, .int (v4 + 0), .int 0, .int 0, .int (v7 + 1)], [])] (hp L xs A V K T) v h')
        else (
          am_fin [(z_M_rows, 16, [.ref 36, .int v1, .int v2, .int v3, .int (v4 + 0), .int v5, .int 0, .int (v7 + 1)], [])] (hp L xs A V K T) v h'))))) : am_fin [(z_M_rows, 16, [.ref 36, .int v1, .int v2, .int v3, .int v4, .int v5, .int v6, .int v7], [])] (hp L xs A V K T) v h' :=
  fn_iload rl_M_rows_16 rfl (fn_sipush rl_M_rows_18 (fn_iload_n rl_M_rows_21 rfl (fn_imul rl_M_rows_22 (fn_sipush rl_M_rows_23 (fn_iadd rl_M_rows_26 (fn_icmp_ge rl_M_rows_27 (fun k2575 => fn_iload_n rl_M_rows_82 rfl (fn_iconst rl_M_rows_83 (fn_icmp_ne rl_M_rows_84 (fun k2562 => fn_iload rl_M_rows_87 rfl (fn_goto rl_M_rows_89 (fn_reti rl_M_rows_94 rfl k2562))) (fun k2563 => fn_iload rl_M_rows_92 rfl (fn_reti rl_M_rows_94 rfl k2563)) k2575))) (fun k2576 => fn_aload_n rl_M_rows_30 rfl (fn_get rl_M_rows_31 hp_36 rfl (fn_iload rl_M_rows_34 rfl (fn_iald rl_M_rows_36 hp_37 (fun k2574 => fn_iload_n rl_M_rows_37 rfl (fn_icmp_ne rl_M_rows_38 (fun k2572 => fn_iload rl_M_rows_41 rfl (fn_iconst rl_M_rows_43 (fn_iadd rl_M_rows_44 (fn_goto rl_M_rows_45 (fn_istore (ls' := [.ref 36, .int v1, .int v2, .int v3, .int v4, .int v5, .int (v6 + 1), .int v7]) rl_M_rows_49 rfl rfl (fn_iload rl_M_rows_51 rfl (fn_iload rl_M_rows_53 rfl (fn_iconst rl_M_rows_55 (fn_icmp_ne rl_M_rows_56 (fun k2568 => fn_iconst rl_M_rows_59 (fn_goto rl_M_rows_60 (fn_iadd rl_M_rows_64 (fn_istore (ls' := [.ref 36, .int v1, .int v2, .int v3, .int (v4 + 1), .int v5, .int (v6 + 1), .int v7]) rl_M_rows_65 rfl rfl (fn_iload rl_M_rows_67 rfl (fn_iload rl_M_rows_69 rfl (fn_stat (as := [.int v5, .int (v6 + 1)]) (r := []) (ls' := [.int v5, .int (v6 + 1)]) rl_M_rows_71 rfl rfl rfl rfl pl_M_more rfl rfl (fn_iload_n rl_M_more_0 rfl (fn_iload_n rl_M_more_1 rfl (fn_icmp_le rl_M_more_2 (fun k2564 => fn_iload_n rl_M_more_9 rfl (fn_retci rl_M_more_10 rfl (fn_istore (ls' := [.ref 36, .int v1, .int v2, .int v3, .int (v4 + 1), .int (v6 + 1), .int (v6 + 1), .int v7]) rl_M_rows_74 rfl rfl (fn_iinc (ls' := [.ref 36, .int v1, .int v2, .int v3, .int (v4 + 1), .int (v6 + 1), .int (v6 + 1), .int (v7 + 1)]) rl_M_rows_76 rfl rfl rfl (fn_goto rl_M_rows_79 (k2564)))))) (fun k2565 => fn_iload_n rl_M_more_5 rfl (fn_goto rl_M_more_6 (fn_retci rl_M_more_10 rfl (fn_istore (ls' := [.ref 36, .int v1, .int v2, .int v3, .int (v4 + 1), .int v5, .int (v6 + 1), .int v7]) rl_M_rows_74 rfl rfl (fn_iinc (ls' := [.ref 36, .int v1, .int v2, .int v3, .int (v4 + 1), .int v5, .int (v6 + 1), .int (v7 + 1)]) rl_M_rows_76 rfl rfl rfl (fn_goto rl_M_rows_79 (k2565))))))) k2568)))))))))) (fun k2569 => fn_iconst rl_M_rows_63 (fn_iadd rl_M_rows_64 (fn_istore (ls' := [.ref 36, .int v1, .int v2, .int v3, .int (v4 + 0), .int v5, .int (v6 + 1), .int v7]) rl_M_rows_65 rfl rfl (fn_iload rl_M_rows_67 rfl (fn_iload rl_M_rows_69 rfl (fn_stat (as := [.int v5, .int (v6 + 1)]) (r := []) (ls' := [.int v5, .int (v6 + 1)]) rl_M_rows_71 rfl rfl rfl rfl pl_M_more rfl rfl (fn_iload_n rl_M_more_0 rfl (fn_iload_n rl_M_more_1 rfl (fn_icmp_le rl_M_more_2 (fun k2566 => fn_iload_n rl_M_more_9 rfl (fn_retci rl_M_more_10 rfl (fn_istore (ls' := [.ref 36, .int v1, .int v2, .int v3, .int (v4 + 0), .int (v6 + 1), .int (v6 + 1), .int v7]) rl_M_rows_74 rfl rfl (fn_iinc (ls' := [.ref 36, .int v1, .int v2, .int v3, .int (v4 + 0), .int (v6 + 1), .int (v6 + 1), .int (v7 + 1)]) rl_M_rows_76 rfl rfl rfl (fn_goto rl_M_rows_79 (k2566)))))) (fun k2567 => fn_iload_n rl_M_more_5 rfl (fn_goto rl_M_more_6 (fn_retci rl_M_more_10 rfl (fn_istore (ls' := [.ref 36, .int v1, .int v2, .int v3, .int (v4 + 0), .int v5, .int (v6 + 1), .int v7]) rl_M_rows_74 rfl rfl (fn_iinc (ls' := [.ref 36, .int v1, .int v2, .int v3, .int (v4 + 0), .int v5, .int (v6 + 1), .int (v7 + 1)]) rl_M_rows_76 rfl rfl rfl (fn_goto rl_M_rows_79 (k2567))))))) k2569))))))))) k2572))))))))) (fun k2573 => fn_iconst rl_M_rows_48 (fn_istore (ls' := [.ref 36, .int v1, .int v2, .int v3, .int v4, .int v5, .int 0, .int v7]) rl_M_rows_49 rfl rfl (fn_iload rl_M_rows_51 rfl (fn_iload rl_M_rows_53 rfl (fn_iconst rl_M_rows_55 (fn_icmp_ne_f rl_M_rows_56 (by decide +kernel) (fn_iconst rl_M_rows_63 (fn_iadd rl_M_rows_64 (fn_istore (ls' := [.ref 36, .int v1, .int v2, .int v3, .int (v4 + 0), .int v5, .int 0, .int v7]) rl_M_rows_65 rfl rfl (fn_iload rl_M_rows_67 rfl (fn_iload rl_M_rows_69 rfl (fn_stat (as := [.int v5, .int 0]) (r := []) (ls' := [.int v5, .int 0]) rl_M_rows_71 rfl rfl rfl rfl pl_M_more rfl rfl (fn_iload_n rl_M_more_0 rfl (fn_iload_n rl_M_more_1 rfl (fn_icmp_le rl_M_more_2 (fun k2570 => fn_iload_n rl_M_more_9 rfl (fn_retci rl_M_more_10 rfl (fn_istore (ls' := [.ref 36, .int v1, .int v2, .int v3, .int (v4 + 0), .int 0, .int 0, .int v7]) rl_M_rows_74 rfl rfl (fn_iinc (ls' := [.ref 36, .int v1, .int v2, .int v3, .int (v4 + 0), .int 0, .int 0, .int (v7 + 1)]) rl_M_rows_76 rfl rfl rfl (fn_goto rl_M_rows_79 (k2570)))))) (fun k2571 => fn_iload_n rl_M_more_5 rfl (fn_goto rl_M_more_6 (fn_retci rl_M_more_10 rfl (fn_istore (ls' := [.ref 36, .int v1, .int v2, .int v3, .int (v4 + 0), .int v5, .int 0, .int v7]) rl_M_rows_74 rfl rfl (fn_iinc (ls' := [.ref 36, .int v1, .int v2, .int v3, .int (v4 + 0), .int v5, .int 0, .int (v7 + 1)]) rl_M_rows_76 rfl rfl rfl (fn_goto rl_M_rows_79 (k2571))))))) k2573))))))))))))))) k2574)) k2576)))) k0))))))
set_option maxRecDepth 100000 in
set_option maxHeartbeats 4000000 in
theorem sg_M_daysIn_0 {L : Nat} {xs : Nat → Int32} {A V : Nat → Nat → Int32} {K : Nat → Option Nat} {T : am_H} {v : Option Int32} {h' : am_H} {a1 a2 a3 : Int32} (k0 :
    am_fin [(z_M_daysIn, 10, [.ref 36, .int a1, .int a2, .int a3, .int 0, .int (360 * a2), .null], [])] (hp L xs A V K T) v h') : am_fin [(z_M_daysIn, 0, [.ref 36, .int a1, .int a2, .int a3, .null, .null, .null], [])] (hp L xs A V K T) v h' :=
  fn_iconst rl_M_daysIn_0 (fn_istore (ls' := [.ref 36, .int a1, .int a2, .int a3, .int 0, .null, .null]) rl_M_daysIn_1 rfl rfl (fn_sipush rl_M_daysIn_3 (fn_iload_n rl_M_daysIn_6 rfl (fn_imul rl_M_daysIn_7 (fn_istore (ls' := [.ref 36, .int a1, .int a2, .int a3, .int 0, .int (360 * a2), .null]) rl_M_daysIn_8 rfl rfl (k0))))))
set_option maxRecDepth 100000 in
set_option maxHeartbeats 4000000 in
theorem sg_M_daysIn_10 {L : Nat} {xs : Nat → Int32} {A V : Nat → Nat → Int32} {K : Nat → Option Nat} {T : am_H} {v : Option Int32} {h' : am_H} {v1 v2 v3 v4 v5 : Int32} (k0 :
    if ((360 * v2) + 360) ≤ v5 then (
      v = some v4 ∧ h' = hp L xs A V K T)
    else (
      if v3 = 0 then (
        ¬ (v5 < 0 ∨ 1080 ≤ v5.toNatClampNeg) ∧ (
        if ((A 37) v5.toNatClampNeg) = v1 then (
          am_fin [(z_M_daysIn, 10, [.ref 36, .int v1, .int v2, .int v3, .int (v4 + 1), .int (v5 + 1), .int 1], [])] (hp L xs A V K T) v h')
        else (
          am_fin [(z_M_daysIn, 10, [.ref 36, .int v1, .int v2, .int v3, .int (v4 + 0), .int (v5 + 1), .int 0], [])] (hp L xs A V K T) v h')))
      else (
        if v3 = 1 then (
          ¬ (v5 < 0 ∨ 1080 ≤ v5.toNatClampNeg) ∧ (
          if (((((A 38) v5.toNatClampNeg) : Int32) >>> (v1 &&& 31 : Int32)) &&& 1) = 1 then (
            am_fin [(z_M_daysIn, 10, [.ref 36, .int v1, .int v2, .int v3, .int (v4 + 1), .int (v5 + 1), .int 1], [])] (hp L xs A V K T) v h')
          else (
            am_fin [(z_M_daysIn, 10, [.ref 36, .int v1, .int v2, .int v3, .int (v4 + 0), .int (v5 + 1), .int 0], [])] (hp L xs A V K T) v h')))
        else (
          ¬ (v5 < 0 ∨ 1080 ≤ v5.toNatClampNeg) ∧ (
          if ((A 39) v5.toNatClampNeg) = v1 then (
            am_fin [(z_M_daysIn, 10, [.ref 36, .int v1, .int v2, .int v3, .int (v4 + 1), .int (v5 + 1), .int 1], [])] (hp L xs A V K T) v h')
          else (
            am_fin [(z_M_daysIn, 10, [.ref 36, .int v1, .int v2, .int v3, .int (v4 + 0), .int (v5 + 1), .int 0], [])] (hp L xs A V K T) v h')))))) : am_fin [(z_M_daysIn, 10, [.ref 36, .int v1, .int v2, .int v3, .int v4, .int v5, .null], [])] (hp L xs A V K T) v h' :=
  fn_iload rl_M_daysIn_10 rfl (fn_sipush rl_M_daysIn_12 (fn_iload_n rl_M_daysIn_15 rfl (fn_imul rl_M_daysIn_16 (fn_sipush rl_M_daysIn_17 (fn_iadd rl_M_daysIn_20 (fn_icmp_ge rl_M_daysIn_21 (fun k2590 => fn_iload rl_M_daysIn_114 rfl (fn_reti rl_M_daysIn_116 rfl k2590)) (fun k2591 => fn_iload_n rl_M_daysIn_24 rfl (fn_if_ne rl_M_daysIn_25 (fun k2588 => fn_aload_n rl_M_daysIn_28 rfl (fn_get rl_M_daysIn_29 hp_36 rfl (fn_iload rl_M_daysIn_32 rfl (fn_iald rl_M_daysIn_34 hp_37 (fun k2579 => fn_iload_n rl_M_daysIn_35 rfl (fn_icmp_ne rl_M_daysIn_36 (fun k2577 => fn_iconst rl_M_daysIn_39 (fn_goto rl_M_daysIn_40 (fn_istore (ls' := [.ref 36, .int v1, .int v2, .int v3, .int v4, .int v5, .int 1]) rl_M_daysIn_91 rfl rfl (fn_iload rl_M_daysIn_93 rfl (fn_iload rl_M_daysIn_95 rfl (fn_if_eq_f rl_M_daysIn_97 (by decide +kernel) (fn_iconst rl_M_daysIn_100 (fn_goto rl_M_daysIn_101 (fn_iadd rl_M_daysIn_105 (fn_istore (ls' := [.ref 36, .int v1, .int v2, .int v3, .int (v4 + 1), .int v5, .int 1]) rl_M_daysIn_106 rfl rfl (fn_iinc (ls' := [.ref 36, .int v1, .int v2, .int v3, .int (v4 + 1), .int (v5 + 1), .int 1]) rl_M_daysIn_108 rfl rfl rfl (fn_goto rl_M_daysIn_111 (k2577))))))))))))) (fun k2578 => fn_iconst rl_M_daysIn_43 (fn_goto rl_M_daysIn_44 (fn_istore (ls' := [.ref 36, .int v1, .int v2, .int v3, .int v4, .int v5, .int 0]) rl_M_daysIn_91 rfl rfl (fn_iload rl_M_daysIn_93 rfl (fn_iload rl_M_daysIn_95 rfl (fn_if_eq_t rl_M_daysIn_97 (by decide +kernel) (fn_iconst rl_M_daysIn_104 (fn_iadd rl_M_daysIn_105 (fn_istore (ls' := [.ref 36, .int v1, .int v2, .int v3, .int (v4 + 0), .int v5, .int 0]) rl_M_daysIn_106 rfl rfl (fn_iinc (ls' := [.ref 36, .int v1, .int v2, .int v3, .int (v4 + 0), .int (v5 + 1), .int 0]) rl_M_daysIn_108 rfl rfl rfl (fn_goto rl_M_daysIn_111 (k2578)))))))))))) k2579)) k2588)))) (fun k2589 => fn_iload_n rl_M_daysIn_47 rfl (fn_iconst rl_M_daysIn_48 (fn_icmp_ne rl_M_daysIn_49 (fun k2586 => fn_aload_n rl_M_daysIn_52 rfl (fn_get rl_M_daysIn_53 hp_36 rfl (fn_iload rl_M_daysIn_56 rfl (fn_iald rl_M_daysIn_58 hp_38 (fun k2582 => fn_iload_n rl_M_daysIn_59 rfl (fn_ishr rl_M_daysIn_60 (fn_iconst rl_M_daysIn_61 (fn_iand rl_M_daysIn_62 (fn_iconst rl_M_daysIn_63 (fn_icmp_ne rl_M_daysIn_64 (fun k2580 => fn_iconst rl_M_daysIn_67 (fn_goto rl_M_daysIn_68 (fn_istore (ls' := [.ref 36, .int v1, .int v2, .int v3, .int v4, .int v5, .int 1]) rl_M_daysIn_91 rfl rfl (fn_iload rl_M_daysIn_93 rfl (fn_iload rl_M_daysIn_95 rfl (fn_if_eq_f rl_M_daysIn_97 (by decide +kernel) (fn_iconst rl_M_daysIn_100 (fn_goto rl_M_daysIn_101 (fn_iadd rl_M_daysIn_105 (fn_istore (ls' := [.ref 36, .int v1, .int v2, .int v3, .int (v4 + 1), .int v5, .int 1]) rl_M_daysIn_106 rfl rfl (fn_iinc (ls' := [.ref 36, .int v1, .int v2, .int v3, .int (v4 + 1), .int (v5 + 1), .int 1]) rl_M_daysIn_108 rfl rfl rfl (fn_goto rl_M_daysIn_111 (k2580))))))))))))) (fun k2581 => fn_iconst rl_M_daysIn_71 (fn_goto rl_M_daysIn_72 (fn_istore (ls' := [.ref 36, .int v1, .int v2, .int v3, .int v4, .int v5, .int 0]) rl_M_daysIn_91 rfl rfl (fn_iload rl_M_daysIn_93 rfl (fn_iload rl_M_daysIn_95 rfl (fn_if_eq_t rl_M_daysIn_97 (by decide +kernel) (fn_iconst rl_M_daysIn_104 (fn_iadd rl_M_daysIn_105 (fn_istore (ls' := [.ref 36, .int v1, .int v2, .int v3, .int (v4 + 0), .int v5, .int 0]) rl_M_daysIn_106 rfl rfl (fn_iinc (ls' := [.ref 36, .int v1, .int v2, .int v3, .int (v4 + 0), .int (v5 + 1), .int 0]) rl_M_daysIn_108 rfl rfl rfl (fn_goto rl_M_daysIn_111 (k2581)))))))))))) k2582)))))) k2586)))) (fun k2587 => fn_aload_n rl_M_daysIn_75 rfl (fn_get rl_M_daysIn_76 hp_36 rfl (fn_iload rl_M_daysIn_79 rfl (fn_iald rl_M_daysIn_81 hp_39 (fun k2585 => fn_iload_n rl_M_daysIn_82 rfl (fn_icmp_ne rl_M_daysIn_83 (fun k2583 => fn_iconst rl_M_daysIn_86 (fn_goto rl_M_daysIn_87 (fn_istore (ls' := [.ref 36, .int v1, .int v2, .int v3, .int v4, .int v5, .int 1]) rl_M_daysIn_91 rfl rfl (fn_iload rl_M_daysIn_93 rfl (fn_iload rl_M_daysIn_95 rfl (fn_if_eq_f rl_M_daysIn_97 (by decide +kernel) (fn_iconst rl_M_daysIn_100 (fn_goto rl_M_daysIn_101 (fn_iadd rl_M_daysIn_105 (fn_istore (ls' := [.ref 36, .int v1, .int v2, .int v3, .int (v4 + 1), .int v5, .int 1]) rl_M_daysIn_106 rfl rfl (fn_iinc (ls' := [.ref 36, .int v1, .int v2, .int v3, .int (v4 + 1), .int (v5 + 1), .int 1]) rl_M_daysIn_108 rfl rfl rfl (fn_goto rl_M_daysIn_111 (k2583))))))))))))) (fun k2584 => fn_iconst rl_M_daysIn_90 (fn_istore (ls' := [.ref 36, .int v1, .int v2, .int v3, .int v4, .int v5, .int 0]) rl_M_daysIn_91 rfl rfl (fn_iload rl_M_daysIn_93 rfl (fn_iload rl_M_daysIn_95 rfl (fn_if_eq_t rl_M_daysIn_97 (by decide +kernel) (fn_iconst rl_M_daysIn_104 (fn_iadd rl_M_daysIn_105 (fn_istore (ls' := [.ref 36, .int v1, .int v2, .int v3, .int (v4 + 0), .int v5, .int 0]) rl_M_daysIn_106 rfl rfl (fn_iinc (ls' := [.ref 36, .int v1, .int v2, .int v3, .int (v4 + 0), .int (v5 + 1), .int 0]) rl_M_daysIn_108 rfl rfl rfl (fn_goto rl_M_daysIn_111 (k2584))))))))))) k2585)) k2587)))) k2589))) k2591)) k0))))))
set_option maxRecDepth 100000 in
set_option maxHeartbeats 4000000 in
theorem sg_M_between_0 {L : Nat} {xs : Nat → Int32} {A V : Nat → Nat → Int32} {K : Nat → Option Nat} {T : am_H} {v : Option Int32} {h' : am_H} {a1 a2 a3 : Int32} (k0 :
    if 0 ≤ a2 then (
      am_fin [(z_M_between, 10, [.ref 36, .int a1, .int a2, .int a3, .int 0, .int a2], [])] (hp L xs A V K T) v h')
    else (
      am_fin [(z_M_between, 10, [.ref 36, .int a1, .int a2, .int a3, .int 0, .int 0], [])] (hp L xs A V K T) v h')) : am_fin [(z_M_between, 0, [.ref 36, .int a1, .int a2, .int a3, .null, .null], [])] (hp L xs A V K T) v h' :=
  fn_iconst rl_M_between_0 (fn_istore (ls' := [.ref 36, .int a1, .int a2, .int a3, .int 0, .null]) rl_M_between_1 rfl rfl (fn_iconst rl_M_between_3 (fn_iload_n rl_M_between_4 rfl (fn_stat (as := [.int 0, .int a2]) (r := []) (ls' := [.int 0, .int a2]) rl_M_between_5 rfl rfl rfl rfl pl_M_more rfl rfl (fn_iload_n rl_M_more_0 rfl (fn_iload_n rl_M_more_1 rfl (fn_icmp_le rl_M_more_2 (fun k2592 => fn_iload_n rl_M_more_9 rfl (fn_retci rl_M_more_10 rfl (fn_istore (ls' := [.ref 36, .int a1, .int a2, .int a3, .int 0, .int a2]) rl_M_between_8 rfl rfl (k2592)))) (fun k2593 => fn_iload_n rl_M_more_5 rfl (fn_goto rl_M_more_6 (fn_retci rl_M_more_10 rfl (fn_istore (ls' := [.ref 36, .int a1, .int a2, .int a3, .int 0, .int 0]) rl_M_between_8 rfl rfl (k2593))))) k0)))))))
set_option maxRecDepth 100000 in
set_option maxHeartbeats 4000000 in
theorem sg_M_between_10 {L : Nat} {xs : Nat → Int32} {A V : Nat → Nat → Int32} {K : Nat → Option Nat} {T : am_H} {v : Option Int32} {h' : am_H} {v1 v2 v3 v4 v5 : Int32} (k0 :
    if v3 < v5 then (
      v = some v4 ∧ h' = hp L xs A V K T)
    else (
      ¬ (v5 < 0 ∨ 1080 ≤ v5.toNatClampNeg) ∧ (
      if ((A 37) v5.toNatClampNeg) = v1 then (
        am_fin [(z_M_between, 10, [.ref 36, .int v1, .int v2, .int v3, .int (v4 + 1), .int (v5 + 1)], [])] (hp L xs A V K T) v h')
      else (
        am_fin [(z_M_between, 10, [.ref 36, .int v1, .int v2, .int v3, .int (v4 + 0), .int (v5 + 1)], [])] (hp L xs A V K T) v h')))) : am_fin [(z_M_between, 10, [.ref 36, .int v1, .int v2, .int v3, .int v4, .int v5], [])] (hp L xs A V K T) v h' :=
  fn_iload rl_M_between_10 rfl (fn_iload_n rl_M_between_12 rfl (fn_icmp_gt rl_M_between_13 (fun k2597 => fn_iload rl_M_between_43 rfl (fn_reti rl_M_between_45 rfl k2597)) (fun k2598 => fn_iload rl_M_between_16 rfl (fn_aload_n rl_M_between_18 rfl (fn_get rl_M_between_19 hp_36 rfl (fn_iload rl_M_between_22 rfl (fn_iald rl_M_between_24 hp_37 (fun k2596 => fn_iload_n rl_M_between_25 rfl (fn_icmp_ne rl_M_between_26 (fun k2594 => fn_iconst rl_M_between_29 (fn_goto rl_M_between_30 (fn_iadd rl_M_between_34 (fn_istore (ls' := [.ref 36, .int v1, .int v2, .int v3, .int (v4 + 1), .int v5]) rl_M_between_35 rfl rfl (fn_iinc (ls' := [.ref 36, .int v1, .int v2, .int v3, .int (v4 + 1), .int (v5 + 1)]) rl_M_between_37 rfl rfl rfl (fn_goto rl_M_between_40 (k2594))))))) (fun k2595 => fn_iconst rl_M_between_33 (fn_iadd rl_M_between_34 (fn_istore (ls' := [.ref 36, .int v1, .int v2, .int v3, .int (v4 + 0), .int v5]) rl_M_between_35 rfl rfl (fn_iinc (ls' := [.ref 36, .int v1, .int v2, .int v3, .int (v4 + 0), .int (v5 + 1)]) rl_M_between_37 rfl rfl rfl (fn_goto rl_M_between_40 (k2595)))))) k2596)) k2598))))) k0))
set_option maxRecDepth 100000 in
set_option maxHeartbeats 4000000 in
theorem sg_M_overstayed_0 {L : Nat} {xs : Nat → Int32} {A V : Nat → Nat → Int32} {K : Nat → Option Nat} {T : am_H} {v : Option Int32} {h' : am_H} {a1 a2 a3 a4 : Int32} (k0 :
    ¬ (((13 * a1) + 0) < 0 ∨ 258 ≤ ((13 * a1) + 0).toNatClampNeg) ∧ (
    if ((A 41) ((13 * a1) + 0).toNatClampNeg) ≤ 0 then (
      if a4 = 0 then (
        v = some 0 ∧ h' = hp L xs A V K T)
      else (
        if a4 = 1 then (
          v = some (-2) ∧ h' = hp L xs A V K T)
        else (
          v = some 0 ∧ h' = hp L xs A V K T)))
    else (
      ¬ (((13 * a1) + 0) < 0 ∨ 258 ≤ ((13 * a1) + 0).toNatClampNeg) ∧ (
      am_fin [(z_M_laysLast, 0, [.ref 36, .int a1, .int ((A 41) ((13 * a1) + 0).toNatClampNeg), .null, .null], []), (z_M_overstayed, 30, [.ref 36, .int a1, .int a2, .int a3, .int a4, .int 0, .int (-2), .int 0, .null], [])] (hp L xs A V K T) v h')))) : am_fin [(z_M_overstayed, 0, [.ref 36, .int a1, .int a2, .int a3, .int a4, .null, .null, .null, .null], [])] (hp L xs A V K T) v h' :=
  fn_iconst rl_M_overstayed_0 (fn_istore (ls' := [.ref 36, .int a1, .int a2, .int a3, .int a4, .int 0, .null, .null, .null]) rl_M_overstayed_1 rfl rfl (fn_bipush rl_M_overstayed_3 (fn_istore (ls' := [.ref 36, .int a1, .int a2, .int a3, .int a4, .int 0, .int (-2), .null, .null]) rl_M_overstayed_5 rfl rfl (fn_iconst rl_M_overstayed_7 (fn_istore (ls' := [.ref 36, .int a1, .int a2, .int a3, .int a4, .int 0, .int (-2), .int 0, .null]) rl_M_overstayed_8 rfl rfl (fn_aload_n rl_M_overstayed_10 rfl (fn_iload_n rl_M_overstayed_11 rfl (fn_iconst rl_M_overstayed_12 (fn_virt (as := [.ref 36, .int a1, .int 0]) (r := []) (ls' := [.ref 36, .int a1, .int 0]) rl_M_overstayed_13 rfl hp_36 rfl rfl pl_M_of rfl rfl (fn_aload_n rl_M_of_0 rfl (fn_get rl_M_of_1 hp_36 rfl (fn_bipush rl_M_of_4 (fn_iload_n rl_M_of_6 rfl (fn_imul rl_M_of_7 (fn_iload_n rl_M_of_8 rfl (fn_iadd rl_M_of_9 (fn_iald rl_M_of_10 hp_41 (fun k2606 => fn_retci rl_M_of_11 rfl (fn_if_le rl_M_overstayed_16 (fun k2604 => fn_iload rl_M_overstayed_99 rfl (fn_if_ne rl_M_overstayed_101 (fun k2601 => fn_iload rl_M_overstayed_104 rfl (fn_goto rl_M_overstayed_106 (fn_reti rl_M_overstayed_122 rfl k2601))) (fun k2602 => fn_iload rl_M_overstayed_109 rfl (fn_iconst rl_M_overstayed_111 (fn_icmp_ne rl_M_overstayed_112 (fun k2599 => fn_iload rl_M_overstayed_115 rfl (fn_goto rl_M_overstayed_117 (fn_reti rl_M_overstayed_122 rfl k2599))) (fun k2600 => fn_iload rl_M_overstayed_120 rfl (fn_reti rl_M_overstayed_122 rfl k2600)) k2602))) k2604)) (fun k2605 => fn_aload_n rl_M_overstayed_19 rfl (fn_iload_n rl_M_overstayed_20 rfl (fn_aload_n rl_M_overstayed_21 rfl (fn_iload_n rl_M_overstayed_22 rfl (fn_iconst rl_M_overstayed_23 (fn_virt (as := [.ref 36, .int a1, .int 0]) (r := [.int a1, .ref 36]) (ls' := [.ref 36, .int a1, .int 0]) rl_M_overstayed_24 rfl hp_36 rfl rfl pl_M_of rfl rfl (fn_aload_n rl_M_of_0 rfl (fn_get rl_M_of_1 hp_36 rfl (fn_bipush rl_M_of_4 (fn_iload_n rl_M_of_6 rfl (fn_imul rl_M_of_7 (fn_iload_n rl_M_of_8 rfl (fn_iadd rl_M_of_9 (fn_iald rl_M_of_10 hp_41 (fun k2603 => fn_retci rl_M_of_11 rfl (fn_virt (as := [.ref 36, .int a1, .int ((A 41) ((13 * a1) + 0).toNatClampNeg)]) (r := []) (ls' := [.ref 36, .int a1, .int ((A 41) ((13 * a1) + 0).toNatClampNeg), .null, .null]) rl_M_overstayed_27 rfl hp_36 rfl rfl pl_M_laysLast rfl rfl (k2603))) k2605)))))))))))))) k2606)) k0)))))))))))))))))
set_option maxRecDepth 100000 in
set_option maxHeartbeats 4000000 in
theorem sg_M_overstayed_30r {L : Nat} {xs : Nat → Int32} {A V : Nat → Nat → Int32} {K : Nat → Option Nat} {T : am_H} {v : Option Int32} {h' : am_H} {v1 v2 v3 v4 v5 v6 v7 : Int32} (k0 :
    am_fin [(z_M_overstayed, 33, [.ref 36, .int v1, .int v2, .int v3, .int v4, .int v5, .int v6, .int v7, .int v2], [])] (hp L xs A V K T) v h') : am_fin [(z_M_overstayed, 30, [.ref 36, .int v1, .int v2, .int v3, .int v4, .int v5, .int v6, .int v7, .null], [])] (hp L xs A V K T) v h' :=
  fn_iload_n rl_M_overstayed_30 rfl (fn_istore (ls' := [.ref 36, .int v1, .int v2, .int v3, .int v4, .int v5, .int v6, .int v7, .int v2]) rl_M_overstayed_31 rfl rfl (k0))
set_option maxRecDepth 100000 in
set_option maxHeartbeats 4000000 in
theorem sg_M_overstayed_33 {L : Nat} {xs : Nat → Int32} {A V : Nat → Nat → Int32} {K : Nat → Option Nat} {T : am_H} {v : Option Int32} {h' : am_H} {v1 v2 v3 v4 v5 v6 v7 v8 : Int32} (k0 :
    if v3 < v8 then (
      if v4 = 0 then (
        v = some v5 ∧ h' = hp L xs A V K T)
      else (
        if v4 = 1 then (
          v = some v6 ∧ h' = hp L xs A V K T)
        else (
          v = some v7 ∧ h' = hp L xs A V K T)))
    else (
      ¬ (v8 < 0 ∨ 1080 ≤ v8.toNatClampNeg) ∧ (
      if ((A 37) v8.toNatClampNeg) = v1 then (
        ¬ (v8 < 0 ∨ 1080 ≤ v8.toNatClampNeg) ∧ (
        ¬ (((13 * v1) + 1) < 0 ∨ 258 ≤ ((13 * v1) + 1).toNatClampNeg) ∧ (
        if ((A 45) v8.toNatClampNeg) ≤ ((A 41) ((13 * v1) + 1).toNatClampNeg) then (
          am_fin [(z_M_overstayed, 33, [.ref 36, .int v1, .int v2, .int v3, .int v4, .int v5, .int v6, .int v7, .int (v8 + 1)], [])] (hp L xs A V K T) v h')
        else (
          if v5 = 0 then (
            ¬ (v8 < 0 ∨ 1080 ≤ v8.toNatClampNeg) ∧ (
            ¬ (((13 * v1) + 1) < 0 ∨ 258 ≤ ((13 * v1) + 1).toNatClampNeg) ∧ (
            if v7 ≤ (((A 45) v8.toNatClampNeg) - ((A 41) ((13 * v1) + 1).toNatClampNeg)) then (
              am_fin [(z_M_overstayed, 33, [.ref 36, .int v1, .int v2, .int v3, .int v4, .int (v5 + 1), .int v8, .int (((A 45) v8.toNatClampNeg) - ((A 41) ((13 * v1) + 1).toNatClampNeg)), .int (v8 + 1)], [])] (hp L xs A V K T) v h')
            else (
              am_fin [(z_M_overstayed, 33, [.ref 36, .int v1, .int v2, .int v3, .int v4, .int (v5 + 1), .int v8, .int v7, .int (v8 + 1)], [])] (hp L xs A V K T) v h'))))
          else (
            ¬ (v8 < 0 ∨ 1080 ≤ v8.toNatClampNeg) ∧ (
            ¬ (((13 * v1) + 1) < 0 ∨ 258 ≤ ((13 * v1) + 1).toNatClampNeg) ∧ (
            if v7 ≤ (((A 45) v8.toNatClampNeg) - ((A 41) ((13 * v1) + 1).toNatClampNeg)) then (
              am_fin [(z_M_overstayed, 33, [.ref 36, .int v1, .int v2, .int v3, .int v4, .int (v5 + 1), .int v6, .int (((A 45) v8.toNatClampNeg) - ((A 41) ((13 * v1) + 1).toNatClampNeg)), .int (v8 + 1)], [])] (hp L xs A V K T) v h')
            else (
              am_fin [(z_M_overstayed, 33, [.ref 36, .int v1, .int v2, .int v3, .int v4, .int (v5 + 1), .int v6, .int v7, .int (v8 + 1)], [])] (hp L xs A V K T) v h'))))))))
      else (
        am_fin [(z_M_overstayed, 33, [.ref 36, .int v1, .int v2, .int v3, .int v4, .int v5, .int v6, .int v7, .int (v8 + 1)], [])] (hp L xs A V K T) v h')))) : am_fin [(z_M_overstayed, 33, [.ref 36, .int v1, .int v2, .int v3, .int v4, .int v5, .int v6, .int v7, .int v8], [])] (hp L xs A V K T) v h' :=
  fn_iload rl_M_overstayed_33 rfl (fn_iload_n rl_M_overstayed_35 rfl (fn_icmp_gt rl_M_overstayed_36 (fun k2628 => fn_iload rl_M_overstayed_99 rfl (fn_if_ne rl_M_overstayed_101 (fun k2609 => fn_iload rl_M_overstayed_104 rfl (fn_goto rl_M_overstayed_106 (fn_reti rl_M_overstayed_122 rfl k2609))) (fun k2610 => fn_iload rl_M_overstayed_109 rfl (fn_iconst rl_M_overstayed_111 (fn_icmp_ne rl_M_overstayed_112 (fun k2607 => fn_iload rl_M_overstayed_115 rfl (fn_goto rl_M_overstayed_117 (fn_reti rl_M_overstayed_122 rfl k2607))) (fun k2608 => fn_iload rl_M_overstayed_120 rfl (fn_reti rl_M_overstayed_122 rfl k2608)) k2610))) k2628)) (fun k2629 => fn_aload_n rl_M_overstayed_39 rfl (fn_iload_n rl_M_overstayed_40 rfl (fn_iload rl_M_overstayed_41 rfl (fn_virt (as := [.ref 36, .int v1, .int v8]) (r := []) (ls' := [.ref 36, .int v1, .int v8]) rl_M_overstayed_43 rfl hp_36 rfl rfl pl_M_overstaysOn rfl rfl (fn_aload_n rl_M_overstaysOn_0 rfl (fn_get rl_M_overstaysOn_1 hp_36 rfl (fn_iload_n rl_M_overstaysOn_4 rfl (fn_iald rl_M_overstaysOn_5 hp_37 (fun k2627 => fn_iload_n rl_M_overstaysOn_6 rfl (fn_icmp_ne rl_M_overstaysOn_7 (fun k2625 => fn_aload_n rl_M_overstaysOn_10 rfl (fn_get rl_M_overstaysOn_11 hp_36 rfl (fn_iload_n rl_M_overstaysOn_14 rfl (fn_iald rl_M_overstaysOn_15 hp_45 (fun k2624 => fn_aload_n rl_M_overstaysOn_16 rfl (fn_iload_n rl_M_overstaysOn_17 rfl (fn_iconst rl_M_overstaysOn_18 (fn_virt (as := [.ref 36, .int v1, .int 1]) (r := [.int ((A 45) v8.toNatClampNeg)]) (ls' := [.ref 36, .int v1, .int 1]) rl_M_overstaysOn_19 rfl hp_36 rfl rfl pl_M_of rfl rfl (fn_aload_n rl_M_of_0 rfl (fn_get rl_M_of_1 hp_36 rfl (fn_bipush rl_M_of_4 (fn_iload_n rl_M_of_6 rfl (fn_imul rl_M_of_7 (fn_iload_n rl_M_of_8 rfl (fn_iadd rl_M_of_9 (fn_iald rl_M_of_10 hp_41 (fun k2623 => fn_retci rl_M_of_11 rfl (fn_icmp_le rl_M_overstaysOn_22 (fun k2621 => fn_iconst rl_M_overstaysOn_29 (fn_retci rl_M_overstaysOn_30 rfl (fn_if_ne_t rl_M_overstayed_46 (by decide +kernel) (fn_goto rl_M_overstayed_49 (fn_iinc (ls' := [.ref 36, .int v1, .int v2, .int v3, .int v4, .int v5, .int v6, .int v7, .int (v8 + 1)]) rl_M_overstayed_93 rfl rfl rfl (fn_goto rl_M_overstayed_96 (k2621))))))) (fun k2622 => fn_iconst rl_M_overstaysOn_25 (fn_goto rl_M_overstaysOn_26 (fn_retci rl_M_overstaysOn_30 rfl (fn_if_ne_f rl_M_overstayed_46 (by decide +kernel) (fn_iload rl_M_overstayed_52 rfl (fn_if_ne rl_M_overstayed_54 (fun k2619 => fn_iload rl_M_overstayed_57 rfl (fn_goto rl_M_overstayed_59 (fn_istore (ls' := [.ref 36, .int v1, .int v2, .int v3, .int v4, .int v5, .int v8, .int v7, .int v8]) rl_M_overstayed_64 rfl rfl (fn_iload rl_M_overstayed_66 rfl (fn_iconst rl_M_overstayed_68 (fn_iadd rl_M_overstayed_69 (fn_istore (ls' := [.ref 36, .int v1, .int v2, .int v3, .int v4, .int (v5 + 1), .int v8, .int v7, .int v8]) rl_M_overstayed_70 rfl rfl (fn_iload rl_M_overstayed_72 rfl (fn_aload_n rl_M_overstayed_74 rfl (fn_get rl_M_overstayed_75 hp_36 rfl (fn_iload rl_M_overstayed_78 rfl (fn_iald rl_M_overstayed_80 hp_45 (fun k2614 => fn_aload_n rl_M_overstayed_81 rfl (fn_iload_n rl_M_overstayed_82 rfl (fn_iconst rl_M_overstayed_83 (fn_virt (as := [.ref 36, .int v1, .int 1]) (r := [.int ((A 45) v8.toNatClampNeg), .int v7]) (ls' := [.ref 36, .int v1, .int 1]) rl_M_overstayed_84 rfl hp_36 rfl rfl pl_M_of rfl rfl (fn_aload_n rl_M_of_0 rfl (fn_get rl_M_of_1 hp_36 rfl (fn_bipush rl_M_of_4 (fn_iload_n rl_M_of_6 rfl (fn_imul rl_M_of_7 (fn_iload_n rl_M_of_8 rfl (fn_iadd rl_M_of_9 (fn_iald rl_M_of_10 hp_41 (fun k2613 => fn_retci rl_M_of_11 rfl (fn_isub rl_M_overstayed_87 (fn_stat (as := [.int v7, .int (((A 45) v8.toNatClampNeg) - ((A 41) ((13 * v1) + 1).toNatClampNeg))]) (r := []) (ls' := [.int v7, .int (((A 45) v8.toNatClampNeg) - ((A 41) ((13 * v1) + 1).toNatClampNeg))]) rl_M_overstayed_88 rfl rfl rfl rfl pl_M_more rfl rfl (fn_iload_n rl_M_more_0 rfl (fn_iload_n rl_M_more_1 rfl (fn_icmp_le rl_M_more_2 (fun k2611 => fn_iload_n rl_M_more_9 rfl (fn_retci rl_M_more_10 rfl (fn_istore (ls' := [.ref 36, .int v1, .int v2, .int v3, .int v4, .int (v5 + 1), .int v8, .int (((A 45) v8.toNatClampNeg) - ((A 41) ((13 * v1) + 1).toNatClampNeg)), .int v8]) rl_M_overstayed_91 rfl rfl (fn_iinc (ls' := [.ref 36, .int v1, .int v2, .int v3, .int v4, .int (v5 + 1), .int v8, .int (((A 45) v8.toNatClampNeg) - ((A 41) ((13 * v1) + 1).toNatClampNeg)), .int (v8 + 1)]) rl_M_overstayed_93 rfl rfl rfl (fn_goto rl_M_overstayed_96 (k2611)))))) (fun k2612 => fn_iload_n rl_M_more_5 rfl (fn_goto rl_M_more_6 (fn_retci rl_M_more_10 rfl (fn_istore (ls' := [.ref 36, .int v1, .int v2, .int v3, .int v4, .int (v5 + 1), .int v8, .int v7, .int v8]) rl_M_overstayed_91 rfl rfl (fn_iinc (ls' := [.ref 36, .int v1, .int v2, .int v3, .int v4, .int (v5 + 1), .int v8, .int v7, .int (v8 + 1)]) rl_M_overstayed_93 rfl rfl rfl (fn_goto rl_M_overstayed_96 (k2612))))))) k2613)))))) k2614)))))))))))) k2619)))))))))))) (fun k2620 => fn_iload rl_M_overstayed_62 rfl (fn_istore (ls' := [.ref 36, .int v1, .int v2, .int v3, .int v4, .int v5, .int v6, .int v7, .int v8]) rl_M_overstayed_64 rfl rfl (fn_iload rl_M_overstayed_66 rfl (fn_iconst rl_M_overstayed_68 (fn_iadd rl_M_overstayed_69 (fn_istore (ls' := [.ref 36, .int v1, .int v2, .int v3, .int v4, .int (v5 + 1), .int v6, .int v7, .int v8]) rl_M_overstayed_70 rfl rfl (fn_iload rl_M_overstayed_72 rfl (fn_aload_n rl_M_overstayed_74 rfl (fn_get rl_M_overstayed_75 hp_36 rfl (fn_iload rl_M_overstayed_78 rfl (fn_iald rl_M_overstayed_80 hp_45 (fun k2618 => fn_aload_n rl_M_overstayed_81 rfl (fn_iload_n rl_M_overstayed_82 rfl (fn_iconst rl_M_overstayed_83 (fn_virt (as := [.ref 36, .int v1, .int 1]) (r := [.int ((A 45) v8.toNatClampNeg), .int v7]) (ls' := [.ref 36, .int v1, .int 1]) rl_M_overstayed_84 rfl hp_36 rfl rfl pl_M_of rfl rfl (fn_aload_n rl_M_of_0 rfl (fn_get rl_M_of_1 hp_36 rfl (fn_bipush rl_M_of_4 (fn_iload_n rl_M_of_6 rfl (fn_imul rl_M_of_7 (fn_iload_n rl_M_of_8 rfl (fn_iadd rl_M_of_9 (fn_iald rl_M_of_10 hp_41 (fun k2617 => fn_retci rl_M_of_11 rfl (fn_isub rl_M_overstayed_87 (fn_stat (as := [.int v7, .int (((A 45) v8.toNatClampNeg) - ((A 41) ((13 * v1) + 1).toNatClampNeg))]) (r := []) (ls' := [.int v7, .int (((A 45) v8.toNatClampNeg) - ((A 41) ((13 * v1) + 1).toNatClampNeg))]) rl_M_overstayed_88 rfl rfl rfl rfl pl_M_more rfl rfl (fn_iload_n rl_M_more_0 rfl (fn_iload_n rl_M_more_1 rfl (fn_icmp_le rl_M_more_2 (fun k2615 => fn_iload_n rl_M_more_9 rfl (fn_retci rl_M_more_10 rfl (fn_istore (ls' := [.ref 36, .int v1, .int v2, .int v3, .int v4, .int (v5 + 1), .int v6, .int (((A 45) v8.toNatClampNeg) - ((A 41) ((13 * v1) + 1).toNatClampNeg)), .int v8]) rl_M_overstayed_91 rfl rfl (fn_iinc (ls' := [.ref 36, .int v1, .int v2, .int v3, .int v4, .int (v5 + 1), .int v6, .int (((A 45) v8.toNatClampNeg) - ((A 41) ((13 * v1) + 1).toNatClampNeg)), .int (v8 + 1)]) rl_M_overstayed_93 rfl rfl rfl (fn_goto rl_M_overstayed_96 (k2615)))))) (fun k2616 => fn_iload_n rl_M_more_5 rfl (fn_goto rl_M_more_6 (fn_retci rl_M_more_10 rfl (fn_istore (ls' := [.ref 36, .int v1, .int v2, .int v3, .int v4, .int (v5 + 1), .int v6, .int v7, .int v8]) rl_M_overstayed_91 rfl rfl (fn_iinc (ls' := [.ref 36, .int v1, .int v2, .int v3, .int v4, .int (v5 + 1), .int v6, .int v7, .int (v8 + 1)]) rl_M_overstayed_93 rfl rfl rfl (fn_goto rl_M_overstayed_96 (k2616))))))) k2617)))))) k2618)))))))))))) k2620))))))))))) k2622)))))) k2623)) k2624)))))))))))) k2625)))) (fun k2626 => fn_iconst rl_M_overstaysOn_29 (fn_retci rl_M_overstaysOn_30 rfl (fn_if_ne_t rl_M_overstayed_46 (by decide +kernel) (fn_goto rl_M_overstayed_49 (fn_iinc (ls' := [.ref 36, .int v1, .int v2, .int v3, .int v4, .int v5, .int v6, .int v7, .int (v8 + 1)]) rl_M_overstayed_93 rfl rfl rfl (fn_goto rl_M_overstayed_96 (k2626))))))) k2627)) k2629)))))))) k0))
set_option maxRecDepth 100000 in
set_option maxHeartbeats 4000000 in
theorem sg_M_laysLast_0 {L : Nat} {xs : Nat → Int32} {A V : Nat → Nat → Int32} {K : Nat → Option Nat} {T : am_H} {v : Option Int32} {h' : am_H} {a1 a2 : Int32} (k0 :
    am_fin [(z_M_laysLast, 5, [.ref 36, .int a1, .int a2, .int 0, .int 0], [])] (hp L xs A V K T) v h') : am_fin [(z_M_laysLast, 0, [.ref 36, .int a1, .int a2, .null, .null], [])] (hp L xs A V K T) v h' :=
  fn_iconst rl_M_laysLast_0 (fn_istore_n (ls' := [.ref 36, .int a1, .int a2, .int 0, .null]) rl_M_laysLast_1 rfl rfl (fn_iconst rl_M_laysLast_2 (fn_istore (ls' := [.ref 36, .int a1, .int a2, .int 0, .int 0]) rl_M_laysLast_3 rfl rfl (k0))))
