set_option maxRecDepth 100000 in
set_option maxHeartbeats 4000000 in
theorem sg_L_overstays_55b {L : Nat} {xs : Nat → Int32} {A V : Nat → Nat → Int32} {K : Nat → Option Nat} {T : am_H} {v : Option Int32} {h' : am_H} {v1 v2 v3 v4 v5 v6 v7 v8 v9 : Int32} (k0 :
    if v3 < v8 then (
      if v4 = 0 then (
        v = some v5 ∧ h' = hp L xs A V K T)
      else (
        if v4 = 1 then (
          v = some v6 ∧ h' = hp L xs A V K T)
        else (
          v = some v7 ∧ h' = hp L xs A V K T)))
    else (
      am_fin [(z_O_beyond, 0, [.ref 30, .int v8], []), (z_L_overstays, 70, [.ref 1, .int v1, .int v2, .int v3, .int v4, .int v5, .int v6, .int v7, .int v8, .int v9], [])] (hp L xs A V K T) v h')) : am_fin [(z_L_overstays, 55, [.ref 1, .int v1, .int v2, .int v3, .int v4, .int v5, .int v6, .int v7, .int v8, .int v9], [])] (hp L xs A V K T) v h' :=
  fn_iload rl_L_overstays_55 rfl (fn_iload_n rl_L_overstays_57 rfl (fn_icmp_gt rl_L_overstays_58 (fun k350 => fn_iload rl_L_overstays_111 rfl (fn_if_ne rl_L_overstays_113 (fun k348 => fn_iload rl_L_overstays_116 rfl (fn_reti rl_L_overstays_118 rfl k348)) (fun k349 => fn_iload rl_L_overstays_119 rfl (fn_iconst rl_L_overstays_121 (fn_icmp_ne rl_L_overstays_122 (fun k346 => fn_iload rl_L_overstays_125 rfl (fn_goto rl_L_overstays_127 (fn_reti rl_L_overstays_132 rfl k346))) (fun k347 => fn_iload rl_L_overstays_130 rfl (fn_reti rl_L_overstays_132 rfl k347)) k349))) k350)) (fun k351 => fn_aload_n rl_L_overstays_61 rfl (fn_get rl_L_overstays_62 hp_1 rfl (fn_iload rl_L_overstays_65 rfl (fn_virt (as := [.ref 30, .int v8]) (r := []) (ls' := [.ref 30, .int v8]) rl_L_overstays_67 rfl hp_30 rfl rfl pl_O_beyond rfl rfl (k351))))) k0))
set_option maxRecDepth 100000 in
set_option maxHeartbeats 4000000 in
theorem sg_L_overstays_70rb {L : Nat} {xs : Nat → Int32} {A V : Nat → Nat → Int32} {K : Nat → Option Nat} {T : am_H} {v : Option Int32} {h' : am_H} {v1 v2 v3 v4 v5 v6 v7 v8 v9 r : Int32} (k0 :
    if r ≤ 0 then (
      am_fin [(z_L_overstays, 55, [.ref 1, .int v1, .int v2, .int v3, .int v4, .int v5, .int v6, .int v7, .int (v8 + 1), .int r], [])] (hp L xs A V K T) v h')
    else (
      if v6 = (-2) then (
        am_fin [(z_L_overstays, 55, [.ref 1, .int v1, .int v2, .int v3, .int v4, .int (v5 + 1), .int v8, .int (if v7 < r then r else v7 : Int32), .int (v8 + 1), .int r], [])] (hp L xs A V K T) v h')
      else (
        am_fin [(z_L_overstays, 55, [.ref 1, .int v1, .int v2, .int v3, .int v4, .int (v5 + 1), .int v6, .int (if v7 < r then r else v7 : Int32), .int (v8 + 1), .int r], [])] (hp L xs A V K T) v h'))) : am_fin [(z_L_overstays, 70, [.ref 1, .int v1, .int v2, .int v3, .int v4, .int v5, .int v6, .int v7, .int v8, .int v9], [.int r])] (hp L xs A V K T) v h' :=
  fn_istore (ls' := [.ref 1, .int v1, .int v2, .int v3, .int v4, .int v5, .int v6, .int v7, .int v8, .int r]) rl_L_overstays_70 rfl rfl (fn_iload rl_L_overstays_72 rfl (fn_if_le rl_L_overstays_74 (fun k354 => fn_iinc (ls' := [.ref 1, .int v1, .int v2, .int v3, .int v4, .int v5, .int v6, .int v7, .int (v8 + 1), .int r]) rl_L_overstays_105 rfl rfl rfl (fn_goto rl_L_overstays_108 (k354))) (fun k355 => fn_iinc (ls' := [.ref 1, .int v1, .int v2, .int v3, .int v4, .int (v5 + 1), .int v6, .int v7, .int v8, .int r]) rl_L_overstays_77 rfl rfl rfl (fn_iload rl_L_overstays_80 rfl (fn_bipush rl_L_overstays_82 (fn_icmp_ne rl_L_overstays_84 (fun k352 => fn_iload rl_L_overstays_87 rfl (fn_goto rl_L_overstays_89 (fn_istore (ls' := [.ref 1, .int v1, .int v2, .int v3, .int v4, .int (v5 + 1), .int v8, .int v7, .int v8, .int r]) rl_L_overstays_94 rfl rfl (fn_iload rl_L_overstays_96 rfl (fn_iload rl_L_overstays_98 rfl (fn_max rl_L_overstays_100 rfl (fn_istore (ls' := [.ref 1, .int v1, .int v2, .int v3, .int v4, .int (v5 + 1), .int v8, .int (if v7 < r then r else v7 : Int32), .int v8, .int r]) rl_L_overstays_103 rfl rfl (fn_iinc (ls' := [.ref 1, .int v1, .int v2, .int v3, .int v4, .int (v5 + 1), .int v8, .int (if v7 < r then r else v7 : Int32), .int (v8 + 1), .int r]) rl_L_overstays_105 rfl rfl rfl (fn_goto rl_L_overstays_108 (k352)))))))))) (fun k353 => fn_iload rl_L_overstays_92 rfl (fn_istore (ls' := [.ref 1, .int v1, .int v2, .int v3, .int v4, .int (v5 + 1), .int v6, .int v7, .int v8, .int r]) rl_L_overstays_94 rfl rfl (fn_iload rl_L_overstays_96 rfl (fn_iload rl_L_overstays_98 rfl (fn_max rl_L_overstays_100 rfl (fn_istore (ls' := [.ref 1, .int v1, .int v2, .int v3, .int v4, .int (v5 + 1), .int v6, .int (if v7 < r then r else v7 : Int32), .int v8, .int r]) rl_L_overstays_103 rfl rfl (fn_iinc (ls' := [.ref 1, .int v1, .int v2, .int v3, .int v4, .int (v5 + 1), .int v6, .int (if v7 < r then r else v7 : Int32), .int (v8 + 1), .int r]) rl_L_overstays_105 rfl rfl rfl (fn_goto rl_L_overstays_108 (k353))))))))) k355)))) k0))
set_option maxRecDepth 100000 in
set_option maxHeartbeats 4000000 in
theorem sg_L_nth_0 {L : Nat} {xs : Nat → Int32} {A V : Nat → Nat → Int32} {K : Nat → Option Nat} {T : am_H} {v : Option Int32} {h' : am_H} {a1 a2 a3 : Int32} (k0 :
    if a1 < 0 then (
      v = some (-1) ∧ h' = hp L xs A V K T)
    else (
      if 5 < a1 then (
        v = some (-1) ∧ h' = hp L xs A V K T)
      else (
        if a2 < 0 then (
          v = some (-1) ∧ h' = hp L xs A V K T)
        else (
          if a3 < 0 then (
            v = some (-1) ∧ h' = hp L xs A V K T)
          else (
            if 2 < a3 then (
              v = some (-1) ∧ h' = hp L xs A V K T)
            else (
              am_fin [(z_L_nth, 28, [.ref 1, .int a1, .int a2, .int a3, .int 0, .int 0, .null], [])] (hp L xs A V K T) v h')))))) : am_fin [(z_L_nth, 0, [.ref 1, .int a1, .int a2, .int a3, .null, .null, .null], [])] (hp L xs A V K T) v h' :=
  fn_iload_n rl_L_nth_0 rfl (fn_stat (as := [.int a1]) (r := []) (ls' := [.int a1]) rl_L_nth_1 rfl rfl rfl rfl pl_L_isLand rfl rfl (fn_iload_n rl_L_isLand_0 rfl (fn_iconst rl_L_isLand_1 (fn_iconst rl_L_isLand_2 (fn_stat (as := [.int a1, .int 0, .int 5]) (r := []) (ls' := [.int a1, .int 0, .int 5]) rl_L_isLand_3 rfl rfl rfl rfl pl_L_isAmong rfl rfl (fn_iload_n rl_L_isAmong_0 rfl (fn_iload_n rl_L_isAmong_1 rfl (fn_icmp_lt rl_L_isAmong_2 (fun k364 => fn_iconst rl_L_isAmong_14 (fn_retci rl_L_isAmong_15 rfl (fn_retci rl_L_isLand_6 rfl (fn_if_eq_t rl_L_nth_4 (by decide +kernel) (fn_iconst rl_L_nth_20 (fn_reti rl_L_nth_21 rfl k364)))))) (fun k365 => fn_iload_n rl_L_isAmong_5 rfl (fn_iload_n rl_L_isAmong_6 rfl (fn_icmp_gt rl_L_isAmong_7 (fun k362 => fn_iconst rl_L_isAmong_14 (fn_retci rl_L_isAmong_15 rfl (fn_retci rl_L_isLand_6 rfl (fn_if_eq_t rl_L_nth_4 (by decide +kernel) (fn_iconst rl_L_nth_20 (fn_reti rl_L_nth_21 rfl k362)))))) (fun k363 => fn_iconst rl_L_isAmong_10 (fn_goto rl_L_isAmong_11 (fn_retci rl_L_isAmong_15 rfl (fn_retci rl_L_isLand_6 rfl (fn_if_eq_f rl_L_nth_4 (by decide +kernel) (fn_iload_n rl_L_nth_7 rfl (fn_if_lt rl_L_nth_8 (fun k360 => fn_iconst rl_L_nth_20 (fn_reti rl_L_nth_21 rfl k360)) (fun k361 => fn_iload_n rl_L_nth_11 rfl (fn_iconst rl_L_nth_12 (fn_iconst rl_L_nth_13 (fn_stat (as := [.int a3, .int 0, .int 2]) (r := []) (ls' := [.int a3, .int 0, .int 2]) rl_L_nth_14 rfl rfl rfl rfl pl_L_isAmong rfl rfl (fn_iload_n rl_L_isAmong_0 rfl (fn_iload_n rl_L_isAmong_1 rfl (fn_icmp_lt rl_L_isAmong_2 (fun k358 => fn_iconst rl_L_isAmong_14 (fn_retci rl_L_isAmong_15 rfl (fn_if_ne_t rl_L_nth_17 (by decide +kernel) (fn_iconst rl_L_nth_20 (fn_reti rl_L_nth_21 rfl k358))))) (fun k359 => fn_iload_n rl_L_isAmong_5 rfl (fn_iload_n rl_L_isAmong_6 rfl (fn_icmp_gt rl_L_isAmong_7 (fun k356 => fn_iconst rl_L_isAmong_14 (fn_retci rl_L_isAmong_15 rfl (fn_if_ne_t rl_L_nth_17 (by decide +kernel) (fn_iconst rl_L_nth_20 (fn_reti rl_L_nth_21 rfl k356))))) (fun k357 => fn_iconst rl_L_isAmong_10 (fn_goto rl_L_isAmong_11 (fn_retci rl_L_isAmong_15 rfl (fn_if_ne_f rl_L_nth_17 (by decide +kernel) (fn_iconst rl_L_nth_22 (fn_istore (ls' := [.ref 1, .int a1, .int a2, .int a3, .int 0, .null, .null]) rl_L_nth_23 rfl rfl (fn_iconst rl_L_nth_25 (fn_istore (ls' := [.ref 1, .int a1, .int a2, .int a3, .int 0, .int 0, .null]) rl_L_nth_26 rfl rfl (k357))))))))) k359))) k361))))))) k363))))))) k365))) k0))))))))
set_option maxRecDepth 100000 in
set_option maxHeartbeats 4000000 in
theorem sg_L_nth_28 {L : Nat} {xs : Nat → Int32} {A V : Nat → Nat → Int32} {K : Nat → Option Nat} {T : am_H} {v : Option Int32} {h' : am_H} {v1 v2 v3 v4 v5 : Int32} (k0 :
    if 1080 ≤ v5 then (
      v = some (-2) ∧ h' = hp L xs A V K T)
    else (
      am_fin [(z_P_landOn, 0, [.ref 3, .int v5], []), (z_L_nth, 48, [.ref 1, .int v1, .int v2, .int v3, .int v4, .int v5, .null], [])] (hp L xs A V K T) v h')) : am_fin [(z_L_nth, 28, [.ref 1, .int v1, .int v2, .int v3, .int v4, .int v5, .null], [])] (hp L xs A V K T) v h' :=
  fn_iload rl_L_nth_28 rfl (fn_sipush rl_L_nth_30 (fn_icmp_ge rl_L_nth_33 (fun k366 => fn_bipush rl_L_nth_123 (fn_reti rl_L_nth_125 rfl k366)) (fun k367 => fn_aload_n rl_L_nth_36 rfl (fn_get rl_L_nth_37 hp_1 rfl (fn_get rl_L_nth_40 hp_2 rfl (fn_iload rl_L_nth_43 rfl (fn_virt (as := [.ref 3, .int v5]) (r := []) (ls' := [.ref 3, .int v5]) rl_L_nth_45 rfl hp_3 rfl rfl pl_P_landOn rfl rfl (k367)))))) k0))
set_option maxRecDepth 100000 in
set_option maxHeartbeats 4000000 in
theorem sg_L_nth_48r {L : Nat} {xs : Nat → Int32} {A V : Nat → Nat → Int32} {K : Nat → Option Nat} {T : am_H} {v : Option Int32} {h' : am_H} {v1 v2 v3 v4 v5 r : Int32} (k0 :
    if r = v1 then (
      am_fin [(z_P_startsStay, 0, [.ref 3, .int v5], []), (z_L_nth, 64, [.ref 1, .int v1, .int v2, .int v3, .int v4, .int v5, .null], [])] (hp L xs A V K T) v h')
    else (
      am_fin [(z_L_nth, 28, [.ref 1, .int v1, .int v2, .int v3, .int v4, .int (v5 + 1), .null], [])] (hp L xs A V K T) v h')) : am_fin [(z_L_nth, 48, [.ref 1, .int v1, .int v2, .int v3, .int v4, .int v5, .null], [.int r])] (hp L xs A V K T) v h' :=
  fn_iload_n rl_L_nth_48 rfl (fn_icmp_ne rl_L_nth_49 (fun k368 => fn_aload_n rl_L_nth_52 rfl (fn_get rl_L_nth_53 hp_1 rfl (fn_get rl_L_nth_56 hp_2 rfl (fn_iload rl_L_nth_59 rfl (fn_virt (as := [.ref 3, .int v5]) (r := []) (ls' := [.ref 3, .int v5]) rl_L_nth_61 rfl hp_3 rfl rfl pl_P_startsStay rfl rfl (k368)))))) (fun k369 => fn_iinc (ls' := [.ref 1, .int v1, .int v2, .int v3, .int v4, .int (v5 + 1), .null]) rl_L_nth_117 rfl rfl rfl (fn_goto rl_L_nth_120 (k369))) k0)
set_option maxRecDepth 100000 in
set_option maxHeartbeats 4000000 in
theorem sg_L_nth_64r {L : Nat} {xs : Nat → Int32} {A V : Nat → Nat → Int32} {K : Nat → Option Nat} {T : am_H} {v : Option Int32} {h' : am_H} {v1 v2 v3 v4 v5 r : Int32} (k0 :
    if r = 0 then (
      am_fin [(z_L_nth, 28, [.ref 1, .int v1, .int v2, .int v3, .int v4, .int (v5 + 1), .null], [])] (hp L xs A V K T) v h')
    else (
      if v4 = v2 then (
        am_fin [(z_P_lastOfStay, 0, [.ref 3, .int v5, .null, .null, .null], []), (z_L_nth, 85, [.ref 1, .int v1, .int v2, .int v3, .int v4, .int v5, .null], [])] (hp L xs A V K T) v h')
      else (
        am_fin [(z_L_nth, 28, [.ref 1, .int v1, .int v2, .int v3, .int (v4 + 1), .int (v5 + 1), .null], [])] (hp L xs A V K T) v h'))) : am_fin [(z_L_nth, 64, [.ref 1, .int v1, .int v2, .int v3, .int v4, .int v5, .null], [.int r])] (hp L xs A V K T) v h' :=
  fn_if_eq rl_L_nth_64 (fun k372 => fn_iinc (ls' := [.ref 1, .int v1, .int v2, .int v3, .int v4, .int (v5 + 1), .null]) rl_L_nth_117 rfl rfl rfl (fn_goto rl_L_nth_120 (k372))) (fun k373 => fn_iload rl_L_nth_67 rfl (fn_iload_n rl_L_nth_69 rfl (fn_icmp_ne rl_L_nth_70 (fun k370 => fn_aload_n rl_L_nth_73 rfl (fn_get rl_L_nth_74 hp_1 rfl (fn_get rl_L_nth_77 hp_2 rfl (fn_iload rl_L_nth_80 rfl (fn_virt (as := [.ref 3, .int v5]) (r := []) (ls' := [.ref 3, .int v5, .null, .null, .null]) rl_L_nth_82 rfl hp_3 rfl rfl pl_P_lastOfStay rfl rfl (k370)))))) (fun k371 => fn_iinc (ls' := [.ref 1, .int v1, .int v2, .int v3, .int (v4 + 1), .int v5, .null]) rl_L_nth_114 rfl rfl rfl (fn_iinc (ls' := [.ref 1, .int v1, .int v2, .int v3, .int (v4 + 1), .int (v5 + 1), .null]) rl_L_nth_117 rfl rfl rfl (fn_goto rl_L_nth_120 (k371)))) k373))) k0
set_option maxRecDepth 100000 in
set_option maxHeartbeats 4000000 in
theorem sg_L_nth_85r {L : Nat} {xs : Nat → Int32} {A V : Nat → Nat → Int32} {K : Nat → Option Nat} {T : am_H} {v : Option Int32} {h' : am_H} {v1 v2 v3 v4 v5 r : Int32} (k0 :
    if v3 = 0 then (
      v = some v5 ∧ h' = hp L xs A V K T)
    else (
      if v3 = 1 then (
        v = some r ∧ h' = hp L xs A V K T)
      else (
        v = some ((r - v5) + 1) ∧ h' = hp L xs A V K T))) : am_fin [(z_L_nth, 85, [.ref 1, .int v1, .int v2, .int v3, .int v4, .int v5, .null], [.int r])] (hp L xs A V K T) v h' :=
  fn_istore (ls' := [.ref 1, .int v1, .int v2, .int v3, .int v4, .int v5, .int r]) rl_L_nth_85 rfl rfl (fn_iload_n rl_L_nth_87 rfl (fn_if_ne rl_L_nth_88 (fun k376 => fn_iload rl_L_nth_91 rfl (fn_goto rl_L_nth_93 (fn_reti rl_L_nth_113 rfl k376))) (fun k377 => fn_iload_n rl_L_nth_96 rfl (fn_iconst rl_L_nth_97 (fn_icmp_ne rl_L_nth_98 (fun k374 => fn_iload rl_L_nth_101 rfl (fn_goto rl_L_nth_103 (fn_reti rl_L_nth_113 rfl k374))) (fun k375 => fn_iload rl_L_nth_106 rfl (fn_iload rl_L_nth_108 rfl (fn_isub rl_L_nth_110 (fn_iconst rl_L_nth_111 (fn_iadd rl_L_nth_112 (fn_reti rl_L_nth_113 rfl k375)))))) k377))) k0))
set_option maxRecDepth 100000 in
set_option maxHeartbeats 4000000 in
theorem sg_L_away_0 {L : Nat} {xs : Nat → Int32} {A V : Nat → Nat → Int32} {K : Nat → Option Nat} {T : am_H} {v : Option Int32} {h' : am_H} {a1 a2 : Int32} (k0 :
    if a1 < 0 then (
      v = some (-1) ∧ h' = hp L xs A V K T)
    else (
      if 5 < a1 then (
        v = some (-1) ∧ h' = hp L xs A V K T)
      else (
        if a2 < 0 then (
          v = some (-1) ∧ h' = hp L xs A V K T)
        else (
          if 1 < a2 then (
            v = some (-1) ∧ h' = hp L xs A V K T)
          else (
            am_fin [(z_L_away, 30, [.ref 1, .int a1, .int a2, .int 0, .int (-2), .int 0, .int 0], [])] (hp L xs A V K T) v h'))))) : am_fin [(z_L_away, 0, [.ref 1, .int a1, .int a2, .null, .null, .null, .null], [])] (hp L xs A V K T) v h' :=
  fn_iload_n rl_L_away_0 rfl (fn_stat (as := [.int a1]) (r := []) (ls' := [.int a1]) rl_L_away_1 rfl rfl rfl rfl pl_L_isLand rfl rfl (fn_iload_n rl_L_isLand_0 rfl (fn_iconst rl_L_isLand_1 (fn_iconst rl_L_isLand_2 (fn_stat (as := [.int a1, .int 0, .int 5]) (r := []) (ls' := [.int a1, .int 0, .int 5]) rl_L_isLand_3 rfl rfl rfl rfl pl_L_isAmong rfl rfl (fn_iload_n rl_L_isAmong_0 rfl (fn_iload_n rl_L_isAmong_1 rfl (fn_icmp_lt rl_L_isAmong_2 (fun k384 => fn_iconst rl_L_isAmong_14 (fn_retci rl_L_isAmong_15 rfl (fn_retci rl_L_isLand_6 rfl (fn_if_eq_t rl_L_away_4 (by decide +kernel) (fn_iconst rl_L_away_16 (fn_reti rl_L_away_17 rfl k384)))))) (fun k385 => fn_iload_n rl_L_isAmong_5 rfl (fn_iload_n rl_L_isAmong_6 rfl (fn_icmp_gt rl_L_isAmong_7 (fun k382 => fn_iconst rl_L_isAmong_14 (fn_retci rl_L_isAmong_15 rfl (fn_retci rl_L_isLand_6 rfl (fn_if_eq_t rl_L_away_4 (by decide +kernel) (fn_iconst rl_L_away_16 (fn_reti rl_L_away_17 rfl k382)))))) (fun k383 => fn_iconst rl_L_isAmong_10 (fn_goto rl_L_isAmong_11 (fn_retci rl_L_isAmong_15 rfl (fn_retci rl_L_isLand_6 rfl (fn_if_eq_f rl_L_away_4 (by decide +kernel) (fn_iload_n rl_L_away_7 rfl (fn_iconst rl_L_away_8 (fn_iconst rl_L_away_9 (fn_stat (as := [.int a2, .int 0, .int 1]) (r := []) (ls' := [.int a2, .int 0, .int 1]) rl_L_away_10 rfl rfl rfl rfl pl_L_isAmong rfl rfl (fn_iload_n rl_L_isAmong_0 rfl (fn_iload_n rl_L_isAmong_1 rfl (fn_icmp_lt rl_L_isAmong_2 (fun k380 => fn_iconst rl_L_isAmong_14 (fn_retci rl_L_isAmong_15 rfl (fn_if_ne_t rl_L_away_13 (by decide +kernel) (fn_iconst rl_L_away_16 (fn_reti rl_L_away_17 rfl k380))))) (fun k381 => fn_iload_n rl_L_isAmong_5 rfl (fn_iload_n rl_L_isAmong_6 rfl (fn_icmp_gt rl_L_isAmong_7 (fun k378 => fn_iconst rl_L_isAmong_14 (fn_retci rl_L_isAmong_15 rfl (fn_if_ne_t rl_L_away_13 (by decide +kernel) (fn_iconst rl_L_away_16 (fn_reti rl_L_away_17 rfl k378))))) (fun k379 => fn_iconst rl_L_isAmong_10 (fn_goto rl_L_isAmong_11 (fn_retci rl_L_isAmong_15 rfl (fn_if_ne_f rl_L_away_13 (by decide +kernel) (fn_iconst rl_L_away_18 (fn_istore_n (ls' := [.ref 1, .int a1, .int a2, .int 0, .null, .null, .null]) rl_L_away_19 rfl rfl (fn_bipush rl_L_away_20 (fn_istore (ls' := [.ref 1, .int a1, .int a2, .int 0, .int (-2), .null, .null]) rl_L_away_22 rfl rfl (fn_iconst rl_L_away_24 (fn_istore (ls' := [.ref 1, .int a1, .int a2, .int 0, .int (-2), .int 0, .null]) rl_L_away_25 rfl rfl (fn_iconst rl_L_away_27 (fn_istore (ls' := [.ref 1, .int a1, .int a2, .int 0, .int (-2), .int 0, .int 0]) rl_L_away_28 rfl rfl (k379))))))))))))) k381))) k383)))))))))))) k385))) k0))))))))
set_option maxRecDepth 100000 in
set_option maxHeartbeats 4000000 in
theorem sg_L_away_30 {L : Nat} {xs : Nat → Int32} {A V : Nat → Nat → Int32} {K : Nat → Option Nat} {T : am_H} {v : Option Int32} {h' : am_H} {v1 v2 v3 v4 v5 v6 : Int32} (k0 :
    if 1080 ≤ v6 then (
      if v2 = 0 then (
        v = some v3 ∧ h' = hp L xs A V K T)
      else (
        v = some v4 ∧ h' = hp L xs A V K T))
    else (
      am_fin [(z_P_landOn, 0, [.ref 3, .int v6], []), (z_L_away, 50, [.ref 1, .int v1, .int v2, .int v3, .int v4, .int v5, .int v6], [])] (hp L xs A V K T) v h')) : am_fin [(z_L_away, 30, [.ref 1, .int v1, .int v2, .int v3, .int v4, .int v5, .int v6], [])] (hp L xs A V K T) v h' :=
  fn_iload rl_L_away_30 rfl (fn_sipush rl_L_away_32 (fn_icmp_ge rl_L_away_35 (fun k388 => fn_iload_n rl_L_away_88 rfl (fn_if_ne rl_L_away_89 (fun k386 => fn_iload_n rl_L_away_92 rfl (fn_goto rl_L_away_93 (fn_reti rl_L_away_98 rfl k386))) (fun k387 => fn_iload rl_L_away_96 rfl (fn_reti rl_L_away_98 rfl k387)) k388)) (fun k389 => fn_aload_n rl_L_away_38 rfl (fn_get rl_L_away_39 hp_1 rfl (fn_get rl_L_away_42 hp_2 rfl (fn_iload rl_L_away_45 rfl (fn_virt (as := [.ref 3, .int v6]) (r := []) (ls' := [.ref 3, .int v6]) rl_L_away_47 rfl hp_3 rfl rfl pl_P_landOn rfl rfl (k389)))))) k0))
set_option maxRecDepth 100000 in
set_option maxHeartbeats 4000000 in
theorem sg_L_away_50r {L : Nat} {xs : Nat → Int32} {A V : Nat → Nat → Int32} {K : Nat → Option Nat} {T : am_H} {v : Option Int32} {h' : am_H} {v1 v2 v3 v4 v5 v6 r : Int32} (k0 :
    if r = v1 then (
      if 0 ≤ v3 then (
        am_fin [(z_L_away, 30, [.ref 1, .int v1, .int v2, .int v3, .int v4, .int 0, .int (v6 + 1)], [])] (hp L xs A V K T) v h')
      else (
        am_fin [(z_L_away, 30, [.ref 1, .int v1, .int v2, .int 0, .int ((v6 - 0) + 1), .int 0, .int (v6 + 1)], [])] (hp L xs A V K T) v h'))
    else (
      if (v5 + 1) ≤ v3 then (
        am_fin [(z_L_away, 30, [.ref 1, .int v1, .int v2, .int v3, .int v4, .int (v5 + 1), .int (v6 + 1)], [])] (hp L xs A V K T) v h')
      else (
        am_fin [(z_L_away, 30, [.ref 1, .int v1, .int v2, .int (v5 + 1), .int ((v6 - (v5 + 1)) + 1), .int (v5 + 1), .int (v6 + 1)], [])] (hp L xs A V K T) v h'))) : am_fin [(z_L_away, 50, [.ref 1, .int v1, .int v2, .int v3, .int v4, .int v5, .int v6], [.int r])] (hp L xs A V K T) v h' :=
  fn_iload_n rl_L_away_50 rfl (fn_icmp_ne rl_L_away_51 (fun k394 => fn_iconst rl_L_away_54 (fn_goto rl_L_away_55 (fn_istore (ls' := [.ref 1, .int v1, .int v2, .int v3, .int v4, .int 0, .int v6]) rl_L_away_62 rfl rfl (fn_iload rl_L_away_64 rfl (fn_iload_n rl_L_away_66 rfl (fn_icmp_le rl_L_away_67 (fun k390 => fn_iinc (ls' := [.ref 1, .int v1, .int v2, .int v3, .int v4, .int 0, .int (v6 + 1)]) rl_L_away_82 rfl rfl rfl (fn_goto rl_L_away_85 (k390))) (fun k391 => fn_iload rl_L_away_70 rfl (fn_istore_n (ls' := [.ref 1, .int v1, .int v2, .int 0, .int v4, .int 0, .int v6]) rl_L_away_72 rfl rfl (fn_iload rl_L_away_73 rfl (fn_iload rl_L_away_75 rfl (fn_isub rl_L_away_77 (fn_iconst rl_L_away_78 (fn_iadd rl_L_away_79 (fn_istore (ls' := [.ref 1, .int v1, .int v2, .int 0, .int ((v6 - 0) + 1), .int 0, .int v6]) rl_L_away_80 rfl rfl (fn_iinc (ls' := [.ref 1, .int v1, .int v2, .int 0, .int ((v6 - 0) + 1), .int 0, .int (v6 + 1)]) rl_L_away_82 rfl rfl rfl (fn_goto rl_L_away_85 (k391))))))))))) k394)))))) (fun k395 => fn_iload rl_L_away_58 rfl (fn_iconst rl_L_away_60 (fn_iadd rl_L_away_61 (fn_istore (ls' := [.ref 1, .int v1, .int v2, .int v3, .int v4, .int (v5 + 1), .int v6]) rl_L_away_62 rfl rfl (fn_iload rl_L_away_64 rfl (fn_iload_n rl_L_away_66 rfl (fn_icmp_le rl_L_away_67 (fun k392 => fn_iinc (ls' := [.ref 1, .int v1, .int v2, .int v3, .int v4, .int (v5 + 1), .int (v6 + 1)]) rl_L_away_82 rfl rfl rfl (fn_goto rl_L_away_85 (k392))) (fun k393 => fn_iload rl_L_away_70 rfl (fn_istore_n (ls' := [.ref 1, .int v1, .int v2, .int (v5 + 1), .int v4, .int (v5 + 1), .int v6]) rl_L_away_72 rfl rfl (fn_iload rl_L_away_73 rfl (fn_iload rl_L_away_75 rfl (fn_isub rl_L_away_77 (fn_iconst rl_L_away_78 (fn_iadd rl_L_away_79 (fn_istore (ls' := [.ref 1, .int v1, .int v2, .int (v5 + 1), .int ((v6 - (v5 + 1)) + 1), .int (v5 + 1), .int v6]) rl_L_away_80 rfl rfl (fn_iinc (ls' := [.ref 1, .int v1, .int v2, .int (v5 + 1), .int ((v6 - (v5 + 1)) + 1), .int (v5 + 1), .int (v6 + 1)]) rl_L_away_82 rfl rfl rfl (fn_goto rl_L_away_85 (k393))))))))))) k395))))))) k0)
set_option maxRecDepth 100000 in
set_option maxHeartbeats 4000000 in
theorem sg_L_travels_0 {L : Nat} {xs : Nat → Int32} {A V : Nat → Nat → Int32} {K : Nat → Option Nat} {T : am_H} {v : Option Int32} {h' : am_H} {a1 a2 : Int32} (k0 :
    if a1 < 0 then (
      v = some (-1) ∧ h' = hp L xs A V K T)
    else (
      if 5 < a1 then (
        v = some (-1) ∧ h' = hp L xs A V K T)
      else (
        if a2 < 0 then (
          v = some (-1) ∧ h' = hp L xs A V K T)
        else (
          if 2 < a2 then (
            v = some (-1) ∧ h' = hp L xs A V K T)
          else (
            am_fin [(z_L_travels, 24, [.ref 1, .int a1, .int a2, .int 0, .int (a2 * 360), .null, .null], [])] (hp L xs A V K T) v h'))))) : am_fin [(z_L_travels, 0, [.ref 1, .int a1, .int a2, .null, .null, .null, .null], [])] (hp L xs A V K T) v h' :=
  fn_iload_n rl_L_travels_0 rfl (fn_stat (as := [.int a1]) (r := []) (ls' := [.int a1]) rl_L_travels_1 rfl rfl rfl rfl pl_L_isLand rfl rfl (fn_iload_n rl_L_isLand_0 rfl (fn_iconst rl_L_isLand_1 (fn_iconst rl_L_isLand_2 (fn_stat (as := [.int a1, .int 0, .int 5]) (r := []) (ls' := [.int a1, .int 0, .int 5]) rl_L_isLand_3 rfl rfl rfl rfl pl_L_isAmong rfl rfl (fn_iload_n rl_L_isAmong_0 rfl (fn_iload_n rl_L_isAmong_1 rfl (fn_icmp_lt rl_L_isAmong_2 (fun k402 => fn_iconst rl_L_isAmong_14 (fn_retci rl_L_isAmong_15 rfl (fn_retci rl_L_isLand_6 rfl (fn_if_eq_t rl_L_travels_4 (by decide +kernel) (fn_iconst rl_L_travels_14 (fn_reti rl_L_travels_15 rfl k402)))))) (fun k403 => fn_iload_n rl_L_isAmong_5 rfl (fn_iload_n rl_L_isAmong_6 rfl (fn_icmp_gt rl_L_isAmong_7 (fun k400 => fn_iconst rl_L_isAmong_14 (fn_retci rl_L_isAmong_15 rfl (fn_retci rl_L_isLand_6 rfl (fn_if_eq_t rl_L_travels_4 (by decide +kernel) (fn_iconst rl_L_travels_14 (fn_reti rl_L_travels_15 rfl k400)))))) (fun k401 => fn_iconst rl_L_isAmong_10 (fn_goto rl_L_isAmong_11 (fn_retci rl_L_isAmong_15 rfl (fn_retci rl_L_isLand_6 rfl (fn_if_eq_f rl_L_travels_4 (by decide +kernel) (fn_iload_n rl_L_travels_7 rfl (fn_stat (as := [.int a2]) (r := []) (ls' := [.int a2]) rl_L_travels_8 rfl rfl rfl rfl pl_L_isYear rfl rfl (fn_iload_n rl_L_isYear_0 rfl (fn_iconst rl_L_isYear_1 (fn_iconst rl_L_isYear_2 (fn_stat (as := [.int a2, .int 0, .int 2]) (r := []) (ls' := [.int a2, .int 0, .int 2]) rl_L_isYear_3 rfl rfl rfl rfl pl_L_isAmong rfl rfl (fn_iload_n rl_L_isAmong_0 rfl (fn_iload_n rl_L_isAmong_1 rfl (fn_icmp_lt rl_L_isAmong_2 (fun k398 => fn_iconst rl_L_isAmong_14 (fn_retci rl_L_isAmong_15 rfl (fn_retci rl_L_isYear_6 rfl (fn_if_ne_t rl_L_travels_11 (by decide +kernel) (fn_iconst rl_L_travels_14 (fn_reti rl_L_travels_15 rfl k398)))))) (fun k399 => fn_iload_n rl_L_isAmong_5 rfl (fn_iload_n rl_L_isAmong_6 rfl (fn_icmp_gt rl_L_isAmong_7 (fun k396 => fn_iconst rl_L_isAmong_14 (fn_retci rl_L_isAmong_15 rfl (fn_retci rl_L_isYear_6 rfl (fn_if_ne_t rl_L_travels_11 (by decide +kernel) (fn_iconst rl_L_travels_14 (fn_reti rl_L_travels_15 rfl k396)))))) (fun k397 => fn_iconst rl_L_isAmong_10 (fn_goto rl_L_isAmong_11 (fn_retci rl_L_isAmong_15 rfl (fn_retci rl_L_isYear_6 rfl (fn_if_ne_f rl_L_travels_11 (by decide +kernel) (fn_iconst rl_L_travels_16 (fn_istore_n (ls' := [.ref 1, .int a1, .int a2, .int 0, .null, .null, .null]) rl_L_travels_17 rfl rfl (fn_iload_n rl_L_travels_18 rfl (fn_stat (as := [.int a2]) (r := []) (ls' := [.int a2]) rl_L_travels_19 rfl rfl rfl rfl pl_L_firstOf rfl rfl (fn_iload_n rl_L_firstOf_0 rfl (fn_sipush rl_L_firstOf_1 (fn_imul rl_L_firstOf_4 (fn_retci rl_L_firstOf_5 rfl (fn_istore (ls' := [.ref 1, .int a1, .int a2, .int 0, .int (a2 * 360), .null, .null]) rl_L_travels_22 rfl rfl (k397))))))))))))))) k399))) k401)))))))))))))) k403))) k0))))))))
set_option maxRecDepth 100000 in
set_option maxHeartbeats 4000000 in
theorem sg_L_travels_24 {L : Nat} {xs : Nat → Int32} {A V : Nat → Nat → Int32} {K : Nat → Option Nat} {T : am_H} {v : Option Int32} {h' : am_H} {v1 v2 v3 v4 : Int32} (k0 :
    if (((v2 * 360) + 360) - 1) < v4 then (
      v = some v3 ∧ h' = hp L xs A V K T)
    else (
      if v4 ≤ 0 then (
        if 1079 ≤ v4 then (
          am_fin [(z_P_landOn, 0, [.ref 3, .int v4], []), (z_L_travels, 108, [.ref 1, .int v1, .int v2, .int v3, .int v4, .int 0, .int 0], [])] (hp L xs A V K T) v h')
        else (
          am_fin [(z_P_landOn, 0, [.ref 3, .int (v4 + 1)], []), (z_L_travels, 85, [.ref 1, .int v1, .int v2, .int v3, .int v4, .int 0, .null], [])] (hp L xs A V K T) v h'))
      else (
        am_fin [(z_P_landOn, 0, [.ref 3, .int (v4 - 1)], []), (z_L_travels, 52, [.ref 1, .int v1, .int v2, .int v3, .int v4, .null, .null], [])] (hp L xs A V K T) v h'))) : am_fin [(z_L_travels, 24, [.ref 1, .int v1, .int v2, .int v3, .int v4, .null, .null], [])] (hp L xs A V K T) v h' :=
  fn_iload rl_L_travels_24 rfl (fn_iload_n rl_L_travels_26 rfl (fn_stat (as := [.int v2]) (r := [.int v4]) (ls' := [.int v2]) rl_L_travels_27 rfl rfl rfl rfl pl_L_lastOf rfl rfl (fn_iload_n rl_L_lastOf_0 rfl (fn_sipush rl_L_lastOf_1 (fn_imul rl_L_lastOf_4 (fn_sipush rl_L_lastOf_5 (fn_iadd rl_L_lastOf_8 (fn_iconst rl_L_lastOf_9 (fn_isub rl_L_lastOf_10 (fn_retci rl_L_lastOf_11 rfl (fn_icmp_gt rl_L_travels_30 (fun k408 => fn_iload_n rl_L_travels_131 rfl (fn_reti rl_L_travels_132 rfl k408)) (fun k409 => fn_iload rl_L_travels_33 rfl (fn_if_le rl_L_travels_35 (fun k406 => fn_iconst rl_L_travels_60 (fn_istore (ls' := [.ref 1, .int v1, .int v2, .int v3, .int v4, .int 0, .null]) rl_L_travels_61 rfl rfl (fn_iload rl_L_travels_63 rfl (fn_sipush rl_L_travels_65 (fn_icmp_ge rl_L_travels_68 (fun k404 => fn_iconst rl_L_travels_93 (fn_istore (ls' := [.ref 1, .int v1, .int v2, .int v3, .int v4, .int 0, .int 0]) rl_L_travels_94 rfl rfl (fn_aload_n rl_L_travels_96 rfl (fn_get rl_L_travels_97 hp_1 rfl (fn_get rl_L_travels_100 hp_2 rfl (fn_iload rl_L_travels_103 rfl (fn_virt (as := [.ref 3, .int v4]) (r := []) (ls' := [.ref 3, .int v4]) rl_L_travels_105 rfl hp_3 rfl rfl pl_P_landOn rfl rfl (k404)))))))) (fun k405 => fn_aload_n rl_L_travels_71 rfl (fn_get rl_L_travels_72 hp_1 rfl (fn_get rl_L_travels_75 hp_2 rfl (fn_iload rl_L_travels_78 rfl (fn_iconst rl_L_travels_80 (fn_iadd rl_L_travels_81 (fn_virt (as := [.ref 3, .int (v4 + 1)]) (r := []) (ls' := [.ref 3, .int (v4 + 1)]) rl_L_travels_82 rfl hp_3 rfl rfl pl_P_landOn rfl rfl (k405)))))))) k406))))) (fun k407 => fn_aload_n rl_L_travels_38 rfl (fn_get rl_L_travels_39 hp_1 rfl (fn_get rl_L_travels_42 hp_2 rfl (fn_iload rl_L_travels_45 rfl (fn_iconst rl_L_travels_47 (fn_isub rl_L_travels_48 (fn_virt (as := [.ref 3, .int (v4 - 1)]) (r := []) (ls' := [.ref 3, .int (v4 - 1)]) rl_L_travels_49 rfl hp_3 rfl rfl pl_P_landOn rfl rfl (k407)))))))) k409)) k0)))))))))))
set_option maxRecDepth 100000 in
set_option maxHeartbeats 4000000 in
theorem sg_L_travels_108r {L : Nat} {xs : Nat → Int32} {A V : Nat → Nat → Int32} {K : Nat → Option Nat} {T : am_H} {v : Option Int32} {h' : am_H} {v1 v2 v3 v4 v5 v6 r : Int32} (k0 :
    if r = v1 then (
      if v5 = 0 then (
        if v6 = 0 then (
          am_fin [(z_L_travels, 24, [.ref 1, .int v1, .int v2, .int v3, .int (v4 + 1), .int v5, .int v6], [])] (hp L xs A V K T) v h')
        else (
          am_fin [(z_L_travels, 24, [.ref 1, .int v1, .int v2, .int (v3 + 1), .int (v4 + 1), .int v5, .int v6], [])] (hp L xs A V K T) v h'))
      else (
        am_fin [(z_L_travels, 24, [.ref 1, .int v1, .int v2, .int (v3 + 1), .int (v4 + 1), .int v5, .int v6], [])] (hp L xs A V K T) v h'))
    else (
      am_fin [(z_L_travels, 24, [.ref 1, .int v1, .int v2, .int v3, .int (v4 + 1), .int v5, .int v6], [])] (hp L xs A V K T) v h')) : am_fin [(z_L_travels, 108, [.ref 1, .int v1, .int v2, .int v3, .int v4, .int v5, .int v6], [.int r])] (hp L xs A V K T) v h' :=
  fn_iload_n rl_L_travels_108 rfl (fn_icmp_ne rl_L_travels_109 (fun k414 => fn_iload rl_L_travels_112 rfl (fn_if_ne rl_L_travels_114 (fun k412 => fn_iload rl_L_travels_117 rfl (fn_if_eq rl_L_travels_119 (fun k410 => fn_iinc (ls' := [.ref 1, .int v1, .int v2, .int v3, .int (v4 + 1), .int v5, .int v6]) rl_L_travels_125 rfl rfl rfl (fn_goto rl_L_travels_128 (k410))) (fun k411 => fn_iinc (ls' := [.ref 1, .int v1, .int v2, .int (v3 + 1), .int v4, .int v5, .int v6]) rl_L_travels_122 rfl rfl rfl (fn_iinc (ls' := [.ref 1, .int v1, .int v2, .int (v3 + 1), .int (v4 + 1), .int v5, .int v6]) rl_L_travels_125 rfl rfl rfl (fn_goto rl_L_travels_128 (k411)))) k412)) (fun k413 => fn_iinc (ls' := [.ref 1, .int v1, .int v2, .int (v3 + 1), .int v4, .int v5, .int v6]) rl_L_travels_122 rfl rfl rfl (fn_iinc (ls' := [.ref 1, .int v1, .int v2, .int (v3 + 1), .int (v4 + 1), .int v5, .int v6]) rl_L_travels_125 rfl rfl rfl (fn_goto rl_L_travels_128 (k413)))) k414)) (fun k415 => fn_iinc (ls' := [.ref 1, .int v1, .int v2, .int v3, .int (v4 + 1), .int v5, .int v6]) rl_L_travels_125 rfl rfl rfl (fn_goto rl_L_travels_128 (k415))) k0)
set_option maxRecDepth 100000 in
set_option maxHeartbeats 4000000 in
theorem sg_L_travels_24b {L : Nat} {xs : Nat → Int32} {A V : Nat → Nat → Int32} {K : Nat → Option Nat} {T : am_H} {v : Option Int32} {h' : am_H} {v1 v2 v3 v4 v5 v6 : Int32} (k0 :
    if (((v2 * 360) + 360) - 1) < v4 then (
      v = some v3 ∧ h' = hp L xs A V K T)
    else (
      if v4 ≤ 0 then (
        if 1079 ≤ v4 then (
          am_fin [(z_P_landOn, 0, [.ref 3, .int v4], []), (z_L_travels, 108, [.ref 1, .int v1, .int v2, .int v3, .int v4, .int 0, .int 0], [])] (hp L xs A V K T) v h')
        else (
          am_fin [(z_P_landOn, 0, [.ref 3, .int (v4 + 1)], []), (z_L_travels, 85, [.ref 1, .int v1, .int v2, .int v3, .int v4, .int 0, .int v6], [])] (hp L xs A V K T) v h'))
      else (
        am_fin [(z_P_landOn, 0, [.ref 3, .int (v4 - 1)], []), (z_L_travels, 52, [.ref 1, .int v1, .int v2, .int v3, .int v4, .int v5, .int v6], [])] (hp L xs A V K T) v h'))) : am_fin [(z_L_travels, 24, [.ref 1, .int v1, .int v2, .int v3, .int v4, .int v5, .int v6], [])] (hp L xs A V K T) v h' :=
  fn_iload rl_L_travels_24 rfl (fn_iload_n rl_L_travels_26 rfl (fn_stat (as := [.int v2]) (r := [.int v4]) (ls' := [.int v2]) rl_L_travels_27 rfl rfl rfl rfl pl_L_lastOf rfl rfl (fn_iload_n rl_L_lastOf_0 rfl (fn_sipush rl_L_lastOf_1 (fn_imul rl_L_lastOf_4 (fn_sipush rl_L_lastOf_5 (fn_iadd rl_L_lastOf_8 (fn_iconst rl_L_lastOf_9 (fn_isub rl_L_lastOf_10 (fn_retci rl_L_lastOf_11 rfl (fn_icmp_gt rl_L_travels_30 (fun k420 => fn_iload_n rl_L_travels_131 rfl (fn_reti rl_L_travels_132 rfl k420)) (fun k421 => fn_iload rl_L_travels_33 rfl (fn_if_le rl_L_travels_35 (fun k418 => fn_iconst rl_L_travels_60 (fn_istore (ls' := [.ref 1, .int v1, .int v2, .int v3, .int v4, .int 0, .int v6]) rl_L_travels_61 rfl rfl (fn_iload rl_L_travels_63 rfl (fn_sipush rl_L_travels_65 (fn_icmp_ge rl_L_travels_68 (fun k416 => fn_iconst rl_L_travels_93 (fn_istore (ls' := [.ref 1, .int v1, .int v2, .int v3, .int v4, .int 0, .int 0]) rl_L_travels_94 rfl rfl (fn_aload_n rl_L_travels_96 rfl (fn_get rl_L_travels_97 hp_1 rfl (fn_get rl_L_travels_100 hp_2 rfl (fn_iload rl_L_travels_103 rfl (fn_virt (as := [.ref 3, .int v4]) (r := []) (ls' := [.ref 3, .int v4]) rl_L_travels_105 rfl hp_3 rfl rfl pl_P_landOn rfl rfl (k416)))))))) (fun k417 => fn_aload_n rl_L_travels_71 rfl (fn_get rl_L_travels_72 hp_1 rfl (fn_get rl_L_travels_75 hp_2 rfl (fn_iload rl_L_travels_78 rfl (fn_iconst rl_L_travels_80 (fn_iadd rl_L_travels_81 (fn_virt (as := [.ref 3, .int (v4 + 1)]) (r := []) (ls' := [.ref 3, .int (v4 + 1)]) rl_L_travels_82 rfl hp_3 rfl rfl pl_P_landOn rfl rfl (k417)))))))) k418))))) (fun k419 => fn_aload_n rl_L_travels_38 rfl (fn_get rl_L_travels_39 hp_1 rfl (fn_get rl_L_travels_42 hp_2 rfl (fn_iload rl_L_travels_45 rfl (fn_iconst rl_L_travels_47 (fn_isub rl_L_travels_48 (fn_virt (as := [.ref 3, .int (v4 - 1)]) (r := []) (ls' := [.ref 3, .int (v4 - 1)]) rl_L_travels_49 rfl hp_3 rfl rfl pl_P_landOn rfl rfl (k419)))))))) k421)) k0)))))))))))
set_option maxRecDepth 100000 in
set_option maxHeartbeats 4000000 in
theorem sg_L_travels_85r {L : Nat} {xs : Nat → Int32} {A V : Nat → Nat → Int32} {K : Nat → Option Nat} {T : am_H} {v : Option Int32} {h' : am_H} {v1 v2 v3 v4 v5 v6 r : Int32} (k0 :
    if r = v1 then (
      am_fin [(z_P_landOn, 0, [.ref 3, .int v4], []), (z_L_travels, 108, [.ref 1, .int v1, .int v2, .int v3, .int v4, .int v5, .int 0], [])] (hp L xs A V K T) v h')
    else (
      am_fin [(z_P_landOn, 0, [.ref 3, .int v4], []), (z_L_travels, 108, [.ref 1, .int v1, .int v2, .int v3, .int v4, .int v5, .int 1], [])] (hp L xs A V K T) v h')) : am_fin [(z_L_travels, 85, [.ref 1, .int v1, .int v2, .int v3, .int v4, .int v5, .int v6], [.int r])] (hp L xs A V K T) v h' :=
  fn_iload_n rl_L_travels_85 rfl (fn_icmp_eq rl_L_travels_86 (fun k422 => fn_iconst rl_L_travels_93 (fn_istore (ls' := [.ref 1, .int v1, .int v2, .int v3, .int v4, .int v5, .int 0]) rl_L_travels_94 rfl rfl (fn_aload_n rl_L_travels_96 rfl (fn_get rl_L_travels_97 hp_1 rfl (fn_get rl_L_travels_100 hp_2 rfl (fn_iload rl_L_travels_103 rfl (fn_virt (as := [.ref 3, .int v4]) (r := []) (ls' := [.ref 3, .int v4]) rl_L_travels_105 rfl hp_3 rfl rfl pl_P_landOn rfl rfl (k422)))))))) (fun k423 => fn_iconst rl_L_travels_89 (fn_goto rl_L_travels_90 (fn_istore (ls' := [.ref 1, .int v1, .int v2, .int v3, .int v4, .int v5, .int 1]) rl_L_travels_94 rfl rfl (fn_aload_n rl_L_travels_96 rfl (fn_get rl_L_travels_97 hp_1 rfl (fn_get rl_L_travels_100 hp_2 rfl (fn_iload rl_L_travels_103 rfl (fn_virt (as := [.ref 3, .int v4]) (r := []) (ls' := [.ref 3, .int v4]) rl_L_travels_105 rfl hp_3 rfl rfl pl_P_landOn rfl rfl (k423))))))))) k0)
set_option maxRecDepth 100000 in
set_option maxHeartbeats 4000000 in
theorem sg_L_travels_52r {L : Nat} {xs : Nat → Int32} {A V : Nat → Nat → Int32} {K : Nat → Option Nat} {T : am_H} {v : Option Int32} {h' : am_H} {v1 v2 v3 v4 v5 v6 r : Int32} (k0 :
    if r = v1 then (
      if 1079 ≤ v4 then (
        am_fin [(z_P_landOn, 0, [.ref 3, .int v4], []), (z_L_travels, 108, [.ref 1, .int v1, .int v2, .int v3, .int v4, .int 0, .int 0], [])] (hp L xs A V K T) v h')
      else (
        am_fin [(z_P_landOn, 0, [.ref 3, .int (v4 + 1)], []), (z_L_travels, 85, [.ref 1, .int v1, .int v2, .int v3, .int v4, .int 0, .int v6], [])] (hp L xs A V K T) v h'))
    else (
      if 1079 ≤ v4 then (
        am_fin [(z_P_landOn, 0, [.ref 3, .int v4], []), (z_L_travels, 108, [.ref 1, .int v1, .int v2, .int v3, .int v4, .int 1, .int 0], [])] (hp L xs A V K T) v h')
      else (
        am_fin [(z_P_landOn, 0, [.ref 3, .int (v4 + 1)], []), (z_L_travels, 85, [.ref 1, .int v1, .int v2, .int v3, .int v4, .int 1, .int v6], [])] (hp L xs A V K T) v h'))) : am_fin [(z_L_travels, 52, [.ref 1, .int v1, .int v2, .int v3, .int v4, .int v5, .int v6], [.int r])] (hp L xs A V K T) v h' :=
  fn_iload_n rl_L_travels_52 rfl (fn_icmp_eq rl_L_travels_53 (fun k428 => fn_iconst rl_L_travels_60 (fn_istore (ls' := [.ref 1, .int v1, .int v2, .int v3, .int v4, .int 0, .int v6]) rl_L_travels_61 rfl rfl (fn_iload rl_L_travels_63 rfl (fn_sipush rl_L_travels_65 (fn_icmp_ge rl_L_travels_68 (fun k424 => fn_iconst rl_L_travels_93 (fn_istore (ls' := [.ref 1, .int v1, .int v2, .int v3, .int v4, .int 0, .int 0]) rl_L_travels_94 rfl rfl (fn_aload_n rl_L_travels_96 rfl (fn_get rl_L_travels_97 hp_1 rfl (fn_get rl_L_travels_100 hp_2 rfl (fn_iload rl_L_travels_103 rfl (fn_virt (as := [.ref 3, .int v4]) (r := []) (ls' := [.ref 3, .int v4]) rl_L_travels_105 rfl hp_3 rfl rfl pl_P_landOn rfl rfl (k424)))))))) (fun k425 => fn_aload_n rl_L_travels_71 rfl (fn_get rl_L_travels_72 hp_1 rfl (fn_get rl_L_travels_75 hp_2 rfl (fn_iload rl_L_travels_78 rfl (fn_iconst rl_L_travels_80 (fn_iadd rl_L_travels_81 (fn_virt (as := [.ref 3, .int (v4 + 1)]) (r := []) (ls' := [.ref 3, .int (v4 + 1)]) rl_L_travels_82 rfl hp_3 rfl rfl pl_P_landOn rfl rfl (k425)))))))) k428))))) (fun k429 => fn_iconst rl_L_travels_56 (fn_goto rl_L_travels_57 (fn_istore (ls' := [.ref 1, .int v1, .int v2, .int v3, .int v4, .int 1, .int v6]) rl_L_travels_61 rfl rfl (fn_iload rl_L_travels_63 rfl (fn_sipush rl_L_travels_65 (fn_icmp_ge rl_L_travels_68 (fun k426 => fn_iconst rl_L_travels_93 (fn_istore (ls' := [.ref 1, .int v1, .int v2, .int v3, .int v4, .int 1, .int 0]) rl_L_travels_94 rfl rfl (fn_aload_n rl_L_travels_96 rfl (fn_get rl_L_travels_97 hp_1 rfl (fn_get rl_L_travels_100 hp_2 rfl (fn_iload rl_L_travels_103 rfl (fn_virt (as := [.ref 3, .int v4]) (r := []) (ls' := [.ref 3, .int v4]) rl_L_travels_105 rfl hp_3 rfl rfl pl_P_landOn rfl rfl (k426)))))))) (fun k427 => fn_aload_n rl_L_travels_71 rfl (fn_get rl_L_travels_72 hp_1 rfl (fn_get rl_L_travels_75 hp_2 rfl (fn_iload rl_L_travels_78 rfl (fn_iconst rl_L_travels_80 (fn_iadd rl_L_travels_81 (fn_virt (as := [.ref 3, .int (v4 + 1)]) (r := []) (ls' := [.ref 3, .int (v4 + 1)]) rl_L_travels_82 rfl hp_3 rfl rfl pl_P_landOn rfl rfl (k427)))))))) k429)))))) k0)
set_option maxRecDepth 100000 in
set_option maxHeartbeats 4000000 in
theorem sg_L_travels_85rb {L : Nat} {xs : Nat → Int32} {A V : Nat → Nat → Int32} {K : Nat → Option Nat} {T : am_H} {v : Option Int32} {h' : am_H} {v1 v2 v3 v4 v5 r : Int32} (k0 :
    if r = v1 then (
      am_fin [(z_P_landOn, 0, [.ref 3, .int v4], []), (z_L_travels, 108, [.ref 1, .int v1, .int v2, .int v3, .int v4, .int v5, .int 0], [])] (hp L xs A V K T) v h')
    else (
      am_fin [(z_P_landOn, 0, [.ref 3, .int v4], []), (z_L_travels, 108, [.ref 1, .int v1, .int v2, .int v3, .int v4, .int v5, .int 1], [])] (hp L xs A V K T) v h')) : am_fin [(z_L_travels, 85, [.ref 1, .int v1, .int v2, .int v3, .int v4, .int v5, .null], [.int r])] (hp L xs A V K T) v h' :=
  fn_iload_n rl_L_travels_85 rfl (fn_icmp_eq rl_L_travels_86 (fun k430 => fn_iconst rl_L_travels_93 (fn_istore (ls' := [.ref 1, .int v1, .int v2, .int v3, .int v4, .int v5, .int 0]) rl_L_travels_94 rfl rfl (fn_aload_n rl_L_travels_96 rfl (fn_get rl_L_travels_97 hp_1 rfl (fn_get rl_L_travels_100 hp_2 rfl (fn_iload rl_L_travels_103 rfl (fn_virt (as := [.ref 3, .int v4]) (r := []) (ls' := [.ref 3, .int v4]) rl_L_travels_105 rfl hp_3 rfl rfl pl_P_landOn rfl rfl (k430)))))))) (fun k431 => fn_iconst rl_L_travels_89 (fn_goto rl_L_travels_90 (fn_istore (ls' := [.ref 1, .int v1, .int v2, .int v3, .int v4, .int v5, .int 1]) rl_L_travels_94 rfl rfl (fn_aload_n rl_L_travels_96 rfl (fn_get rl_L_travels_97 hp_1 rfl (fn_get rl_L_travels_100 hp_2 rfl (fn_iload rl_L_travels_103 rfl (fn_virt (as := [.ref 3, .int v4]) (r := []) (ls' := [.ref 3, .int v4]) rl_L_travels_105 rfl hp_3 rfl rfl pl_P_landOn rfl rfl (k431))))))))) k0)
set_option maxRecDepth 100000 in
set_option maxHeartbeats 4000000 in
theorem sg_L_travels_52rb {L : Nat} {xs : Nat → Int32} {A V : Nat → Nat → Int32} {K : Nat → Option Nat} {T : am_H} {v : Option Int32} {h' : am_H} {v1 v2 v3 v4 r : Int32} (k0 :
    if r = v1 then (
      if 1079 ≤ v4 then (
        am_fin [(z_P_landOn, 0, [.ref 3, .int v4], []), (z_L_travels, 108, [.ref 1, .int v1, .int v2, .int v3, .int v4, .int 0, .int 0], [])] (hp L xs A V K T) v h')
      else (
        am_fin [(z_P_landOn, 0, [.ref 3, .int (v4 + 1)], []), (z_L_travels, 85, [.ref 1, .int v1, .int v2, .int v3, .int v4, .int 0, .null], [])] (hp L xs A V K T) v h'))
    else (
      if 1079 ≤ v4 then (
        am_fin [(z_P_landOn, 0, [.ref 3, .int v4], []), (z_L_travels, 108, [.ref 1, .int v1, .int v2, .int v3, .int v4, .int 1, .int 0], [])] (hp L xs A V K T) v h')
      else (
        am_fin [(z_P_landOn, 0, [.ref 3, .int (v4 + 1)], []), (z_L_travels, 85, [.ref 1, .int v1, .int v2, .int v3, .int v4, .int 1, .null], [])] (hp L xs A V K T) v h'))) : am_fin [(z_L_travels, 52, [.ref 1, .int v1, .int v2, .int v3, .int v4, .null, .null], [.int r])] (hp L xs A V K T) v h' :=
  fn_iload_n rl_L_travels_52 rfl (fn_icmp_eq rl_L_travels_53 (fun k436 => fn_iconst rl_L_travels_60 (fn_istore (ls' := [.ref 1, .int v1, .int v2, .int v3, .int v4, .int 0, .null]) rl_L_travels_61 rfl rfl (fn_iload rl_L_travels_63 rfl (fn_sipush rl_L_travels_65 (fn_icmp_ge rl_L_travels_68 (fun k432 => fn_iconst rl_L_travels_93 (fn_istore (ls' := [.ref 1, .int v1, .int v2, .int v3, .int v4, .int 0, .int 0]) rl_L_travels_94 rfl rfl (fn_aload_n rl_L_travels_96 rfl (fn_get rl_L_travels_97 hp_1 rfl (fn_get rl_L_travels_100 hp_2 rfl (fn_iload rl_L_travels_103 rfl (fn_virt (as := [.ref 3, .int v4]) (r := []) (ls' := [.ref 3, .int v4]) rl_L_travels_105 rfl hp_3 rfl rfl pl_P_landOn rfl rfl (k432)))))))) (fun k433 => fn_aload_n rl_L_travels_71 rfl (fn_get rl_L_travels_72 hp_1 rfl (fn_get rl_L_travels_75 hp_2 rfl (fn_iload rl_L_travels_78 rfl (fn_iconst rl_L_travels_80 (fn_iadd rl_L_travels_81 (fn_virt (as := [.ref 3, .int (v4 + 1)]) (r := []) (ls' := [.ref 3, .int (v4 + 1)]) rl_L_travels_82 rfl hp_3 rfl rfl pl_P_landOn rfl rfl (k433)))))))) k436))))) (fun k437 => fn_iconst rl_L_travels_56 (fn_goto rl_L_travels_57 (fn_istore (ls' := [.ref 1, .int v1, .int v2, .int v3, .int v4, .int 1, .null]) rl_L_travels_61 rfl rfl (fn_iload rl_L_travels_63 rfl (fn_sipush rl_L_travels_65 (fn_icmp_ge rl_L_travels_68 (fun k434 => fn_iconst rl_L_travels_93 (fn_istore (ls' := [.ref 1, .int v1, .int v2, .int v3, .int v4, .int 1, .int 0]) rl_L_travels_94 rfl rfl (fn_aload_n rl_L_travels_96 rfl (fn_get rl_L_travels_97 hp_1 rfl (fn_get rl_L_travels_100 hp_2 rfl (fn_iload rl_L_travels_103 rfl (fn_virt (as := [.ref 3, .int v4]) (r := []) (ls' := [.ref 3, .int v4]) rl_L_travels_105 rfl hp_3 rfl rfl pl_P_landOn rfl rfl (k434)))))))) (fun k435 => fn_aload_n rl_L_travels_71 rfl (fn_get rl_L_travels_72 hp_1 rfl (fn_get rl_L_travels_75 hp_2 rfl (fn_iload rl_L_travels_78 rfl (fn_iconst rl_L_travels_80 (fn_iadd rl_L_travels_81 (fn_virt (as := [.ref 3, .int (v4 + 1)]) (r := []) (ls' := [.ref 3, .int (v4 + 1)]) rl_L_travels_82 rfl hp_3 rfl rfl pl_P_landOn rfl rfl (k435)))))))) k437)))))) k0)
set_option maxRecDepth 100000 in
set_option maxHeartbeats 4000000 in
theorem sg_L_most_0 {L : Nat} {xs : Nat → Int32} {A V : Nat → Nat → Int32} {K : Nat → Option Nat} {T : am_H} {v : Option Int32} {h' : am_H} {a1 a2 a3 : Int32} (k0 :
    if a1 < 0 then (
      v = some (-1) ∧ h' = hp L xs A V K T)
    else (
      if 5 < a1 then (
        v = some (-1) ∧ h' = hp L xs A V K T)
      else (
        if a2 < 0 then (
          v = some (-1) ∧ h' = hp L xs A V K T)
        else (
          if 2 < a2 then (
            v = some (-1) ∧ h' = hp L xs A V K T)
          else (
            if a3 < 0 then (
              v = some (-1) ∧ h' = hp L xs A V K T)
            else (
              if 2 < a3 then (
                v = some (-1) ∧ h' = hp L xs A V K T)
              else (
                am_fin [(z_J_weigh, 0, [.ref 26, .ref 3], []), (z_L_most, 37, [.ref 1, .int a1, .int a2, .int a3], [])] (hp L xs A V K T) v h'))))))) : am_fin [(z_L_most, 0, [.ref 1, .int a1, .int a2, .int a3], [])] (hp L xs A V K T) v h' :=
  fn_iload_n rl_L_most_0 rfl (fn_stat (as := [.int a1]) (r := []) (ls' := [.int a1]) rl_L_most_1 rfl rfl rfl rfl pl_L_isLand rfl rfl (fn_iload_n rl_L_isLand_0 rfl (fn_iconst rl_L_isLand_1 (fn_iconst rl_L_isLand_2 (fn_stat (as := [.int a1, .int 0, .int 5]) (r := []) (ls' := [.int a1, .int 0, .int 5]) rl_L_isLand_3 rfl rfl rfl rfl pl_L_isAmong rfl rfl (fn_iload_n rl_L_isAmong_0 rfl (fn_iload_n rl_L_isAmong_1 rfl (fn_icmp_lt rl_L_isAmong_2 (fun k448 => fn_iconst rl_L_isAmong_14 (fn_retci rl_L_isAmong_15 rfl (fn_retci rl_L_isLand_6 rfl (fn_if_eq_t rl_L_most_4 (by decide +kernel) (fn_iconst rl_L_most_21 (fn_reti rl_L_most_22 rfl k448)))))) (fun k449 => fn_iload_n rl_L_isAmong_5 rfl (fn_iload_n rl_L_isAmong_6 rfl (fn_icmp_gt rl_L_isAmong_7 (fun k446 => fn_iconst rl_L_isAmong_14 (fn_retci rl_L_isAmong_15 rfl (fn_retci rl_L_isLand_6 rfl (fn_if_eq_t rl_L_most_4 (by decide +kernel) (fn_iconst rl_L_most_21 (fn_reti rl_L_most_22 rfl k446)))))) (fun k447 => fn_iconst rl_L_isAmong_10 (fn_goto rl_L_isAmong_11 (fn_retci rl_L_isAmong_15 rfl (fn_retci rl_L_isLand_6 rfl (fn_if_eq_f rl_L_most_4 (by decide +kernel) (fn_iload_n rl_L_most_7 rfl (fn_stat (as := [.int a2]) (r := []) (ls' := [.int a2]) rl_L_most_8 rfl rfl rfl rfl pl_L_isSort rfl rfl (fn_iload_n rl_L_isSort_0 rfl (fn_iconst rl_L_isSort_1 (fn_iconst rl_L_isSort_2 (fn_stat (as := [.int a2, .int 0, .int 2]) (r := []) (ls' := [.int a2, .int 0, .int 2]) rl_L_isSort_3 rfl rfl rfl rfl pl_L_isAmong rfl rfl (fn_iload_n rl_L_isAmong_0 rfl (fn_iload_n rl_L_isAmong_1 rfl (fn_icmp_lt rl_L_isAmong_2 (fun k444 => fn_iconst rl_L_isAmong_14 (fn_retci rl_L_isAmong_15 rfl (fn_retci rl_L_isSort_6 rfl (fn_if_eq_t rl_L_most_11 (by decide +kernel) (fn_iconst rl_L_most_21 (fn_reti rl_L_most_22 rfl k444)))))) (fun k445 => fn_iload_n rl_L_isAmong_5 rfl (fn_iload_n rl_L_isAmong_6 rfl (fn_icmp_gt rl_L_isAmong_7 (fun k442 => fn_iconst rl_L_isAmong_14 (fn_retci rl_L_isAmong_15 rfl (fn_retci rl_L_isSort_6 rfl (fn_if_eq_t rl_L_most_11 (by decide +kernel) (fn_iconst rl_L_most_21 (fn_reti rl_L_most_22 rfl k442)))))) (fun k443 => fn_iconst rl_L_isAmong_10 (fn_goto rl_L_isAmong_11 (fn_retci rl_L_isAmong_15 rfl (fn_retci rl_L_isSort_6 rfl (fn_if_eq_f rl_L_most_11 (by decide +kernel) (fn_iload_n rl_L_most_14 rfl (fn_stat (as := [.int a3]) (r := []) (ls' := [.int a3]) rl_L_most_15 rfl rfl rfl rfl pl_L_isYear rfl rfl (fn_iload_n rl_L_isYear_0 rfl (fn_iconst rl_L_isYear_1 (fn_iconst rl_L_isYear_2 (fn_stat (as := [.int a3, .int 0, .int 2]) (r := []) (ls' := [.int a3, .int 0, .int 2]) rl_L_isYear_3 rfl rfl rfl rfl pl_L_isAmong rfl rfl (fn_iload_n rl_L_isAmong_0 rfl (fn_iload_n rl_L_isAmong_1 rfl (fn_icmp_lt rl_L_isAmong_2 (fun k440 => fn_iconst rl_L_isAmong_14 (fn_retci rl_L_isAmong_15 rfl (fn_retci rl_L_isYear_6 rfl (fn_if_ne_t rl_L_most_18 (by decide +kernel) (fn_iconst rl_L_most_21 (fn_reti rl_L_most_22 rfl k440)))))) (fun k441 => fn_iload_n rl_L_isAmong_5 rfl (fn_iload_n rl_L_isAmong_6 rfl (fn_icmp_gt rl_L_isAmong_7 (fun k438 => fn_iconst rl_L_isAmong_14 (fn_retci rl_L_isAmong_15 rfl (fn_retci rl_L_isYear_6 rfl (fn_if_ne_t rl_L_most_18 (by decide +kernel) (fn_iconst rl_L_most_21 (fn_reti rl_L_most_22 rfl k438)))))) (fun k439 => fn_iconst rl_L_isAmong_10 (fn_goto rl_L_isAmong_11 (fn_retci rl_L_isAmong_15 rfl (fn_retci rl_L_isYear_6 rfl (fn_if_ne_f rl_L_most_18 (by decide +kernel) (fn_aload_n rl_L_most_23 rfl (fn_get rl_L_most_24 hp_1 rfl (fn_aload_n rl_L_most_27 rfl (fn_get rl_L_most_28 hp_1 rfl (fn_get rl_L_most_31 hp_2 rfl (fn_virt (as := [.ref 26, .ref 3]) (r := []) (ls' := [.ref 26, .ref 3]) rl_L_most_34 rfl hp_26 rfl rfl pl_J_weigh rfl rfl (k439)))))))))))) k441))) k443)))))))))))))) k445))) k447)))))))))))))) k449))) k0))))))))
set_option maxRecDepth 100000 in
set_option maxHeartbeats 4000000 in
theorem sg_L_most_37r {L : Nat} {xs : Nat → Int32} {A V : Nat → Nat → Int32} {K : Nat → Option Nat} {T : am_H} {v : Option Int32} {h' : am_H} {v1 v2 v3 : Int32} (k0 :
    am_fin [(z_J_greatest, 0, [.ref 26, .int v1, .int v2, .int v3, .null, .null, .null], []), (z_L_most, 47, [.ref 1, .int v1, .int v2, .int v3], [])] (hp L xs A V K T) v h') : am_fin [(z_L_most, 37, [.ref 1, .int v1, .int v2, .int v3], [])] (hp L xs A V K T) v h' :=
  fn_aload_n rl_L_most_37 rfl (fn_get rl_L_most_38 hp_1 rfl (fn_iload_n rl_L_most_41 rfl (fn_iload_n rl_L_most_42 rfl (fn_iload_n rl_L_most_43 rfl (fn_virt (as := [.ref 26, .int v1, .int v2, .int v3]) (r := []) (ls' := [.ref 26, .int v1, .int v2, .int v3, .null, .null, .null]) rl_L_most_44 rfl hp_26 rfl rfl pl_J_greatest rfl rfl (k0))))))
set_option maxRecDepth 100000 in
set_option maxHeartbeats 4000000 in
theorem sg_L_most_47r {L : Nat} {xs : Nat → Int32} {A V : Nat → Nat → Int32} {K : Nat → Option Nat} {T : am_H} {v : Option Int32} {h' : am_H} {v1 v2 v3 r : Int32} (k0 :
    v = some r ∧ h' = hp L xs A V K T) : am_fin [(z_L_most, 47, [.ref 1, .int v1, .int v2, .int v3], [.int r])] (hp L xs A V K T) v h' :=
  fn_reti rl_L_most_47 rfl k0
set_option maxRecDepth 100000 in
set_option maxHeartbeats 4000000 in
theorem sg_L_tight_0 {L : Nat} {xs : Nat → Int32} {A V : Nat → Nat → Int32} {K : Nat → Option Nat} {T : am_H} {v : Option Int32} {h' : am_H} {a1 a2 a3 : Int32} (k0 :
    if a1 < 0 then (
      v = some (-1) ∧ h' = hp L xs A V K T)
    else (
      if 5 < a1 then (
        v = some (-1) ∧ h' = hp L xs A V K T)
      else (
        if a2 < 1 then (
          v = some (-1) ∧ h' = hp L xs A V K T)
        else (
          if 1080 < a2 then (
            v = some (-1) ∧ h' = hp L xs A V K T)
          else (
            if a3 < 0 then (
              v = some (-1) ∧ h' = hp L xs A V K T)
            else (
              if 1 < a3 then (
                v = some (-1) ∧ h' = hp L xs A V K T)
              else (
                am_fin [(z_O_read, 0, [.ref 30, .ref 3, .int a1, .null], []), (z_L_tight, 44, [.ref 1, .int a1, .int a2, .int a3, .null, .null, .null, .null], [])] (hp L xs A V K T) v h'))))))) : am_fin [(z_L_tight, 0, [.ref 1, .int a1, .int a2, .int a3, .null, .null, .null, .null], [])] (hp L xs A V K T) v h' :=
  fn_iload_n rl_L_tight_0 rfl (fn_stat (as := [.int a1]) (r := []) (ls' := [.int a1]) rl_L_tight_1 rfl rfl rfl rfl pl_L_isLand rfl rfl (fn_iload_n rl_L_isLand_0 rfl (fn_iconst rl_L_isLand_1 (fn_iconst rl_L_isLand_2 (fn_stat (as := [.int a1, .int 0, .int 5]) (r := []) (ls' := [.int a1, .int 0, .int 5]) rl_L_isLand_3 rfl rfl rfl rfl pl_L_isAmong rfl rfl (fn_iload_n rl_L_isAmong_0 rfl (fn_iload_n rl_L_isAmong_1 rfl (fn_icmp_lt rl_L_isAmong_2 (fun k460 => fn_iconst rl_L_isAmong_14 (fn_retci rl_L_isAmong_15 rfl (fn_retci rl_L_isLand_6 rfl (fn_if_eq_t rl_L_tight_4 (by decide +kernel) (fn_iconst rl_L_tight_27 (fn_reti rl_L_tight_28 rfl k460)))))) (fun k461 => fn_iload_n rl_L_isAmong_5 rfl (fn_iload_n rl_L_isAmong_6 rfl (fn_icmp_gt rl_L_isAmong_7 (fun k458 => fn_iconst rl_L_isAmong_14 (fn_retci rl_L_isAmong_15 rfl (fn_retci rl_L_isLand_6 rfl (fn_if_eq_t rl_L_tight_4 (by decide +kernel) (fn_iconst rl_L_tight_27 (fn_reti rl_L_tight_28 rfl k458)))))) (fun k459 => fn_iconst rl_L_isAmong_10 (fn_goto rl_L_isAmong_11 (fn_retci rl_L_isAmong_15 rfl (fn_retci rl_L_isLand_6 rfl (fn_if_eq_f rl_L_tight_4 (by decide +kernel) (fn_iload_n rl_L_tight_7 rfl (fn_iconst rl_L_tight_8 (fn_sipush rl_L_tight_9 (fn_stat (as := [.int a2, .int 1, .int 1080]) (r := []) (ls' := [.int a2, .int 1, .int 1080]) rl_L_tight_12 rfl rfl rfl rfl pl_L_isAmong rfl rfl (fn_iload_n rl_L_isAmong_0 rfl (fn_iload_n rl_L_isAmong_1 rfl (fn_icmp_lt rl_L_isAmong_2 (fun k456 => fn_iconst rl_L_isAmong_14 (fn_retci rl_L_isAmong_15 rfl (fn_if_eq_t rl_L_tight_15 (by decide +kernel) (fn_iconst rl_L_tight_27 (fn_reti rl_L_tight_28 rfl k456))))) (fun k457 => fn_iload_n rl_L_isAmong_5 rfl (fn_iload_n rl_L_isAmong_6 rfl (fn_icmp_gt rl_L_isAmong_7 (fun k454 => fn_iconst rl_L_isAmong_14 (fn_retci rl_L_isAmong_15 rfl (fn_if_eq_t rl_L_tight_15 (by decide +kernel) (fn_iconst rl_L_tight_27 (fn_reti rl_L_tight_28 rfl k454))))) (fun k455 => fn_iconst rl_L_isAmong_10 (fn_goto rl_L_isAmong_11 (fn_retci rl_L_isAmong_15 rfl (fn_if_eq_f rl_L_tight_15 (by decide +kernel) (fn_iload_n rl_L_tight_18 rfl (fn_iconst rl_L_tight_19 (fn_iconst rl_L_tight_20 (fn_stat (as := [.int a3, .int 0, .int 1]) (r := []) (ls' := [.int a3, .int 0, .int 1]) rl_L_tight_21 rfl rfl rfl rfl pl_L_isAmong rfl rfl (fn_iload_n rl_L_isAmong_0 rfl (fn_iload_n rl_L_isAmong_1 rfl (fn_icmp_lt rl_L_isAmong_2 (fun k452 => fn_iconst rl_L_isAmong_14 (fn_retci rl_L_isAmong_15 rfl (fn_if_ne_t rl_L_tight_24 (by decide +kernel) (fn_iconst rl_L_tight_27 (fn_reti rl_L_tight_28 rfl k452))))) (fun k453 => fn_iload_n rl_L_isAmong_5 rfl (fn_iload_n rl_L_isAmong_6 rfl (fn_icmp_gt rl_L_isAmong_7 (fun k450 => fn_iconst rl_L_isAmong_14 (fn_retci rl_L_isAmong_15 rfl (fn_if_ne_t rl_L_tight_24 (by decide +kernel) (fn_iconst rl_L_tight_27 (fn_reti rl_L_tight_28 rfl k450))))) (fun k451 => fn_iconst rl_L_isAmong_10 (fn_goto rl_L_isAmong_11 (fn_retci rl_L_isAmong_15 rfl (fn_if_ne_f rl_L_tight_24 (by decide +kernel) (fn_aload_n rl_L_tight_29 rfl (fn_get rl_L_tight_30 hp_1 rfl (fn_aload_n rl_L_tight_33 rfl (fn_get rl_L_tight_34 hp_1 rfl (fn_get rl_L_tight_37 hp_2 rfl (fn_iload_n rl_L_tight_40 rfl (fn_virt (as := [.ref 30, .ref 3, .int a1]) (r := []) (ls' := [.ref 30, .ref 3, .int a1, .null]) rl_L_tight_41 rfl hp_30 rfl rfl pl_O_read rfl rfl (k451)))))))))))) k453))) k455))))))))))) k457))) k459)))))))))))) k461))) k0))))))))
set_option maxRecDepth 100000 in
set_option maxHeartbeats 4000000 in
theorem sg_L_tight_44r {L : Nat} {xs : Nat → Int32} {A V : Nat → Nat → Int32} {K : Nat → Option Nat} {T : am_H} {v : Option Int32} {h' : am_H} {v1 v2 v3 : Int32} (k0 :
    am_fin [(z_L_tight, 54, [.ref 1, .int v1, .int v2, .int v3, .int 0, .int (-2), .int 0, .null], [])] (hp L xs A V K T) v h') : am_fin [(z_L_tight, 44, [.ref 1, .int v1, .int v2, .int v3, .null, .null, .null, .null], [])] (hp L xs A V K T) v h' :=
  fn_iconst rl_L_tight_44 (fn_istore (ls' := [.ref 1, .int v1, .int v2, .int v3, .int 0, .null, .null, .null]) rl_L_tight_45 rfl rfl (fn_bipush rl_L_tight_47 (fn_istore (ls' := [.ref 1, .int v1, .int v2, .int v3, .int 0, .int (-2), .null, .null]) rl_L_tight_49 rfl rfl (fn_iconst rl_L_tight_51 (fn_istore (ls' := [.ref 1, .int v1, .int v2, .int v3, .int 0, .int (-2), .int 0, .null]) rl_L_tight_52 rfl rfl (k0))))))
set_option maxRecDepth 100000 in
set_option maxHeartbeats 4000000 in
theorem sg_L_tight_54 {L : Nat} {xs : Nat → Int32} {A V : Nat → Nat → Int32} {K : Nat → Option Nat} {T : am_H} {v : Option Int32} {h' : am_H} {v1 v2 v3 v4 v5 v6 : Int32} (k0 :
    if 1080 ≤ v6 then (
      if v3 = 0 then (
        v = some v4 ∧ h' = hp L xs A V K T)
      else (
        v = some v5 ∧ h' = hp L xs A V K T))
    else (
      am_fin [(z_O_between, 0, [.ref 30, .int ((v6 - v2) + 1), .int v6, .null], []), (z_L_tight, 77, [.ref 1, .int v1, .int v2, .int v3, .int v4, .int v5, .int v6, .null], [])] (hp L xs A V K T) v h')) : am_fin [(z_L_tight, 54, [.ref 1, .int v1, .int v2, .int v3, .int v4, .int v5, .int v6, .null], [])] (hp L xs A V K T) v h' :=
  fn_iload rl_L_tight_54 rfl (fn_sipush rl_L_tight_56 (fn_icmp_ge rl_L_tight_59 (fun k464 => fn_iload_n rl_L_tight_100 rfl (fn_if_ne rl_L_tight_101 (fun k462 => fn_iload rl_L_tight_104 rfl (fn_goto rl_L_tight_106 (fn_reti rl_L_tight_111 rfl k462))) (fun k463 => fn_iload rl_L_tight_109 rfl (fn_reti rl_L_tight_111 rfl k463)) k464)) (fun k465 => fn_aload_n rl_L_tight_62 rfl (fn_get rl_L_tight_63 hp_1 rfl (fn_iload rl_L_tight_66 rfl (fn_iload_n rl_L_tight_68 rfl (fn_isub rl_L_tight_69 (fn_iconst rl_L_tight_70 (fn_iadd rl_L_tight_71 (fn_iload rl_L_tight_72 rfl (fn_virt (as := [.ref 30, .int ((v6 - v2) + 1), .int v6]) (r := []) (ls' := [.ref 30, .int ((v6 - v2) + 1), .int v6, .null]) rl_L_tight_74 rfl hp_30 rfl rfl pl_O_between rfl rfl (k465)))))))))) k0))
set_option maxRecDepth 100000 in
set_option maxHeartbeats 4000000 in
theorem sg_L_tight_77r {L : Nat} {xs : Nat → Int32} {A V : Nat → Nat → Int32} {K : Nat → Option Nat} {T : am_H} {v : Option Int32} {h' : am_H} {v1 v2 v3 v4 v5 v6 r : Int32} (k0 :
    if r ≤ v4 then (
      am_fin [(z_L_tight, 54, [.ref 1, .int v1, .int v2, .int v3, .int v4, .int v5, .int (v6 + 1), .int r], [])] (hp L xs A V K T) v h')
    else (
      am_fin [(z_L_tight, 54, [.ref 1, .int v1, .int v2, .int v3, .int r, .int v6, .int (v6 + 1), .int r], [])] (hp L xs A V K T) v h')) : am_fin [(z_L_tight, 77, [.ref 1, .int v1, .int v2, .int v3, .int v4, .int v5, .int v6, .null], [.int r])] (hp L xs A V K T) v h' :=
  fn_istore (ls' := [.ref 1, .int v1, .int v2, .int v3, .int v4, .int v5, .int v6, .int r]) rl_L_tight_77 rfl rfl (fn_iload rl_L_tight_79 rfl (fn_iload rl_L_tight_81 rfl (fn_icmp_le rl_L_tight_83 (fun k466 => fn_iinc (ls' := [.ref 1, .int v1, .int v2, .int v3, .int v4, .int v5, .int (v6 + 1), .int r]) rl_L_tight_94 rfl rfl rfl (fn_goto rl_L_tight_97 (k466))) (fun k467 => fn_iload rl_L_tight_86 rfl (fn_istore (ls' := [.ref 1, .int v1, .int v2, .int v3, .int r, .int v5, .int v6, .int r]) rl_L_tight_88 rfl rfl (fn_iload rl_L_tight_90 rfl (fn_istore (ls' := [.ref 1, .int v1, .int v2, .int v3, .int r, .int v6, .int v6, .int r]) rl_L_tight_92 rfl rfl (fn_iinc (ls' := [.ref 1, .int v1, .int v2, .int v3, .int r, .int v6, .int (v6 + 1), .int r]) rl_L_tight_94 rfl rfl rfl (fn_goto rl_L_tight_97 (k467))))))) k0)))
set_option maxRecDepth 100000 in
set_option maxHeartbeats 4000000 in
theorem sg_L_tight_54b {L : Nat} {xs : Nat → Int32} {A V : Nat → Nat → Int32} {K : Nat → Option Nat} {T : am_H} {v : Option Int32} {h' : am_H} {v1 v2 v3 v4 v5 v6 v7 : Int32} (k0 :
    if 1080 ≤ v6 then (
      if v3 = 0 then (
        v = some v4 ∧ h' = hp L xs A V K T)
      else (
        v = some v5 ∧ h' = hp L xs A V K T))
    else (
      am_fin [(z_O_between, 0, [.ref 30, .int ((v6 - v2) + 1), .int v6, .null], []), (z_L_tight, 77, [.ref 1, .int v1, .int v2, .int v3, .int v4, .int v5, .int v6, .int v7], [])] (hp L xs A V K T) v h')) : am_fin [(z_L_tight, 54, [.ref 1, .int v1, .int v2, .int v3, .int v4, .int v5, .int v6, .int v7], [])] (hp L xs A V K T) v h' :=
  fn_iload rl_L_tight_54 rfl (fn_sipush rl_L_tight_56 (fn_icmp_ge rl_L_tight_59 (fun k470 => fn_iload_n rl_L_tight_100 rfl (fn_if_ne rl_L_tight_101 (fun k468 => fn_iload rl_L_tight_104 rfl (fn_goto rl_L_tight_106 (fn_reti rl_L_tight_111 rfl k468))) (fun k469 => fn_iload rl_L_tight_109 rfl (fn_reti rl_L_tight_111 rfl k469)) k470)) (fun k471 => fn_aload_n rl_L_tight_62 rfl (fn_get rl_L_tight_63 hp_1 rfl (fn_iload rl_L_tight_66 rfl (fn_iload_n rl_L_tight_68 rfl (fn_isub rl_L_tight_69 (fn_iconst rl_L_tight_70 (fn_iadd rl_L_tight_71 (fn_iload rl_L_tight_72 rfl (fn_virt (as := [.ref 30, .int ((v6 - v2) + 1), .int v6]) (r := []) (ls' := [.ref 30, .int ((v6 - v2) + 1), .int v6, .null]) rl_L_tight_74 rfl hp_30 rfl rfl pl_O_between rfl rfl (k471)))))))))) k0))
set_option maxRecDepth 100000 in
set_option maxHeartbeats 4000000 in
theorem sg_L_tight_77rb {L : Nat} {xs : Nat → Int32} {A V : Nat → Nat → Int32} {K : Nat → Option Nat} {T : am_H} {v : Option Int32} {h' : am_H} {v1 v2 v3 v4 v5 v6 v7 r : Int32} (k0 :
    if r ≤ v4 then (
      am_fin [(z_L_tight, 54, [.ref 1, .int v1, .int v2, .int v3, .int v4, .int v5, .int (v6 + 1), .int r], [])] (hp L xs A V K T) v h')
    else (
      am_fin [(z_L_tight, 54, [.ref 1, .int v1, .int v2, .int v3, .int r, .int v6, .int (v6 + 1), .int r], [])] (hp L xs A V K T) v h')) : am_fin [(z_L_tight, 77, [.ref 1, .int v1, .int v2, .int v3, .int v4, .int v5, .int v6, .int v7], [.int r])] (hp L xs A V K T) v h' :=
  fn_istore (ls' := [.ref 1, .int v1, .int v2, .int v3, .int v4, .int v5, .int v6, .int r]) rl_L_tight_77 rfl rfl (fn_iload rl_L_tight_79 rfl (fn_iload rl_L_tight_81 rfl (fn_icmp_le rl_L_tight_83 (fun k472 => fn_iinc (ls' := [.ref 1, .int v1, .int v2, .int v3, .int v4, .int v5, .int (v6 + 1), .int r]) rl_L_tight_94 rfl rfl rfl (fn_goto rl_L_tight_97 (k472))) (fun k473 => fn_iload rl_L_tight_86 rfl (fn_istore (ls' := [.ref 1, .int v1, .int v2, .int v3, .int r, .int v5, .int v6, .int r]) rl_L_tight_88 rfl rfl (fn_iload rl_L_tight_90 rfl (fn_istore (ls' := [.ref 1, .int v1, .int v2, .int v3, .int r, .int v6, .int v6, .int r]) rl_L_tight_92 rfl rfl (fn_iinc (ls' := [.ref 1, .int v1, .int v2, .int v3, .int r, .int v6, .int (v6 + 1), .int r]) rl_L_tight_94 rfl rfl rfl (fn_goto rl_L_tight_97 (k473))))))) k0)))
set_option maxRecDepth 100000 in
set_option maxHeartbeats 4000000 in
theorem sg_L_rank_0 {L : Nat} {xs : Nat → Int32} {A V : Nat → Nat → Int32} {K : Nat → Option Nat} {T : am_H} {v : Option Int32} {h' : am_H} {a1 a2 : Int32} (k0 :
    if a1 < 0 then (
      v = some (-1) ∧ h' = hp L xs A V K T)
    else (
      if 2 < a1 then (
        v = some (-1) ∧ h' = hp L xs A V K T)
      else (
        if a2 < 0 then (
          v = some (-1) ∧ h' = hp L xs A V K T)
        else (
          if 5 < a2 then (
            v = some (-1) ∧ h' = hp L xs A V K T)
          else (
            am_fin [(z_J_weigh, 0, [.ref 26, .ref 3], []), (z_L_rank, 32, [.ref 1, .int a1, .int a2, .null], [])] (hp L xs A V K T) v h'))))) : am_fin [(z_L_rank, 0, [.ref 1, .int a1, .int a2, .null], [])] (hp L xs A V K T) v h' :=
  fn_iload_n rl_L_rank_0 rfl (fn_stat (as := [.int a1]) (r := []) (ls' := [.int a1]) rl_L_rank_1 rfl rfl rfl rfl pl_L_isYear rfl rfl (fn_iload_n rl_L_isYear_0 rfl (fn_iconst rl_L_isYear_1 (fn_iconst rl_L_isYear_2 (fn_stat (as := [.int a1, .int 0, .int 2]) (r := []) (ls' := [.int a1, .int 0, .int 2]) rl_L_isYear_3 rfl rfl rfl rfl pl_L_isAmong rfl rfl (fn_iload_n rl_L_isAmong_0 rfl (fn_iload_n rl_L_isAmong_1 rfl (fn_icmp_lt rl_L_isAmong_2 (fun k480 => fn_iconst rl_L_isAmong_14 (fn_retci rl_L_isAmong_15 rfl (fn_retci rl_L_isYear_6 rfl (fn_if_eq_t rl_L_rank_4 (by decide +kernel) (fn_iconst rl_L_rank_16 (fn_reti rl_L_rank_17 rfl k480)))))) (fun k481 => fn_iload_n rl_L_isAmong_5 rfl (fn_iload_n rl_L_isAmong_6 rfl (fn_icmp_gt rl_L_isAmong_7 (fun k478 => fn_iconst rl_L_isAmong_14 (fn_retci rl_L_isAmong_15 rfl (fn_retci rl_L_isYear_6 rfl (fn_if_eq_t rl_L_rank_4 (by decide +kernel) (fn_iconst rl_L_rank_16 (fn_reti rl_L_rank_17 rfl k478)))))) (fun k479 => fn_iconst rl_L_isAmong_10 (fn_goto rl_L_isAmong_11 (fn_retci rl_L_isAmong_15 rfl (fn_retci rl_L_isYear_6 rfl (fn_if_eq_f rl_L_rank_4 (by decide +kernel) (fn_iload_n rl_L_rank_7 rfl (fn_iconst rl_L_rank_8 (fn_iconst rl_L_rank_9 (fn_stat (as := [.int a2, .int 0, .int 5]) (r := []) (ls' := [.int a2, .int 0, .int 5]) rl_L_rank_10 rfl rfl rfl rfl pl_L_isAmong rfl rfl (fn_iload_n rl_L_isAmong_0 rfl (fn_iload_n rl_L_isAmong_1 rfl (fn_icmp_lt rl_L_isAmong_2 (fun k476 => fn_iconst rl_L_isAmong_14 (fn_retci rl_L_isAmong_15 rfl (fn_if_ne_t rl_L_rank_13 (by decide +kernel) (fn_iconst rl_L_rank_16 (fn_reti rl_L_rank_17 rfl k476))))) (fun k477 => fn_iload_n rl_L_isAmong_5 rfl (fn_iload_n rl_L_isAmong_6 rfl (fn_icmp_gt rl_L_isAmong_7 (fun k474 => fn_iconst rl_L_isAmong_14 (fn_retci rl_L_isAmong_15 rfl (fn_if_ne_t rl_L_rank_13 (by decide +kernel) (fn_iconst rl_L_rank_16 (fn_reti rl_L_rank_17 rfl k474))))) (fun k475 => fn_iconst rl_L_isAmong_10 (fn_goto rl_L_isAmong_11 (fn_retci rl_L_isAmong_15 rfl (fn_if_ne_f rl_L_rank_13 (by decide +kernel) (fn_aload_n rl_L_rank_18 rfl (fn_get rl_L_rank_19 hp_1 rfl (fn_aload_n rl_L_rank_22 rfl (fn_get rl_L_rank_23 hp_1 rfl (fn_get rl_L_rank_26 hp_2 rfl (fn_virt (as := [.ref 26, .ref 3]) (r := []) (ls' := [.ref 26, .ref 3]) rl_L_rank_29 rfl hp_26 rfl rfl pl_J_weigh rfl rfl (k475))))))))))) k477))) k479)))))))))))) k481))) k0))))))))
set_option maxRecDepth 100000 in
set_option maxHeartbeats 4000000 in
theorem sg_L_rank_32r {L : Nat} {xs : Nat → Int32} {A V : Nat → Nat → Int32} {K : Nat → Option Nat} {T : am_H} {v : Option Int32} {h' : am_H} {v1 v2 : Int32} (k0 :
    am_fin [(z_L_rank, 34, [.ref 1, .int v1, .int v2, .int 0], [])] (hp L xs A V K T) v h') : am_fin [(z_L_rank, 32, [.ref 1, .int v1, .int v2, .null], [])] (hp L xs A V K T) v h' :=
  fn_iconst rl_L_rank_32 (fn_istore_n (ls' := [.ref 1, .int v1, .int v2, .int 0]) rl_L_rank_33 rfl rfl (k0))
set_option maxRecDepth 100000 in
set_option maxHeartbeats 4000000 in
theorem sg_L_rank_34 {L : Nat} {xs : Nat → Int32} {A V : Nat → Nat → Int32} {K : Nat → Option Nat} {T : am_H} {v : Option Int32} {h' : am_H} {v1 v2 v3 : Int32} (k0 :
    if 6 ≤ v3 then (
      v = some (-1) ∧ h' = hp L xs A V K T)
    else (
      am_fin [(z_J_landsAbove, 0, [.ref 26, .int v3, .int v1, .null, .null, .null, .null], []), (z_L_rank, 49, [.ref 1, .int v1, .int v2, .int v3], [])] (hp L xs A V K T) v h')) : am_fin [(z_L_rank, 34, [.ref 1, .int v1, .int v2, .int v3], [])] (hp L xs A V K T) v h' :=
  fn_iload_n rl_L_rank_34 rfl (fn_bipush rl_L_rank_35 (fn_icmp_ge rl_L_rank_37 (fun k482 => fn_iconst rl_L_rank_61 (fn_reti rl_L_rank_62 rfl k482)) (fun k483 => fn_aload_n rl_L_rank_40 rfl (fn_get rl_L_rank_41 hp_1 rfl (fn_iload_n rl_L_rank_44 rfl (fn_iload_n rl_L_rank_45 rfl (fn_virt (as := [.ref 26, .int v3, .int v1]) (r := []) (ls' := [.ref 26, .int v3, .int v1, .null, .null, .null, .null]) rl_L_rank_46 rfl hp_26 rfl rfl pl_J_landsAbove rfl rfl (k483)))))) k0))
set_option maxRecDepth 100000 in
set_option maxHeartbeats 4000000 in
theorem sg_L_rank_49r {L : Nat} {xs : Nat → Int32} {A V : Nat → Nat → Int32} {K : Nat → Option Nat} {T : am_H} {v : Option Int32} {h' : am_H} {v1 v2 v3 r : Int32} (k0 :
    if r = v2 then (
      v = some v3 ∧ h' = hp L xs A V K T)
    else (
      am_fin [(z_L_rank, 34, [.ref 1, .int v1, .int v2, .int (v3 + 1)], [])] (hp L xs A V K T) v h')) : am_fin [(z_L_rank, 49, [.ref 1, .int v1, .int v2, .int v3], [.int r])] (hp L xs A V K T) v h' :=
  fn_iload_n rl_L_rank_49 rfl (fn_icmp_ne rl_L_rank_50 (fun k484 => fn_iload_n rl_L_rank_53 rfl (fn_reti rl_L_rank_54 rfl k484)) (fun k485 => fn_iinc (ls' := [.ref 1, .int v1, .int v2, .int (v3 + 1)]) rl_L_rank_55 rfl rfl rfl (fn_goto rl_L_rank_58 (k485))) k0)
set_option maxRecDepth 100000 in
set_option maxHeartbeats 4000000 in
theorem sg_L_slide_0 {L : Nat} {xs : Nat → Int32} {A V : Nat → Nat → Int32} {K : Nat → Option Nat} {T : am_H} {v : Option Int32} {h' : am_H} {a1 a2 a3 : Int32} (k0 :
    if a1 < 0 then (
      v = some (-1) ∧ h' = hp L xs A V K T)
    else (
      if 1079 < a1 then (
        v = some (-1) ∧ h' = hp L xs A V K T)
      else (
        if a2 < 0 then (
          v = some (-1) ∧ h' = hp L xs A V K T)
        else (
          if 1079 < a2 then (
            v = some (-1) ∧ h' = hp L xs A V K T)
          else (
            if a2 < a1 then (
              v = some (-1) ∧ h' = hp L xs A V K T)
            else (
              if a3 < (-a1) then (
                v = some (-1) ∧ h' = hp L xs A V K T)
              else (
                if (1079 - a2) < a3 then (
                  v = some (-1) ∧ h' = hp L xs A V K T)
                else (
                  am_fin [(z_P_put, 0, [.ref 34, .int (-1), .int a1, .int a2, .null, .null], []), (z_L_slide, 48, [.ref 1, .int a1, .int a2, .int a3], [])] (hp L xs (upA A 35 (va_cpy (A 4) (A 35) (0 : Int32).toNatClampNeg (0 : Int32).toNatClampNeg (1080 : Int32).toNatClampNeg)) V K T) v h')))))))) : am_fin [(z_L_slide, 0, [.ref 1, .int a1, .int a2, .int a3], [])] (hp L xs A V K T) v h' :=
  fn_iload_n rl_L_slide_0 rfl (fn_iload_n rl_L_slide_1 rfl (fn_stat (as := [.int a1, .int a2]) (r := []) (ls' := [.int a1, .int a2]) rl_L_slide_2 rfl rfl rfl rfl pl_L_isSpan rfl rfl (fn_iload_n rl_L_isSpan_0 rfl (fn_stat (as := [.int a1]) (r := []) (ls' := [.int a1]) rl_L_isSpan_1 rfl rfl rfl rfl pl_L_isDay rfl rfl (fn_iload_n rl_L_isDay_0 rfl (fn_iconst rl_L_isDay_1 (fn_sipush rl_L_isDay_2 (fn_stat (as := [.int a1, .int 0, .int 1079]) (r := []) (ls' := [.int a1, .int 0, .int 1079]) rl_L_isDay_5 rfl rfl rfl rfl pl_L_isAmong rfl rfl (fn_iload_n rl_L_isAmong_0 rfl (fn_iload_n rl_L_isAmong_1 rfl (fn_icmp_lt rl_L_isAmong_2 (fun k499 => fn_iconst rl_L_isAmong_14 (fn_retci rl_L_isAmong_15 rfl (fn_retci rl_L_isDay_8 rfl (fn_if_eq_t rl_L_isSpan_4 (by decide +kernel) (fn_iconst rl_L_isSpan_23 (fn_retci rl_L_isSpan_24 rfl (fn_if_eq_t rl_L_slide_5 (by decide +kernel) (fn_iconst rl_L_slide_22 (fn_reti rl_L_slide_23 rfl k499))))))))) (fun k500 => fn_iload_n rl_L_isAmong_5 rfl (fn_iload_n rl_L_isAmong_6 rfl (fn_icmp_gt rl_L_isAmong_7 (fun k497 => fn_iconst rl_L_isAmong_14 (fn_retci rl_L_isAmong_15 rfl (fn_retci rl_L_isDay_8 rfl (fn_if_eq_t rl_L_isSpan_4 (by decide +kernel) (fn_iconst rl_L_isSpan_23 (fn_retci rl_L_isSpan_24 rfl (fn_if_eq_t rl_L_slide_5 (by decide +kernel) (fn_iconst rl_L_slide_22 (fn_reti rl_L_slide_23 rfl k497))))))))) (fun k498 => fn_iconst rl_L_isAmong_10 (fn_goto rl_L_isAmong_11 (fn_retci rl_L_isAmong_15 rfl (fn_retci rl_L_isDay_8 rfl (fn_if_eq_f rl_L_isSpan_4 (by decide +kernel) (fn_iload_n rl_L_isSpan_7 rfl (fn_stat (as := [.int a2]) (r := []) (ls' := [.int a2]) rl_L_isSpan_8 rfl rfl rfl rfl pl_L_isDay rfl rfl (fn_iload_n rl_L_isDay_0 rfl (fn_iconst rl_L_isDay_1 (fn_sipush rl_L_isDay_2 (fn_stat (as := [.int a2, .int 0, .int 1079]) (r := []) (ls' := [.int a2, .int 0, .int 1079]) rl_L_isDay_5 rfl rfl rfl rfl pl_L_isAmong rfl rfl (fn_iload_n rl_L_isAmong_0 rfl (fn_iload_n rl_L_isAmong_1 rfl (fn_icmp_lt rl_L_isAmong_2 (fun k495 => fn_iconst rl_L_isAmong_14 (fn_retci rl_L_isAmong_15 rfl (fn_retci rl_L_isDay_8 rfl (fn_if_eq_t rl_L_isSpan_11 (by decide +kernel) (fn_iconst rl_L_isSpan_23 (fn_retci rl_L_isSpan_24 rfl (fn_if_eq_t rl_L_slide_5 (by decide +kernel) (fn_iconst rl_L_slide_22 (fn_reti rl_L_slide_23 rfl k495))))))))) (fun k496 => fn_iload_n rl_L_isAmong_5 rfl (fn_iload_n rl_L_isAmong_6 rfl (fn_icmp_gt rl_L_isAmong_7 (fun k493 => fn_iconst rl_L_isAmong_14 (fn_retci rl_L_isAmong_15 rfl (fn_retci rl_L_isDay_8 rfl (fn_if_eq_t rl_L_isSpan_11 (by decide +kernel) (fn_iconst rl_L_isSpan_23 (fn_retci rl_L_isSpan_24 rfl (fn_if_eq_t rl_L_slide_5 (by decide +kernel) (fn_iconst rl_L_slide_22 (fn_reti rl_L_slide_23 rfl k493))))))))) (fun k494 => fn_iconst rl_L_isAmong_10 (fn_goto rl_L_isAmong_11 (fn_retci rl_L_isAmong_15 rfl (fn_retci rl_L_isDay_8 rfl (fn_if_eq_f rl_L_isSpan_11 (by decide +kernel) (fn_iload_n rl_L_isSpan_14 rfl (fn_iload_n rl_L_isSpan_15 rfl (fn_icmp_gt rl_L_isSpan_16 (fun k491 => fn_iconst rl_L_isSpan_23 (fn_retci rl_L_isSpan_24 rfl (fn_if_eq_t rl_L_slide_5 (by decide +kernel) (fn_iconst rl_L_slide_22 (fn_reti rl_L_slide_23 rfl k491))))) (fun k492 => fn_iconst rl_L_isSpan_19 (fn_goto rl_L_isSpan_20 (fn_retci rl_L_isSpan_24 rfl (fn_if_eq_f rl_L_slide_5 (by decide +kernel) (fn_iload_n rl_L_slide_8 rfl (fn_iload_n rl_L_slide_9 rfl (fn_ineg rl_L_slide_10 (fn_sipush rl_L_slide_11 (fn_iload_n rl_L_slide_14 rfl (fn_isub rl_L_slide_15 (fn_stat (as := [.int a3, .int (-a1), .int (1079 - a2)]) (r := []) (ls' := [.int a3, .int (-a1), .int (1079 - a2)]) rl_L_slide_16 rfl rfl rfl rfl pl_L_isAmong rfl rfl (fn_iload_n rl_L_isAmong_0 rfl (fn_iload_n rl_L_isAmong_1 rfl (fn_icmp_lt rl_L_isAmong_2 (fun k489 => fn_iconst rl_L_isAmong_14 (fn_retci rl_L_isAmong_15 rfl (fn_if_ne_t rl_L_slide_19 (by decide +kernel) (fn_iconst rl_L_slide_22 (fn_reti rl_L_slide_23 rfl k489))))) (fun k490 => fn_iload_n rl_L_isAmong_5 rfl (fn_iload_n rl_L_isAmong_6 rfl (fn_icmp_gt rl_L_isAmong_7 (fun k487 => fn_iconst rl_L_isAmong_14 (fn_retci rl_L_isAmong_15 rfl (fn_if_ne_t rl_L_slide_19 (by decide +kernel) (fn_iconst rl_L_slide_22 (fn_reti rl_L_slide_23 rfl k487))))) (fun k488 => fn_iconst rl_L_isAmong_10 (fn_goto rl_L_isAmong_11 (fn_retci rl_L_isAmong_15 rfl (fn_if_ne_f rl_L_slide_19 (by decide +kernel) (fn_aload_n rl_L_slide_24 rfl (fn_get rl_L_slide_25 hp_1 rfl (fn_aload_n rl_L_slide_28 rfl (fn_get rl_L_slide_29 hp_1 rfl (fn_get rl_L_slide_32 hp_2 rfl (fn_virt (as := [.ref 34, .ref 3]) (r := []) (ls' := [.ref 34, .ref 3]) rl_L_slide_35 rfl hp_34 rfl rfl pl_P_copyFrom rfl rfl (fn_aload_n rl_P_copyFrom_0 rfl (fn_get rl_P_copyFrom_1 hp_3 rfl (fn_iconst rl_P_copyFrom_4 (fn_aload_n rl_P_copyFrom_5 rfl (fn_get rl_P_copyFrom_6 hp_34 rfl (fn_iconst rl_P_copyFrom_9 (fn_sipush rl_P_copyFrom_10 (fn_copy rl_P_copyFrom_13 rfl hp_4 hp_35 hps_35 (fun k486 => fn_retcv rl_P_copyFrom_16 (fn_aload_n rl_L_slide_38 rfl (fn_get rl_L_slide_39 hp_1 rfl (fn_iconst rl_L_slide_42 (fn_iload_n rl_L_slide_43 rfl (fn_iload_n rl_L_slide_44 rfl (fn_virt (as := [.ref 34, .int (-1), .int a1, .int a2]) (r := []) (ls' := [.ref 34, .int (-1), .int a1, .int a2, .null, .null]) rl_L_slide_45 rfl hp_34 rfl rfl pl_P_put rfl rfl (k486)))))))) ⟨by decide +kernel, k488⟩)))))))))))))))))) k490))) k492)))))))))))))) k494)))))))) k496))) k498)))))))))))))) k500))) k0)))))))))))
set_option maxRecDepth 100000 in
set_option maxHeartbeats 4000000 in
theorem sg_L_slide_48r {L : Nat} {xs : Nat → Int32} {A V : Nat → Nat → Int32} {K : Nat → Option Nat} {T : am_H} {v : Option Int32} {h' : am_H} {v1 v2 v3 r : Int32} (k0 :
    ¬ (v1 < 0 ∨ (v1 + v3) < 0 ∨ ((v2 - v1) + 1) < 0 ∨ 1080 < v1.toNatClampNeg + ((v2 - v1) + 1).toNatClampNeg ∨ 1080 < (v1 + v3).toNatClampNeg + ((v2 - v1) + 1).toNatClampNeg) ∧ (
    am_fin [(z_P_becomeLike, 0, [.ref 3, .ref 34, .null, .null], []), (z_L_slide, 92, [.ref 1, .int v1, .int v2, .int v3], [])] (hp L xs (upA A 35 (va_cpy (A 4) (A 35) v1.toNatClampNeg (v1 + v3).toNatClampNeg ((v2 - v1) + 1).toNatClampNeg)) V K T) v h')) : am_fin [(z_L_slide, 48, [.ref 1, .int v1, .int v2, .int v3], [.int r])] (hp L xs A V K T) v h' :=
  fn_pop_int rl_L_slide_48 (fn_aload_n rl_L_slide_49 rfl (fn_get rl_L_slide_50 hp_1 rfl (fn_get rl_L_slide_53 hp_2 rfl (fn_get rl_L_slide_56 hp_3 rfl (fn_iload_n rl_L_slide_59 rfl (fn_aload_n rl_L_slide_60 rfl (fn_get rl_L_slide_61 hp_1 rfl (fn_get rl_L_slide_64 hp_34 rfl (fn_iload_n rl_L_slide_67 rfl (fn_iload_n rl_L_slide_68 rfl (fn_iadd rl_L_slide_69 (fn_iload_n rl_L_slide_70 rfl (fn_iload_n rl_L_slide_71 rfl (fn_isub rl_L_slide_72 (fn_iconst rl_L_slide_73 (fn_iadd rl_L_slide_74 (fn_copy rl_L_slide_75 rfl hp_4 hp_35 hps_35 (fun k501 => fn_aload_n rl_L_slide_78 rfl (fn_get rl_L_slide_79 hp_1 rfl (fn_get rl_L_slide_82 hp_2 rfl (fn_aload_n rl_L_slide_85 rfl (fn_get rl_L_slide_86 hp_1 rfl (fn_virt (as := [.ref 3, .ref 34]) (r := []) (ls' := [.ref 3, .ref 34, .null, .null]) rl_L_slide_89 rfl hp_3 rfl rfl pl_P_becomeLike rfl rfl (k501))))))) k0)))))))))))))))))
set_option maxRecDepth 100000 in
set_option maxHeartbeats 4000000 in
theorem sg_L_slide_92r {L : Nat} {xs : Nat → Int32} {A V : Nat → Nat → Int32} {K : Nat → Option Nat} {T : am_H} {v : Option Int32} {h' : am_H} {v1 v2 v3 r : Int32} (k0 :
    v = some r ∧ h' = hp L xs A V K T) : am_fin [(z_L_slide, 92, [.ref 1, .int v1, .int v2, .int v3], [.int r])] (hp L xs A V K T) v h' :=
  fn_reti rl_L_slide_92 rfl k0
set_option maxRecDepth 100000 in
set_option maxHeartbeats 4000000 in
theorem sg_L_trade_0 {L : Nat} {xs : Nat → Int32} {A V : Nat → Nat → Int32} {K : Nat → Option Nat} {T : am_H} {v : Option Int32} {h' : am_H} {a1 a2 a3 a4 : Int32} (k0 :
    if a1 < 0 then (
      v = some (-1) ∧ h' = hp L xs A V K T)
    else (
      if 5 < a1 then (
        v = some (-1) ∧ h' = hp L xs A V K T)
      else (
        if a2 < 0 then (
          v = some (-1) ∧ h' = hp L xs A V K T)
        else (
          if 5 < a2 then (
            v = some (-1) ∧ h' = hp L xs A V K T)
          else (
            if a1 = a2 then (
              v = some (-1) ∧ h' = hp L xs A V K T)
            else (
              if a3 < 0 then (
                v = some (-1) ∧ h' = hp L xs A V K T)
              else (
                if 1079 < a3 then (
                  v = some (-1) ∧ h' = hp L xs A V K T)
                else (
                  if a4 < 0 then (
                    v = some (-1) ∧ h' = hp L xs A V K T)
                  else (
                    if 1079 < a4 then (
                      v = some (-1) ∧ h' = hp L xs A V K T)
                    else (
                      if a4 < a3 then (
                        v = some (-1) ∧ h' = hp L xs A V K T)
                      else (
                        am_fin [(z_L_trade, 25, [.ref 1, .int a1, .int a2, .int a3, .int a4, .int 0, .int a3, .null], [])] (hp L xs A V K T) v h'))))))))))) : am_fin [(z_L_trade, 0, [.ref 1, .int a1, .int a2, .int a3, .int a4, .null, .null, .null], [])] (hp L xs A V K T) v h' :=
  fn_iload_n rl_L_trade_0 rfl (fn_iload_n rl_L_trade_1 rfl (fn_stat (as := [.int a1, .int a2]) (r := []) (ls' := [.int a1, .int a2]) rl_L_trade_2 rfl rfl rfl rfl pl_L_isPair rfl rfl (fn_iload_n rl_L_isPair_0 rfl (fn_stat (as := [.int a1]) (r := []) (ls' := [.int a1]) rl_L_isPair_1 rfl rfl rfl rfl pl_L_isLand rfl rfl (fn_iload_n rl_L_isLand_0 rfl (fn_iconst rl_L_isLand_1 (fn_iconst rl_L_isLand_2 (fn_stat (as := [.int a1, .int 0, .int 5]) (r := []) (ls' := [.int a1, .int 0, .int 5]) rl_L_isLand_3 rfl rfl rfl rfl pl_L_isAmong rfl rfl (fn_iload_n rl_L_isAmong_0 rfl (fn_iload_n rl_L_isAmong_1 rfl (fn_icmp_lt rl_L_isAmong_2 (fun k520 => fn_iconst rl_L_isAmong_14 (fn_retci rl_L_isAmong_15 rfl (fn_retci rl_L_isLand_6 rfl (fn_if_eq_t rl_L_isPair_4 (by decide +kernel) (fn_iconst rl_L_isPair_23 (fn_retci rl_L_isPair_24 rfl (fn_if_eq_t rl_L_trade_5 (by decide +kernel) (fn_iconst rl_L_trade_17 (fn_reti rl_L_trade_18 rfl k520))))))))) (fun k521 => fn_iload_n rl_L_isAmong_5 rfl (fn_iload_n rl_L_isAmong_6 rfl (fn_icmp_gt rl_L_isAmong_7 (fun k518 => fn_iconst rl_L_isAmong_14 (fn_retci rl_L_isAmong_15 rfl (fn_retci rl_L_isLand_6 rfl (fn_if_eq_t rl_L_isPair_4 (by decide +kernel) (fn_iconst rl_L_isPair_23 (fn_retci rl_L_isPair_24 rfl (fn_if_eq_t rl_L_trade_5 (by decide +kernel) (fn_iconst rl_L_trade_17 (fn_reti rl_L_trade_18 rfl k518))))))))) (fun k519 => fn_iconst rl_L_isAmong_10 (fn_goto rl_L_isAmong_11 (fn_retci rl_L_isAmong_15 rfl (fn_retci rl_L_isLand_6 rfl (fn_if_eq_f rl_L_isPair_4 (by decide +kernel) (fn_iload_n rl_L_isPair_7 rfl (fn_stat (as := [.int a2]) (r := []) (ls' := [.int a2]) rl_L_isPair_8 rfl rfl rfl rfl pl_L_isLand rfl rfl (fn_iload_n rl_L_isLand_0 rfl (fn_iconst rl_L_isLand_1 (fn_iconst rl_L_isLand_2 (fn_stat (as := [.int a2, .int 0, .int 5]) (r := []) (ls' := [.int a2, .int 0, .int 5]) rl_L_isLand_3 rfl rfl rfl rfl pl_L_isAmong rfl rfl (fn_iload_n rl_L_isAmong_0 rfl (fn_iload_n rl_L_isAmong_1 rfl (fn_icmp_lt rl_L_isAmong_2 (fun k516 => fn_iconst rl_L_isAmong_14 (fn_retci rl_L_isAmong_15 rfl (fn_retci rl_L_isLand_6 rfl (fn_if_eq_t rl_L_isPair_11 (by decide +kernel) (fn_iconst rl_L_isPair_23 (fn_retci rl_L_isPair_24 rfl (fn_if_eq_t rl_L_trade_5 (by decide +kernel) (fn_iconst rl_L_trade_17 (fn_reti rl_L_trade_18 rfl k516))))))))) (fun k517 => fn_iload_n rl_L_isAmong_5 rfl (fn_iload_n rl_L_isAmong_6 rfl (fn_icmp_gt rl_L_isAmong_7 (fun k514 => fn_iconst rl_L_isAmong_14 (fn_retci rl_L_isAmong_15 rfl (fn_retci rl_L_isLand_6 rfl (fn_if_eq_t rl_L_isPair_11 (by decide +kernel) (fn_iconst rl_L_isPair_23 (fn_retci rl_L_isPair_24 rfl (fn_if_eq_t rl_L_trade_5 (by decide +kernel) (fn_iconst rl_L_trade_17 (fn_reti rl_L_trade_18 rfl k514))))))))) (fun k515 => fn_iconst rl_L_isAmong_10 (fn_goto rl_L_isAmong_11 (fn_retci rl_L_isAmong_15 rfl (fn_retci rl_L_isLand_6 rfl (fn_if_eq_f rl_L_isPair_11 (by decide +kernel) (fn_iload_n rl_L_isPair_14 rfl (fn_iload_n rl_L_isPair_15 rfl (fn_icmp_eq rl_L_isPair_16 (fun k512 => fn_iconst rl_L_isPair_23 (fn_retci rl_L_isPair_24 rfl (fn_if_eq_t rl_L_trade_5 (by decide +kernel) (fn_iconst rl_L_trade_17 (fn_reti rl_L_trade_18 rfl k512))))) (fun k513 => fn_iconst rl_L_isPair_19 (fn_goto rl_L_isPair_20 (fn_retci rl_L_isPair_24 rfl (fn_if_eq_f rl_L_trade_5 (by decide +kernel) (fn_iload_n rl_L_trade_8 rfl (fn_iload rl_L_trade_9 rfl (fn_stat (as := [.int a3, .int a4]) (r := []) (ls' := [.int a3, .int a4]) rl_L_trade_11 rfl rfl rfl rfl pl_L_isSpan rfl rfl (fn_iload_n rl_L_isSpan_0 rfl (fn_stat (as := [.int a3]) (r := []) (ls' := [.int a3]) rl_L_isSpan_1 rfl rfl rfl rfl pl_L_isDay rfl rfl (fn_iload_n rl_L_isDay_0 rfl (fn_iconst rl_L_isDay_1 (fn_sipush rl_L_isDay_2 (fn_stat (as := [.int a3, .int 0, .int 1079]) (r := []) (ls' := [.int a3, .int 0, .int 1079]) rl_L_isDay_5 rfl rfl rfl rfl pl_L_isAmong rfl rfl (fn_iload_n rl_L_isAmong_0 rfl (fn_iload_n rl_L_isAmong_1 rfl (fn_icmp_lt rl_L_isAmong_2 (fun k510 => fn_iconst rl_L_isAmong_14 (fn_retci rl_L_isAmong_15 rfl (fn_retci rl_L_isDay_8 rfl (fn_if_eq_t rl_L_isSpan_4 (by decide +kernel) (fn_iconst rl_L_isSpan_23 (fn_retci rl_L_isSpan_24 rfl (fn_if_ne_t rl_L_trade_14 (by decide +kernel) (fn_iconst rl_L_trade_17 (fn_reti rl_L_trade_18 rfl k510))))))))) (fun k511 => fn_iload_n rl_L_isAmong_5 rfl (fn_iload_n rl_L_isAmong_6 rfl (fn_icmp_gt rl_L_isAmong_7 (fun k508 => fn_iconst rl_L_isAmong_14 (fn_retci rl_L_isAmong_15 rfl (fn_retci rl_L_isDay_8 rfl (fn_if_eq_t rl_L_isSpan_4 (by decide +kernel) (fn_iconst rl_L_isSpan_23 (fn_retci rl_L_isSpan_24 rfl (fn_if_ne_t rl_L_trade_14 (by decide +kernel) (fn_iconst rl_L_trade_17 (fn_reti rl_L_trade_18 rfl k508))))))))) (fun k509 => fn_iconst rl_L_isAmong_10 (fn_goto rl_L_isAmong_11 (fn_retci rl_L_isAmong_15 rfl (fn_retci rl_L_isDay_8 rfl (fn_if_eq_f rl_L_isSpan_4 (by decide +kernel) (fn_iload_n rl_L_isSpan_7 rfl (fn_stat (as := [.int a4]) (r := []) (ls' := [.int a4]) rl_L_isSpan_8 rfl rfl rfl rfl pl_L_isDay rfl rfl (fn_iload_n rl_L_isDay_0 rfl (fn_iconst rl_L_isDay_1 (fn_sipush rl_L_isDay_2 (fn_stat (as := [.int a4, .int 0, .int 1079]) (r := []) (ls' := [.int a4, .int 0, .int 1079]) rl_L_isDay_5 rfl rfl rfl rfl pl_L_isAmong rfl rfl (fn_iload_n rl_L_isAmong_0 rfl (fn_iload_n rl_L_isAmong_1 rfl (fn_icmp_lt rl_L_isAmong_2 (fun k506 => fn_iconst rl_L_isAmong_14 (fn_retci rl_L_isAmong_15 rfl (fn_retci rl_L_isDay_8 rfl (fn_if_eq_t rl_L_isSpan_11 (by decide +kernel) (fn_iconst rl_L_isSpan_23 (fn_retci rl_L_isSpan_24 rfl (fn_if_ne_t rl_L_trade_14 (by decide +kernel) (fn_iconst rl_L_trade_17 (fn_reti rl_L_trade_18 rfl k506))))))))) (fun k507 => fn_iload_n rl_L_isAmong_5 rfl (fn_iload_n rl_L_isAmong_6 rfl (fn_icmp_gt rl_L_isAmong_7 (fun k504 => fn_iconst rl_L_isAmong_14 (fn_retci rl_L_isAmong_15 rfl (fn_retci rl_L_isDay_8 rfl (fn_if_eq_t rl_L_isSpan_11 (by decide +kernel) (fn_iconst rl_L_isSpan_23 (fn_retci rl_L_isSpan_24 rfl (fn_if_ne_t rl_L_trade_14 (by decide +kernel) (fn_iconst rl_L_trade_17 (fn_reti rl_L_trade_18 rfl k504))))))))) (fun k505 => fn_iconst rl_L_isAmong_10 (fn_goto rl_L_isAmong_11 (fn_retci rl_L_isAmong_15 rfl (fn_retci rl_L_isDay_8 rfl (fn_if_eq_f rl_L_isSpan_11 (by decide +kernel) (fn_iload_n rl_L_isSpan_14 rfl (fn_iload_n rl_L_isSpan_15 rfl (fn_icmp_gt rl_L_isSpan_16 (fun k502 => fn_iconst rl_L_isSpan_23 (fn_retci rl_L_isSpan_24 rfl (fn_if_ne_t rl_L_trade_14 (by decide +kernel) (fn_iconst rl_L_trade_17 (fn_reti rl_L_trade_18 rfl k502))))) (fun k503 => fn_iconst rl_L_isSpan_19 (fn_goto rl_L_isSpan_20 (fn_retci rl_L_isSpan_24 rfl (fn_if_ne_f rl_L_trade_14 (by decide +kernel) (fn_iconst rl_L_trade_19 (fn_istore (ls' := [.ref 1, .int a1, .int a2, .int a3, .int a4, .int 0, .null, .null]) rl_L_trade_20 rfl rfl (fn_iload_n rl_L_trade_22 rfl (fn_istore (ls' := [.ref 1, .int a1, .int a2, .int a3, .int a4, .int 0, .int a3, .null]) rl_L_trade_23 rfl rfl (k503))))))))) k505)))))))) k507))) k509)))))))))))))) k511))) k513)))))))))))))))) k515)))))))) k517))) k519)))))))))))))) k521))) k0)))))))))))
set_option maxRecDepth 100000 in
set_option maxHeartbeats 4000000 in
theorem sg_L_trade_25 {L : Nat} {xs : Nat → Int32} {A V : Nat → Nat → Int32} {K : Nat → Option Nat} {T : am_H} {v : Option Int32} {h' : am_H} {v1 v2 v3 v4 v5 v6 : Int32} (k0 :
    if v4 < v6 then (
      v = some v5 ∧ h' = hp L xs A V K T)
    else (
      am_fin [(z_P_landOn, 0, [.ref 3, .int v6], []), (z_L_trade, 44, [.ref 1, .int v1, .int v2, .int v3, .int v4, .int v5, .int v6, .null], [])] (hp L xs A V K T) v h')) : am_fin [(z_L_trade, 25, [.ref 1, .int v1, .int v2, .int v3, .int v4, .int v5, .int v6, .null], [])] (hp L xs A V K T) v h' :=
  fn_iload rl_L_trade_25 rfl (fn_iload rl_L_trade_27 rfl (fn_icmp_gt rl_L_trade_29 (fun k522 => fn_iload rl_L_trade_91 rfl (fn_reti rl_L_trade_93 rfl k522)) (fun k523 => fn_aload_n rl_L_trade_32 rfl (fn_get rl_L_trade_33 hp_1 rfl (fn_get rl_L_trade_36 hp_2 rfl (fn_iload rl_L_trade_39 rfl (fn_virt (as := [.ref 3, .int v6]) (r := []) (ls' := [.ref 3, .int v6]) rl_L_trade_41 rfl hp_3 rfl rfl pl_P_landOn rfl rfl (k523)))))) k0))
set_option maxRecDepth 100000 in
set_option maxHeartbeats 4000000 in
theorem sg_L_trade_44r {L : Nat} {xs : Nat → Int32} {A V : Nat → Nat → Int32} {K : Nat → Option Nat} {T : am_H} {v : Option Int32} {h' : am_H} {v1 v2 v3 v4 v5 v6 r : Int32} (k0 :
    if r = v1 then (
      if r = v1 then (
        ¬ (v6 < 0 ∨ 1080 ≤ v6.toNatClampNeg) ∧ (
        am_fin [(z_L_trade, 25, [.ref 1, .int v1, .int v2, .int v3, .int v4, .int (v5 + 1), .int (v6 + 1), .int r], [])] (hp L xs (upA A 4 (upd (A 4) v6.toNatClampNeg v2)) V K T) v h'))
      else (
        ¬ (v6 < 0 ∨ 1080 ≤ v6.toNatClampNeg) ∧ (
        am_fin [(z_L_trade, 25, [.ref 1, .int v1, .int v2, .int v3, .int v4, .int (v5 + 1), .int (v6 + 1), .int r], [])] (hp L xs (upA A 4 (upd (A 4) v6.toNatClampNeg v1)) V K T) v h')))
    else (
      if r = v2 then (
        if r = v1 then (
          ¬ (v6 < 0 ∨ 1080 ≤ v6.toNatClampNeg) ∧ (
          am_fin [(z_L_trade, 25, [.ref 1, .int v1, .int v2, .int v3, .int v4, .int (v5 + 1), .int (v6 + 1), .int r], [])] (hp L xs (upA A 4 (upd (A 4) v6.toNatClampNeg v2)) V K T) v h'))
        else (
          ¬ (v6 < 0 ∨ 1080 ≤ v6.toNatClampNeg) ∧ (
          am_fin [(z_L_trade, 25, [.ref 1, .int v1, .int v2, .int v3, .int v4, .int (v5 + 1), .int (v6 + 1), .int r], [])] (hp L xs (upA A 4 (upd (A 4) v6.toNatClampNeg v1)) V K T) v h')))
      else (
        am_fin [(z_L_trade, 25, [.ref 1, .int v1, .int v2, .int v3, .int v4, .int v5, .int (v6 + 1), .int r], [])] (hp L xs A V K T) v h'))) : am_fin [(z_L_trade, 44, [.ref 1, .int v1, .int v2, .int v3, .int v4, .int v5, .int v6, .null], [.int r])] (hp L xs A V K T) v h' :=
  fn_istore (ls' := [.ref 1, .int v1, .int v2, .int v3, .int v4, .int v5, .int v6, .int r]) rl_L_trade_44 rfl rfl (fn_iload rl_L_trade_46 rfl (fn_iload_n rl_L_trade_48 rfl (fn_icmp_eq rl_L_trade_49 (fun k534 => fn_aload_n rl_L_trade_58 rfl (fn_get rl_L_trade_59 hp_1 rfl (fn_get rl_L_trade_62 hp_2 rfl (fn_get rl_L_trade_65 hp_3 rfl (fn_iload rl_L_trade_68 rfl (fn_iload rl_L_trade_70 rfl (fn_iload_n rl_L_trade_72 rfl (fn_icmp_ne rl_L_trade_73 (fun k526 => fn_iload_n rl_L_trade_76 rfl (fn_goto rl_L_trade_77 (fn_iast rl_L_trade_81 hp_4 hps_4 (fun k524 => fn_iinc (ls' := [.ref 1, .int v1, .int v2, .int v3, .int v4, .int (v5 + 1), .int v6, .int r]) rl_L_trade_82 rfl rfl rfl (fn_iinc (ls' := [.ref 1, .int v1, .int v2, .int v3, .int v4, .int (v5 + 1), .int (v6 + 1), .int r]) rl_L_trade_85 rfl rfl rfl (fn_goto rl_L_trade_88 (k524)))) k526))) (fun k527 => fn_iload_n rl_L_trade_80 rfl (fn_iast rl_L_trade_81 hp_4 hps_4 (fun k525 => fn_iinc (ls' := [.ref 1, .int v1, .int v2, .int v3, .int v4, .int (v5 + 1), .int v6, .int r]) rl_L_trade_82 rfl rfl rfl (fn_iinc (ls' := [.ref 1, .int v1, .int v2, .int v3, .int v4, .int (v5 + 1), .int (v6 + 1), .int r]) rl_L_trade_85 rfl rfl rfl (fn_goto rl_L_trade_88 (k525)))) k527)) k534)))))))) (fun k535 => fn_iload rl_L_trade_52 rfl (fn_iload_n rl_L_trade_54 rfl (fn_icmp_ne rl_L_trade_55 (fun k532 => fn_aload_n rl_L_trade_58 rfl (fn_get rl_L_trade_59 hp_1 rfl (fn_get rl_L_trade_62 hp_2 rfl (fn_get rl_L_trade_65 hp_3 rfl (fn_iload rl_L_trade_68 rfl (fn_iload rl_L_trade_70 rfl (fn_iload_n rl_L_trade_72 rfl (fn_icmp_ne rl_L_trade_73 (fun k530 => fn_iload_n rl_L_trade_76 rfl (fn_goto rl_L_trade_77 (fn_iast rl_L_trade_81 hp_4 hps_4 (fun k528 => fn_iinc (ls' := [.ref 1, .int v1, .int v2, .int v3, .int v4, .int (v5 + 1), .int v6, .int r]) rl_L_trade_82 rfl rfl rfl (fn_iinc (ls' := [.ref 1, .int v1, .int v2, .int v3, .int v4, .int (v5 + 1), .int (v6 + 1), .int r]) rl_L_trade_85 rfl rfl rfl (fn_goto rl_L_trade_88 (k528)))) k530))) (fun k531 => fn_iload_n rl_L_trade_80 rfl (fn_iast rl_L_trade_81 hp_4 hps_4 (fun k529 => fn_iinc (ls' := [.ref 1, .int v1, .int v2, .int v3, .int v4, .int (v5 + 1), .int v6, .int r]) rl_L_trade_82 rfl rfl rfl (fn_iinc (ls' := [.ref 1, .int v1, .int v2, .int v3, .int v4, .int (v5 + 1), .int (v6 + 1), .int r]) rl_L_trade_85 rfl rfl rfl (fn_goto rl_L_trade_88 (k529)))) k531)) k532)))))))) (fun k533 => fn_iinc (ls' := [.ref 1, .int v1, .int v2, .int v3, .int v4, .int v5, .int (v6 + 1), .int r]) rl_L_trade_85 rfl rfl rfl (fn_goto rl_L_trade_88 (k533))) k535))) k0)))
set_option maxRecDepth 100000 in
set_option maxHeartbeats 4000000 in
theorem sg_L_trade_25b {L : Nat} {xs : Nat → Int32} {A V : Nat → Nat → Int32} {K : Nat → Option Nat} {T : am_H} {v : Option Int32} {h' : am_H} {v1 v2 v3 v4 v5 v6 v7 : Int32} (k0 :
    if v4 < v6 then (
      v = some v5 ∧ h' = hp L xs A V K T)
    else (
      am_fin [(z_P_landOn, 0, [.ref 3, .int v6], []), (z_L_trade, 44, [.ref 1, .int v1, .int v2, .int v3, .int v4, .int v5, .int v6, .int v7], [])] (hp L xs A V K T) v h')) : am_fin [(z_L_trade, 25, [.ref 1, .int v1, .int v2, .int v3, .int v4, .int v5, .int v6, .int v7], [])] (hp L xs A V K T) v h' :=
  fn_iload rl_L_trade_25 rfl (fn_iload rl_L_trade_27 rfl (fn_icmp_gt rl_L_trade_29 (fun k536 => fn_iload rl_L_trade_91 rfl (fn_reti rl_L_trade_93 rfl k536)) (fun k537 => fn_aload_n rl_L_trade_32 rfl (fn_get rl_L_trade_33 hp_1 rfl (fn_get rl_L_trade_36 hp_2 rfl (fn_iload rl_L_trade_39 rfl (fn_virt (as := [.ref 3, .int v6]) (r := []) (ls' := [.ref 3, .int v6]) rl_L_trade_41 rfl hp_3 rfl rfl pl_P_landOn rfl rfl (k537)))))) k0))
set_option maxRecDepth 100000 in
set_option maxHeartbeats 4000000 in
theorem sg_L_trade_44rb {L : Nat} {xs : Nat → Int32} {A V : Nat → Nat → Int32} {K : Nat → Option Nat} {T : am_H} {v : Option Int32} {h' : am_H} {v1 v2 v3 v4 v5 v6 v7 r : Int32} (k0 :
    if r = v1 then (
      if r = v1 then (
        ¬ (v6 < 0 ∨ 1080 ≤ v6.toNatClampNeg) ∧ (
        am_fin [(z_L_trade, 25, [.ref 1, .int v1, .int v2, .int v3, .int v4, .int (v5 + 1), .int (v6 + 1), .int r], [])] (hp L xs (upA A 4 (upd (A 4) v6.toNatClampNeg v2)) V K T) v h'))
      else (
        ¬ (v6 < 0 ∨ 1080 ≤ v6.toNatClampNeg) ∧ (
        am_fin [(z_L_trade, 25, [.ref 1, .int v1, .int v2, .int v3, .int v4, .int (v5 + 1), .int (v6 + 1), .int r], [])] (hp L xs (upA A 4 (upd (A 4) v6.toNatClampNeg v1)) V K T) v h')))
    else (
      if r = v2 then (
        if r = v1 then (
          ¬ (v6 < 0 ∨ 1080 ≤ v6.toNatClampNeg) ∧ (
          am_fin [(z_L_trade, 25, [.ref 1, .int v1, .int v2, .int v3, .int v4, .int (v5 + 1), .int (v6 + 1), .int r], [])] (hp L xs (upA A 4 (upd (A 4) v6.toNatClampNeg v2)) V K T) v h'))
        else (
          ¬ (v6 < 0 ∨ 1080 ≤ v6.toNatClampNeg) ∧ (
          am_fin [(z_L_trade, 25, [.ref 1, .int v1, .int v2, .int v3, .int v4, .int (v5 + 1), .int (v6 + 1), .int r], [])] (hp L xs (upA A 4 (upd (A 4) v6.toNatClampNeg v1)) V K T) v h')))
      else (
        am_fin [(z_L_trade, 25, [.ref 1, .int v1, .int v2, .int v3, .int v4, .int v5, .int (v6 + 1), .int r], [])] (hp L xs A V K T) v h'))) : am_fin [(z_L_trade, 44, [.ref 1, .int v1, .int v2, .int v3, .int v4, .int v5, .int v6, .int v7], [.int r])] (hp L xs A V K T) v h' :=
  fn_istore (ls' := [.ref 1, .int v1, .int v2, .int v3, .int v4, .int v5, .int v6, .int r]) rl_L_trade_44 rfl rfl (fn_iload rl_L_trade_46 rfl (fn_iload_n rl_L_trade_48 rfl (fn_icmp_eq rl_L_trade_49 (fun k548 => fn_aload_n rl_L_trade_58 rfl (fn_get rl_L_trade_59 hp_1 rfl (fn_get rl_L_trade_62 hp_2 rfl (fn_get rl_L_trade_65 hp_3 rfl (fn_iload rl_L_trade_68 rfl (fn_iload rl_L_trade_70 rfl (fn_iload_n rl_L_trade_72 rfl (fn_icmp_ne rl_L_trade_73 (fun k540 => fn_iload_n rl_L_trade_76 rfl (fn_goto rl_L_trade_77 (fn_iast rl_L_trade_81 hp_4 hps_4 (fun k538 => fn_iinc (ls' := [.ref 1, .int v1, .int v2, .int v3, .int v4, .int (v5 + 1), .int v6, .int r]) rl_L_trade_82 rfl rfl rfl (fn_iinc (ls' := [.ref 1, .int v1, .int v2, .int v3, .int v4, .int (v5 + 1), .int (v6 + 1), .int r]) rl_L_trade_85 rfl rfl rfl (fn_goto rl_L_trade_88 (k538)))) k540))) (fun k541 => fn_iload_n rl_L_trade_80 rfl (fn_iast rl_L_trade_81 hp_4 hps_4 (fun k539 => fn_iinc (ls' := [.ref 1, .int v1, .int v2, .int v3, .int v4, .int (v5 + 1), .int v6, .int r]) rl_L_trade_82 rfl rfl rfl (fn_iinc (ls' := [.ref 1, .int v1, .int v2, .int v3, .int v4, .int (v5 + 1), .int (v6 + 1), .int r]) rl_L_trade_85 rfl rfl rfl (fn_goto rl_L_trade_88 (k539)))) k541)) k548)))))))) (fun k549 => fn_iload rl_L_trade_52 rfl (fn_iload_n rl_L_trade_54 rfl (fn_icmp_ne rl_L_trade_55 (fun k546 => fn_aload_n rl_L_trade_58 rfl (fn_get rl_L_trade_59 hp_1 rfl (fn_get rl_L_trade_62 hp_2 rfl (fn_get rl_L_trade_65 hp_3 rfl (fn_iload rl_L_trade_68 rfl (fn_iload rl_L_trade_70 rfl (fn_iload_n rl_L_trade_72 rfl (fn_icmp_ne rl_L_trade_73 (fun k544 => fn_iload_n rl_L_trade_76 rfl (fn_goto rl_L_trade_77 (fn_iast rl_L_trade_81 hp_4 hps_4 (fun k542 => fn_iinc (ls' := [.ref 1, .int v1, .int v2, .int v3, .int v4, .int (v5 + 1), .int v6, .int r]) rl_L_trade_82 rfl rfl rfl (fn_iinc (ls' := [.ref 1, .int v1, .int v2, .int v3, .int v4, .int (v5 + 1), .int (v6 + 1), .int r]) rl_L_trade_85 rfl rfl rfl (fn_goto rl_L_trade_88 (k542)))) k544))) (fun k545 => fn_iload_n rl_L_trade_80 rfl (fn_iast rl_L_trade_81 hp_4 hps_4 (fun k543 => fn_iinc (ls' := [.ref 1, .int v1, .int v2, .int v3, .int v4, .int (v5 + 1), .int v6, .int r]) rl_L_trade_82 rfl rfl rfl (fn_iinc (ls' := [.ref 1, .int v1, .int v2, .int v3, .int v4, .int (v5 + 1), .int (v6 + 1), .int r]) rl_L_trade_85 rfl rfl rfl (fn_goto rl_L_trade_88 (k543)))) k545)) k546)))))))) (fun k547 => fn_iinc (ls' := [.ref 1, .int v1, .int v2, .int v3, .int v4, .int v5, .int (v6 + 1), .int r]) rl_L_trade_85 rfl rfl rfl (fn_goto rl_L_trade_88 (k547))) k549))) k0)))
set_option maxRecDepth 100000 in
set_option maxHeartbeats 4000000 in
theorem sg_L_erase_0 {L : Nat} {xs : Nat → Int32} {A V : Nat → Nat → Int32} {K : Nat → Option Nat} {T : am_H} {v : Option Int32} {h' : am_H} {a1 a2 : Int32} (k0 :
    if a1 < 0 then (
      v = some (-1) ∧ h' = hp L xs A V K T)
    else (
      if 5 < a1 then (
        v = some (-1) ∧ h' = hp L xs A V K T)
      else (
        if a2 < 1 then (
          v = some (-1) ∧ h' = hp L xs A V K T)
        else (
          if 360 < a2 then (
            v = some (-1) ∧ h' = hp L xs A V K T)
          else (
            am_fin [(z_L_erase, 25, [.ref 1, .int a1, .int a2, .int 0, .int 0, .null], [])] (hp L xs A V K T) v h'))))) : am_fin [(z_L_erase, 0, [.ref 1, .int a1, .int a2, .null, .null, .null], [])] (hp L xs A V K T) v h' :=
  fn_iload_n rl_L_erase_0 rfl (fn_stat (as := [.int a1]) (r := []) (ls' := [.int a1]) rl_L_erase_1 rfl rfl rfl rfl pl_L_isLand rfl rfl (fn_iload_n rl_L_isLand_0 rfl (fn_iconst rl_L_isLand_1 (fn_iconst rl_L_isLand_2 (fn_stat (as := [.int a1, .int 0, .int 5]) (r := []) (ls' := [.int a1, .int 0, .int 5]) rl_L_isLand_3 rfl rfl rfl rfl pl_L_isAmong rfl rfl (fn_iload_n rl_L_isAmong_0 rfl (fn_iload_n rl_L_isAmong_1 rfl (fn_icmp_lt rl_L_isAmong_2 (fun k556 => fn_iconst rl_L_isAmong_14 (fn_retci rl_L_isAmong_15 rfl (fn_retci rl_L_isLand_6 rfl (fn_if_eq_t rl_L_erase_4 (by decide +kernel) (fn_iconst rl_L_erase_18 (fn_reti rl_L_erase_19 rfl k556)))))) (fun k557 => fn_iload_n rl_L_isAmong_5 rfl (fn_iload_n rl_L_isAmong_6 rfl (fn_icmp_gt rl_L_isAmong_7 (fun k554 => fn_iconst rl_L_isAmong_14 (fn_retci rl_L_isAmong_15 rfl (fn_retci rl_L_isLand_6 rfl (fn_if_eq_t rl_L_erase_4 (by decide +kernel) (fn_iconst rl_L_erase_18 (fn_reti rl_L_erase_19 rfl k554)))))) (fun k555 => fn_iconst rl_L_isAmong_10 (fn_goto rl_L_isAmong_11 (fn_retci rl_L_isAmong_15 rfl (fn_retci rl_L_isLand_6 rfl (fn_if_eq_f rl_L_erase_4 (by decide +kernel) (fn_iload_n rl_L_erase_7 rfl (fn_iconst rl_L_erase_8 (fn_sipush rl_L_erase_9 (fn_stat (as := [.int a2, .int 1, .int 360]) (r := []) (ls' := [.int a2, .int 1, .int 360]) rl_L_erase_12 rfl rfl rfl rfl pl_L_isAmong rfl rfl (fn_iload_n rl_L_isAmong_0 rfl (fn_iload_n rl_L_isAmong_1 rfl (fn_icmp_lt rl_L_isAmong_2 (fun k552 => fn_iconst rl_L_isAmong_14 (fn_retci rl_L_isAmong_15 rfl (fn_if_ne_t rl_L_erase_15 (by decide +kernel) (fn_iconst rl_L_erase_18 (fn_reti rl_L_erase_19 rfl k552))))) (fun k553 => fn_iload_n rl_L_isAmong_5 rfl (fn_iload_n rl_L_isAmong_6 rfl (fn_icmp_gt rl_L_isAmong_7 (fun k550 => fn_iconst rl_L_isAmong_14 (fn_retci rl_L_isAmong_15 rfl (fn_if_ne_t rl_L_erase_15 (by decide +kernel) (fn_iconst rl_L_erase_18 (fn_reti rl_L_erase_19 rfl k550))))) (fun k551 => fn_iconst rl_L_isAmong_10 (fn_goto rl_L_isAmong_11 (fn_retci rl_L_isAmong_15 rfl (fn_if_ne_f rl_L_erase_15 (by decide +kernel) (fn_iconst rl_L_erase_20 (fn_istore_n (ls' := [.ref 1, .int a1, .int a2, .int 0, .null, .null]) rl_L_erase_21 rfl rfl (fn_iconst rl_L_erase_22 (fn_istore (ls' := [.ref 1, .int a1, .int a2, .int 0, .int 0, .null]) rl_L_erase_23 rfl rfl (k551))))))))) k553))) k555)))))))))))) k557))) k0))))))))
set_option maxRecDepth 100000 in
set_option maxHeartbeats 4000000 in
theorem sg_L_erase_25 {L : Nat} {xs : Nat → Int32} {A V : Nat → Nat → Int32} {K : Nat → Option Nat} {T : am_H} {v : Option Int32} {h' : am_H} {v1 v2 v3 v4 : Int32} (k0 :
    if 1080 ≤ v4 then (
      v = some v3 ∧ h' = hp L xs A V K T)
    else (
      am_fin [(z_P_landOn, 0, [.ref 3, .int v4], []), (z_L_erase, 45, [.ref 1, .int v1, .int v2, .int v3, .int v4, .null], [])] (hp L xs A V K T) v h')) : am_fin [(z_L_erase, 25, [.ref 1, .int v1, .int v2, .int v3, .int v4, .null], [])] (hp L xs A V K T) v h' :=
  fn_iload rl_L_erase_25 rfl (fn_sipush rl_L_erase_27 (fn_icmp_ge rl_L_erase_30 (fun k558 => fn_iload_n rl_L_erase_114 rfl (fn_reti rl_L_erase_115 rfl k558)) (fun k559 => fn_aload_n rl_L_erase_33 rfl (fn_get rl_L_erase_34 hp_1 rfl (fn_get rl_L_erase_37 hp_2 rfl (fn_iload rl_L_erase_40 rfl (fn_virt (as := [.ref 3, .int v4]) (r := []) (ls' := [.ref 3, .int v4]) rl_L_erase_42 rfl hp_3 rfl rfl pl_P_landOn rfl rfl (k559)))))) k0))
set_option maxRecDepth 100000 in
set_option maxHeartbeats 4000000 in
theorem sg_L_erase_45r {L : Nat} {xs : Nat → Int32} {A V : Nat → Nat → Int32} {K : Nat → Option Nat} {T : am_H} {v : Option Int32} {h' : am_H} {v1 v2 v3 v4 r : Int32} (k0 :
    if r = v1 then (
      am_fin [(z_P_startsStay, 0, [.ref 3, .int v4], []), (z_L_erase, 61, [.ref 1, .int v1, .int v2, .int v3, .int v4, .null], [])] (hp L xs A V K T) v h')
    else (
      am_fin [(z_L_erase, 25, [.ref 1, .int v1, .int v2, .int v3, .int (v4 + 1), .null], [])] (hp L xs A V K T) v h')) : am_fin [(z_L_erase, 45, [.ref 1, .int v1, .int v2, .int v3, .int v4, .null], [.int r])] (hp L xs A V K T) v h' :=
  fn_iload_n rl_L_erase_45 rfl (fn_icmp_ne rl_L_erase_46 (fun k560 => fn_aload_n rl_L_erase_49 rfl (fn_get rl_L_erase_50 hp_1 rfl (fn_get rl_L_erase_53 hp_2 rfl (fn_iload rl_L_erase_56 rfl (fn_virt (as := [.ref 3, .int v4]) (r := []) (ls' := [.ref 3, .int v4]) rl_L_erase_58 rfl hp_3 rfl rfl pl_P_startsStay rfl rfl (k560)))))) (fun k561 => fn_iinc (ls' := [.ref 1, .int v1, .int v2, .int v3, .int (v4 + 1), .null]) rl_L_erase_108 rfl rfl rfl (fn_goto rl_L_erase_111 (k561))) k0)
set_option maxRecDepth 100000 in
set_option maxHeartbeats 4000000 in
theorem sg_L_erase_61r {L : Nat} {xs : Nat → Int32} {A V : Nat → Nat → Int32} {K : Nat → Option Nat} {T : am_H} {v : Option Int32} {h' : am_H} {v1 v2 v3 v4 r : Int32} (k0 :
    if r = 0 then (
      am_fin [(z_L_erase, 25, [.ref 1, .int v1, .int v2, .int v3, .int (v4 + 1), .null], [])] (hp L xs A V K T) v h')
    else (
      am_fin [(z_P_lastOfStay, 0, [.ref 3, .int v4, .null, .null, .null], []), (z_L_erase, 76, [.ref 1, .int v1, .int v2, .int v3, .int v4, .null], [])] (hp L xs A V K T) v h')) : am_fin [(z_L_erase, 61, [.ref 1, .int v1, .int v2, .int v3, .int v4, .null], [.int r])] (hp L xs A V K T) v h' :=
  fn_if_eq rl_L_erase_61 (fun k562 => fn_iinc (ls' := [.ref 1, .int v1, .int v2, .int v3, .int (v4 + 1), .null]) rl_L_erase_108 rfl rfl rfl (fn_goto rl_L_erase_111 (k562))) (fun k563 => fn_aload_n rl_L_erase_64 rfl (fn_get rl_L_erase_65 hp_1 rfl (fn_get rl_L_erase_68 hp_2 rfl (fn_iload rl_L_erase_71 rfl (fn_virt (as := [.ref 3, .int v4]) (r := []) (ls' := [.ref 3, .int v4, .null, .null, .null]) rl_L_erase_73 rfl hp_3 rfl rfl pl_P_lastOfStay rfl rfl (k563)))))) k0
set_option maxRecDepth 100000 in
set_option maxHeartbeats 4000000 in
theorem sg_L_erase_76r {L : Nat} {xs : Nat → Int32} {A V : Nat → Nat → Int32} {K : Nat → Option Nat} {T : am_H} {v : Option Int32} {h' : am_H} {v1 v2 v3 v4 r : Int32} (k0 :
    if v2 < ((r - v4) + 1) then (
      am_fin [(z_L_erase, 25, [.ref 1, .int v1, .int v2, .int v3, .int (v4 + 1), .int r], [])] (hp L xs A V K T) v h')
    else (
      am_fin [(z_P_put, 0, [.ref 3, .int (-1), .int v4, .int r, .null, .null], []), (z_L_erase, 104, [.ref 1, .int v1, .int v2, .int v3, .int v4, .int r], [])] (hp L xs A V K T) v h')) : am_fin [(z_L_erase, 76, [.ref 1, .int v1, .int v2, .int v3, .int v4, .null], [.int r])] (hp L xs A V K T) v h' :=
  fn_istore (ls' := [.ref 1, .int v1, .int v2, .int v3, .int v4, .int r]) rl_L_erase_76 rfl rfl (fn_iload rl_L_erase_78 rfl (fn_iload rl_L_erase_80 rfl (fn_isub rl_L_erase_82 (fn_iconst rl_L_erase_83 (fn_iadd rl_L_erase_84 (fn_iload_n rl_L_erase_85 rfl (fn_icmp_gt rl_L_erase_86 (fun k564 => fn_iinc (ls' := [.ref 1, .int v1, .int v2, .int v3, .int (v4 + 1), .int r]) rl_L_erase_108 rfl rfl rfl (fn_goto rl_L_erase_111 (k564))) (fun k565 => fn_aload_n rl_L_erase_89 rfl (fn_get rl_L_erase_90 hp_1 rfl (fn_get rl_L_erase_93 hp_2 rfl (fn_iconst rl_L_erase_96 (fn_iload rl_L_erase_97 rfl (fn_iload rl_L_erase_99 rfl (fn_virt (as := [.ref 3, .int (-1), .int v4, .int r]) (r := []) (ls' := [.ref 3, .int (-1), .int v4, .int r, .null, .null]) rl_L_erase_101 rfl hp_3 rfl rfl pl_P_put rfl rfl (k565)))))))) k0)))))))
set_option maxRecDepth 100000 in
set_option maxHeartbeats 4000000 in
theorem sg_L_erase_25b {L : Nat} {xs : Nat → Int32} {A V : Nat → Nat → Int32} {K : Nat → Option Nat} {T : am_H} {v : Option Int32} {h' : am_H} {v1 v2 v3 v4 v5 : Int32} (k0 :
    if 1080 ≤ v4 then (
      v = some v3 ∧ h' = hp L xs A V K T)
    else (
      am_fin [(z_P_landOn, 0, [.ref 3, .int v4], []), (z_L_erase, 45, [.ref 1, .int v1, .int v2, .int v3, .int v4, .int v5], [])] (hp L xs A V K T) v h')) : am_fin [(z_L_erase, 25, [.ref 1, .int v1, .int v2, .int v3, .int v4, .int v5], [])] (hp L xs A V K T) v h' :=
  fn_iload rl_L_erase_25 rfl (fn_sipush rl_L_erase_27 (fn_icmp_ge rl_L_erase_30 (fun k566 => fn_iload_n rl_L_erase_114 rfl (fn_reti rl_L_erase_115 rfl k566)) (fun k567 => fn_aload_n rl_L_erase_33 rfl (fn_get rl_L_erase_34 hp_1 rfl (fn_get rl_L_erase_37 hp_2 rfl (fn_iload rl_L_erase_40 rfl (fn_virt (as := [.ref 3, .int v4]) (r := []) (ls' := [.ref 3, .int v4]) rl_L_erase_42 rfl hp_3 rfl rfl pl_P_landOn rfl rfl (k567)))))) k0))
set_option maxRecDepth 100000 in
set_option maxHeartbeats 4000000 in
theorem sg_L_erase_45rb {L : Nat} {xs : Nat → Int32} {A V : Nat → Nat → Int32} {K : Nat → Option Nat} {T : am_H} {v : Option Int32} {h' : am_H} {v1 v2 v3 v4 v5 r : Int32} (k0 :
    if r = v1 then (
      am_fin [(z_P_startsStay, 0, [.ref 3, .int v4], []), (z_L_erase, 61, [.ref 1, .int v1, .int v2, .int v3, .int v4, .int v5], [])] (hp L xs A V K T) v h')
    else (
      am_fin [(z_L_erase, 25, [.ref 1, .int v1, .int v2, .int v3, .int (v4 + 1), .int v5], [])] (hp L xs A V K T) v h')) : am_fin [(z_L_erase, 45, [.ref 1, .int v1, .int v2, .int v3, .int v4, .int v5], [.int r])] (hp L xs A V K T) v h' :=
  fn_iload_n rl_L_erase_45 rfl (fn_icmp_ne rl_L_erase_46 (fun k568 => fn_aload_n rl_L_erase_49 rfl (fn_get rl_L_erase_50 hp_1 rfl (fn_get rl_L_erase_53 hp_2 rfl (fn_iload rl_L_erase_56 rfl (fn_virt (as := [.ref 3, .int v4]) (r := []) (ls' := [.ref 3, .int v4]) rl_L_erase_58 rfl hp_3 rfl rfl pl_P_startsStay rfl rfl (k568)))))) (fun k569 => fn_iinc (ls' := [.ref 1, .int v1, .int v2, .int v3, .int (v4 + 1), .int v5]) rl_L_erase_108 rfl rfl rfl (fn_goto rl_L_erase_111 (k569))) k0)
set_option maxRecDepth 100000 in
set_option maxHeartbeats 4000000 in
theorem sg_L_erase_61rb {L : Nat} {xs : Nat → Int32} {A V : Nat → Nat → Int32} {K : Nat → Option Nat} {T : am_H} {v : Option Int32} {h' : am_H} {v1 v2 v3 v4 v5 r : Int32} (k0 :
    if r = 0 then (
      am_fin [(z_L_erase, 25, [.ref 1, .int v1, .int v2, .int v3, .int (v4 + 1), .int v5], [])] (hp L xs A V K T) v h')
    else (
      am_fin [(z_P_lastOfStay, 0, [.ref 3, .int v4, .null, .null, .null], []), (z_L_erase, 76, [.ref 1, .int v1, .int v2, .int v3, .int v4, .int v5], [])] (hp L xs A V K T) v h')) : am_fin [(z_L_erase, 61, [.ref 1, .int v1, .int v2, .int v3, .int v4, .int v5], [.int r])] (hp L xs A V K T) v h' :=
  fn_if_eq rl_L_erase_61 (fun k570 => fn_iinc (ls' := [.ref 1, .int v1, .int v2, .int v3, .int (v4 + 1), .int v5]) rl_L_erase_108 rfl rfl rfl (fn_goto rl_L_erase_111 (k570))) (fun k571 => fn_aload_n rl_L_erase_64 rfl (fn_get rl_L_erase_65 hp_1 rfl (fn_get rl_L_erase_68 hp_2 rfl (fn_iload rl_L_erase_71 rfl (fn_virt (as := [.ref 3, .int v4]) (r := []) (ls' := [.ref 3, .int v4, .null, .null, .null]) rl_L_erase_73 rfl hp_3 rfl rfl pl_P_lastOfStay rfl rfl (k571)))))) k0
set_option maxRecDepth 100000 in
set_option maxHeartbeats 4000000 in
theorem sg_L_erase_76rb {L : Nat} {xs : Nat → Int32} {A V : Nat → Nat → Int32} {K : Nat → Option Nat} {T : am_H} {v : Option Int32} {h' : am_H} {v1 v2 v3 v4 v5 r : Int32} (k0 :
    if v2 < ((r - v4) + 1) then (
      am_fin [(z_L_erase, 25, [.ref 1, .int v1, .int v2, .int v3, .int (v4 + 1), .int r], [])] (hp L xs A V K T) v h')
    else (
      am_fin [(z_P_put, 0, [.ref 3, .int (-1), .int v4, .int r, .null, .null], []), (z_L_erase, 104, [.ref 1, .int v1, .int v2, .int v3, .int v4, .int r], [])] (hp L xs A V K T) v h')) : am_fin [(z_L_erase, 76, [.ref 1, .int v1, .int v2, .int v3, .int v4, .int v5], [.int r])] (hp L xs A V K T) v h' :=
  fn_istore (ls' := [.ref 1, .int v1, .int v2, .int v3, .int v4, .int r]) rl_L_erase_76 rfl rfl (fn_iload rl_L_erase_78 rfl (fn_iload rl_L_erase_80 rfl (fn_isub rl_L_erase_82 (fn_iconst rl_L_erase_83 (fn_iadd rl_L_erase_84 (fn_iload_n rl_L_erase_85 rfl (fn_icmp_gt rl_L_erase_86 (fun k572 => fn_iinc (ls' := [.ref 1, .int v1, .int v2, .int v3, .int (v4 + 1), .int r]) rl_L_erase_108 rfl rfl rfl (fn_goto rl_L_erase_111 (k572))) (fun k573 => fn_aload_n rl_L_erase_89 rfl (fn_get rl_L_erase_90 hp_1 rfl (fn_get rl_L_erase_93 hp_2 rfl (fn_iconst rl_L_erase_96 (fn_iload rl_L_erase_97 rfl (fn_iload rl_L_erase_99 rfl (fn_virt (as := [.ref 3, .int (-1), .int v4, .int r]) (r := []) (ls' := [.ref 3, .int (-1), .int v4, .int r, .null, .null]) rl_L_erase_101 rfl hp_3 rfl rfl pl_P_put rfl rfl (k573)))))))) k0)))))))
set_option maxRecDepth 100000 in
set_option maxHeartbeats 4000000 in
theorem sg_L_erase_104r {L : Nat} {xs : Nat → Int32} {A V : Nat → Nat → Int32} {K : Nat → Option Nat} {T : am_H} {v : Option Int32} {h' : am_H} {v1 v2 v3 v4 v5 r : Int32} (k0 :
    am_fin [(z_L_erase, 25, [.ref 1, .int v1, .int v2, .int (v3 + 1), .int (v4 + 1), .int v5], [])] (hp L xs A V K T) v h') : am_fin [(z_L_erase, 104, [.ref 1, .int v1, .int v2, .int v3, .int v4, .int v5], [.int r])] (hp L xs A V K T) v h' :=
  fn_pop_int rl_L_erase_104 (fn_iinc (ls' := [.ref 1, .int v1, .int v2, .int (v3 + 1), .int v4, .int v5]) rl_L_erase_105 rfl rfl rfl (fn_iinc (ls' := [.ref 1, .int v1, .int v2, .int (v3 + 1), .int (v4 + 1), .int v5]) rl_L_erase_108 rfl rfl rfl (fn_goto rl_L_erase_111 (k0))))
set_option maxRecDepth 100000 in
set_option maxHeartbeats 4000000 in
theorem sg_L_routes_0 {L : Nat} {xs : Nat → Int32} {A V : Nat → Nat → Int32} {K : Nat → Option Nat} {T : am_H} {v : Option Int32} {h' : am_H} {a1 a2 a3 : Int32} (k0 :
    if a1 < (-1) then (
      v = some (-1) ∧ h' = hp L xs A V K T)
    else (
      if 5 < a1 then (
        v = some (-1) ∧ h' = hp L xs A V K T)
      else (
        if a2 < (-1) then (
          v = some (-1) ∧ h' = hp L xs A V K T)
        else (
          if 5 < a2 then (
            v = some (-1) ∧ h' = hp L xs A V K T)
          else (
            if a1 = a2 then (
              v = some (-1) ∧ h' = hp L xs A V K T)
            else (
              if a3 < 0 then (
                v = some (-1) ∧ h' = hp L xs A V K T)
              else (
                if 2 < a3 then (
                  v = some (-1) ∧ h' = hp L xs A V K T)
                else (
                  am_fin [(z_L_routes, 41, [.ref 1, .int a1, .int a2, .int a3, .int 0, .int (if (a3 * 360) < 1 then 1 else (a3 * 360) : Int32)], [])] (hp L xs A V K T) v h')))))))) : am_fin [(z_L_routes, 0, [.ref 1, .int a1, .int a2, .int a3, .null, .null], [])] (hp L xs A V K T) v h' :=
  fn_iload_n rl_L_routes_0 rfl (fn_stat (as := [.int a1]) (r := []) (ls' := [.int a1]) rl_L_routes_1 rfl rfl rfl rfl pl_L_isPlace rfl rfl (fn_iload_n rl_L_isPlace_0 rfl (fn_iconst rl_L_isPlace_1 (fn_iconst rl_L_isPlace_2 (fn_stat (as := [.int a1, .int (-1), .int 5]) (r := []) (ls' := [.int a1, .int (-1), .int 5]) rl_L_isPlace_3 rfl rfl rfl rfl pl_L_isAmong rfl rfl (fn_iload_n rl_L_isAmong_0 rfl (fn_iload_n rl_L_isAmong_1 rfl (fn_icmp_lt rl_L_isAmong_2 (fun k586 => fn_iconst rl_L_isAmong_14 (fn_retci rl_L_isAmong_15 rfl (fn_retci rl_L_isPlace_6 rfl (fn_if_eq_t rl_L_routes_4 (by decide +kernel) (fn_iconst rl_L_routes_26 (fn_reti rl_L_routes_27 rfl k586)))))) (fun k587 => fn_iload_n rl_L_isAmong_5 rfl (fn_iload_n rl_L_isAmong_6 rfl (fn_icmp_gt rl_L_isAmong_7 (fun k584 => fn_iconst rl_L_isAmong_14 (fn_retci rl_L_isAmong_15 rfl (fn_retci rl_L_isPlace_6 rfl (fn_if_eq_t rl_L_routes_4 (by decide +kernel) (fn_iconst rl_L_routes_26 (fn_reti rl_L_routes_27 rfl k584)))))) (fun k585 => fn_iconst rl_L_isAmong_10 (fn_goto rl_L_isAmong_11 (fn_retci rl_L_isAmong_15 rfl (fn_retci rl_L_isPlace_6 rfl (fn_if_eq_f rl_L_routes_4 (by decide +kernel) (fn_iload_n rl_L_routes_7 rfl (fn_stat (as := [.int a2]) (r := []) (ls' := [.int a2]) rl_L_routes_8 rfl rfl rfl rfl pl_L_isPlace rfl rfl (fn_iload_n rl_L_isPlace_0 rfl (fn_iconst rl_L_isPlace_1 (fn_iconst rl_L_isPlace_2 (fn_stat (as := [.int a2, .int (-1), .int 5]) (r := []) (ls' := [.int a2, .int (-1), .int 5]) rl_L_isPlace_3 rfl rfl rfl rfl pl_L_isAmong rfl rfl (fn_iload_n rl_L_isAmong_0 rfl (fn_iload_n rl_L_isAmong_1 rfl (fn_icmp_lt rl_L_isAmong_2 (fun k582 => fn_iconst rl_L_isAmong_14 (fn_retci rl_L_isAmong_15 rfl (fn_retci rl_L_isPlace_6 rfl (fn_if_eq_t rl_L_routes_11 (by decide +kernel) (fn_iconst rl_L_routes_26 (fn_reti rl_L_routes_27 rfl k582)))))) (fun k583 => fn_iload_n rl_L_isAmong_5 rfl (fn_iload_n rl_L_isAmong_6 rfl (fn_icmp_gt rl_L_isAmong_7 (fun k580 => fn_iconst rl_L_isAmong_14 (fn_retci rl_L_isAmong_15 rfl (fn_retci rl_L_isPlace_6 rfl (fn_if_eq_t rl_L_routes_11 (by decide +kernel) (fn_iconst rl_L_routes_26 (fn_reti rl_L_routes_27 rfl k580)))))) (fun k581 => fn_iconst rl_L_isAmong_10 (fn_goto rl_L_isAmong_11 (fn_retci rl_L_isAmong_15 rfl (fn_retci rl_L_isPlace_6 rfl (fn_if_eq_f rl_L_routes_11 (by decide +kernel) (fn_iload_n rl_L_routes_14 rfl (fn_iload_n rl_L_routes_15 rfl (fn_icmp_eq rl_L_routes_16 (fun k578 => fn_iconst rl_L_routes_26 (fn_reti rl_L_routes_27 rfl k578)) (fun k579 => fn_iload_n rl_L_routes_19 rfl (fn_stat (as := [.int a3]) (r := []) (ls' := [.int a3]) rl_L_routes_20 rfl rfl rfl rfl pl_L_isYear rfl rfl (fn_iload_n rl_L_isYear_0 rfl (fn_iconst rl_L_isYear_1 (fn_iconst rl_L_isYear_2 (fn_stat (as := [.int a3, .int 0, .int 2]) (r := []) (ls' := [.int a3, .int 0, .int 2]) rl_L_isYear_3 rfl rfl rfl rfl pl_L_isAmong rfl rfl (fn_iload_n rl_L_isAmong_0 rfl (fn_iload_n rl_L_isAmong_1 rfl (fn_icmp_lt rl_L_isAmong_2 (fun k576 => fn_iconst rl_L_isAmong_14 (fn_retci rl_L_isAmong_15 rfl (fn_retci rl_L_isYear_6 rfl (fn_if_ne_t rl_L_routes_23 (by decide +kernel) (fn_iconst rl_L_routes_26 (fn_reti rl_L_routes_27 rfl k576)))))) (fun k577 => fn_iload_n rl_L_isAmong_5 rfl (fn_iload_n rl_L_isAmong_6 rfl (fn_icmp_gt rl_L_isAmong_7 (fun k574 => fn_iconst rl_L_isAmong_14 (fn_retci rl_L_isAmong_15 rfl (fn_retci rl_L_isYear_6 rfl (fn_if_ne_t rl_L_routes_23 (by decide +kernel) (fn_iconst rl_L_routes_26 (fn_reti rl_L_routes_27 rfl k574)))))) (fun k575 => fn_iconst rl_L_isAmong_10 (fn_goto rl_L_isAmong_11 (fn_retci rl_L_isAmong_15 rfl (fn_retci rl_L_isYear_6 rfl (fn_if_ne_f rl_L_routes_23 (by decide +kernel) (fn_iconst rl_L_routes_28 (fn_istore (ls' := [.ref 1, .int a1, .int a2, .int a3, .int 0, .null]) rl_L_routes_29 rfl rfl (fn_iload_n rl_L_routes_31 rfl (fn_stat (as := [.int a3]) (r := []) (ls' := [.int a3]) rl_L_routes_32 rfl rfl rfl rfl pl_L_firstOf rfl rfl (fn_iload_n rl_L_firstOf_0 rfl (fn_sipush rl_L_firstOf_1 (fn_imul rl_L_firstOf_4 (fn_retci rl_L_firstOf_5 rfl (fn_iconst rl_L_routes_35 (fn_max rl_L_routes_36 rfl (fn_istore (ls' := [.ref 1, .int a1, .int a2, .int a3, .int 0, .int (if (a3 * 360) < 1 then 1 else (a3 * 360) : Int32)]) rl_L_routes_39 rfl rfl (k575))))))))))))))))) k577))) k579))))))))) k581)))))))) k583))) k585)))))))))))))) k587))) k0))))))))
set_option maxRecDepth 100000 in
set_option maxHeartbeats 4000000 in
theorem sg_L_routes_41 {L : Nat} {xs : Nat → Int32} {A V : Nat → Nat → Int32} {K : Nat → Option Nat} {T : am_H} {v : Option Int32} {h' : am_H} {v1 v2 v3 v4 v5 : Int32} (k0 :
    if (((v3 * 360) + 360) - 1) < v5 then (
      v = some v4 ∧ h' = hp L xs A V K T)
    else (
      am_fin [(z_P_landOn, 0, [.ref 3, .int v5], []), (z_L_routes, 62, [.ref 1, .int v1, .int v2, .int v3, .int v4, .int v5], [])] (hp L xs A V K T) v h')) : am_fin [(z_L_routes, 41, [.ref 1, .int v1, .int v2, .int v3, .int v4, .int v5], [])] (hp L xs A V K T) v h' :=
  fn_iload rl_L_routes_41 rfl (fn_iload_n rl_L_routes_43 rfl (fn_stat (as := [.int v3]) (r := [.int v5]) (ls' := [.int v3]) rl_L_routes_44 rfl rfl rfl rfl pl_L_lastOf rfl rfl (fn_iload_n rl_L_lastOf_0 rfl (fn_sipush rl_L_lastOf_1 (fn_imul rl_L_lastOf_4 (fn_sipush rl_L_lastOf_5 (fn_iadd rl_L_lastOf_8 (fn_iconst rl_L_lastOf_9 (fn_isub rl_L_lastOf_10 (fn_retci rl_L_lastOf_11 rfl (fn_icmp_gt rl_L_routes_47 (fun k588 => fn_iload rl_L_routes_93 rfl (fn_reti rl_L_routes_95 rfl k588)) (fun k589 => fn_aload_n rl_L_routes_50 rfl (fn_get rl_L_routes_51 hp_1 rfl (fn_get rl_L_routes_54 hp_2 rfl (fn_iload rl_L_routes_57 rfl (fn_virt (as := [.ref 3, .int v5]) (r := []) (ls' := [.ref 3, .int v5]) rl_L_routes_59 rfl hp_3 rfl rfl pl_P_landOn rfl rfl (k589)))))) k0)))))))))))
set_option maxRecDepth 100000 in
set_option maxHeartbeats 4000000 in
theorem sg_L_routes_62r {L : Nat} {xs : Nat → Int32} {A V : Nat → Nat → Int32} {K : Nat → Option Nat} {T : am_H} {v : Option Int32} {h' : am_H} {v1 v2 v3 v4 v5 r : Int32} (k0 :
    if r = v2 then (
      am_fin [(z_P_landOn, 0, [.ref 3, .int (v5 - 1)], []), (z_L_routes, 80, [.ref 1, .int v1, .int v2, .int v3, .int v4, .int v5], [])] (hp L xs A V K T) v h')
    else (
      am_fin [(z_L_routes, 41, [.ref 1, .int v1, .int v2, .int v3, .int v4, .int (v5 + 1)], [])] (hp L xs A V K T) v h')) : am_fin [(z_L_routes, 62, [.ref 1, .int v1, .int v2, .int v3, .int v4, .int v5], [.int r])] (hp L xs A V K T) v h' :=
  fn_iload_n rl_L_routes_62 rfl (fn_icmp_ne rl_L_routes_63 (fun k590 => fn_aload_n rl_L_routes_66 rfl (fn_get rl_L_routes_67 hp_1 rfl (fn_get rl_L_routes_70 hp_2 rfl (fn_iload rl_L_routes_73 rfl (fn_iconst rl_L_routes_75 (fn_isub rl_L_routes_76 (fn_virt (as := [.ref 3, .int (v5 - 1)]) (r := []) (ls' := [.ref 3, .int (v5 - 1)]) rl_L_routes_77 rfl hp_3 rfl rfl pl_P_landOn rfl rfl (k590)))))))) (fun k591 => fn_iinc (ls' := [.ref 1, .int v1, .int v2, .int v3, .int v4, .int (v5 + 1)]) rl_L_routes_87 rfl rfl rfl (fn_goto rl_L_routes_90 (k591))) k0)
set_option maxRecDepth 100000 in
set_option maxHeartbeats 4000000 in
theorem sg_L_routes_80r {L : Nat} {xs : Nat → Int32} {A V : Nat → Nat → Int32} {K : Nat → Option Nat} {T : am_H} {v : Option Int32} {h' : am_H} {v1 v2 v3 v4 v5 r : Int32} (k0 :
    if r = v1 then (
      am_fin [(z_L_routes, 41, [.ref 1, .int v1, .int v2, .int v3, .int (v4 + 1), .int (v5 + 1)], [])] (hp L xs A V K T) v h')
    else (
      am_fin [(z_L_routes, 41, [.ref 1, .int v1, .int v2, .int v3, .int v4, .int (v5 + 1)], [])] (hp L xs A V K T) v h')) : am_fin [(z_L_routes, 80, [.ref 1, .int v1, .int v2, .int v3, .int v4, .int v5], [.int r])] (hp L xs A V K T) v h' :=
  fn_iload_n rl_L_routes_80 rfl (fn_icmp_ne rl_L_routes_81 (fun k592 => fn_iinc (ls' := [.ref 1, .int v1, .int v2, .int v3, .int (v4 + 1), .int v5]) rl_L_routes_84 rfl rfl rfl (fn_iinc (ls' := [.ref 1, .int v1, .int v2, .int v3, .int (v4 + 1), .int (v5 + 1)]) rl_L_routes_87 rfl rfl rfl (fn_goto rl_L_routes_90 (k592)))) (fun k593 => fn_iinc (ls' := [.ref 1, .int v1, .int v2, .int v3, .int v4, .int (v5 + 1)]) rl_L_routes_87 rfl rfl rfl (fn_goto rl_L_routes_90 (k593))) k0)
set_option maxRecDepth 100000 in
set_option maxHeartbeats 4000000 in
theorem sg_L_latest_0 {L : Nat} {xs : Nat → Int32} {A V : Nat → Nat → Int32} {K : Nat → Option Nat} {T : am_H} {v : Option Int32} {h' : am_H} {a1 a2 : Int32} (k0 :
    if a1 < 0 then (
      v = some (-1) ∧ h' = hp L xs A V K T)
    else (
      if 5 < a1 then (
        v = some (-1) ∧ h' = hp L xs A V K T)
      else (
        if a2 < 0 then (
          v = some (-1) ∧ h' = hp L xs A V K T)
        else (
          if 2 < a2 then (
            v = some (-1) ∧ h' = hp L xs A V K T)
          else (
            am_fin [(z_J_weigh, 0, [.ref 26, .ref 3], []), (z_L_latest, 30, [.ref 1, .int a1, .int a2, .null, .null], [])] (hp L xs A V K T) v h'))))) : am_fin [(z_L_latest, 0, [.ref 1, .int a1, .int a2, .null, .null], [])] (hp L xs A V K T) v h' :=
  fn_iload_n rl_L_latest_0 rfl (fn_stat (as := [.int a1]) (r := []) (ls' := [.int a1]) rl_L_latest_1 rfl rfl rfl rfl pl_L_isLand rfl rfl (fn_iload_n rl_L_isLand_0 rfl (fn_iconst rl_L_isLand_1 (fn_iconst rl_L_isLand_2 (fn_stat (as := [.int a1, .int 0, .int 5]) (r := []) (ls' := [.int a1, .int 0, .int 5]) rl_L_isLand_3 rfl rfl rfl rfl pl_L_isAmong rfl rfl (fn_iload_n rl_L_isAmong_0 rfl (fn_iload_n rl_L_isAmong_1 rfl (fn_icmp_lt rl_L_isAmong_2 (fun k600 => fn_iconst rl_L_isAmong_14 (fn_retci rl_L_isAmong_15 rfl (fn_retci rl_L_isLand_6 rfl (fn_if_eq_t rl_L_latest_4 (by decide +kernel) (fn_iconst rl_L_latest_14 (fn_reti rl_L_latest_15 rfl k600)))))) (fun k601 => fn_iload_n rl_L_isAmong_5 rfl (fn_iload_n rl_L_isAmong_6 rfl (fn_icmp_gt rl_L_isAmong_7 (fun k598 => fn_iconst rl_L_isAmong_14 (fn_retci rl_L_isAmong_15 rfl (fn_retci rl_L_isLand_6 rfl (fn_if_eq_t rl_L_latest_4 (by decide +kernel) (fn_iconst rl_L_latest_14 (fn_reti rl_L_latest_15 rfl k598)))))) (fun k599 => fn_iconst rl_L_isAmong_10 (fn_goto rl_L_isAmong_11 (fn_retci rl_L_isAmong_15 rfl (fn_retci rl_L_isLand_6 rfl (fn_if_eq_f rl_L_latest_4 (by decide +kernel) (fn_iload_n rl_L_latest_7 rfl (fn_stat (as := [.int a2]) (r := []) (ls' := [.int a2]) rl_L_latest_8 rfl rfl rfl rfl pl_L_isYear rfl rfl (fn_iload_n rl_L_isYear_0 rfl (fn_iconst rl_L_isYear_1 (fn_iconst rl_L_isYear_2 (fn_stat (as := [.int a2, .int 0, .int 2]) (r := []) (ls' := [.int a2, .int 0, .int 2]) rl_L_isYear_3 rfl rfl rfl rfl pl_L_isAmong rfl rfl (fn_iload_n rl_L_isAmong_0 rfl (fn_iload_n rl_L_isAmong_1 rfl (fn_icmp_lt rl_L_isAmong_2 (fun k596 => fn_iconst rl_L_isAmong_14 (fn_retci rl_L_isAmong_15 rfl (fn_retci rl_L_isYear_6 rfl (fn_if_ne_t rl_L_latest_11 (by decide +kernel) (fn_iconst rl_L_latest_14 (fn_reti rl_L_latest_15 rfl k596)))))) (fun k597 => fn_iload_n rl_L_isAmong_5 rfl (fn_iload_n rl_L_isAmong_6 rfl (fn_icmp_gt rl_L_isAmong_7 (fun k594 => fn_iconst rl_L_isAmong_14 (fn_retci rl_L_isAmong_15 rfl (fn_retci rl_L_isYear_6 rfl (fn_if_ne_t rl_L_latest_11 (by decide +kernel) (fn_iconst rl_L_latest_14 (fn_reti rl_L_latest_15 rfl k594)))))) (fun k595 => fn_iconst rl_L_isAmong_10 (fn_goto rl_L_isAmong_11 (fn_retci rl_L_isAmong_15 rfl (fn_retci rl_L_isYear_6 rfl (fn_if_ne_f rl_L_latest_11 (by decide +kernel) (fn_aload_n rl_L_latest_16 rfl (fn_get rl_L_latest_17 hp_1 rfl (fn_aload_n rl_L_latest_20 rfl (fn_get rl_L_latest_21 hp_1 rfl (fn_get rl_L_latest_24 hp_2 rfl (fn_virt (as := [.ref 26, .ref 3]) (r := []) (ls' := [.ref 26, .ref 3]) rl_L_latest_27 rfl hp_26 rfl rfl pl_J_weigh rfl rfl (k595)))))))))))) k597))) k599)))))))))))))) k601))) k0))))))))
set_option maxRecDepth 100000 in
set_option maxHeartbeats 4000000 in
theorem sg_L_latest_30r {L : Nat} {xs : Nat → Int32} {A V : Nat → Nat → Int32} {K : Nat → Option Nat} {T : am_H} {v : Option Int32} {h' : am_H} {v1 v2 : Int32} (k0 :
    am_fin [(z_O_read, 0, [.ref 30, .ref 3, .int v1, .null], []), (z_L_latest, 45, [.ref 1, .int v1, .int v2, .null, .null], [])] (hp L xs A V K T) v h') : am_fin [(z_L_latest, 30, [.ref 1, .int v1, .int v2, .null, .null], [])] (hp L xs A V K T) v h' :=
  fn_aload_n rl_L_latest_30 rfl (fn_get rl_L_latest_31 hp_1 rfl (fn_aload_n rl_L_latest_34 rfl (fn_get rl_L_latest_35 hp_1 rfl (fn_get rl_L_latest_38 hp_2 rfl (fn_iload_n rl_L_latest_41 rfl (fn_virt (as := [.ref 30, .ref 3, .int v1]) (r := []) (ls' := [.ref 30, .ref 3, .int v1, .null]) rl_L_latest_42 rfl hp_30 rfl rfl pl_O_read rfl rfl (k0)))))))
set_option maxRecDepth 100000 in
set_option maxHeartbeats 4000000 in
theorem sg_L_latest_45r {L : Nat} {xs : Nat → Int32} {A V : Nat → Nat → Int32} {K : Nat → Option Nat} {T : am_H} {v : Option Int32} {h' : am_H} {v1 v2 : Int32} (k0 :
    am_fin [(z_L_latest, 50, [.ref 1, .int v1, .int v2, .int (((v2 * 360) + 360) - 1), .null], [])] (hp L xs A V K T) v h') : am_fin [(z_L_latest, 45, [.ref 1, .int v1, .int v2, .null, .null], [])] (hp L xs A V K T) v h' :=
  fn_iload_n rl_L_latest_45 rfl (fn_stat (as := [.int v2]) (r := []) (ls' := [.int v2]) rl_L_latest_46 rfl rfl rfl rfl pl_L_lastOf rfl rfl (fn_iload_n rl_L_lastOf_0 rfl (fn_sipush rl_L_lastOf_1 (fn_imul rl_L_lastOf_4 (fn_sipush rl_L_lastOf_5 (fn_iadd rl_L_lastOf_8 (fn_iconst rl_L_lastOf_9 (fn_isub rl_L_lastOf_10 (fn_retci rl_L_lastOf_11 rfl (fn_istore_n (ls' := [.ref 1, .int v1, .int v2, .int (((v2 * 360) + 360) - 1), .null]) rl_L_latest_49 rfl rfl (k0)))))))))))
set_option maxRecDepth 100000 in
set_option maxHeartbeats 4000000 in
theorem sg_L_latest_50 {L : Nat} {xs : Nat → Int32} {A V : Nat → Nat → Int32} {K : Nat → Option Nat} {T : am_H} {v : Option Int32} {h' : am_H} {v1 v2 v3 : Int32} (k0 :
    if v3 < (v2 * 360) then (
      v = some (-2) ∧ h' = hp L xs A V K T)
    else (
      am_fin [(z_O_between, 0, [.ref 30, .int (v2 * 360), .int (v3 - 1), .null], []), (z_L_latest, 72, [.ref 1, .int v1, .int v2, .int v3, .null], [])] (hp L xs A V K T) v h')) : am_fin [(z_L_latest, 50, [.ref 1, .int v1, .int v2, .int v3, .null], [])] (hp L xs A V K T) v h' :=
  fn_iload_n rl_L_latest_50 rfl (fn_iload_n rl_L_latest_51 rfl (fn_stat (as := [.int v2]) (r := [.int v3]) (ls' := [.int v2]) rl_L_latest_52 rfl rfl rfl rfl pl_L_firstOf rfl rfl (fn_iload_n rl_L_firstOf_0 rfl (fn_sipush rl_L_firstOf_1 (fn_imul rl_L_firstOf_4 (fn_retci rl_L_firstOf_5 rfl (fn_icmp_lt rl_L_latest_55 (fun k602 => fn_bipush rl_L_latest_118 (fn_reti rl_L_latest_120 rfl k602)) (fun k603 => fn_aload_n rl_L_latest_58 rfl (fn_get rl_L_latest_59 hp_1 rfl (fn_iload_n rl_L_latest_62 rfl (fn_stat (as := [.int v2]) (r := [.ref 30]) (ls' := [.int v2]) rl_L_latest_63 rfl rfl rfl rfl pl_L_firstOf rfl rfl (fn_iload_n rl_L_firstOf_0 rfl (fn_sipush rl_L_firstOf_1 (fn_imul rl_L_firstOf_4 (fn_retci rl_L_firstOf_5 rfl (fn_iload_n rl_L_latest_66 rfl (fn_iconst rl_L_latest_67 (fn_isub rl_L_latest_68 (fn_virt (as := [.ref 30, .int (v2 * 360), .int (v3 - 1)]) (r := []) (ls' := [.ref 30, .int (v2 * 360), .int (v3 - 1), .null]) rl_L_latest_69 rfl hp_30 rfl rfl pl_O_between rfl rfl (k603))))))))))))) k0)))))))
set_option maxRecDepth 100000 in
set_option maxHeartbeats 4000000 in
theorem sg_L_latest_72r {L : Nat} {xs : Nat → Int32} {A V : Nat → Nat → Int32} {K : Nat → Option Nat} {T : am_H} {v : Option Int32} {h' : am_H} {v1 v2 v3 r : Int32} (k0 :
    ¬ (((v1 * 3) + v2) < 0 ∨ 18 ≤ ((v1 * 3) + v2).toNatClampNeg) ∧ (
    am_fin [(z_J_isClaiming, 0, [.ref 26, .int v1, .int v2], []), (z_L_latest, 107, [.ref 1, .int v1, .int v2, .int v3, .int (((r + (((v2 * 360) + 360) - 1)) - v3) + 1)], [])] (hp L xs (upA A 27 (upd (A 27) ((v1 * 3) + v2).toNatClampNeg (((r + (((v2 * 360) + 360) - 1)) - v3) + 1))) V K T) v h')) : am_fin [(z_L_latest, 72, [.ref 1, .int v1, .int v2, .int v3, .null], [.int r])] (hp L xs A V K T) v h' :=
  fn_iload_n rl_L_latest_72 rfl (fn_stat (as := [.int v2]) (r := [.int r]) (ls' := [.int v2]) rl_L_latest_73 rfl rfl rfl rfl pl_L_lastOf rfl rfl (fn_iload_n rl_L_lastOf_0 rfl (fn_sipush rl_L_lastOf_1 (fn_imul rl_L_lastOf_4 (fn_sipush rl_L_lastOf_5 (fn_iadd rl_L_lastOf_8 (fn_iconst rl_L_lastOf_9 (fn_isub rl_L_lastOf_10 (fn_retci rl_L_lastOf_11 rfl (fn_iadd rl_L_latest_76 (fn_iload_n rl_L_latest_77 rfl (fn_isub rl_L_latest_78 (fn_iconst rl_L_latest_79 (fn_iadd rl_L_latest_80 (fn_istore (ls' := [.ref 1, .int v1, .int v2, .int v3, .int (((r + (((v2 * 360) + 360) - 1)) - v3) + 1)]) rl_L_latest_81 rfl rfl (fn_aload_n rl_L_latest_83 rfl (fn_get rl_L_latest_84 hp_1 rfl (fn_get rl_L_latest_87 hp_26 rfl (fn_iload_n rl_L_latest_90 rfl (fn_iload_n rl_L_latest_91 rfl (fn_stat (as := [.int v1, .int v2]) (r := [.ref 27]) (ls' := [.int v1, .int v2]) rl_L_latest_92 rfl rfl rfl rfl pl_L_spot rfl rfl (fn_iload_n rl_L_spot_0 rfl (fn_iconst rl_L_spot_1 (fn_imul rl_L_spot_2 (fn_iload_n rl_L_spot_3 rfl (fn_iadd rl_L_spot_4 (fn_retci rl_L_spot_5 rfl (fn_iload rl_L_latest_95 rfl (fn_iast rl_L_latest_97 hp_27 hps_27 (fun k604 => fn_aload_n rl_L_latest_98 rfl (fn_get rl_L_latest_99 hp_1 rfl (fn_iload_n rl_L_latest_102 rfl (fn_iload_n rl_L_latest_103 rfl (fn_virt (as := [.ref 26, .int v1, .int v2]) (r := []) (ls' := [.ref 26, .int v1, .int v2]) rl_L_latest_104 rfl hp_26 rfl rfl pl_J_isClaiming rfl rfl (k604)))))) k0)))))))))))))))))))))))))))))
set_option maxRecDepth 100000 in
set_option maxHeartbeats 4000000 in
theorem sg_L_latest_107r {L : Nat} {xs : Nat → Int32} {A V : Nat → Nat → Int32} {K : Nat → Option Nat} {T : am_H} {v : Option Int32} {h' : am_H} {v1 v2 v3 v4 r : Int32} (k0 :
    if r = 0 then (
      am_fin [(z_L_latest, 50, [.ref 1, .int v1, .int v2, .int (v3 + (-1)), .int v4], [])] (hp L xs A V K T) v h')
    else (
      v = some v3 ∧ h' = hp L xs A V K T)) : am_fin [(z_L_latest, 107, [.ref 1, .int v1, .int v2, .int v3, .int v4], [.int r])] (hp L xs A V K T) v h' :=
  fn_if_eq rl_L_latest_107 (fun k605 => fn_iinc (ls' := [.ref 1, .int v1, .int v2, .int (v3 + (-1)), .int v4]) rl_L_latest_112 rfl rfl rfl (fn_goto rl_L_latest_115 (k605))) (fun k606 => fn_iload_n rl_L_latest_110 rfl (fn_reti rl_L_latest_111 rfl k606)) k0
set_option maxRecDepth 100000 in
set_option maxHeartbeats 4000000 in
theorem sg_L_latest_50b {L : Nat} {xs : Nat → Int32} {A V : Nat → Nat → Int32} {K : Nat → Option Nat} {T : am_H} {v : Option Int32} {h' : am_H} {v1 v2 v3 v4 : Int32} (k0 :
    if v3 < (v2 * 360) then (
      v = some (-2) ∧ h' = hp L xs A V K T)
    else (
      am_fin [(z_O_between, 0, [.ref 30, .int (v2 * 360), .int (v3 - 1), .null], []), (z_L_latest, 72, [.ref 1, .int v1, .int v2, .int v3, .int v4], [])] (hp L xs A V K T) v h')) : am_fin [(z_L_latest, 50, [.ref 1, .int v1, .int v2, .int v3, .int v4], [])] (hp L xs A V K T) v h' :=
  fn_iload_n rl_L_latest_50 rfl (fn_iload_n rl_L_latest_51 rfl (fn_stat (as := [.int v2]) (r := [.int v3]) (ls' := [.int v2]) rl_L_latest_52 rfl rfl rfl rfl pl_L_firstOf rfl rfl (fn_iload_n rl_L_firstOf_0 rfl (fn_sipush rl_L_firstOf_1 (fn_imul rl_L_firstOf_4 (fn_retci rl_L_firstOf_5 rfl (fn_icmp_lt rl_L_latest_55 (fun k607 => fn_bipush rl_L_latest_118 (fn_reti rl_L_latest_120 rfl k607)) (fun k608 => fn_aload_n rl_L_latest_58 rfl (fn_get rl_L_latest_59 hp_1 rfl (fn_iload_n rl_L_latest_62 rfl (fn_stat (as := [.int v2]) (r := [.ref 30]) (ls' := [.int v2]) rl_L_latest_63 rfl rfl rfl rfl pl_L_firstOf rfl rfl (fn_iload_n rl_L_firstOf_0 rfl (fn_sipush rl_L_firstOf_1 (fn_imul rl_L_firstOf_4 (fn_retci rl_L_firstOf_5 rfl (fn_iload_n rl_L_latest_66 rfl (fn_iconst rl_L_latest_67 (fn_isub rl_L_latest_68 (fn_virt (as := [.ref 30, .int (v2 * 360), .int (v3 - 1)]) (r := []) (ls' := [.ref 30, .int (v2 * 360), .int (v3 - 1), .null]) rl_L_latest_69 rfl hp_30 rfl rfl pl_O_between rfl rfl (k608))))))))))))) k0)))))))
set_option maxRecDepth 100000 in
set_option maxHeartbeats 4000000 in
theorem sg_L_latest_72rb {L : Nat} {xs : Nat → Int32} {A V : Nat → Nat → Int32} {K : Nat → Option Nat} {T : am_H} {v : Option Int32} {h' : am_H} {v1 v2 v3 v4 r : Int32} (k0 :
    ¬ (((v1 * 3) + v2) < 0 ∨ 18 ≤ ((v1 * 3) + v2).toNatClampNeg) ∧ (
    am_fin [(z_J_isClaiming, 0, [.ref 26, .int v1, .int v2], []), (z_L_latest, 107, [.ref 1, .int v1, .int v2, .int v3, .int (((r + (((v2 * 360) + 360) - 1)) - v3) + 1)], [])] (hp L xs (upA A 27 (upd (A 27) ((v1 * 3) + v2).toNatClampNeg (((r + (((v2 * 360) + 360) - 1)) - v3) + 1))) V K T) v h')) : am_fin [(z_L_latest, 72, [.ref 1, .int v1, .int v2, .int v3, .int v4], [.int r])] (hp L xs A V K T) v h' :=
  fn_iload_n rl_L_latest_72 rfl (fn_stat (as := [.int v2]) (r := [.int r]) (ls' := [.int v2]) rl_L_latest_73 rfl rfl rfl rfl pl_L_lastOf rfl rfl (fn_iload_n rl_L_lastOf_0 rfl (fn_sipush rl_L_lastOf_1 (fn_imul rl_L_lastOf_4 (fn_sipush rl_L_lastOf_5 (fn_iadd rl_L_lastOf_8 (fn_iconst rl_L_lastOf_9 (fn_isub rl_L_lastOf_10 (fn_retci rl_L_lastOf_11 rfl (fn_iadd rl_L_latest_76 (fn_iload_n rl_L_latest_77 rfl (fn_isub rl_L_latest_78 (fn_iconst rl_L_latest_79 (fn_iadd rl_L_latest_80 (fn_istore (ls' := [.ref 1, .int v1, .int v2, .int v3, .int (((r + (((v2 * 360) + 360) - 1)) - v3) + 1)]) rl_L_latest_81 rfl rfl (fn_aload_n rl_L_latest_83 rfl (fn_get rl_L_latest_84 hp_1 rfl (fn_get rl_L_latest_87 hp_26 rfl (fn_iload_n rl_L_latest_90 rfl (fn_iload_n rl_L_latest_91 rfl (fn_stat (as := [.int v1, .int v2]) (r := [.ref 27]) (ls' := [.int v1, .int v2]) rl_L_latest_92 rfl rfl rfl rfl pl_L_spot rfl rfl (fn_iload_n rl_L_spot_0 rfl (fn_iconst rl_L_spot_1 (fn_imul rl_L_spot_2 (fn_iload_n rl_L_spot_3 rfl (fn_iadd rl_L_spot_4 (fn_retci rl_L_spot_5 rfl (fn_iload rl_L_latest_95 rfl (fn_iast rl_L_latest_97 hp_27 hps_27 (fun k609 => fn_aload_n rl_L_latest_98 rfl (fn_get rl_L_latest_99 hp_1 rfl (fn_iload_n rl_L_latest_102 rfl (fn_iload_n rl_L_latest_103 rfl (fn_virt (as := [.ref 26, .int v1, .int v2]) (r := []) (ls' := [.ref 26, .int v1, .int v2]) rl_L_latest_104 rfl hp_26 rfl rfl pl_J_isClaiming rfl rfl (k609)))))) k0)))))))))))))))))))))))))))))
set_option maxRecDepth 100000 in
set_option maxHeartbeats 4000000 in
theorem sg_L_wins_0 {L : Nat} {xs : Nat → Int32} {A V : Nat → Nat → Int32} {K : Nat → Option Nat} {T : am_H} {v : Option Int32} {h' : am_H} {a1 a2 : Int32} (k0 :
    if a1 < 0 then (
      v = some (-1) ∧ h' = hp L xs A V K T)
    else (
      if 5 < a1 then (
        v = some (-1) ∧ h' = hp L xs A V K T)
      else (
        if a2 < 0 then (
          v = some (-1) ∧ h' = hp L xs A V K T)
        else (
          if 2 < a2 then (
            v = some (-1) ∧ h' = hp L xs A V K T)
          else (
            am_fin [(z_J_weigh, 0, [.ref 26, .ref 3], []), (z_L_wins, 30, [.ref 1, .int a1, .int a2, .null], [])] (hp L xs A V K T) v h'))))) : am_fin [(z_L_wins, 0, [.ref 1, .int a1, .int a2, .null], [])] (hp L xs A V K T) v h' :=
  fn_iload_n rl_L_wins_0 rfl (fn_stat (as := [.int a1]) (r := []) (ls' := [.int a1]) rl_L_wins_1 rfl rfl rfl rfl pl_L_isLand rfl rfl (fn_iload_n rl_L_isLand_0 rfl (fn_iconst rl_L_isLand_1 (fn_iconst rl_L_isLand_2 (fn_stat (as := [.int a1, .int 0, .int 5]) (r := []) (ls' := [.int a1, .int 0, .int 5]) rl_L_isLand_3 rfl rfl rfl rfl pl_L_isAmong rfl rfl (fn_iload_n rl_L_isAmong_0 rfl (fn_iload_n rl_L_isAmong_1 rfl (fn_icmp_lt rl_L_isAmong_2 (fun k616 => fn_iconst rl_L_isAmong_14 (fn_retci rl_L_isAmong_15 rfl (fn_retci rl_L_isLand_6 rfl (fn_if_eq_t rl_L_wins_4 (by decide +kernel) (fn_iconst rl_L_wins_14 (fn_reti rl_L_wins_15 rfl k616)))))) (fun k617 => fn_iload_n rl_L_isAmong_5 rfl (fn_iload_n rl_L_isAmong_6 rfl (fn_icmp_gt rl_L_isAmong_7 (fun k614 => fn_iconst rl_L_isAmong_14 (fn_retci rl_L_isAmong_15 rfl (fn_retci rl_L_isLand_6 rfl (fn_if_eq_t rl_L_wins_4 (by decide +kernel) (fn_iconst rl_L_wins_14 (fn_reti rl_L_wins_15 rfl k614)))))) (fun k615 => fn_iconst rl_L_isAmong_10 (fn_goto rl_L_isAmong_11 (fn_retci rl_L_isAmong_15 rfl (fn_retci rl_L_isLand_6 rfl (fn_if_eq_f rl_L_wins_4 (by decide +kernel) (fn_iload_n rl_L_wins_7 rfl (fn_stat (as := [.int a2]) (r := []) (ls' := [.int a2]) rl_L_wins_8 rfl rfl rfl rfl pl_L_isYear rfl rfl (fn_iload_n rl_L_isYear_0 rfl (fn_iconst rl_L_isYear_1 (fn_iconst rl_L_isYear_2 (fn_stat (as := [.int a2, .int 0, .int 2]) (r := []) (ls' := [.int a2, .int 0, .int 2]) rl_L_isYear_3 rfl rfl rfl rfl pl_L_isAmong rfl rfl (fn_iload_n rl_L_isAmong_0 rfl (fn_iload_n rl_L_isAmong_1 rfl (fn_icmp_lt rl_L_isAmong_2 (fun k612 => fn_iconst rl_L_isAmong_14 (fn_retci rl_L_isAmong_15 rfl (fn_retci rl_L_isYear_6 rfl (fn_if_ne_t rl_L_wins_11 (by decide +kernel) (fn_iconst rl_L_wins_14 (fn_reti rl_L_wins_15 rfl k612)))))) (fun k613 => fn_iload_n rl_L_isAmong_5 rfl (fn_iload_n rl_L_isAmong_6 rfl (fn_icmp_gt rl_L_isAmong_7 (fun k610 => fn_iconst rl_L_isAmong_14 (fn_retci rl_L_isAmong_15 rfl (fn_retci rl_L_isYear_6 rfl (fn_if_ne_t rl_L_wins_11 (by decide +kernel) (fn_iconst rl_L_wins_14 (fn_reti rl_L_wins_15 rfl k610)))))) (fun k611 => fn_iconst rl_L_isAmong_10 (fn_goto rl_L_isAmong_11 (fn_retci rl_L_isAmong_15 rfl (fn_retci rl_L_isYear_6 rfl (fn_if_ne_f rl_L_wins_11 (by decide +kernel) (fn_aload_n rl_L_wins_16 rfl (fn_get rl_L_wins_17 hp_1 rfl (fn_aload_n rl_L_wins_20 rfl (fn_get rl_L_wins_21 hp_1 rfl (fn_get rl_L_wins_24 hp_2 rfl (fn_virt (as := [.ref 26, .ref 3]) (r := []) (ls' := [.ref 26, .ref 3]) rl_L_wins_27 rfl hp_26 rfl rfl pl_J_weigh rfl rfl (k611)))))))))))) k613))) k615)))))))))))))) k617))) k0))))))))
set_option maxRecDepth 100000 in
set_option maxHeartbeats 4000000 in
theorem sg_L_wins_30r {L : Nat} {xs : Nat → Int32} {A V : Nat → Nat → Int32} {K : Nat → Option Nat} {T : am_H} {v : Option Int32} {h' : am_H} {v1 v2 : Int32} (k0 :
    am_fin [(z_J_claimBits, 0, [.ref 26, .int v2, .null, .null], []), (z_L_wins, 38, [.ref 1, .int v1, .int v2, .null], [])] (hp L xs A V K T) v h') : am_fin [(z_L_wins, 30, [.ref 1, .int v1, .int v2, .null], [])] (hp L xs A V K T) v h' :=
  fn_aload_n rl_L_wins_30 rfl (fn_get rl_L_wins_31 hp_1 rfl (fn_iload_n rl_L_wins_34 rfl (fn_virt (as := [.ref 26, .int v2]) (r := []) (ls' := [.ref 26, .int v2, .null, .null]) rl_L_wins_35 rfl hp_26 rfl rfl pl_J_claimBits rfl rfl (k0))))
set_option maxRecDepth 100000 in
set_option maxHeartbeats 4000000 in
theorem sg_L_wins_38r {L : Nat} {xs : Nat → Int32} {A V : Nat → Nat → Int32} {K : Nat → Option Nat} {T : am_H} {v : Option Int32} {h' : am_H} {v1 v2 r : Int32} (k0 :
    if (((r : Int32) >>> (v1 &&& 31 : Int32)) &&& 1) = 1 then (
      am_fin [(z_J_beaten, 0, [.ref 26, .int v1, .int r, .int v2, .null, .null], []), (z_L_wins, 60, [.ref 1, .int v1, .int v2, .int r], [])] (hp L xs A V K T) v h')
    else (
      v = some (-2) ∧ h' = hp L xs A V K T)) : am_fin [(z_L_wins, 38, [.ref 1, .int v1, .int v2, .null], [.int r])] (hp L xs A V K T) v h' :=
  fn_istore_n (ls' := [.ref 1, .int v1, .int v2, .int r]) rl_L_wins_38 rfl rfl (fn_iload_n rl_L_wins_39 rfl (fn_iload_n rl_L_wins_40 rfl (fn_stat (as := [.int r, .int v1]) (r := []) (ls' := [.int r, .int v1]) rl_L_wins_41 rfl rfl rfl rfl pl_L_hasBit rfl rfl (fn_iload_n rl_L_hasBit_0 rfl (fn_iload_n rl_L_hasBit_1 rfl (fn_ishr rl_L_hasBit_2 (fn_iconst rl_L_hasBit_3 (fn_iand rl_L_hasBit_4 (fn_iconst rl_L_hasBit_5 (fn_icmp_ne rl_L_hasBit_6 (fun k618 => fn_iconst rl_L_hasBit_9 (fn_goto rl_L_hasBit_10 (fn_retci rl_L_hasBit_14 rfl (fn_if_ne_f rl_L_wins_44 (by decide +kernel) (fn_aload_n rl_L_wins_50 rfl (fn_get rl_L_wins_51 hp_1 rfl (fn_iload_n rl_L_wins_54 rfl (fn_iload_n rl_L_wins_55 rfl (fn_iload_n rl_L_wins_56 rfl (fn_virt (as := [.ref 26, .int v1, .int r, .int v2]) (r := []) (ls' := [.ref 26, .int v1, .int r, .int v2, .null, .null]) rl_L_wins_57 rfl hp_26 rfl rfl pl_J_beaten rfl rfl (k618))))))))))) (fun k619 => fn_iconst rl_L_hasBit_13 (fn_retci rl_L_hasBit_14 rfl (fn_if_ne_t rl_L_wins_44 (by decide +kernel) (fn_bipush rl_L_wins_47 (fn_reti rl_L_wins_49 rfl k619))))) k0))))))))))
set_option maxRecDepth 100000 in
set_option maxHeartbeats 4000000 in
theorem sg_L_wins_60r {L : Nat} {xs : Nat → Int32} {A V : Nat → Nat → Int32} {K : Nat → Option Nat} {T : am_H} {v : Option Int32} {h' : am_H} {v1 v2 v3 r : Int32} (k0 :
    v = some r ∧ h' = hp L xs A V K T) : am_fin [(z_L_wins, 60, [.ref 1, .int v1, .int v2, .int v3], [.int r])] (hp L xs A V K T) v h' :=
  fn_reti rl_L_wins_60 rfl k0
set_option maxRecDepth 100000 in
set_option maxHeartbeats 4000000 in
theorem sg_L_partner_0 {L : Nat} {xs : Nat → Int32} {A V : Nat → Nat → Int32} {K : Nat → Option Nat} {T : am_H} {v : Option Int32} {h' : am_H} (k0 :
    am_fin [(z_P_stayCount, 0, [.ref 3, .null, .null], []), (z_L_partner, 35, [.ref 1], [])] (hp L xs (upA A 8 (va_cpy (A 4) (A 8) (0 : Int32).toNatClampNeg (0 : Int32).toNatClampNeg (1080 : Int32).toNatClampNeg)) (upV V 2 5 1) K T) v h') : am_fin [(z_L_partner, 0, [.ref 1], [])] (hp L xs A V K T) v h' :=
  fn_aload_n rl_L_partner_0 rfl (fn_get rl_L_partner_1 hp_1 rfl (fn_get rl_L_partner_4 hp_2 rfl (fn_aload_n rl_L_partner_7 rfl (fn_get rl_L_partner_8 hp_1 rfl (fn_get rl_L_partner_11 hp_2 rfl (fn_virt (as := [.ref 7, .ref 3]) (r := []) (ls' := [.ref 7, .ref 3]) rl_L_partner_14 rfl hp_7 rfl rfl pl_P_copyFrom rfl rfl (fn_aload_n rl_P_copyFrom_0 rfl (fn_get rl_P_copyFrom_1 hp_3 rfl (fn_iconst rl_P_copyFrom_4 (fn_aload_n rl_P_copyFrom_5 rfl (fn_get rl_P_copyFrom_6 hp_7 rfl (fn_iconst rl_P_copyFrom_9 (fn_sipush rl_P_copyFrom_10 (fn_copy rl_P_copyFrom_13 rfl hp_4 hp_8 hps_8 (fun k620 => fn_retcv rl_P_copyFrom_16 (fn_aload_n rl_L_partner_17 rfl (fn_get rl_L_partner_18 hp_1 rfl (fn_iconst rl_L_partner_21 (fn_put rl_L_partner_22 hp_2 rfl hpv_2_5 (fn_aload_n rl_L_partner_25 rfl (fn_get rl_L_partner_26 hp_1 rfl (fn_get rl_L_partner_29 hp_2 rfl (fn_virt (as := [.ref 3]) (r := []) (ls' := [.ref 3, .null, .null]) rl_L_partner_32 rfl hp_3 rfl rfl pl_P_stayCount rfl rfl (k620)))))))))) ⟨by decide +kernel, k0⟩))))))))))))))
set_option maxRecDepth 100000 in
set_option maxHeartbeats 4000000 in
theorem sg_L_partner_35r {L : Nat} {xs : Nat → Int32} {A V : Nat → Nat → Int32} {K : Nat → Option Nat} {T : am_H} {v : Option Int32} {h' : am_H} {r : Int32} (k0 :
    v = some r ∧ h' = hp L xs A V K T) : am_fin [(z_L_partner, 35, [.ref 1], [.int r])] (hp L xs A V K T) v h' :=
  fn_reti rl_L_partner_35 rfl k0
set_option maxRecDepth 100000 in
set_option maxHeartbeats 4000000 in
theorem sg_L_together_0 {L : Nat} {xs : Nat → Int32} {A V : Nat → Nat → Int32} {K : Nat → Option Nat} {T : am_H} {v : Option Int32} {h' : am_H} {a1 a2 : Int32} (k0 :
    if a1 < 0 then (
      v = some (-1) ∧ h' = hp L xs A V K T)
    else (
      if 2 < a1 then (
        v = some (-1) ∧ h' = hp L xs A V K T)
      else (
        if a2 < 0 then (
          v = some (-1) ∧ h' = hp L xs A V K T)
        else (
          if 3 < a2 then (
            v = some (-1) ∧ h' = hp L xs A V K T)
          else (
            if (V 2 5) = 0 then (
              v = some (-2) ∧ h' = hp L xs A V K T)
            else (
              am_fin [(z_L_together, 48, [.ref 1, .int a1, .int a2, .int 0, .int 0, .int 0, .int 0, .int (a1 * 360), .null, .null], [])] (hp L xs A V K T) v h')))))) : am_fin [(z_L_together, 0, [.ref 1, .int a1, .int a2, .null, .null, .null, .null, .null, .null, .null], [])] (hp L xs A V K T) v h' :=
  fn_iload_n rl_L_together_0 rfl (fn_stat (as := [.int a1]) (r := []) (ls' := [.int a1]) rl_L_together_1 rfl rfl rfl rfl pl_L_isYear rfl rfl (fn_iload_n rl_L_isYear_0 rfl (fn_iconst rl_L_isYear_1 (fn_iconst rl_L_isYear_2 (fn_stat (as := [.int a1, .int 0, .int 2]) (r := []) (ls' := [.int a1, .int 0, .int 2]) rl_L_isYear_3 rfl rfl rfl rfl pl_L_isAmong rfl rfl (fn_iload_n rl_L_isAmong_0 rfl (fn_iload_n rl_L_isAmong_1 rfl (fn_icmp_lt rl_L_isAmong_2 (fun k629 => fn_iconst rl_L_isAmong_14 (fn_retci rl_L_isAmong_15 rfl (fn_retci rl_L_isYear_6 rfl (fn_if_eq_t rl_L_together_4 (by decide +kernel) (fn_iconst rl_L_together_16 (fn_reti rl_L_together_17 rfl k629)))))) (fun k630 => fn_iload_n rl_L_isAmong_5 rfl (fn_iload_n rl_L_isAmong_6 rfl (fn_icmp_gt rl_L_isAmong_7 (fun k627 => fn_iconst rl_L_isAmong_14 (fn_retci rl_L_isAmong_15 rfl (fn_retci rl_L_isYear_6 rfl (fn_if_eq_t rl_L_together_4 (by decide +kernel) (fn_iconst rl_L_together_16 (fn_reti rl_L_together_17 rfl k627)))))) (fun k628 => fn_iconst rl_L_isAmong_10 (fn_goto rl_L_isAmong_11 (fn_retci rl_L_isAmong_15 rfl (fn_retci rl_L_isYear_6 rfl (fn_if_eq_f rl_L_together_4 (by decide +kernel) (fn_iload_n rl_L_together_7 rfl (fn_iconst rl_L_together_8 (fn_iconst rl_L_together_9 (fn_stat (as := [.int a2, .int 0, .int 3]) (r := []) (ls' := [.int a2, .int 0, .int 3]) rl_L_together_10 rfl rfl rfl rfl pl_L_isAmong rfl rfl (fn_iload_n rl_L_isAmong_0 rfl (fn_iload_n rl_L_isAmong_1 rfl (fn_icmp_lt rl_L_isAmong_2 (fun k625 => fn_iconst rl_L_isAmong_14 (fn_retci rl_L_isAmong_15 rfl (fn_if_ne_t rl_L_together_13 (by decide +kernel) (fn_iconst rl_L_together_16 (fn_reti rl_L_together_17 rfl k625))))) (fun k626 => fn_iload_n rl_L_isAmong_5 rfl (fn_iload_n rl_L_isAmong_6 rfl (fn_icmp_gt rl_L_isAmong_7 (fun k623 => fn_iconst rl_L_isAmong_14 (fn_retci rl_L_isAmong_15 rfl (fn_if_ne_t rl_L_together_13 (by decide +kernel) (fn_iconst rl_L_together_16 (fn_reti rl_L_together_17 rfl k623))))) (fun k624 => fn_iconst rl_L_isAmong_10 (fn_goto rl_L_isAmong_11 (fn_retci rl_L_isAmong_15 rfl (fn_if_ne_f rl_L_together_13 (by decide +kernel) (fn_aload_n rl_L_together_18 rfl (fn_get rl_L_together_19 hp_1 rfl (fn_get rl_L_together_22 hp_2 rfl (fn_if_ne rl_L_together_25 (fun k621 => fn_bipush rl_L_together_28 (fn_reti rl_L_together_30 rfl k621)) (fun k622 => fn_iconst rl_L_together_31 (fn_istore_n (ls' := [.ref 1, .int a1, .int a2, .int 0, .null, .null, .null, .null, .null, .null]) rl_L_together_32 rfl rfl (fn_iconst rl_L_together_33 (fn_istore (ls' := [.ref 1, .int a1, .int a2, .int 0, .int 0, .null, .null, .null, .null, .null]) rl_L_together_34 rfl rfl (fn_iconst rl_L_together_36 (fn_istore (ls' := [.ref 1, .int a1, .int a2, .int 0, .int 0, .int 0, .null, .null, .null, .null]) rl_L_together_37 rfl rfl (fn_iconst rl_L_together_39 (fn_istore (ls' := [.ref 1, .int a1, .int a2, .int 0, .int 0, .int 0, .int 0, .null, .null, .null]) rl_L_together_40 rfl rfl (fn_iload_n rl_L_together_42 rfl (fn_stat (as := [.int a1]) (r := []) (ls' := [.int a1]) rl_L_together_43 rfl rfl rfl rfl pl_L_firstOf rfl rfl (fn_iload_n rl_L_firstOf_0 rfl (fn_sipush rl_L_firstOf_1 (fn_imul rl_L_firstOf_4 (fn_retci rl_L_firstOf_5 rfl (fn_istore (ls' := [.ref 1, .int a1, .int a2, .int 0, .int 0, .int 0, .int 0, .int (a1 * 360), .null, .null]) rl_L_together_46 rfl rfl (k622)))))))))))))))) k624)))))))) k626))) k628)))))))))))) k630))) k0))))))))
set_option maxRecDepth 100000 in
set_option maxHeartbeats 4000000 in
theorem sg_L_together_48 {L : Nat} {xs : Nat → Int32} {A V : Nat → Nat → Int32} {K : Nat → Option Nat} {T : am_H} {v : Option Int32} {h' : am_H} {v1 v2 v3 v4 v5 v6 v7 : Int32} (k0 :
    if (((v1 * 360) + 360) - 1) < v7 then (
      if v2 = 0 then (
        v = some v3 ∧ h' = hp L xs A V K T)
      else (
        if v2 = 1 then (
        v = some v5 ∧ h' = hp L xs A V K T)
      else (
        if v2 = 2 then (
        v = some v6 ∧ h' = hp L xs A V K T)
      else (
        v = some (360 - v3) ∧ h' = hp L xs A V K T))))
    else (
      am_fin [(z_P_landOn, 0, [.ref 3, .int v7], []), (z_L_together, 69, [.ref 1, .int v1, .int v2, .int v3, .int v4, .int v5, .int v6, .int v7, .null, .null], [])] (hp L xs A V K T) v h')) : am_fin [(z_L_together, 48, [.ref 1, .int v1, .int v2, .int v3, .int v4, .int v5, .int v6, .int v7, .null, .null], [])] (hp L xs A V K T) v h' :=
  fn_iload rl_L_together_48 rfl (fn_iload_n rl_L_together_50 rfl (fn_stat (as := [.int v1]) (r := [.int v7]) (ls' := [.int v1]) rl_L_together_51 rfl rfl rfl rfl pl_L_lastOf rfl rfl (fn_iload_n rl_L_lastOf_0 rfl (fn_sipush rl_L_lastOf_1 (fn_imul rl_L_lastOf_4 (fn_sipush rl_L_lastOf_5 (fn_iadd rl_L_lastOf_8 (fn_iconst rl_L_lastOf_9 (fn_isub rl_L_lastOf_10 (fn_retci rl_L_lastOf_11 rfl (fn_icmp_gt rl_L_together_54 (fun k637 => fn_iload_n rl_L_together_148 rfl (fn_tableP rl_L_together_149 (fn_swC (tg := 0) (F := fun t => am_fin ((z_L_together, t, [.ref 1, .int v1, .int v2, .int v3, .int v4, .int v5, .int v6, .int v7, .null, .null], []) :: []) (hp L xs A V K T) v h') (fun k635 => fn_iload_n rl_L_together_176 rfl (fn_reti rl_L_together_177 rfl k635)) (fun k636 => fn_swC (tg := 0) (F := fun t => am_fin ((z_L_together, t, [.ref 1, .int v1, .int v2, .int v3, .int v4, .int v5, .int v6, .int v7, .null, .null], []) :: []) (hp L xs A V K T) v h') (fun k633 => fn_iload rl_L_together_178 rfl (fn_reti rl_L_together_180 rfl k633)) (fun k634 => fn_swC (tg := 0) (F := fun t => am_fin ((z_L_together, t, [.ref 1, .int v1, .int v2, .int v3, .int v4, .int v5, .int v6, .int v7, .null, .null], []) :: []) (hp L xs A V K T) v h') (fun k631 => fn_iload rl_L_together_181 rfl (fn_reti rl_L_together_183 rfl k631)) (fun k632 => fn_sipush rl_L_together_184 (fn_iload_n rl_L_together_187 rfl (fn_isub rl_L_together_188 (fn_reti rl_L_together_189 rfl k632)))) k634) k636) k637))) (fun k638 => fn_aload_n rl_L_together_57 rfl (fn_get rl_L_together_58 hp_1 rfl (fn_get rl_L_together_61 hp_2 rfl (fn_iload rl_L_together_64 rfl (fn_virt (as := [.ref 3, .int v7]) (r := []) (ls' := [.ref 3, .int v7]) rl_L_together_66 rfl hp_3 rfl rfl pl_P_landOn rfl rfl (k638)))))) k0)))))))))))
set_option maxRecDepth 100000 in
set_option maxHeartbeats 4000000 in
theorem sg_L_together_69r {L : Nat} {xs : Nat → Int32} {A V : Nat → Nat → Int32} {K : Nat → Option Nat} {T : am_H} {v : Option Int32} {h' : am_H} {v1 v2 v3 v4 v5 v6 v7 r : Int32} (k0 :
    if r = (-1) then (
      am_fin [(z_L_together, 48, [.ref 1, .int v1, .int v2, .int v3, .int 0, .int (if v5 < 0 then 0 else v5 : Int32), .int v6, .int (v7 + 1), .int r, .int 0], [])] (hp L xs A V K T) v h')
    else (
      am_fin [(z_P_landOn, 0, [.ref 7, .int v7], []), (z_L_together, 91, [.ref 1, .int v1, .int v2, .int v3, .int v4, .int v5, .int v6, .int v7, .int r, .null], [.int r])] (hp L xs A V K T) v h')) : am_fin [(z_L_together, 69, [.ref 1, .int v1, .int v2, .int v3, .int v4, .int v5, .int v6, .int v7, .null, .null], [.int r])] (hp L xs A V K T) v h' :=
  fn_istore (ls' := [.ref 1, .int v1, .int v2, .int v3, .int v4, .int v5, .int v6, .int v7, .int r, .null]) rl_L_together_69 rfl rfl (fn_iload rl_L_together_71 rfl (fn_iconst rl_L_together_73 (fn_icmp_eq rl_L_together_74 (fun k639 => fn_iconst rl_L_together_98 (fn_istore (ls' := [.ref 1, .int v1, .int v2, .int v3, .int v4, .int v5, .int v6, .int v7, .int r, .int 0]) rl_L_together_99 rfl rfl (fn_iload rl_L_together_101 rfl (fn_if_eq_t rl_L_together_103 (by decide +kernel) (fn_iconst rl_L_together_113 (fn_istore (ls' := [.ref 1, .int v1, .int v2, .int v3, .int 0, .int v5, .int v6, .int v7, .int r, .int 0]) rl_L_together_114 rfl rfl (fn_iload rl_L_together_116 rfl (fn_iload rl_L_together_118 rfl (fn_max rl_L_together_120 rfl (fn_istore (ls' := [.ref 1, .int v1, .int v2, .int v3, .int 0, .int (if v5 < 0 then 0 else v5 : Int32), .int v6, .int v7, .int r, .int 0]) rl_L_together_123 rfl rfl (fn_iload rl_L_together_125 rfl (fn_if_eq_t rl_L_together_127 (by decide +kernel) (fn_iinc (ls' := [.ref 1, .int v1, .int v2, .int v3, .int 0, .int (if v5 < 0 then 0 else v5 : Int32), .int v6, .int (v7 + 1), .int r, .int 0]) rl_L_together_142 rfl rfl rfl (fn_goto rl_L_together_145 (k639))))))))))))))) (fun k640 => fn_iload rl_L_together_77 rfl (fn_aload_n rl_L_together_79 rfl (fn_get rl_L_together_80 hp_1 rfl (fn_get rl_L_together_83 hp_2 rfl (fn_iload rl_L_together_86 rfl (fn_virt (as := [.ref 7, .int v7]) (r := [.int r]) (ls' := [.ref 7, .int v7]) rl_L_together_88 rfl hp_7 rfl rfl pl_P_landOn rfl rfl (k640))))))) k0)))
set_option maxRecDepth 100000 in
set_option maxHeartbeats 4000000 in
theorem sg_L_together_48b {L : Nat} {xs : Nat → Int32} {A V : Nat → Nat → Int32} {K : Nat → Option Nat} {T : am_H} {v : Option Int32} {h' : am_H} {v1 v2 v3 v4 v5 v6 v7 v8 v9 : Int32} (k0 :
    if (((v1 * 360) + 360) - 1) < v7 then (
      if v2 = 0 then (
        v = some v3 ∧ h' = hp L xs A V K T)
      else (
        if v2 = 1 then (
        v = some v5 ∧ h' = hp L xs A V K T)
      else (
        if v2 = 2 then (
        v = some v6 ∧ h' = hp L xs A V K T)
      else (
        v = some (360 - v3) ∧ h' = hp L xs A V K T))))
    else (
      am_fin [(z_P_landOn, 0, [.ref 3, .int v7], []), (z_L_together, 69, [.ref 1, .int v1, .int v2, .int v3, .int v4, .int v5, .int v6, .int v7, .int v8, .int v9], [])] (hp L xs A V K T) v h')) : am_fin [(z_L_together, 48, [.ref 1, .int v1, .int v2, .int v3, .int v4, .int v5, .int v6, .int v7, .int v8, .int v9], [])] (hp L xs A V K T) v h' :=
  fn_iload rl_L_together_48 rfl (fn_iload_n rl_L_together_50 rfl (fn_stat (as := [.int v1]) (r := [.int v7]) (ls' := [.int v1]) rl_L_together_51 rfl rfl rfl rfl pl_L_lastOf rfl rfl (fn_iload_n rl_L_lastOf_0 rfl (fn_sipush rl_L_lastOf_1 (fn_imul rl_L_lastOf_4 (fn_sipush rl_L_lastOf_5 (fn_iadd rl_L_lastOf_8 (fn_iconst rl_L_lastOf_9 (fn_isub rl_L_lastOf_10 (fn_retci rl_L_lastOf_11 rfl (fn_icmp_gt rl_L_together_54 (fun k647 => fn_iload_n rl_L_together_148 rfl (fn_tableP rl_L_together_149 (fn_swC (tg := 0) (F := fun t => am_fin ((z_L_together, t, [.ref 1, .int v1, .int v2, .int v3, .int v4, .int v5, .int v6, .int v7, .int v8, .int v9], []) :: []) (hp L xs A V K T) v h') (fun k645 => fn_iload_n rl_L_together_176 rfl (fn_reti rl_L_together_177 rfl k645)) (fun k646 => fn_swC (tg := 0) (F := fun t => am_fin ((z_L_together, t, [.ref 1, .int v1, .int v2, .int v3, .int v4, .int v5, .int v6, .int v7, .int v8, .int v9], []) :: []) (hp L xs A V K T) v h') (fun k643 => fn_iload rl_L_together_178 rfl (fn_reti rl_L_together_180 rfl k643)) (fun k644 => fn_swC (tg := 0) (F := fun t => am_fin ((z_L_together, t, [.ref 1, .int v1, .int v2, .int v3, .int v4, .int v5, .int v6, .int v7, .int v8, .int v9], []) :: []) (hp L xs A V K T) v h') (fun k641 => fn_iload rl_L_together_181 rfl (fn_reti rl_L_together_183 rfl k641)) (fun k642 => fn_sipush rl_L_together_184 (fn_iload_n rl_L_together_187 rfl (fn_isub rl_L_together_188 (fn_reti rl_L_together_189 rfl k642)))) k644) k646) k647))) (fun k648 => fn_aload_n rl_L_together_57 rfl (fn_get rl_L_together_58 hp_1 rfl (fn_get rl_L_together_61 hp_2 rfl (fn_iload rl_L_together_64 rfl (fn_virt (as := [.ref 3, .int v7]) (r := []) (ls' := [.ref 3, .int v7]) rl_L_together_66 rfl hp_3 rfl rfl pl_P_landOn rfl rfl (k648)))))) k0)))))))))))
set_option maxRecDepth 100000 in
set_option maxHeartbeats 4000000 in
theorem sg_L_together_69rb {L : Nat} {xs : Nat → Int32} {A V : Nat → Nat → Int32} {K : Nat → Option Nat} {T : am_H} {v : Option Int32} {h' : am_H} {v1 v2 v3 v4 v5 v6 v7 v8 v9 r : Int32} (k0 :
    if r = (-1) then (
      am_fin [(z_L_together, 48, [.ref 1, .int v1, .int v2, .int v3, .int 0, .int (if v5 < 0 then 0 else v5 : Int32), .int v6, .int (v7 + 1), .int r, .int 0], [])] (hp L xs A V K T) v h')
    else (
      am_fin [(z_P_landOn, 0, [.ref 7, .int v7], []), (z_L_together, 91, [.ref 1, .int v1, .int v2, .int v3, .int v4, .int v5, .int v6, .int v7, .int r, .int v9], [.int r])] (hp L xs A V K T) v h')) : am_fin [(z_L_together, 69, [.ref 1, .int v1, .int v2, .int v3, .int v4, .int v5, .int v6, .int v7, .int v8, .int v9], [.int r])] (hp L xs A V K T) v h' :=
  fn_istore (ls' := [.ref 1, .int v1, .int v2, .int v3, .int v4, .int v5, .int v6, .int v7, .int r, .int v9]) rl_L_together_69 rfl rfl (fn_iload rl_L_together_71 rfl (fn_iconst rl_L_together_73 (fn_icmp_eq rl_L_together_74 (fun k649 => fn_iconst rl_L_together_98 (fn_istore (ls' := [.ref 1, .int v1, .int v2, .int v3, .int v4, .int v5, .int v6, .int v7, .int r, .int 0]) rl_L_together_99 rfl rfl (fn_iload rl_L_together_101 rfl (fn_if_eq_t rl_L_together_103 (by decide +kernel) (fn_iconst rl_L_together_113 (fn_istore (ls' := [.ref 1, .int v1, .int v2, .int v3, .int 0, .int v5, .int v6, .int v7, .int r, .int 0]) rl_L_together_114 rfl rfl (fn_iload rl_L_together_116 rfl (fn_iload rl_L_together_118 rfl (fn_max rl_L_together_120 rfl (fn_istore (ls' := [.ref 1, .int v1, .int v2, .int v3, .int 0, .int (if v5 < 0 then 0 else v5 : Int32), .int v6, .int v7, .int r, .int 0]) rl_L_together_123 rfl rfl (fn_iload rl_L_together_125 rfl (fn_if_eq_t rl_L_together_127 (by decide +kernel) (fn_iinc (ls' := [.ref 1, .int v1, .int v2, .int v3, .int 0, .int (if v5 < 0 then 0 else v5 : Int32), .int v6, .int (v7 + 1), .int r, .int 0]) rl_L_together_142 rfl rfl rfl (fn_goto rl_L_together_145 (k649))))))))))))))) (fun k650 => fn_iload rl_L_together_77 rfl (fn_aload_n rl_L_together_79 rfl (fn_get rl_L_together_80 hp_1 rfl (fn_get rl_L_together_83 hp_2 rfl (fn_iload rl_L_together_86 rfl (fn_virt (as := [.ref 7, .int v7]) (r := [.int r]) (ls' := [.ref 7, .int v7]) rl_L_together_88 rfl hp_7 rfl rfl pl_P_landOn rfl rfl (k650))))))) k0)))
set_option maxRecDepth 100000 in
set_option maxHeartbeats 4000000 in
theorem sg_L_together_91r {L : Nat} {xs : Nat → Int32} {A V : Nat → Nat → Int32} {K : Nat → Option Nat} {T : am_H} {v : Option Int32} {h' : am_H} {v1 v2 v3 v4 v5 v6 v7 v8 v9 s0 r : Int32} (k0 :
    if s0 = r then (
      am_fin [(z_L_together, 48, [.ref 1, .int v1, .int v2, .int (v3 + 1), .int (v4 + 1), .int (if v5 < (v4 + 1) then (v4 + 1) else v5 : Int32), .int (v6 ||| ((1 : Int32) <<< (v8 &&& 31 : Int32))), .int (v7 + 1), .int v8, .int 1], [])] (hp L xs A V K T) v h')
    else (
      am_fin [(z_L_together, 48, [.ref 1, .int v1, .int v2, .int v3, .int 0, .int (if v5 < 0 then 0 else v5 : Int32), .int v6, .int (v7 + 1), .int v8, .int 0], [])] (hp L xs A V K T) v h')) : am_fin [(z_L_together, 91, [.ref 1, .int v1, .int v2, .int v3, .int v4, .int v5, .int v6, .int v7, .int v8, .int v9], [.int r, .int s0])] (hp L xs A V K T) v h' :=
  fn_icmp_ne rl_L_together_91 (fun k651 => fn_iconst rl_L_together_94 (fn_goto rl_L_together_95 (fn_istore (ls' := [.ref 1, .int v1, .int v2, .int v3, .int v4, .int v5, .int v6, .int v7, .int v8, .int 1]) rl_L_together_99 rfl rfl (fn_iload rl_L_together_101 rfl (fn_if_eq_f rl_L_together_103 (by decide +kernel) (fn_iload rl_L_together_106 rfl (fn_iconst rl_L_together_108 (fn_iadd rl_L_together_109 (fn_goto rl_L_together_110 (fn_istore (ls' := [.ref 1, .int v1, .int v2, .int v3, .int (v4 + 1), .int v5, .int v6, .int v7, .int v8, .int 1]) rl_L_together_114 rfl rfl (fn_iload rl_L_together_116 rfl (fn_iload rl_L_together_118 rfl (fn_max rl_L_together_120 rfl (fn_istore (ls' := [.ref 1, .int v1, .int v2, .int v3, .int (v4 + 1), .int (if v5 < (v4 + 1) then (v4 + 1) else v5 : Int32), .int v6, .int v7, .int v8, .int 1]) rl_L_together_123 rfl rfl (fn_iload rl_L_together_125 rfl (fn_if_eq_f rl_L_together_127 (by decide +kernel) (fn_iinc (ls' := [.ref 1, .int v1, .int v2, .int (v3 + 1), .int (v4 + 1), .int (if v5 < (v4 + 1) then (v4 + 1) else v5 : Int32), .int v6, .int v7, .int v8, .int 1]) rl_L_together_130 rfl rfl rfl (fn_iload rl_L_together_133 rfl (fn_iconst rl_L_together_135 (fn_iload rl_L_together_136 rfl (fn_ishl rl_L_together_138 (fn_ior rl_L_together_139 (fn_istore (ls' := [.ref 1, .int v1, .int v2, .int (v3 + 1), .int (v4 + 1), .int (if v5 < (v4 + 1) then (v4 + 1) else v5 : Int32), .int (v6 ||| ((1 : Int32) <<< (v8 &&& 31 : Int32))), .int v7, .int v8, .int 1]) rl_L_together_140 rfl rfl (fn_iinc (ls' := [.ref 1, .int v1, .int v2, .int (v3 + 1), .int (v4 + 1), .int (if v5 < (v4 + 1) then (v4 + 1) else v5 : Int32), .int (v6 ||| ((1 : Int32) <<< (v8 &&& 31 : Int32))), .int (v7 + 1), .int v8, .int 1]) rl_L_together_142 rfl rfl rfl (fn_goto rl_L_together_145 (k651)))))))))))))))))))))))))) (fun k652 => fn_iconst rl_L_together_98 (fn_istore (ls' := [.ref 1, .int v1, .int v2, .int v3, .int v4, .int v5, .int v6, .int v7, .int v8, .int 0]) rl_L_together_99 rfl rfl (fn_iload rl_L_together_101 rfl (fn_if_eq_t rl_L_together_103 (by decide +kernel) (fn_iconst rl_L_together_113 (fn_istore (ls' := [.ref 1, .int v1, .int v2, .int v3, .int 0, .int v5, .int v6, .int v7, .int v8, .int 0]) rl_L_together_114 rfl rfl (fn_iload rl_L_together_116 rfl (fn_iload rl_L_together_118 rfl (fn_max rl_L_together_120 rfl (fn_istore (ls' := [.ref 1, .int v1, .int v2, .int v3, .int 0, .int (if v5 < 0 then 0 else v5 : Int32), .int v6, .int v7, .int v8, .int 0]) rl_L_together_123 rfl rfl (fn_iload rl_L_together_125 rfl (fn_if_eq_t rl_L_together_127 (by decide +kernel) (fn_iinc (ls' := [.ref 1, .int v1, .int v2, .int v3, .int 0, .int (if v5 < 0 then 0 else v5 : Int32), .int v6, .int (v7 + 1), .int v8, .int 0]) rl_L_together_142 rfl rfl rfl (fn_goto rl_L_together_145 (k652))))))))))))))) k0
set_option maxRecDepth 100000 in
set_option maxHeartbeats 4000000 in
theorem sg_L_together_91rb {L : Nat} {xs : Nat → Int32} {A V : Nat → Nat → Int32} {K : Nat → Option Nat} {T : am_H} {v : Option Int32} {h' : am_H} {v1 v2 v3 v4 v5 v6 v7 v8 s0 r : Int32} (k0 :
    if s0 = r then (
      am_fin [(z_L_together, 48, [.ref 1, .int v1, .int v2, .int (v3 + 1), .int (v4 + 1), .int (if v5 < (v4 + 1) then (v4 + 1) else v5 : Int32), .int (v6 ||| ((1 : Int32) <<< (v8 &&& 31 : Int32))), .int (v7 + 1), .int v8, .int 1], [])] (hp L xs A V K T) v h')
    else (
      am_fin [(z_L_together, 48, [.ref 1, .int v1, .int v2, .int v3, .int 0, .int (if v5 < 0 then 0 else v5 : Int32), .int v6, .int (v7 + 1), .int v8, .int 0], [])] (hp L xs A V K T) v h')) : am_fin [(z_L_together, 91, [.ref 1, .int v1, .int v2, .int v3, .int v4, .int v5, .int v6, .int v7, .int v8, .null], [.int r, .int s0])] (hp L xs A V K T) v h' :=
  fn_icmp_ne rl_L_together_91 (fun k653 => fn_iconst rl_L_together_94 (fn_goto rl_L_together_95 (fn_istore (ls' := [.ref 1, .int v1, .int v2, .int v3, .int v4, .int v5, .int v6, .int v7, .int v8, .int 1]) rl_L_together_99 rfl rfl (fn_iload rl_L_together_101 rfl (fn_if_eq_f rl_L_together_103 (by decide +kernel) (fn_iload rl_L_together_106 rfl (fn_iconst rl_L_together_108 (fn_iadd rl_L_together_109 (fn_goto rl_L_together_110 (fn_istore (ls' := [.ref 1, .int v1, .int v2, .int v3, .int (v4 + 1), .int v5, .int v6, .int v7, .int v8, .int 1]) rl_L_together_114 rfl rfl (fn_iload rl_L_together_116 rfl (fn_iload rl_L_together_118 rfl (fn_max rl_L_together_120 rfl (fn_istore (ls' := [.ref 1, .int v1, .int v2, .int v3, .int (v4 + 1), .int (if v5 < (v4 + 1) then (v4 + 1) else v5 : Int32), .int v6, .int v7, .int v8, .int 1]) rl_L_together_123 rfl rfl (fn_iload rl_L_together_125 rfl (fn_if_eq_f rl_L_together_127 (by decide +kernel) (fn_iinc (ls' := [.ref 1, .int v1, .int v2, .int (v3 + 1), .int (v4 + 1), .int (if v5 < (v4 + 1) then (v4 + 1) else v5 : Int32), .int v6, .int v7, .int v8, .int 1]) rl_L_together_130 rfl rfl rfl (fn_iload rl_L_together_133 rfl (fn_iconst rl_L_together_135 (fn_iload rl_L_together_136 rfl (fn_ishl rl_L_together_138 (fn_ior rl_L_together_139 (fn_istore (ls' := [.ref 1, .int v1, .int v2, .int (v3 + 1), .int (v4 + 1), .int (if v5 < (v4 + 1) then (v4 + 1) else v5 : Int32), .int (v6 ||| ((1 : Int32) <<< (v8 &&& 31 : Int32))), .int v7, .int v8, .int 1]) rl_L_together_140 rfl rfl (fn_iinc (ls' := [.ref 1, .int v1, .int v2, .int (v3 + 1), .int (v4 + 1), .int (if v5 < (v4 + 1) then (v4 + 1) else v5 : Int32), .int (v6 ||| ((1 : Int32) <<< (v8 &&& 31 : Int32))), .int (v7 + 1), .int v8, .int 1]) rl_L_together_142 rfl rfl rfl (fn_goto rl_L_together_145 (k653)))))))))))))))))))))))))) (fun k654 => fn_iconst rl_L_together_98 (fn_istore (ls' := [.ref 1, .int v1, .int v2, .int v3, .int v4, .int v5, .int v6, .int v7, .int v8, .int 0]) rl_L_together_99 rfl rfl (fn_iload rl_L_together_101 rfl (fn_if_eq_t rl_L_together_103 (by decide +kernel) (fn_iconst rl_L_together_113 (fn_istore (ls' := [.ref 1, .int v1, .int v2, .int v3, .int 0, .int v5, .int v6, .int v7, .int v8, .int 0]) rl_L_together_114 rfl rfl (fn_iload rl_L_together_116 rfl (fn_iload rl_L_together_118 rfl (fn_max rl_L_together_120 rfl (fn_istore (ls' := [.ref 1, .int v1, .int v2, .int v3, .int 0, .int (if v5 < 0 then 0 else v5 : Int32), .int v6, .int v7, .int v8, .int 0]) rl_L_together_123 rfl rfl (fn_iload rl_L_together_125 rfl (fn_if_eq_t rl_L_together_127 (by decide +kernel) (fn_iinc (ls' := [.ref 1, .int v1, .int v2, .int v3, .int 0, .int (if v5 < 0 then 0 else v5 : Int32), .int v6, .int (v7 + 1), .int v8, .int 0]) rl_L_together_142 rfl rfl rfl (fn_goto rl_L_together_145 (k654))))))))))))))) k0
