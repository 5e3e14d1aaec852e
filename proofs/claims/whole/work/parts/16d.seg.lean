set_option maxRecDepth 100000 in
set_option maxHeartbeats 4000000 in
theorem sg_L_cheapest_83rb {L : Nat} {xs : Nat → Int32} {A V : Nat → Nat → Int32} {K : Nat → Option Nat} {T : am_H} {v : Option Int32} {h' : am_H} {v1 v2 v3 v4 v5 v6 v7 r : Int32} (k0 :
    if v5 = (-1) then (
      am_fin [(z_L_cheapest, 49, [.ref 1, .int v1, .int v2, .int v3, .int v6, .int r, .int (v6 + 1), .int r], [])] (hp L xs A V K T) v h')
    else (
      if v5 ≤ r then (
        am_fin [(z_L_cheapest, 49, [.ref 1, .int v1, .int v2, .int v3, .int v4, .int v5, .int (v6 + 1), .int r], [])] (hp L xs A V K T) v h')
      else (
        am_fin [(z_L_cheapest, 49, [.ref 1, .int v1, .int v2, .int v3, .int v6, .int r, .int (v6 + 1), .int r], [])] (hp L xs A V K T) v h'))) : am_fin [(z_L_cheapest, 83, [.ref 1, .int v1, .int v2, .int v3, .int v4, .int v5, .int v6, .int v7], [.int r])] (hp L xs A V K T) v h' :=
  fn_istore (ls' := [.ref 1, .int v1, .int v2, .int v3, .int v4, .int v5, .int v6, .int r]) rl_L_cheapest_83 rfl rfl (fn_iload rl_L_cheapest_85 rfl (fn_iconst rl_L_cheapest_87 (fn_icmp_eq rl_L_cheapest_88 (fun k956 => fn_iload rl_L_cheapest_98 rfl (fn_istore (ls' := [.ref 1, .int v1, .int v2, .int v3, .int v6, .int v5, .int v6, .int r]) rl_L_cheapest_100 rfl rfl (fn_iload rl_L_cheapest_102 rfl (fn_istore (ls' := [.ref 1, .int v1, .int v2, .int v3, .int v6, .int r, .int v6, .int r]) rl_L_cheapest_104 rfl rfl (fn_iinc (ls' := [.ref 1, .int v1, .int v2, .int v3, .int v6, .int r, .int (v6 + 1), .int r]) rl_L_cheapest_106 rfl rfl rfl (fn_goto rl_L_cheapest_109 (k956))))))) (fun k957 => fn_iload rl_L_cheapest_91 rfl (fn_iload rl_L_cheapest_93 rfl (fn_icmp_ge rl_L_cheapest_95 (fun k954 => fn_iinc (ls' := [.ref 1, .int v1, .int v2, .int v3, .int v4, .int v5, .int (v6 + 1), .int r]) rl_L_cheapest_106 rfl rfl rfl (fn_goto rl_L_cheapest_109 (k954))) (fun k955 => fn_iload rl_L_cheapest_98 rfl (fn_istore (ls' := [.ref 1, .int v1, .int v2, .int v3, .int v6, .int v5, .int v6, .int r]) rl_L_cheapest_100 rfl rfl (fn_iload rl_L_cheapest_102 rfl (fn_istore (ls' := [.ref 1, .int v1, .int v2, .int v3, .int v6, .int r, .int v6, .int r]) rl_L_cheapest_104 rfl rfl (fn_iinc (ls' := [.ref 1, .int v1, .int v2, .int v3, .int v6, .int r, .int (v6 + 1), .int r]) rl_L_cheapest_106 rfl rfl rfl (fn_goto rl_L_cheapest_109 (k955))))))) k957))) k0)))
set_option maxRecDepth 100000 in
set_option maxHeartbeats 4000000 in
theorem sg_L_count_0 {L : Nat} {xs : Nat → Int32} {A V : Nat → Nat → Int32} {K : Nat → Option Nat} {T : am_H} {v : Option Int32} {h' : am_H} {a1 : Int32} (k0 :
    if a1 = 0 then (
      am_fin [(z_P_countOf, 0, [.ref 3, .int (-1), .int 0, .int 1079, .null, .null], []), (z_L_count, 58, [.ref 1, .int a1], [.int 1080])] (hp L xs A V K T) v h')
    else (
      if a1 = 1 then (
      v = some (V 10 7) ∧ h' = hp L xs A V K T)
    else (
      if a1 = 2 then (
      am_fin [(z_L_overstaysInAll, 0, [.ref 1, .ref 3, .null, .null], []), (z_L_count, 82, [.ref 1, .int a1], [])] (hp L xs A V K T) v h')
    else (
      if a1 = 3 then (
      am_fin [(z_P_stayCount, 0, [.ref 3, .null, .null], []), (z_L_count, 93, [.ref 1, .int a1], [])] (hp L xs A V K T) v h')
    else (
      if a1 = 4 then (
      v = some (V 19 1) ∧ h' = hp L xs A V K T)
    else (
      if a1 = 5 then (
      v = some (V 1 2) ∧ h' = hp L xs A V K T)
    else (
      v = some (-1) ∧ h' = hp L xs A V K T))))))) : am_fin [(z_L_count, 0, [.ref 1, .int a1], [])] (hp L xs A V K T) v h' :=
  fn_iload_n rl_L_count_0 rfl (fn_tableP rl_L_count_1 (fn_swC (tg := 0) (F := fun t => am_fin ((z_L_count, t, [.ref 1, .int a1], []) :: []) (hp L xs A V K T) v h') (fun k968 => fn_sipush rl_L_count_40 (fn_aload_n rl_L_count_43 rfl (fn_get rl_L_count_44 hp_1 rfl (fn_get rl_L_count_47 hp_2 rfl (fn_iconst rl_L_count_50 (fn_iconst rl_L_count_51 (fn_sipush rl_L_count_52 (fn_virt (as := [.ref 3, .int (-1), .int 0, .int 1079]) (r := [.int 1080]) (ls' := [.ref 3, .int (-1), .int 0, .int 1079, .null, .null]) rl_L_count_55 rfl hp_3 rfl rfl pl_P_countOf rfl rfl (k968))))))))) (fun k969 => fn_swC (tg := 0) (F := fun t => am_fin ((z_L_count, t, [.ref 1, .int a1], []) :: []) (hp L xs A V K T) v h') (fun k966 => fn_aload_n rl_L_count_60 rfl (fn_get rl_L_count_61 hp_1 rfl (fn_get rl_L_count_64 hp_2 rfl (fn_get rl_L_count_67 hp_10 rfl (fn_reti rl_L_count_70 rfl k966))))) (fun k967 => fn_swC (tg := 0) (F := fun t => am_fin ((z_L_count, t, [.ref 1, .int a1], []) :: []) (hp L xs A V K T) v h') (fun k964 => fn_aload_n rl_L_count_71 rfl (fn_aload_n rl_L_count_72 rfl (fn_get rl_L_count_73 hp_1 rfl (fn_get rl_L_count_76 hp_2 rfl (fn_virt (as := [.ref 1, .ref 3]) (r := []) (ls' := [.ref 1, .ref 3, .null, .null]) rl_L_count_79 rfl hp_1 rfl rfl pl_L_overstaysInAll rfl rfl (k964)))))) (fun k965 => fn_swC (tg := 0) (F := fun t => am_fin ((z_L_count, t, [.ref 1, .int a1], []) :: []) (hp L xs A V K T) v h') (fun k962 => fn_aload_n rl_L_count_83 rfl (fn_get rl_L_count_84 hp_1 rfl (fn_get rl_L_count_87 hp_2 rfl (fn_virt (as := [.ref 3]) (r := []) (ls' := [.ref 3, .null, .null]) rl_L_count_90 rfl hp_3 rfl rfl pl_P_stayCount rfl rfl (k962))))) (fun k963 => fn_swC (tg := 0) (F := fun t => am_fin ((z_L_count, t, [.ref 1, .int a1], []) :: []) (hp L xs A V K T) v h') (fun k960 => fn_aload_n rl_L_count_94 rfl (fn_get rl_L_count_95 hp_1 rfl (fn_get rl_L_count_98 hp_19 rfl (fn_reti rl_L_count_101 rfl k960)))) (fun k961 => fn_swC (tg := 0) (F := fun t => am_fin ((z_L_count, t, [.ref 1, .int a1], []) :: []) (hp L xs A V K T) v h') (fun k958 => fn_aload_n rl_L_count_102 rfl (fn_get rl_L_count_103 hp_1 rfl (fn_reti rl_L_count_106 rfl k958))) (fun k959 => fn_iconst rl_L_count_107 (fn_reti rl_L_count_108 rfl k959)) k961) k963) k965) k967) k969) k0))
set_option maxRecDepth 100000 in
set_option maxHeartbeats 4000000 in
theorem sg_L_count_58r {L : Nat} {xs : Nat → Int32} {A V : Nat → Nat → Int32} {K : Nat → Option Nat} {T : am_H} {v : Option Int32} {h' : am_H} {v1 s0 r : Int32} (k0 :
    v = some (s0 - r) ∧ h' = hp L xs A V K T) : am_fin [(z_L_count, 58, [.ref 1, .int v1], [.int r, .int s0])] (hp L xs A V K T) v h' :=
  fn_isub rl_L_count_58 (fn_reti rl_L_count_59 rfl k0)
set_option maxRecDepth 100000 in
set_option maxHeartbeats 4000000 in
theorem sg_L_count_82r {L : Nat} {xs : Nat → Int32} {A V : Nat → Nat → Int32} {K : Nat → Option Nat} {T : am_H} {v : Option Int32} {h' : am_H} {v1 r : Int32} (k0 :
    v = some r ∧ h' = hp L xs A V K T) : am_fin [(z_L_count, 82, [.ref 1, .int v1], [.int r])] (hp L xs A V K T) v h' :=
  fn_reti rl_L_count_82 rfl k0
set_option maxRecDepth 100000 in
set_option maxHeartbeats 4000000 in
theorem sg_L_count_93r {L : Nat} {xs : Nat → Int32} {A V : Nat → Nat → Int32} {K : Nat → Option Nat} {T : am_H} {v : Option Int32} {h' : am_H} {v1 r : Int32} (k0 :
    v = some r ∧ h' = hp L xs A V K T) : am_fin [(z_L_count, 93, [.ref 1, .int v1], [.int r])] (hp L xs A V K T) v h' :=
  fn_reti rl_L_count_93 rfl k0
set_option maxRecDepth 100000 in
set_option maxHeartbeats 4000000 in
theorem sg_T_putWord_0 {L : Nat} {xs : Nat → Int32} {A V : Nat → Nat → Int32} {K : Nat → Option Nat} {T : am_H} {v : Option Int32} {h' : am_H} {a1 : Int32} (k0 :
    am_fin [(z_T_putWord, 3, [.ref 19, .int a1, .int 24], [])] (hp L xs A V K T) v h') : am_fin [(z_T_putWord, 0, [.ref 19, .int a1, .null], [])] (hp L xs A V K T) v h' :=
  fn_bipush rl_T_putWord_0 (fn_istore_n (ls' := [.ref 19, .int a1, .int 24]) rl_T_putWord_2 rfl rfl (k0))
set_option maxRecDepth 100000 in
set_option maxHeartbeats 4000000 in
theorem sg_T_putWord_3 {L : Nat} {xs : Nat → Int32} {A V : Nat → Nat → Int32} {K : Nat → Option Nat} {T : am_H} {v : Option Int32} {h' : am_H} {v1 v2 : Int32} (k0 :
    if v2 < 0 then (
      v = none ∧ h' = hp L xs A V K T)
    else (
      if 320 ≤ (V 19 1) then (
        v = none ∧ h' = hp L xs A V K T)
      else (
        ¬ ((V 19 1) < 0 ∨ 320 ≤ (V 19 1).toNatClampNeg) ∧ (
        am_fin [(z_T_putWord, 3, [.ref 19, .int v1, .int (v2 + (-8))], [])] (hp L xs (upA A 20 (upd (A 20) (V 19 1).toNatClampNeg (((v1 : Int32) >>> (v2 &&& 31 : Int32)) &&& 255))) (upV V 19 1 ((V 19 1) + 1)) K T) v h')))) : am_fin [(z_T_putWord, 3, [.ref 19, .int v1, .int v2], [])] (hp L xs A V K T) v h' :=
  fn_iload_n rl_T_putWord_3 rfl (fn_if_lt rl_T_putWord_4 (fun k2338 => fn_retv rl_T_putWord_49 k2338) (fun k2339 => fn_aload_n rl_T_putWord_7 rfl (fn_get rl_T_putWord_8 hp_19 rfl (fn_sipush rl_T_putWord_11 (fn_icmp_ge rl_T_putWord_14 (fun k2336 => fn_retv rl_T_putWord_49 k2336) (fun k2337 => fn_aload_n rl_T_putWord_17 rfl (fn_get rl_T_putWord_18 hp_19 rfl (fn_aload_n rl_T_putWord_21 rfl (fn_get rl_T_putWord_22 hp_19 rfl (fn_iload_n rl_T_putWord_25 rfl (fn_iload_n rl_T_putWord_26 rfl (fn_ishr rl_T_putWord_27 (fn_sipush rl_T_putWord_28 (fn_iand rl_T_putWord_31 (fn_iast rl_T_putWord_32 hp_20 hps_20 (fun k2335 => fn_aload_n rl_T_putWord_33 rfl (fn_dup_ref rl_T_putWord_34 (fn_get rl_T_putWord_35 hp_19 rfl (fn_iconst rl_T_putWord_38 (fn_iadd rl_T_putWord_39 (fn_put rl_T_putWord_40 hp_19 rfl hpv_19_1 (fn_iinc (ls' := [.ref 19, .int v1, .int (v2 + (-8))]) rl_T_putWord_43 rfl rfl rfl (fn_goto rl_T_putWord_46 (k2335))))))))) k2337)))))))))) k2339)))) k0)
set_option maxRecDepth 100000 in
set_option maxHeartbeats 4000000 in
theorem sg_D_readText_0 {L : Nat} {xs : Nat → Int32} {A V : Nat → Nat → Int32} {K : Nat → Option Nat} {T : am_H} {v : Option Int32} {h' : am_H} {a1 : Int32} (k0 :
    am_fin [(z_D_readText, 32, [.ref 21, .int a1, .int 1, .int 0], [])] (hp L xs A (upV (upV (upV (upV V 21 4 (if (Int32.ofNat 320) < a1 then (Int32.ofNat 320) else a1 : Int32)) 21 5 0) 21 6 0) 21 7 0) K T) v h') : am_fin [(z_D_readText, 0, [.ref 21, .int a1, .null, .null], [])] (hp L xs A V K T) v h' :=
  fn_aload_n rl_D_readText_0 rfl (fn_iload_n rl_D_readText_1 rfl (fn_aload_n rl_D_readText_2 rfl (fn_get rl_D_readText_3 hp_21 rfl (fn_alen rl_D_readText_6 hp_20 (fn_min rl_D_readText_7 rfl (fn_put rl_D_readText_10 hp_21 rfl hpv_21_4 (fn_aload_n rl_D_readText_13 rfl (fn_iconst rl_D_readText_14 (fn_put rl_D_readText_15 hp_21 rfl hpv_21_5 (fn_aload_n rl_D_readText_18 rfl (fn_iconst rl_D_readText_19 (fn_put rl_D_readText_20 hp_21 rfl hpv_21_6 (fn_aload_n rl_D_readText_23 rfl (fn_iconst rl_D_readText_24 (fn_put rl_D_readText_25 hp_21 rfl hpv_21_7 (fn_iconst rl_D_readText_28 (fn_istore_n (ls' := [.ref 21, .int a1, .int 1, .null]) rl_D_readText_29 rfl rfl (fn_iconst rl_D_readText_30 (fn_istore_n (ls' := [.ref 21, .int a1, .int 1, .int 0]) rl_D_readText_31 rfl rfl (k0))))))))))))))))))))
set_option maxRecDepth 100000 in
set_option maxHeartbeats 4000000 in
theorem sg_D_readText_32 {L : Nat} {xs : Nat → Int32} {A V : Nat → Nat → Int32} {K : Nat → Option Nat} {T : am_H} {v : Option Int32} {h' : am_H} {v1 v2 v3 : Int32} (k0 :
    if 80 ≤ v3 then (
      if (V 21 7) = 0 then (
        v = some (V 21 5) ∧ h' = hp L xs A V K T)
      else (
        v = some (V 21 7) ∧ h' = hp L xs A V K T))
    else (
      if v2 = 0 then (
        if (V 21 7) = 0 then (
          v = some (V 21 5) ∧ h' = hp L xs A V K T)
        else (
          v = some (V 21 7) ∧ h' = hp L xs A V K T))
      else (
        am_fin [(z_D_readStay, 0, [.ref 21, .int v3, .null, .null, .null], []), (z_D_readText, 47, [.ref 21, .int v1, .int v2, .int v3], [])] (hp L xs A V K T) v h'))) : am_fin [(z_D_readText, 32, [.ref 21, .int v1, .int v2, .int v3], [])] (hp L xs A V K T) v h' :=
  fn_iload_n rl_D_readText_32 rfl (fn_bipush rl_D_readText_33 (fn_icmp_ge rl_D_readText_35 (fun k2346 => fn_aload_n rl_D_readText_73 rfl (fn_get rl_D_readText_74 hp_21 rfl (fn_if_eq rl_D_readText_77 (fun k2340 => fn_aload_n rl_D_readText_87 rfl (fn_get rl_D_readText_88 hp_21 rfl (fn_reti rl_D_readText_91 rfl k2340))) (fun k2341 => fn_aload_n rl_D_readText_80 rfl (fn_get rl_D_readText_81 hp_21 rfl (fn_goto rl_D_readText_84 (fn_reti rl_D_readText_91 rfl k2341)))) k2346))) (fun k2347 => fn_iload_n rl_D_readText_38 rfl (fn_if_eq rl_D_readText_39 (fun k2344 => fn_aload_n rl_D_readText_73 rfl (fn_get rl_D_readText_74 hp_21 rfl (fn_if_eq rl_D_readText_77 (fun k2342 => fn_aload_n rl_D_readText_87 rfl (fn_get rl_D_readText_88 hp_21 rfl (fn_reti rl_D_readText_91 rfl k2342))) (fun k2343 => fn_aload_n rl_D_readText_80 rfl (fn_get rl_D_readText_81 hp_21 rfl (fn_goto rl_D_readText_84 (fn_reti rl_D_readText_91 rfl k2343)))) k2344))) (fun k2345 => fn_aload_n rl_D_readText_42 rfl (fn_iload_n rl_D_readText_43 rfl (fn_virt (as := [.ref 21, .int v3]) (r := []) (ls' := [.ref 21, .int v3, .null, .null, .null]) rl_D_readText_44 rfl hp_21 rfl rfl pl_D_readStay rfl rfl (k2345)))) k2347)) k0))
set_option maxRecDepth 100000 in
set_option maxHeartbeats 4000000 in
theorem sg_D_readText_47r {L : Nat} {xs : Nat → Int32} {A V : Nat → Nat → Int32} {K : Nat → Option Nat} {T : am_H} {v : Option Int32} {h' : am_H} {v1 v2 v3 : Int32} (k0 :
    if (V 21 7) = 0 then (
      if (V 21 4) ≤ (V 21 6) then (
        am_fin [(z_D_readText, 32, [.ref 21, .int v1, .int 0, .int (v3 + 1)], [])] (hp L xs A V K T) v h')
      else (
        ¬ ((V 21 6) < 0 ∨ 320 ≤ (V 21 6).toNatClampNeg) ∧ (
        if ((A 20) (V 21 6).toNatClampNeg) = (-1) then (
          am_fin [(z_D_readText, 32, [.ref 21, .int v1, .int 0, .int (v3 + 1)], [])] (hp L xs A V K T) v h')
        else (
          if (V 21 4) ≤ (V 21 6) then (
            if (V 21 7) = 0 then (
              am_fin [(z_D_readText, 32, [.ref 21, .int v1, .int 0, .int (v3 + 1)], [])] (hp L xs A (upV V 21 7 (((-1000) * 1) - (V 21 6))) K T) v h')
            else (
              am_fin [(z_D_readText, 32, [.ref 21, .int v1, .int 0, .int (v3 + 1)], [])] (hp L xs A V K T) v h'))
          else (
            ¬ ((V 21 6) < 0 ∨ 320 ≤ (V 21 6).toNatClampNeg) ∧ (
            if ((A 20) (V 21 6).toNatClampNeg) = 44 then (
              am_fin [(z_D_readText, 32, [.ref 21, .int v1, .int 1, .int (v3 + 1)], [])] (hp L xs A (upV V 21 6 ((V 21 6) + 1)) K T) v h')
            else (
              if (V 21 7) = 0 then (
                am_fin [(z_D_readText, 32, [.ref 21, .int v1, .int 0, .int (v3 + 1)], [])] (hp L xs A (upV V 21 7 (((-1000) * 1) - (V 21 6))) K T) v h')
              else (
                am_fin [(z_D_readText, 32, [.ref 21, .int v1, .int 0, .int (v3 + 1)], [])] (hp L xs A V K T) v h'))))))))
    else (
      am_fin [(z_D_readText, 32, [.ref 21, .int v1, .int 0, .int (v3 + 1)], [])] (hp L xs A V K T) v h')) : am_fin [(z_D_readText, 47, [.ref 21, .int v1, .int v2, .int v3], [])] (hp L xs A V K T) v h' :=
  fn_aload_n rl_D_readText_47 rfl (fn_get rl_D_readText_48 hp_21 rfl (fn_if_ne rl_D_readText_51 (fun k2362 => fn_aload_n rl_D_readText_54 rfl (fn_virt (as := [.ref 21]) (r := []) (ls' := [.ref 21]) rl_D_readText_55 rfl hp_21 rfl rfl pl_D_readComma rfl rfl (fn_aload_n rl_D_readComma_0 rfl (fn_virt (as := [.ref 21]) (r := []) (ls' := [.ref 21]) rl_D_readComma_1 rfl hp_21 rfl rfl pl_D_sign rfl rfl (fn_aload_n rl_D_sign_0 rfl (fn_get rl_D_sign_1 hp_21 rfl (fn_aload_n rl_D_sign_4 rfl (fn_get rl_D_sign_5 hp_21 rfl (fn_icmp_ge rl_D_sign_8 (fun k2360 => fn_iconst rl_D_sign_23 (fn_retci rl_D_sign_24 rfl (fn_iconst rl_D_readComma_4 (fn_icmp_ne_t rl_D_readComma_5 (by decide +kernel) (fn_iconst rl_D_readComma_8 (fn_retci rl_D_readComma_9 rfl (fn_if_eq_t rl_D_readText_58 (by decide +kernel) (fn_iconst rl_D_readText_65 (fn_istore_n (ls' := [.ref 21, .int v1, .int 0, .int v3]) rl_D_readText_66 rfl rfl (fn_iinc (ls' := [.ref 21, .int v1, .int 0, .int (v3 + 1)]) rl_D_readText_67 rfl rfl rfl (fn_goto rl_D_readText_70 (k2360)))))))))))) (fun k2361 => fn_aload_n rl_D_sign_11 rfl (fn_get rl_D_sign_12 hp_21 rfl (fn_aload_n rl_D_sign_15 rfl (fn_get rl_D_sign_16 hp_21 rfl (fn_iald rl_D_sign_19 hp_20 (fun k2359 => fn_goto rl_D_sign_20 (fn_retci rl_D_sign_24 rfl (fn_iconst rl_D_readComma_4 (fn_icmp_ne rl_D_readComma_5 (fun k2357 => fn_iconst rl_D_readComma_8 (fn_retci rl_D_readComma_9 rfl (fn_if_eq_t rl_D_readText_58 (by decide +kernel) (fn_iconst rl_D_readText_65 (fn_istore_n (ls' := [.ref 21, .int v1, .int 0, .int v3]) rl_D_readText_66 rfl rfl (fn_iinc (ls' := [.ref 21, .int v1, .int 0, .int (v3 + 1)]) rl_D_readText_67 rfl rfl rfl (fn_goto rl_D_readText_70 (k2357)))))))) (fun k2358 => fn_aload_n rl_D_readComma_10 rfl (fn_virt (as := [.ref 21]) (r := []) (ls' := [.ref 21]) rl_D_readComma_11 rfl hp_21 rfl rfl pl_D_sign rfl rfl (fn_aload_n rl_D_sign_0 rfl (fn_get rl_D_sign_1 hp_21 rfl (fn_aload_n rl_D_sign_4 rfl (fn_get rl_D_sign_5 hp_21 rfl (fn_icmp_ge rl_D_sign_8 (fun k2355 => fn_iconst rl_D_sign_23 (fn_retci rl_D_sign_24 rfl (fn_bipush rl_D_readComma_14 (fn_icmp_eq_f rl_D_readComma_16 (by decide +kernel) (fn_aload_n rl_D_readComma_19 rfl (fn_iconst rl_D_readComma_20 (fn_aload_n rl_D_readComma_21 rfl (fn_get rl_D_readComma_22 hp_21 rfl (fn_virt (as := [.ref 21, .int 1, .int (V 21 6)]) (r := []) (ls' := [.ref 21, .int 1, .int (V 21 6)]) rl_D_readComma_25 rfl hp_21 rfl rfl pl_D_fail rfl rfl (fn_aload_n rl_D_fail_0 rfl (fn_get rl_D_fail_1 hp_21 rfl (fn_if_ne rl_D_fail_4 (fun k2348 => fn_aload_n rl_D_fail_7 rfl (fn_sipush rl_D_fail_8 (fn_iload_n rl_D_fail_11 rfl (fn_imul rl_D_fail_12 (fn_iload_n rl_D_fail_13 rfl (fn_isub rl_D_fail_14 (fn_put rl_D_fail_15 hp_21 rfl hpv_21_7 (fn_retcv rl_D_fail_18 (fn_iconst rl_D_readComma_28 (fn_retci rl_D_readComma_29 rfl (fn_if_eq_t rl_D_readText_58 (by decide +kernel) (fn_iconst rl_D_readText_65 (fn_istore_n (ls' := [.ref 21, .int v1, .int 0, .int v3]) rl_D_readText_66 rfl rfl (fn_iinc (ls' := [.ref 21, .int v1, .int 0, .int (v3 + 1)]) rl_D_readText_67 rfl rfl rfl (fn_goto rl_D_readText_70 (k2348)))))))))))))))) (fun k2349 => fn_retcv rl_D_fail_18 (fn_iconst rl_D_readComma_28 (fn_retci rl_D_readComma_29 rfl (fn_if_eq_t rl_D_readText_58 (by decide +kernel) (fn_iconst rl_D_readText_65 (fn_istore_n (ls' := [.ref 21, .int v1, .int 0, .int v3]) rl_D_readText_66 rfl rfl (fn_iinc (ls' := [.ref 21, .int v1, .int 0, .int (v3 + 1)]) rl_D_readText_67 rfl rfl rfl (fn_goto rl_D_readText_70 (k2349))))))))) k2355)))))))))))) (fun k2356 => fn_aload_n rl_D_sign_11 rfl (fn_get rl_D_sign_12 hp_21 rfl (fn_aload_n rl_D_sign_15 rfl (fn_get rl_D_sign_16 hp_21 rfl (fn_iald rl_D_sign_19 hp_20 (fun k2354 => fn_goto rl_D_sign_20 (fn_retci rl_D_sign_24 rfl (fn_bipush rl_D_readComma_14 (fn_icmp_eq rl_D_readComma_16 (fun k2352 => fn_aload_n rl_D_readComma_30 rfl (fn_dup_ref rl_D_readComma_31 (fn_get rl_D_readComma_32 hp_21 rfl (fn_iconst rl_D_readComma_35 (fn_iadd rl_D_readComma_36 (fn_put rl_D_readComma_37 hp_21 rfl hpv_21_6 (fn_iconst rl_D_readComma_40 (fn_retci rl_D_readComma_41 rfl (fn_if_eq_f rl_D_readText_58 (by decide +kernel) (fn_iconst rl_D_readText_61 (fn_goto rl_D_readText_62 (fn_istore_n (ls' := [.ref 21, .int v1, .int 1, .int v3]) rl_D_readText_66 rfl rfl (fn_iinc (ls' := [.ref 21, .int v1, .int 1, .int (v3 + 1)]) rl_D_readText_67 rfl rfl rfl (fn_goto rl_D_readText_70 (k2352))))))))))))))) (fun k2353 => fn_aload_n rl_D_readComma_19 rfl (fn_iconst rl_D_readComma_20 (fn_aload_n rl_D_readComma_21 rfl (fn_get rl_D_readComma_22 hp_21 rfl (fn_virt (as := [.ref 21, .int 1, .int (V 21 6)]) (r := []) (ls' := [.ref 21, .int 1, .int (V 21 6)]) rl_D_readComma_25 rfl hp_21 rfl rfl pl_D_fail rfl rfl (fn_aload_n rl_D_fail_0 rfl (fn_get rl_D_fail_1 hp_21 rfl (fn_if_ne rl_D_fail_4 (fun k2350 => fn_aload_n rl_D_fail_7 rfl (fn_sipush rl_D_fail_8 (fn_iload_n rl_D_fail_11 rfl (fn_imul rl_D_fail_12 (fn_iload_n rl_D_fail_13 rfl (fn_isub rl_D_fail_14 (fn_put rl_D_fail_15 hp_21 rfl hpv_21_7 (fn_retcv rl_D_fail_18 (fn_iconst rl_D_readComma_28 (fn_retci rl_D_readComma_29 rfl (fn_if_eq_t rl_D_readText_58 (by decide +kernel) (fn_iconst rl_D_readText_65 (fn_istore_n (ls' := [.ref 21, .int v1, .int 0, .int v3]) rl_D_readText_66 rfl rfl (fn_iinc (ls' := [.ref 21, .int v1, .int 0, .int (v3 + 1)]) rl_D_readText_67 rfl rfl rfl (fn_goto rl_D_readText_70 (k2350)))))))))))))))) (fun k2351 => fn_retcv rl_D_fail_18 (fn_iconst rl_D_readComma_28 (fn_retci rl_D_readComma_29 rfl (fn_if_eq_t rl_D_readText_58 (by decide +kernel) (fn_iconst rl_D_readText_65 (fn_istore_n (ls' := [.ref 21, .int v1, .int 0, .int v3]) rl_D_readText_66 rfl rfl (fn_iinc (ls' := [.ref 21, .int v1, .int 0, .int (v3 + 1)]) rl_D_readText_67 rfl rfl rfl (fn_goto rl_D_readText_70 (k2351))))))))) k2353)))))))) k2354)))) k2356))))) k2358))))))) k2359)))) k2361))))) k2362))))))))) (fun k2363 => fn_iconst rl_D_readText_65 (fn_istore_n (ls' := [.ref 21, .int v1, .int 0, .int v3]) rl_D_readText_66 rfl rfl (fn_iinc (ls' := [.ref 21, .int v1, .int 0, .int (v3 + 1)]) rl_D_readText_67 rfl rfl rfl (fn_goto rl_D_readText_70 (k2363))))) k0))
set_option maxRecDepth 100000 in
set_option maxHeartbeats 4000000 in
theorem sg_D_layOver_3_0 {L : Nat} {xs : Nat → Int32} {A V : Nat → Nat → Int32} {K : Nat → Option Nat} {T : am_H} {v : Option Int32} {h' : am_H} (k0 :
    am_fin [(z_D_layOver, 2, [.ref 21, .ref 3, .int 0], [])] (hp L xs A V K T) v h') : am_fin [(z_D_layOver, 0, [.ref 21, .ref 3, .null], [])] (hp L xs A V K T) v h' :=
  fn_iconst rl_D_layOver_0 (fn_istore_n (ls' := [.ref 21, .ref 3, .int 0]) rl_D_layOver_1 rfl rfl (k0))
set_option maxRecDepth 100000 in
set_option maxHeartbeats 4000000 in
theorem sg_D_layOver_3_2 {L : Nat} {xs : Nat → Int32} {A V : Nat → Nat → Int32} {K : Nat → Option Nat} {T : am_H} {v : Option Int32} {h' : am_H} {v2 : Int32} (k0 :
    if (V 21 5) ≤ v2 then (
      v = none ∧ h' = hp L xs A V K T)
    else (
      if 80 ≤ v2 then (
        v = none ∧ h' = hp L xs A V K T)
      else (
        ¬ (v2 < 0 ∨ 80 ≤ v2.toNatClampNeg) ∧ (
        ¬ (v2 < 0 ∨ 80 ≤ v2.toNatClampNeg) ∧ (
        ¬ (v2 < 0 ∨ 80 ≤ v2.toNatClampNeg) ∧ (
        am_fin [(z_P_put, 0, [.ref 3, .int ((A 22) v2.toNatClampNeg), .int ((A 23) v2.toNatClampNeg), .int ((A 24) v2.toNatClampNeg), .null, .null], []), (z_D_layOver, 38, [.ref 21, .ref 3, .int v2], [])] (hp L xs A V K T) v h')))))) : am_fin [(z_D_layOver, 2, [.ref 21, .ref 3, .int v2], [])] (hp L xs A V K T) v h' :=
  fn_iload_n rl_D_layOver_2 rfl (fn_aload_n rl_D_layOver_3 rfl (fn_get rl_D_layOver_4 hp_21 rfl (fn_icmp_ge rl_D_layOver_7 (fun k2369 => fn_retv rl_D_layOver_45 k2369) (fun k2370 => fn_iload_n rl_D_layOver_10 rfl (fn_bipush rl_D_layOver_11 (fn_icmp_ge rl_D_layOver_13 (fun k2367 => fn_retv rl_D_layOver_45 k2367) (fun k2368 => fn_aload_n rl_D_layOver_16 rfl (fn_aload_n rl_D_layOver_17 rfl (fn_get rl_D_layOver_18 hp_21 rfl (fn_iload_n rl_D_layOver_21 rfl (fn_iald rl_D_layOver_22 hp_22 (fun k2366 => fn_aload_n rl_D_layOver_23 rfl (fn_get rl_D_layOver_24 hp_21 rfl (fn_iload_n rl_D_layOver_27 rfl (fn_iald rl_D_layOver_28 hp_23 (fun k2365 => fn_aload_n rl_D_layOver_29 rfl (fn_get rl_D_layOver_30 hp_21 rfl (fn_iload_n rl_D_layOver_33 rfl (fn_iald rl_D_layOver_34 hp_24 (fun k2364 => fn_virt (as := [.ref 3, .int ((A 22) v2.toNatClampNeg), .int ((A 23) v2.toNatClampNeg), .int ((A 24) v2.toNatClampNeg)]) (r := []) (ls' := [.ref 3, .int ((A 22) v2.toNatClampNeg), .int ((A 23) v2.toNatClampNeg), .int ((A 24) v2.toNatClampNeg), .null, .null]) rl_D_layOver_35 rfl hp_3 rfl rfl pl_P_put rfl rfl (k2364)) k2365)))) k2366)))) k2368))))) k2370))) k0)))
set_option maxRecDepth 100000 in
set_option maxHeartbeats 4000000 in
theorem sg_D_layOver_3_38r {L : Nat} {xs : Nat → Int32} {A V : Nat → Nat → Int32} {K : Nat → Option Nat} {T : am_H} {v : Option Int32} {h' : am_H} {v2 r : Int32} (k0 :
    am_fin [(z_D_layOver, 2, [.ref 21, .ref 3, .int (v2 + 1)], [])] (hp L xs A V K T) v h') : am_fin [(z_D_layOver, 38, [.ref 21, .ref 3, .int v2], [.int r])] (hp L xs A V K T) v h' :=
  fn_pop_int rl_D_layOver_38 (fn_iinc (ls' := [.ref 21, .ref 3, .int (v2 + 1)]) rl_D_layOver_39 rfl rfl rfl (fn_goto rl_D_layOver_42 (k0)))
set_option maxRecDepth 100000 in
set_option maxHeartbeats 4000000 in
theorem sg_P_put_3_0 {L : Nat} {xs : Nat → Int32} {A V : Nat → Nat → Int32} {K : Nat → Option Nat} {T : am_H} {v : Option Int32} {h' : am_H} {a1 a2 a3 : Int32} (k0 :
    am_fin [(z_P_put, 10, [.ref 3, .int a1, .int a2, .int a3, .int 0, .int (if a2 < 0 then 0 else a2 : Int32)], [])] (hp L xs A V K T) v h') : am_fin [(z_P_put, 0, [.ref 3, .int a1, .int a2, .int a3, .null, .null], [])] (hp L xs A V K T) v h' :=
  fn_iconst rl_P_put_0 (fn_istore (ls' := [.ref 3, .int a1, .int a2, .int a3, .int 0, .null]) rl_P_put_1 rfl rfl (fn_iload_n rl_P_put_3 rfl (fn_iconst rl_P_put_4 (fn_max rl_P_put_5 rfl (fn_istore (ls' := [.ref 3, .int a1, .int a2, .int a3, .int 0, .int (if a2 < 0 then 0 else a2 : Int32)]) rl_P_put_8 rfl rfl (k0))))))
set_option maxRecDepth 100000 in
set_option maxHeartbeats 4000000 in
theorem sg_P_put_3_10 {L : Nat} {xs : Nat → Int32} {A V : Nat → Nat → Int32} {K : Nat → Option Nat} {T : am_H} {v : Option Int32} {h' : am_H} {v1 v2 v3 v4 v5 : Int32} (k0 :
    if v3 < v5 then (
      v = some v4 ∧ h' = hp L xs A V K T)
    else (
      if 1080 ≤ v5 then (
        v = some v4 ∧ h' = hp L xs A V K T)
      else (
        ¬ (v5 < 0 ∨ 1080 ≤ v5.toNatClampNeg) ∧ (
        if ((A 4) v5.toNatClampNeg) = v1 then (
          am_fin [(z_P_put, 10, [.ref 3, .int v1, .int v2, .int v3, .int v4, .int (v5 + 1)], [])] (hp L xs A V K T) v h')
        else (
          ¬ (v5 < 0 ∨ 1080 ≤ v5.toNatClampNeg) ∧ (
          am_fin [(z_P_put, 10, [.ref 3, .int v1, .int v2, .int v3, .int (v4 + 1), .int (v5 + 1)], [])] (hp L xs (upA A 4 (upd (A 4) v5.toNatClampNeg v1)) V K T) v h')))))) : am_fin [(z_P_put, 10, [.ref 3, .int v1, .int v2, .int v3, .int v4, .int v5], [])] (hp L xs A V K T) v h' :=
  fn_iload rl_P_put_10 rfl (fn_iload_n rl_P_put_12 rfl (fn_icmp_gt rl_P_put_13 (fun k2377 => fn_iload rl_P_put_52 rfl (fn_reti rl_P_put_54 rfl k2377)) (fun k2378 => fn_iload rl_P_put_16 rfl (fn_sipush rl_P_put_18 (fn_icmp_ge rl_P_put_21 (fun k2375 => fn_iload rl_P_put_52 rfl (fn_reti rl_P_put_54 rfl k2375)) (fun k2376 => fn_aload_n rl_P_put_24 rfl (fn_get rl_P_put_25 hp_3 rfl (fn_iload rl_P_put_28 rfl (fn_iald rl_P_put_30 hp_4 (fun k2374 => fn_iload_n rl_P_put_31 rfl (fn_icmp_eq rl_P_put_32 (fun k2372 => fn_iinc (ls' := [.ref 3, .int v1, .int v2, .int v3, .int v4, .int (v5 + 1)]) rl_P_put_46 rfl rfl rfl (fn_goto rl_P_put_49 (k2372))) (fun k2373 => fn_aload_n rl_P_put_35 rfl (fn_get rl_P_put_36 hp_3 rfl (fn_iload rl_P_put_39 rfl (fn_iload_n rl_P_put_41 rfl (fn_iast rl_P_put_42 hp_4 hps_4 (fun k2371 => fn_iinc (ls' := [.ref 3, .int v1, .int v2, .int v3, .int (v4 + 1), .int v5]) rl_P_put_43 rfl rfl rfl (fn_iinc (ls' := [.ref 3, .int v1, .int v2, .int v3, .int (v4 + 1), .int (v5 + 1)]) rl_P_put_46 rfl rfl rfl (fn_goto rl_P_put_49 (k2371)))) k2373))))) k2374)) k2376)))) k2378))) k0))
set_option maxRecDepth 100000 in
set_option maxHeartbeats 4000000 in
theorem sg_P_put_5_0 {L : Nat} {xs : Nat → Int32} {A V : Nat → Nat → Int32} {K : Nat → Option Nat} {T : am_H} {v : Option Int32} {h' : am_H} {a1 a2 a3 : Int32} (k0 :
    am_fin [(z_P_put, 10, [.ref 5, .int a1, .int a2, .int a3, .int 0, .int (if a2 < 0 then 0 else a2 : Int32)], [])] (hp L xs A V K T) v h') : am_fin [(z_P_put, 0, [.ref 5, .int a1, .int a2, .int a3, .null, .null], [])] (hp L xs A V K T) v h' :=
  fn_iconst rl_P_put_0 (fn_istore (ls' := [.ref 5, .int a1, .int a2, .int a3, .int 0, .null]) rl_P_put_1 rfl rfl (fn_iload_n rl_P_put_3 rfl (fn_iconst rl_P_put_4 (fn_max rl_P_put_5 rfl (fn_istore (ls' := [.ref 5, .int a1, .int a2, .int a3, .int 0, .int (if a2 < 0 then 0 else a2 : Int32)]) rl_P_put_8 rfl rfl (k0))))))
set_option maxRecDepth 100000 in
set_option maxHeartbeats 4000000 in
theorem sg_P_put_5_10 {L : Nat} {xs : Nat → Int32} {A V : Nat → Nat → Int32} {K : Nat → Option Nat} {T : am_H} {v : Option Int32} {h' : am_H} {v1 v2 v3 v4 v5 : Int32} (k0 :
    if v3 < v5 then (
      v = some v4 ∧ h' = hp L xs A V K T)
    else (
      if 1080 ≤ v5 then (
        v = some v4 ∧ h' = hp L xs A V K T)
      else (
        ¬ (v5 < 0 ∨ 1080 ≤ v5.toNatClampNeg) ∧ (
        if ((A 6) v5.toNatClampNeg) = v1 then (
          am_fin [(z_P_put, 10, [.ref 5, .int v1, .int v2, .int v3, .int v4, .int (v5 + 1)], [])] (hp L xs A V K T) v h')
        else (
          ¬ (v5 < 0 ∨ 1080 ≤ v5.toNatClampNeg) ∧ (
          am_fin [(z_P_put, 10, [.ref 5, .int v1, .int v2, .int v3, .int (v4 + 1), .int (v5 + 1)], [])] (hp L xs (upA A 6 (upd (A 6) v5.toNatClampNeg v1)) V K T) v h')))))) : am_fin [(z_P_put, 10, [.ref 5, .int v1, .int v2, .int v3, .int v4, .int v5], [])] (hp L xs A V K T) v h' :=
  fn_iload rl_P_put_10 rfl (fn_iload_n rl_P_put_12 rfl (fn_icmp_gt rl_P_put_13 (fun k2385 => fn_iload rl_P_put_52 rfl (fn_reti rl_P_put_54 rfl k2385)) (fun k2386 => fn_iload rl_P_put_16 rfl (fn_sipush rl_P_put_18 (fn_icmp_ge rl_P_put_21 (fun k2383 => fn_iload rl_P_put_52 rfl (fn_reti rl_P_put_54 rfl k2383)) (fun k2384 => fn_aload_n rl_P_put_24 rfl (fn_get rl_P_put_25 hp_5 rfl (fn_iload rl_P_put_28 rfl (fn_iald rl_P_put_30 hp_6 (fun k2382 => fn_iload_n rl_P_put_31 rfl (fn_icmp_eq rl_P_put_32 (fun k2380 => fn_iinc (ls' := [.ref 5, .int v1, .int v2, .int v3, .int v4, .int (v5 + 1)]) rl_P_put_46 rfl rfl rfl (fn_goto rl_P_put_49 (k2380))) (fun k2381 => fn_aload_n rl_P_put_35 rfl (fn_get rl_P_put_36 hp_5 rfl (fn_iload rl_P_put_39 rfl (fn_iload_n rl_P_put_41 rfl (fn_iast rl_P_put_42 hp_6 hps_6 (fun k2379 => fn_iinc (ls' := [.ref 5, .int v1, .int v2, .int v3, .int (v4 + 1), .int v5]) rl_P_put_43 rfl rfl rfl (fn_iinc (ls' := [.ref 5, .int v1, .int v2, .int v3, .int (v4 + 1), .int (v5 + 1)]) rl_P_put_46 rfl rfl rfl (fn_goto rl_P_put_49 (k2379)))) k2381))))) k2382)) k2384)))) k2386))) k0))
set_option maxRecDepth 100000 in
set_option maxHeartbeats 4000000 in
theorem sg_P_landOn_3_0 {L : Nat} {xs : Nat → Int32} {A V : Nat → Nat → Int32} {K : Nat → Option Nat} {T : am_H} {v : Option Int32} {h' : am_H} {a1 : Int32} (k0 :
    if a1 < 0 then (
      v = some (-1) ∧ h' = hp L xs A V K T)
    else (
      if 1080 ≤ a1 then (
        v = some (-1) ∧ h' = hp L xs A V K T)
      else (
        ¬ (a1 < 0 ∨ 1080 ≤ a1.toNatClampNeg) ∧ (
        v = some ((A 4) a1.toNatClampNeg) ∧ h' = hp L xs A V K T)))) : am_fin [(z_P_landOn, 0, [.ref 3, .int a1], [])] (hp L xs A V K T) v h' :=
  fn_iload_n rl_P_landOn_0 rfl (fn_if_lt rl_P_landOn_1 (fun k2390 => fn_iconst rl_P_landOn_20 (fn_reti rl_P_landOn_21 rfl k2390)) (fun k2391 => fn_iload_n rl_P_landOn_4 rfl (fn_sipush rl_P_landOn_5 (fn_icmp_ge rl_P_landOn_8 (fun k2388 => fn_iconst rl_P_landOn_20 (fn_reti rl_P_landOn_21 rfl k2388)) (fun k2389 => fn_aload_n rl_P_landOn_11 rfl (fn_get rl_P_landOn_12 hp_3 rfl (fn_iload_n rl_P_landOn_15 rfl (fn_iald rl_P_landOn_16 hp_4 (fun k2387 => fn_goto rl_P_landOn_17 (fn_reti rl_P_landOn_21 rfl k2387)) k2389)))) k2391))) k0)
set_option maxRecDepth 100000 in
set_option maxHeartbeats 4000000 in
theorem sg_P_landOn_5_0 {L : Nat} {xs : Nat → Int32} {A V : Nat → Nat → Int32} {K : Nat → Option Nat} {T : am_H} {v : Option Int32} {h' : am_H} {a1 : Int32} (k0 :
    if a1 < 0 then (
      v = some (-1) ∧ h' = hp L xs A V K T)
    else (
      if 1080 ≤ a1 then (
        v = some (-1) ∧ h' = hp L xs A V K T)
      else (
        ¬ (a1 < 0 ∨ 1080 ≤ a1.toNatClampNeg) ∧ (
        v = some ((A 6) a1.toNatClampNeg) ∧ h' = hp L xs A V K T)))) : am_fin [(z_P_landOn, 0, [.ref 5, .int a1], [])] (hp L xs A V K T) v h' :=
  fn_iload_n rl_P_landOn_0 rfl (fn_if_lt rl_P_landOn_1 (fun k2395 => fn_iconst rl_P_landOn_20 (fn_reti rl_P_landOn_21 rfl k2395)) (fun k2396 => fn_iload_n rl_P_landOn_4 rfl (fn_sipush rl_P_landOn_5 (fn_icmp_ge rl_P_landOn_8 (fun k2393 => fn_iconst rl_P_landOn_20 (fn_reti rl_P_landOn_21 rfl k2393)) (fun k2394 => fn_aload_n rl_P_landOn_11 rfl (fn_get rl_P_landOn_12 hp_5 rfl (fn_iload_n rl_P_landOn_15 rfl (fn_iald rl_P_landOn_16 hp_6 (fun k2392 => fn_goto rl_P_landOn_17 (fn_reti rl_P_landOn_21 rfl k2392)) k2394)))) k2396))) k0)
set_option maxRecDepth 100000 in
set_option maxHeartbeats 4000000 in
theorem sg_E_spell_3_0 {L : Nat} {xs : Nat → Int32} {A V : Nat → Nat → Int32} {K : Nat → Option Nat} {T : am_H} {v : Option Int32} {h' : am_H} {a2 : Int32} (k0 :
    am_fin [(z_E_spell, 18, [.ref 25, .ref 3, .int a2, .int 0], [])] (hp L xs A (upV (upV (upV V 25 0 0) 25 1 a2) 25 2 (-2)) K T) v h') : am_fin [(z_E_spell, 0, [.ref 25, .ref 3, .int a2, .null], [])] (hp L xs A V K T) v h' :=
  fn_aload_n rl_E_spell_0 rfl (fn_iconst rl_E_spell_1 (fn_put rl_E_spell_2 hp_25 rfl hpv_25_0 (fn_aload_n rl_E_spell_5 rfl (fn_iload_n rl_E_spell_6 rfl (fn_put rl_E_spell_7 hp_25 rfl hpv_25_1 (fn_aload_n rl_E_spell_10 rfl (fn_bipush rl_E_spell_11 (fn_put rl_E_spell_13 hp_25 rfl hpv_25_2 (fn_iconst rl_E_spell_16 (fn_istore_n (ls' := [.ref 25, .ref 3, .int a2, .int 0]) rl_E_spell_17 rfl rfl (k0)))))))))))
set_option maxRecDepth 100000 in
set_option maxHeartbeats 4000000 in
theorem sg_E_spell_3_18 {L : Nat} {xs : Nat → Int32} {A V : Nat → Nat → Int32} {K : Nat → Option Nat} {T : am_H} {v : Option Int32} {h' : am_H} {v2 v3 : Int32} (k0 :
    if 1080 ≤ v3 then (
      v = none ∧ h' = hp L xs A V K T)
    else (
      am_fin [(z_P_startsStay, 0, [.ref 3, .int v3], []), (z_E_spell, 30, [.ref 25, .ref 3, .int v2, .int v3], [])] (hp L xs A V K T) v h')) : am_fin [(z_E_spell, 18, [.ref 25, .ref 3, .int v2, .int v3], [])] (hp L xs A V K T) v h' :=
  fn_iload_n rl_E_spell_18 rfl (fn_sipush rl_E_spell_19 (fn_icmp_ge rl_E_spell_22 (fun k2397 => fn_retv rl_E_spell_54 k2397) (fun k2398 => fn_aload_n rl_E_spell_25 rfl (fn_iload_n rl_E_spell_26 rfl (fn_virt (as := [.ref 3, .int v3]) (r := []) (ls' := [.ref 3, .int v3]) rl_E_spell_27 rfl hp_3 rfl rfl pl_P_startsStay rfl rfl (k2398)))) k0))
set_option maxRecDepth 100000 in
set_option maxHeartbeats 4000000 in
theorem sg_E_spell_3_30r {L : Nat} {xs : Nat → Int32} {A V : Nat → Nat → Int32} {K : Nat → Option Nat} {T : am_H} {v : Option Int32} {h' : am_H} {v2 v3 r : Int32} (k0 :
    if r = 0 then (
      am_fin [(z_E_spell, 18, [.ref 25, .ref 3, .int v2, .int (v3 + 1)], [])] (hp L xs A V K T) v h')
    else (
      am_fin [(z_P_landOn, 0, [.ref 3, .int v3], []), (z_E_spell, 39, [.ref 25, .ref 3, .int v2, .int v3], [.ref 25])] (hp L xs A V K T) v h')) : am_fin [(z_E_spell, 30, [.ref 25, .ref 3, .int v2, .int v3], [.int r])] (hp L xs A V K T) v h' :=
  fn_if_eq rl_E_spell_30 (fun k2399 => fn_iinc (ls' := [.ref 25, .ref 3, .int v2, .int (v3 + 1)]) rl_E_spell_48 rfl rfl rfl (fn_goto rl_E_spell_51 (k2399))) (fun k2400 => fn_aload_n rl_E_spell_33 rfl (fn_aload_n rl_E_spell_34 rfl (fn_iload_n rl_E_spell_35 rfl (fn_virt (as := [.ref 3, .int v3]) (r := [.ref 25]) (ls' := [.ref 3, .int v3]) rl_E_spell_36 rfl hp_3 rfl rfl pl_P_landOn rfl rfl (k2400))))) k0
set_option maxRecDepth 100000 in
set_option maxHeartbeats 4000000 in
theorem sg_E_spell_3_39r {L : Nat} {xs : Nat → Int32} {A V : Nat → Nat → Int32} {K : Nat → Option Nat} {T : am_H} {v : Option Int32} {h' : am_H} {v2 v3 r : Int32} (k0 :
    am_fin [(z_P_lastOfStay, 0, [.ref 3, .int v3, .null, .null, .null], []), (z_E_spell, 45, [.ref 25, .ref 3, .int v2, .int v3], [.int v3, .int r, .ref 25])] (hp L xs A V K T) v h') : am_fin [(z_E_spell, 39, [.ref 25, .ref 3, .int v2, .int v3], [.int r, .ref 25])] (hp L xs A V K T) v h' :=
  fn_iload_n rl_E_spell_39 rfl (fn_aload_n rl_E_spell_40 rfl (fn_iload_n rl_E_spell_41 rfl (fn_virt (as := [.ref 3, .int v3]) (r := [.int v3, .int r, .ref 25]) (ls' := [.ref 3, .int v3, .null, .null, .null]) rl_E_spell_42 rfl hp_3 rfl rfl pl_P_lastOfStay rfl rfl (k0))))
set_option maxRecDepth 100000 in
set_option maxHeartbeats 4000000 in
theorem sg_E_spell_3_45r {L : Nat} {xs : Nat → Int32} {A V : Nat → Nat → Int32} {K : Nat → Option Nat} {T : am_H} {v : Option Int32} {h' : am_H} {v2 v3 s1 s2 r : Int32} (k0 :
    am_fin [(z_E_putStay, 0, [.ref 25, .int s1, .int s2, .int r], []), (z_E_spell, 48, [.ref 25, .ref 3, .int v2, .int v3], [])] (hp L xs A V K T) v h') : am_fin [(z_E_spell, 45, [.ref 25, .ref 3, .int v2, .int v3], [.int r, .int s2, .int s1, .ref 25])] (hp L xs A V K T) v h' :=
  fn_virt (as := [.ref 25, .int s1, .int s2, .int r]) (r := []) (ls' := [.ref 25, .int s1, .int s2, .int r]) rl_E_spell_45 rfl hp_25 rfl rfl pl_E_putStay rfl rfl (k0)
set_option maxRecDepth 100000 in
set_option maxHeartbeats 4000000 in
theorem sg_E_spell_3_48r {L : Nat} {xs : Nat → Int32} {A V : Nat → Nat → Int32} {K : Nat → Option Nat} {T : am_H} {v : Option Int32} {h' : am_H} {v2 v3 : Int32} (k0 :
    am_fin [(z_E_spell, 18, [.ref 25, .ref 3, .int v2, .int (v3 + 1)], [])] (hp L xs A V K T) v h') : am_fin [(z_E_spell, 48, [.ref 25, .ref 3, .int v2, .int v3], [])] (hp L xs A V K T) v h' :=
  fn_iinc (ls' := [.ref 25, .ref 3, .int v2, .int (v3 + 1)]) rl_E_spell_48 rfl rfl rfl (fn_goto rl_E_spell_51 (k0))
set_option maxRecDepth 100000 in
set_option maxHeartbeats 4000000 in
theorem sg_T_takeRow_0 {L : Nat} {xs : Nat → Int32} {A V : Nat → Nat → Int32} {K : Nat → Option Nat} {T : am_H} {v : Option Int32} {h' : am_H} {a1 : Int32} (k0 :
    am_fin [(z_T_takeRow, 7, [.ref 19, .int a1, .int 0, .int 0, .int 0, .null], [])] (hp L xs A V K T) v h') : am_fin [(z_T_takeRow, 0, [.ref 19, .int a1, .null, .null, .null, .null], [])] (hp L xs A V K T) v h' :=
  fn_iconst rl_T_takeRow_0 (fn_istore_n (ls' := [.ref 19, .int a1, .int 0, .null, .null, .null]) rl_T_takeRow_1 rfl rfl (fn_iconst rl_T_takeRow_2 (fn_istore_n (ls' := [.ref 19, .int a1, .int 0, .int 0, .null, .null]) rl_T_takeRow_3 rfl rfl (fn_iconst rl_T_takeRow_4 (fn_istore (ls' := [.ref 19, .int a1, .int 0, .int 0, .int 0, .null]) rl_T_takeRow_5 rfl rfl (k0))))))
set_option maxRecDepth 100000 in
set_option maxHeartbeats 4000000 in
theorem sg_T_takeRow_7 {L : Nat} {xs : Nat → Int32} {A V : Nat → Nat → Int32} {K : Nat → Option Nat} {T : am_H} {v : Option Int32} {h' : am_H} {v1 v2 v3 v4 : Int32} (k0 :
    if v1 ≤ v4 then (
      v = some v2 ∧ h' = hp L xs A (upV V 19 1 0) K T)
    else (
      if 4 ≤ v4 then (
        v = some v2 ∧ h' = hp L xs A (upV V 19 1 0) K T)
      else (
        ¬ (v4 < 0 ∨ 320 ≤ v4.toNatClampNeg) ∧ (
        if ((A 20) v4.toNatClampNeg) = 99 then (
          if (((v3 : Int32) >>> (1 &&& 31 : Int32)) &&& 1) = 1 then (
            v = some (-1) ∧ h' = hp L xs A (upV V 19 1 0) K T)
          else (
            am_fin [(z_T_takeRow, 7, [.ref 19, .int v1, .int ((v2 + 1) ||| ((1 : Int32) <<< ((3 + (2 * (v2 &&& 7))) &&& 31 : Int32))), .int (v3 ||| ((1 : Int32) <<< (1 &&& 31 : Int32))), .int (v4 + 1), .int 1], [])] (hp L xs A V K T) v h'))
        else (
          if ((A 20) v4.toNatClampNeg) = 100 then (
          if (((v3 : Int32) >>> (2 &&& 31 : Int32)) &&& 1) = 1 then (
            v = some (-1) ∧ h' = hp L xs A (upV V 19 1 0) K T)
          else (
            am_fin [(z_T_takeRow, 7, [.ref 19, .int v1, .int ((v2 + 1) ||| ((2 : Int32) <<< ((3 + (2 * (v2 &&& 7))) &&& 31 : Int32))), .int (v3 ||| ((1 : Int32) <<< (2 &&& 31 : Int32))), .int (v4 + 1), .int 2], [])] (hp L xs A V K T) v h'))
        else (
          if ((A 20) v4.toNatClampNeg) = 104 then (
          if (((v3 : Int32) >>> (0 &&& 31 : Int32)) &&& 1) = 1 then (
            v = some (-1) ∧ h' = hp L xs A (upV V 19 1 0) K T)
          else (
            am_fin [(z_T_takeRow, 7, [.ref 19, .int v1, .int ((v2 + 1) ||| ((0 : Int32) <<< ((3 + (2 * (v2 &&& 7))) &&& 31 : Int32))), .int (v3 ||| ((1 : Int32) <<< (0 &&& 31 : Int32))), .int (v4 + 1), .int 0], [])] (hp L xs A V K T) v h'))
        else (
          if ((A 20) v4.toNatClampNeg) = 110 then (
          if (((v3 : Int32) >>> (3 &&& 31 : Int32)) &&& 1) = 1 then (
            v = some (-1) ∧ h' = hp L xs A (upV V 19 1 0) K T)
          else (
            am_fin [(z_T_takeRow, 7, [.ref 19, .int v1, .int ((v2 + 1) ||| ((3 : Int32) <<< ((3 + (2 * (v2 &&& 7))) &&& 31 : Int32))), .int (v3 ||| ((1 : Int32) <<< (3 &&& 31 : Int32))), .int (v4 + 1), .int 3], [])] (hp L xs A V K T) v h'))
        else (
          v = some (-1) ∧ h' = hp L xs A (upV V 19 1 0) K T)))))))) : am_fin [(z_T_takeRow, 7, [.ref 19, .int v1, .int v2, .int v3, .int v4, .null], [])] (hp L xs A V K T) v h' :=
  fn_iload rl_T_takeRow_7 rfl (fn_iload_n rl_T_takeRow_9 rfl (fn_icmp_ge rl_T_takeRow_10 (fun k2420 => fn_aload_n rl_T_takeRow_71 rfl (fn_iconst rl_T_takeRow_72 (fn_put rl_T_takeRow_73 hp_19 rfl hpv_19_1 (fn_iload_n rl_T_takeRow_76 rfl (fn_reti rl_T_takeRow_77 rfl k2420))))) (fun k2421 => fn_iload rl_T_takeRow_13 rfl (fn_iconst rl_T_takeRow_15 (fn_icmp_ge rl_T_takeRow_16 (fun k2418 => fn_aload_n rl_T_takeRow_71 rfl (fn_iconst rl_T_takeRow_72 (fn_put rl_T_takeRow_73 hp_19 rfl hpv_19_1 (fn_iload_n rl_T_takeRow_76 rfl (fn_reti rl_T_takeRow_77 rfl k2418))))) (fun k2419 => fn_aload_n rl_T_takeRow_19 rfl (fn_get rl_T_takeRow_20 hp_19 rfl (fn_iload rl_T_takeRow_23 rfl (fn_iald rl_T_takeRow_25 hp_20 (fun k2417 => fn_stat (as := [.int ((A 20) v4.toNatClampNeg)]) (r := []) (ls' := [.int ((A 20) v4.toNatClampNeg)]) rl_T_takeRow_26 rfl rfl rfl rfl pl_T_letterOf rfl rfl (fn_iload_n rl_T_letterOf_0 rfl (fn_lookP rl_T_letterOf_1 (fn_swC (tg := 0) (F := fun t => am_fin ((z_T_letterOf, t, [.int ((A 20) v4.toNatClampNeg)], []) :: [(z_T_takeRow, 29, [.ref 19, .int v1, .int v2, .int v3, .int v4, .null], [])]) (hp L xs A V K T) v h') (fun k2415 => fn_iconst rl_T_letterOf_46 (fn_retci rl_T_letterOf_47 rfl (fn_istore (ls' := [.ref 19, .int v1, .int v2, .int v3, .int v4, .int 1]) rl_T_takeRow_29 rfl rfl (fn_iload rl_T_takeRow_31 rfl (fn_iconst rl_T_takeRow_33 (fn_icmp_eq_f rl_T_takeRow_34 (by decide +kernel) (fn_iload_n rl_T_takeRow_37 rfl (fn_iload rl_T_takeRow_38 rfl (fn_stat (as := [.int v3, .int 1]) (r := []) (ls' := [.int v3, .int 1]) rl_T_takeRow_40 rfl rfl rfl rfl pl_L_hasBit rfl rfl (fn_iload_n rl_L_hasBit_0 rfl (fn_iload_n rl_L_hasBit_1 rfl (fn_ishr rl_L_hasBit_2 (fn_iconst rl_L_hasBit_3 (fn_iand rl_L_hasBit_4 (fn_iconst rl_L_hasBit_5 (fn_icmp_ne rl_L_hasBit_6 (fun k2401 => fn_iconst rl_L_hasBit_9 (fn_goto rl_L_hasBit_10 (fn_retci rl_L_hasBit_14 rfl (fn_if_eq_f rl_T_takeRow_43 (by decide +kernel) (fn_iconst rl_T_takeRow_46 (fn_istore_n (ls' := [.ref 19, .int v1, .int (-1), .int v3, .int v4, .int 1]) rl_T_takeRow_47 rfl rfl (fn_goto rl_T_takeRow_48 (fn_aload_n rl_T_takeRow_71 rfl (fn_iconst rl_T_takeRow_72 (fn_put rl_T_takeRow_73 hp_19 rfl hpv_19_1 (fn_iload_n rl_T_takeRow_76 rfl (fn_reti rl_T_takeRow_77 rfl k2401)))))))))))) (fun k2402 => fn_iconst rl_L_hasBit_13 (fn_retci rl_L_hasBit_14 rfl (fn_if_eq_t rl_T_takeRow_43 (by decide +kernel) (fn_iload_n rl_T_takeRow_51 rfl (fn_iconst rl_T_takeRow_52 (fn_iload rl_T_takeRow_53 rfl (fn_ishl rl_T_takeRow_55 (fn_ior rl_T_takeRow_56 (fn_istore_n (ls' := [.ref 19, .int v1, .int v2, .int (v3 ||| ((1 : Int32) <<< (1 &&& 31 : Int32))), .int v4, .int 1]) rl_T_takeRow_57 rfl rfl (fn_iload_n rl_T_takeRow_58 rfl (fn_iload rl_T_takeRow_59 rfl (fn_stat (as := [.int v2, .int 1]) (r := []) (ls' := [.int v2, .int 1]) rl_T_takeRow_61 rfl rfl rfl rfl pl_L_rowWith rfl rfl (fn_iload_n rl_L_rowWith_0 rfl (fn_iconst rl_L_rowWith_1 (fn_iadd rl_L_rowWith_2 (fn_iload_n rl_L_rowWith_3 rfl (fn_iconst rl_L_rowWith_4 (fn_iconst rl_L_rowWith_5 (fn_iload_n rl_L_rowWith_6 rfl (fn_stat (as := [.int v2]) (r := [.int 2, .int 3, .int 1, .int (v2 + 1)]) (ls' := [.int v2]) rl_L_rowWith_7 rfl rfl rfl rfl pl_L_rowLength rfl rfl (fn_iload_n rl_L_rowLength_0 rfl (fn_bipush rl_L_rowLength_1 (fn_iand rl_L_rowLength_3 (fn_retci rl_L_rowLength_4 rfl (fn_imul rl_L_rowWith_10 (fn_iadd rl_L_rowWith_11 (fn_ishl rl_L_rowWith_12 (fn_ior rl_L_rowWith_13 (fn_retci rl_L_rowWith_14 rfl (fn_istore_n (ls' := [.ref 19, .int v1, .int ((v2 + 1) ||| ((1 : Int32) <<< ((3 + (2 * (v2 &&& 7))) &&& 31 : Int32))), .int (v3 ||| ((1 : Int32) <<< (1 &&& 31 : Int32))), .int v4, .int 1]) rl_T_takeRow_64 rfl rfl (fn_iinc (ls' := [.ref 19, .int v1, .int ((v2 + 1) ||| ((1 : Int32) <<< ((3 + (2 * (v2 &&& 7))) &&& 31 : Int32))), .int (v3 ||| ((1 : Int32) <<< (1 &&& 31 : Int32))), .int (v4 + 1), .int 1]) rl_T_takeRow_65 rfl rfl rfl (fn_goto rl_T_takeRow_68 (k2402))))))))))))))))))))))))))))))))) k2415)))))))))))))))) (fun k2416 => fn_swC (tg := 0) (F := fun t => am_fin ((z_T_letterOf, t, [.int ((A 20) v4.toNatClampNeg)], []) :: [(z_T_takeRow, 29, [.ref 19, .int v1, .int v2, .int v3, .int v4, .null], [])]) (hp L xs A V K T) v h') (fun k2413 => fn_iconst rl_T_letterOf_48 (fn_retci rl_T_letterOf_49 rfl (fn_istore (ls' := [.ref 19, .int v1, .int v2, .int v3, .int v4, .int 2]) rl_T_takeRow_29 rfl rfl (fn_iload rl_T_takeRow_31 rfl (fn_iconst rl_T_takeRow_33 (fn_icmp_eq_f rl_T_takeRow_34 (by decide +kernel) (fn_iload_n rl_T_takeRow_37 rfl (fn_iload rl_T_takeRow_38 rfl (fn_stat (as := [.int v3, .int 2]) (r := []) (ls' := [.int v3, .int 2]) rl_T_takeRow_40 rfl rfl rfl rfl pl_L_hasBit rfl rfl (fn_iload_n rl_L_hasBit_0 rfl (fn_iload_n rl_L_hasBit_1 rfl (fn_ishr rl_L_hasBit_2 (fn_iconst rl_L_hasBit_3 (fn_iand rl_L_hasBit_4 (fn_iconst rl_L_hasBit_5 (fn_icmp_ne rl_L_hasBit_6 (fun k2403 => fn_iconst rl_L_hasBit_9 (fn_goto rl_L_hasBit_10 (fn_retci rl_L_hasBit_14 rfl (fn_if_eq_f rl_T_takeRow_43 (by decide +kernel) (fn_iconst rl_T_takeRow_46 (fn_istore_n (ls' := [.ref 19, .int v1, .int (-1), .int v3, .int v4, .int 2]) rl_T_takeRow_47 rfl rfl (fn_goto rl_T_takeRow_48 (fn_aload_n rl_T_takeRow_71 rfl (fn_iconst rl_T_takeRow_72 (fn_put rl_T_takeRow_73 hp_19 rfl hpv_19_1 (fn_iload_n rl_T_takeRow_76 rfl (fn_reti rl_T_takeRow_77 rfl k2403)))))))))))) (fun k2404 => fn_iconst rl_L_hasBit_13 (fn_retci rl_L_hasBit_14 rfl (fn_if_eq_t rl_T_takeRow_43 (by decide +kernel) (fn_iload_n rl_T_takeRow_51 rfl (fn_iconst rl_T_takeRow_52 (fn_iload rl_T_takeRow_53 rfl (fn_ishl rl_T_takeRow_55 (fn_ior rl_T_takeRow_56 (fn_istore_n (ls' := [.ref 19, .int v1, .int v2, .int (v3 ||| ((1 : Int32) <<< (2 &&& 31 : Int32))), .int v4, .int 2]) rl_T_takeRow_57 rfl rfl (fn_iload_n rl_T_takeRow_58 rfl (fn_iload rl_T_takeRow_59 rfl (fn_stat (as := [.int v2, .int 2]) (r := []) (ls' := [.int v2, .int 2]) rl_T_takeRow_61 rfl rfl rfl rfl pl_L_rowWith rfl rfl (fn_iload_n rl_L_rowWith_0 rfl (fn_iconst rl_L_rowWith_1 (fn_iadd rl_L_rowWith_2 (fn_iload_n rl_L_rowWith_3 rfl (fn_iconst rl_L_rowWith_4 (fn_iconst rl_L_rowWith_5 (fn_iload_n rl_L_rowWith_6 rfl (fn_stat (as := [.int v2]) (r := [.int 2, .int 3, .int 2, .int (v2 + 1)]) (ls' := [.int v2]) rl_L_rowWith_7 rfl rfl rfl rfl pl_L_rowLength rfl rfl (fn_iload_n rl_L_rowLength_0 rfl (fn_bipush rl_L_rowLength_1 (fn_iand rl_L_rowLength_3 (fn_retci rl_L_rowLength_4 rfl (fn_imul rl_L_rowWith_10 (fn_iadd rl_L_rowWith_11 (fn_ishl rl_L_rowWith_12 (fn_ior rl_L_rowWith_13 (fn_retci rl_L_rowWith_14 rfl (fn_istore_n (ls' := [.ref 19, .int v1, .int ((v2 + 1) ||| ((2 : Int32) <<< ((3 + (2 * (v2 &&& 7))) &&& 31 : Int32))), .int (v3 ||| ((1 : Int32) <<< (2 &&& 31 : Int32))), .int v4, .int 2]) rl_T_takeRow_64 rfl rfl (fn_iinc (ls' := [.ref 19, .int v1, .int ((v2 + 1) ||| ((2 : Int32) <<< ((3 + (2 * (v2 &&& 7))) &&& 31 : Int32))), .int (v3 ||| ((1 : Int32) <<< (2 &&& 31 : Int32))), .int (v4 + 1), .int 2]) rl_T_takeRow_65 rfl rfl rfl (fn_goto rl_T_takeRow_68 (k2404))))))))))))))))))))))))))))))))) k2413)))))))))))))))) (fun k2414 => fn_swC (tg := 0) (F := fun t => am_fin ((z_T_letterOf, t, [.int ((A 20) v4.toNatClampNeg)], []) :: [(z_T_takeRow, 29, [.ref 19, .int v1, .int v2, .int v3, .int v4, .null], [])]) (hp L xs A V K T) v h') (fun k2411 => fn_iconst rl_T_letterOf_44 (fn_retci rl_T_letterOf_45 rfl (fn_istore (ls' := [.ref 19, .int v1, .int v2, .int v3, .int v4, .int 0]) rl_T_takeRow_29 rfl rfl (fn_iload rl_T_takeRow_31 rfl (fn_iconst rl_T_takeRow_33 (fn_icmp_eq_f rl_T_takeRow_34 (by decide +kernel) (fn_iload_n rl_T_takeRow_37 rfl (fn_iload rl_T_takeRow_38 rfl (fn_stat (as := [.int v3, .int 0]) (r := []) (ls' := [.int v3, .int 0]) rl_T_takeRow_40 rfl rfl rfl rfl pl_L_hasBit rfl rfl (fn_iload_n rl_L_hasBit_0 rfl (fn_iload_n rl_L_hasBit_1 rfl (fn_ishr rl_L_hasBit_2 (fn_iconst rl_L_hasBit_3 (fn_iand rl_L_hasBit_4 (fn_iconst rl_L_hasBit_5 (fn_icmp_ne rl_L_hasBit_6 (fun k2405 => fn_iconst rl_L_hasBit_9 (fn_goto rl_L_hasBit_10 (fn_retci rl_L_hasBit_14 rfl (fn_if_eq_f rl_T_takeRow_43 (by decide +kernel) (fn_iconst rl_T_takeRow_46 (fn_istore_n (ls' := [.ref 19, .int v1, .int (-1), .int v3, .int v4, .int 0]) rl_T_takeRow_47 rfl rfl (fn_goto rl_T_takeRow_48 (fn_aload_n rl_T_takeRow_71 rfl (fn_iconst rl_T_takeRow_72 (fn_put rl_T_takeRow_73 hp_19 rfl hpv_19_1 (fn_iload_n rl_T_takeRow_76 rfl (fn_reti rl_T_takeRow_77 rfl k2405)))))))))))) (fun k2406 => fn_iconst rl_L_hasBit_13 (fn_retci rl_L_hasBit_14 rfl (fn_if_eq_t rl_T_takeRow_43 (by decide +kernel) (fn_iload_n rl_T_takeRow_51 rfl (fn_iconst rl_T_takeRow_52 (fn_iload rl_T_takeRow_53 rfl (fn_ishl rl_T_takeRow_55 (fn_ior rl_T_takeRow_56 (fn_istore_n (ls' := [.ref 19, .int v1, .int v2, .int (v3 ||| ((1 : Int32) <<< (0 &&& 31 : Int32))), .int v4, .int 0]) rl_T_takeRow_57 rfl rfl (fn_iload_n rl_T_takeRow_58 rfl (fn_iload rl_T_takeRow_59 rfl (fn_stat (as := [.int v2, .int 0]) (r := []) (ls' := [.int v2, .int 0]) rl_T_takeRow_61 rfl rfl rfl rfl pl_L_rowWith rfl rfl (fn_iload_n rl_L_rowWith_0 rfl (fn_iconst rl_L_rowWith_1 (fn_iadd rl_L_rowWith_2 (fn_iload_n rl_L_rowWith_3 rfl (fn_iconst rl_L_rowWith_4 (fn_iconst rl_L_rowWith_5 (fn_iload_n rl_L_rowWith_6 rfl (fn_stat (as := [.int v2]) (r := [.int 2, .int 3, .int 0, .int (v2 + 1)]) (ls' := [.int v2]) rl_L_rowWith_7 rfl rfl rfl rfl pl_L_rowLength rfl rfl (fn_iload_n rl_L_rowLength_0 rfl (fn_bipush rl_L_rowLength_1 (fn_iand rl_L_rowLength_3 (fn_retci rl_L_rowLength_4 rfl (fn_imul rl_L_rowWith_10 (fn_iadd rl_L_rowWith_11 (fn_ishl rl_L_rowWith_12 (fn_ior rl_L_rowWith_13 (fn_retci rl_L_rowWith_14 rfl (fn_istore_n (ls' := [.ref 19, .int v1, .int ((v2 + 1) ||| ((0 : Int32) <<< ((3 + (2 * (v2 &&& 7))) &&& 31 : Int32))), .int (v3 ||| ((1 : Int32) <<< (0 &&& 31 : Int32))), .int v4, .int 0]) rl_T_takeRow_64 rfl rfl (fn_iinc (ls' := [.ref 19, .int v1, .int ((v2 + 1) ||| ((0 : Int32) <<< ((3 + (2 * (v2 &&& 7))) &&& 31 : Int32))), .int (v3 ||| ((1 : Int32) <<< (0 &&& 31 : Int32))), .int (v4 + 1), .int 0]) rl_T_takeRow_65 rfl rfl rfl (fn_goto rl_T_takeRow_68 (k2406))))))))))))))))))))))))))))))))) k2411)))))))))))))))) (fun k2412 => fn_swC (tg := 0) (F := fun t => am_fin ((z_T_letterOf, t, [.int ((A 20) v4.toNatClampNeg)], []) :: [(z_T_takeRow, 29, [.ref 19, .int v1, .int v2, .int v3, .int v4, .null], [])]) (hp L xs A V K T) v h') (fun k2409 => fn_iconst rl_T_letterOf_50 (fn_retci rl_T_letterOf_51 rfl (fn_istore (ls' := [.ref 19, .int v1, .int v2, .int v3, .int v4, .int 3]) rl_T_takeRow_29 rfl rfl (fn_iload rl_T_takeRow_31 rfl (fn_iconst rl_T_takeRow_33 (fn_icmp_eq_f rl_T_takeRow_34 (by decide +kernel) (fn_iload_n rl_T_takeRow_37 rfl (fn_iload rl_T_takeRow_38 rfl (fn_stat (as := [.int v3, .int 3]) (r := []) (ls' := [.int v3, .int 3]) rl_T_takeRow_40 rfl rfl rfl rfl pl_L_hasBit rfl rfl (fn_iload_n rl_L_hasBit_0 rfl (fn_iload_n rl_L_hasBit_1 rfl (fn_ishr rl_L_hasBit_2 (fn_iconst rl_L_hasBit_3 (fn_iand rl_L_hasBit_4 (fn_iconst rl_L_hasBit_5 (fn_icmp_ne rl_L_hasBit_6 (fun k2407 => fn_iconst rl_L_hasBit_9 (fn_goto rl_L_hasBit_10 (fn_retci rl_L_hasBit_14 rfl (fn_if_eq_f rl_T_takeRow_43 (by decide +kernel) (fn_iconst rl_T_takeRow_46 (fn_istore_n (ls' := [.ref 19, .int v1, .int (-1), .int v3, .int v4, .int 3]) rl_T_takeRow_47 rfl rfl (fn_goto rl_T_takeRow_48 (fn_aload_n rl_T_takeRow_71 rfl (fn_iconst rl_T_takeRow_72 (fn_put rl_T_takeRow_73 hp_19 rfl hpv_19_1 (fn_iload_n rl_T_takeRow_76 rfl (fn_reti rl_T_takeRow_77 rfl k2407)))))))))))) (fun k2408 => fn_iconst rl_L_hasBit_13 (fn_retci rl_L_hasBit_14 rfl (fn_if_eq_t rl_T_takeRow_43 (by decide +kernel) (fn_iload_n rl_T_takeRow_51 rfl (fn_iconst rl_T_takeRow_52 (fn_iload rl_T_takeRow_53 rfl (fn_ishl rl_T_takeRow_55 (fn_ior rl_T_takeRow_56 (fn_istore_n (ls' := [.ref 19, .int v1, .int v2, .int (v3 ||| ((1 : Int32) <<< (3 &&& 31 : Int32))), .int v4, .int 3]) rl_T_takeRow_57 rfl rfl (fn_iload_n rl_T_takeRow_58 rfl (fn_iload rl_T_takeRow_59 rfl (fn_stat (as := [.int v2, .int 3]) (r := []) (ls' := [.int v2, .int 3]) rl_T_takeRow_61 rfl rfl rfl rfl pl_L_rowWith rfl rfl (fn_iload_n rl_L_rowWith_0 rfl (fn_iconst rl_L_rowWith_1 (fn_iadd rl_L_rowWith_2 (fn_iload_n rl_L_rowWith_3 rfl (fn_iconst rl_L_rowWith_4 (fn_iconst rl_L_rowWith_5 (fn_iload_n rl_L_rowWith_6 rfl (fn_stat (as := [.int v2]) (r := [.int 2, .int 3, .int 3, .int (v2 + 1)]) (ls' := [.int v2]) rl_L_rowWith_7 rfl rfl rfl rfl pl_L_rowLength rfl rfl (fn_iload_n rl_L_rowLength_0 rfl (fn_bipush rl_L_rowLength_1 (fn_iand rl_L_rowLength_3 (fn_retci rl_L_rowLength_4 rfl (fn_imul rl_L_rowWith_10 (fn_iadd rl_L_rowWith_11 (fn_ishl rl_L_rowWith_12 (fn_ior rl_L_rowWith_13 (fn_retci rl_L_rowWith_14 rfl (fn_istore_n (ls' := [.ref 19, .int v1, .int ((v2 + 1) ||| ((3 : Int32) <<< ((3 + (2 * (v2 &&& 7))) &&& 31 : Int32))), .int (v3 ||| ((1 : Int32) <<< (3 &&& 31 : Int32))), .int v4, .int 3]) rl_T_takeRow_64 rfl rfl (fn_iinc (ls' := [.ref 19, .int v1, .int ((v2 + 1) ||| ((3 : Int32) <<< ((3 + (2 * (v2 &&& 7))) &&& 31 : Int32))), .int (v3 ||| ((1 : Int32) <<< (3 &&& 31 : Int32))), .int (v4 + 1), .int 3]) rl_T_takeRow_65 rfl rfl rfl (fn_goto rl_T_takeRow_68 (k2408))))))))))))))))))))))))))))))))) k2409)))))))))))))))) (fun k2410 => fn_iconst rl_T_letterOf_52 (fn_retci rl_T_letterOf_53 rfl (fn_istore (ls' := [.ref 19, .int v1, .int v2, .int v3, .int v4, .int (-1)]) rl_T_takeRow_29 rfl rfl (fn_iload rl_T_takeRow_31 rfl (fn_iconst rl_T_takeRow_33 (fn_icmp_eq_t rl_T_takeRow_34 (by decide +kernel) (fn_iconst rl_T_takeRow_46 (fn_istore_n (ls' := [.ref 19, .int v1, .int (-1), .int v3, .int v4, .int (-1)]) rl_T_takeRow_47 rfl rfl (fn_goto rl_T_takeRow_48 (fn_aload_n rl_T_takeRow_71 rfl (fn_iconst rl_T_takeRow_72 (fn_put rl_T_takeRow_73 hp_19 rfl hpv_19_1 (fn_iload_n rl_T_takeRow_76 rfl (fn_reti rl_T_takeRow_77 rfl k2410)))))))))))))) k2412) k2414) k2416) k2417)))) k2419)))) k2421))) k0))
set_option maxRecDepth 100000 in
set_option maxHeartbeats 4000000 in
theorem sg_T_takeRow_7b {L : Nat} {xs : Nat → Int32} {A V : Nat → Nat → Int32} {K : Nat → Option Nat} {T : am_H} {v : Option Int32} {h' : am_H} {v1 v2 v3 v4 v5 : Int32} (k0 :
    if v1 ≤ v4 then (
      v = some v2 ∧ h' = hp L xs A (upV V 19 1 0) K T)
    else (
      if 4 ≤ v4 then (
        v = some v2 ∧ h' = hp L xs A (upV V 19 1 0) K T)
      else (
        ¬ (v4 < 0 ∨ 320 ≤ v4.toNatClampNeg) ∧ (
        if ((A 20) v4.toNatClampNeg) = 99 then (
          if (((v3 : Int32) >>> (1 &&& 31 : Int32)) &&& 1) = 1 then (
            v = some (-1) ∧ h' = hp L xs A (upV V 19 1 0) K T)
          else (
            am_fin [(z_T_takeRow, 7, [.ref 19, .int v1, .int ((v2 + 1) ||| ((1 : Int32) <<< ((3 + (2 * (v2 &&& 7))) &&& 31 : Int32))), .int (v3 ||| ((1 : Int32) <<< (1 &&& 31 : Int32))), .int (v4 + 1), .int 1], [])] (hp L xs A V K T) v h'))
        else (
          if ((A 20) v4.toNatClampNeg) = 100 then (
          if (((v3 : Int32) >>> (2 &&& 31 : Int32)) &&& 1) = 1 then (
            v = some (-1) ∧ h' = hp L xs A (upV V 19 1 0) K T)
          else (
            am_fin [(z_T_takeRow, 7, [.ref 19, .int v1, .int ((v2 + 1) ||| ((2 : Int32) <<< ((3 + (2 * (v2 &&& 7))) &&& 31 : Int32))), .int (v3 ||| ((1 : Int32) <<< (2 &&& 31 : Int32))), .int (v4 + 1), .int 2], [])] (hp L xs A V K T) v h'))
        else (
          if ((A 20) v4.toNatClampNeg) = 104 then (
          if (((v3 : Int32) >>> (0 &&& 31 : Int32)) &&& 1) = 1 then (
            v = some (-1) ∧ h' = hp L xs A (upV V 19 1 0) K T)
          else (
            am_fin [(z_T_takeRow, 7, [.ref 19, .int v1, .int ((v2 + 1) ||| ((0 : Int32) <<< ((3 + (2 * (v2 &&& 7))) &&& 31 : Int32))), .int (v3 ||| ((1 : Int32) <<< (0 &&& 31 : Int32))), .int (v4 + 1), .int 0], [])] (hp L xs A V K T) v h'))
        else (
          if ((A 20) v4.toNatClampNeg) = 110 then (
          if (((v3 : Int32) >>> (3 &&& 31 : Int32)) &&& 1) = 1 then (
            v = some (-1) ∧ h' = hp L xs A (upV V 19 1 0) K T)
          else (
            am_fin [(z_T_takeRow, 7, [.ref 19, .int v1, .int ((v2 + 1) ||| ((3 : Int32) <<< ((3 + (2 * (v2 &&& 7))) &&& 31 : Int32))), .int (v3 ||| ((1 : Int32) <<< (3 &&& 31 : Int32))), .int (v4 + 1), .int 3], [])] (hp L xs A V K T) v h'))
        else (
          v = some (-1) ∧ h' = hp L xs A (upV V 19 1 0) K T)))))))) : am_fin [(z_T_takeRow, 7, [.ref 19, .int v1, .int v2, .int v3, .int v4, .int v5], [])] (hp L xs A V K T) v h' :=
  fn_iload rl_T_takeRow_7 rfl (fn_iload_n rl_T_takeRow_9 rfl (fn_icmp_ge rl_T_takeRow_10 (fun k2441 => fn_aload_n rl_T_takeRow_71 rfl (fn_iconst rl_T_takeRow_72 (fn_put rl_T_takeRow_73 hp_19 rfl hpv_19_1 (fn_iload_n rl_T_takeRow_76 rfl (fn_reti rl_T_takeRow_77 rfl k2441))))) (fun k2442 => fn_iload rl_T_takeRow_13 rfl (fn_iconst rl_T_takeRow_15 (fn_icmp_ge rl_T_takeRow_16 (fun k2439 => fn_aload_n rl_T_takeRow_71 rfl (fn_iconst rl_T_takeRow_72 (fn_put rl_T_takeRow_73 hp_19 rfl hpv_19_1 (fn_iload_n rl_T_takeRow_76 rfl (fn_reti rl_T_takeRow_77 rfl k2439))))) (fun k2440 => fn_aload_n rl_T_takeRow_19 rfl (fn_get rl_T_takeRow_20 hp_19 rfl (fn_iload rl_T_takeRow_23 rfl (fn_iald rl_T_takeRow_25 hp_20 (fun k2438 => fn_stat (as := [.int ((A 20) v4.toNatClampNeg)]) (r := []) (ls' := [.int ((A 20) v4.toNatClampNeg)]) rl_T_takeRow_26 rfl rfl rfl rfl pl_T_letterOf rfl rfl (fn_iload_n rl_T_letterOf_0 rfl (fn_lookP rl_T_letterOf_1 (fn_swC (tg := 0) (F := fun t => am_fin ((z_T_letterOf, t, [.int ((A 20) v4.toNatClampNeg)], []) :: [(z_T_takeRow, 29, [.ref 19, .int v1, .int v2, .int v3, .int v4, .int v5], [])]) (hp L xs A V K T) v h') (fun k2436 => fn_iconst rl_T_letterOf_46 (fn_retci rl_T_letterOf_47 rfl (fn_istore (ls' := [.ref 19, .int v1, .int v2, .int v3, .int v4, .int 1]) rl_T_takeRow_29 rfl rfl (fn_iload rl_T_takeRow_31 rfl (fn_iconst rl_T_takeRow_33 (fn_icmp_eq_f rl_T_takeRow_34 (by decide +kernel) (fn_iload_n rl_T_takeRow_37 rfl (fn_iload rl_T_takeRow_38 rfl (fn_stat (as := [.int v3, .int 1]) (r := []) (ls' := [.int v3, .int 1]) rl_T_takeRow_40 rfl rfl rfl rfl pl_L_hasBit rfl rfl (fn_iload_n rl_L_hasBit_0 rfl (fn_iload_n rl_L_hasBit_1 rfl (fn_ishr rl_L_hasBit_2 (fn_iconst rl_L_hasBit_3 (fn_iand rl_L_hasBit_4 (fn_iconst rl_L_hasBit_5 (fn_icmp_ne rl_L_hasBit_6 (fun k2422 => fn_iconst rl_L_hasBit_9 (fn_goto rl_L_hasBit_10 (fn_retci rl_L_hasBit_14 rfl (fn_if_eq_f rl_T_takeRow_43 (by decide +kernel) (fn_iconst rl_T_takeRow_46 (fn_istore_n (ls' := [.ref 19, .int v1, .int (-1), .int v3, .int v4, .int 1]) rl_T_takeRow_47 rfl rfl (fn_goto rl_T_takeRow_48 (fn_aload_n rl_T_takeRow_71 rfl (fn_iconst rl_T_takeRow_72 (fn_put rl_T_takeRow_73 hp_19 rfl hpv_19_1 (fn_iload_n rl_T_takeRow_76 rfl (fn_reti rl_T_takeRow_77 rfl k2422)))))))))))) (fun k2423 => fn_iconst rl_L_hasBit_13 (fn_retci rl_L_hasBit_14 rfl (fn_if_eq_t rl_T_takeRow_43 (by decide +kernel) (fn_iload_n rl_T_takeRow_51 rfl (fn_iconst rl_T_takeRow_52 (fn_iload rl_T_takeRow_53 rfl (fn_ishl rl_T_takeRow_55 (fn_ior rl_T_takeRow_56 (fn_istore_n (ls' := [.ref 19, .int v1, .int v2, .int (v3 ||| ((1 : Int32) <<< (1 &&& 31 : Int32))), .int v4, .int 1]) rl_T_takeRow_57 rfl rfl (fn_iload_n rl_T_takeRow_58 rfl (fn_iload rl_T_takeRow_59 rfl (fn_stat (as := [.int v2, .int 1]) (r := []) (ls' := [.int v2, .int 1]) rl_T_takeRow_61 rfl rfl rfl rfl pl_L_rowWith rfl rfl (fn_iload_n rl_L_rowWith_0 rfl (fn_iconst rl_L_rowWith_1 (fn_iadd rl_L_rowWith_2 (fn_iload_n rl_L_rowWith_3 rfl (fn_iconst rl_L_rowWith_4 (fn_iconst rl_L_rowWith_5 (fn_iload_n rl_L_rowWith_6 rfl (fn_stat (as := [.int v2]) (r := [.int 2, .int 3, .int 1, .int (v2 + 1)]) (ls' := [.int v2]) rl_L_rowWith_7 rfl rfl rfl rfl pl_L_rowLength rfl rfl (fn_iload_n rl_L_rowLength_0 rfl (fn_bipush rl_L_rowLength_1 (fn_iand rl_L_rowLength_3 (fn_retci rl_L_rowLength_4 rfl (fn_imul rl_L_rowWith_10 (fn_iadd rl_L_rowWith_11 (fn_ishl rl_L_rowWith_12 (fn_ior rl_L_rowWith_13 (fn_retci rl_L_rowWith_14 rfl (fn_istore_n (ls' := [.ref 19, .int v1, .int ((v2 + 1) ||| ((1 : Int32) <<< ((3 + (2 * (v2 &&& 7))) &&& 31 : Int32))), .int (v3 ||| ((1 : Int32) <<< (1 &&& 31 : Int32))), .int v4, .int 1]) rl_T_takeRow_64 rfl rfl (fn_iinc (ls' := [.ref 19, .int v1, .int ((v2 + 1) ||| ((1 : Int32) <<< ((3 + (2 * (v2 &&& 7))) &&& 31 : Int32))), .int (v3 ||| ((1 : Int32) <<< (1 &&& 31 : Int32))), .int (v4 + 1), .int 1]) rl_T_takeRow_65 rfl rfl rfl (fn_goto rl_T_takeRow_68 (k2423))))))))))))))))))))))))))))))))) k2436)))))))))))))))) (fun k2437 => fn_swC (tg := 0) (F := fun t => am_fin ((z_T_letterOf, t, [.int ((A 20) v4.toNatClampNeg)], []) :: [(z_T_takeRow, 29, [.ref 19, .int v1, .int v2, .int v3, .int v4, .int v5], [])]) (hp L xs A V K T) v h') (fun k2434 => fn_iconst rl_T_letterOf_48 (fn_retci rl_T_letterOf_49 rfl (fn_istore (ls' := [.ref 19, .int v1, .int v2, .int v3, .int v4, .int 2]) rl_T_takeRow_29 rfl rfl (fn_iload rl_T_takeRow_31 rfl (fn_iconst rl_T_takeRow_33 (fn_icmp_eq_f rl_T_takeRow_34 (by decide +kernel) (fn_iload_n rl_T_takeRow_37 rfl (fn_iload rl_T_takeRow_38 rfl (fn_stat (as := [.int v3, .int 2]) (r := []) (ls' := [.int v3, .int 2]) rl_T_takeRow_40 rfl rfl rfl rfl pl_L_hasBit rfl rfl (fn_iload_n rl_L_hasBit_0 rfl (fn_iload_n rl_L_hasBit_1 rfl (fn_ishr rl_L_hasBit_2 (fn_iconst rl_L_hasBit_3 (fn_iand rl_L_hasBit_4 (fn_iconst rl_L_hasBit_5 (fn_icmp_ne rl_L_hasBit_6 (fun k2424 => fn_iconst rl_L_hasBit_9 (fn_goto rl_L_hasBit_10 (fn_retci rl_L_hasBit_14 rfl (fn_if_eq_f rl_T_takeRow_43 (by decide +kernel) (fn_iconst rl_T_takeRow_46 (fn_istore_n (ls' := [.ref 19, .int v1, .int (-1), .int v3, .int v4, .int 2]) rl_T_takeRow_47 rfl rfl (fn_goto rl_T_takeRow_48 (fn_aload_n rl_T_takeRow_71 rfl (fn_iconst rl_T_takeRow_72 (fn_put rl_T_takeRow_73 hp_19 rfl hpv_19_1 (fn_iload_n rl_T_takeRow_76 rfl (fn_reti rl_T_takeRow_77 rfl k2424)))))))))))) (fun k2425 => fn_iconst rl_L_hasBit_13 (fn_retci rl_L_hasBit_14 rfl (fn_if_eq_t rl_T_takeRow_43 (by decide +kernel) (fn_iload_n rl_T_takeRow_51 rfl (fn_iconst rl_T_takeRow_52 (fn_iload rl_T_takeRow_53 rfl (fn_ishl rl_T_takeRow_55 (fn_ior rl_T_takeRow_56 (fn_istore_n (ls' := [.ref 19, .int v1, .int v2, .int (v3 ||| ((1 : Int32) <<< (2 &&& 31 : Int32))), .int v4, .int 2]) rl_T_takeRow_57 rfl rfl (fn_iload_n rl_T_takeRow_58 rfl (fn_iload rl_T_takeRow_59 rfl (fn_stat (as := [.int v2, .int 2]) (r := []) (ls' := [.int v2, .int 2]) rl_T_takeRow_61 rfl rfl rfl rfl pl_L_rowWith rfl rfl (fn_iload_n rl_L_rowWith_0 rfl (fn_iconst rl_L_rowWith_1 (fn_iadd rl_L_rowWith_2 (fn_iload_n rl_L_rowWith_3 rfl (fn_iconst rl_L_rowWith_4 (fn_iconst rl_L_rowWith_5 (fn_iload_n rl_L_rowWith_6 rfl (fn_stat (as := [.int v2]) (r := [.int 2, .int 3, .int 2, .int (v2 + 1)]) (ls' := [.int v2]) rl_L_rowWith_7 rfl rfl rfl rfl pl_L_rowLength rfl rfl (fn_iload_n rl_L_rowLength_0 rfl (fn_bipush rl_L_rowLength_1 (fn_iand rl_L_rowLength_3 (fn_retci rl_L_rowLength_4 rfl (fn_imul rl_L_rowWith_10 (fn_iadd rl_L_rowWith_11 (fn_ishl rl_L_rowWith_12 (fn_ior rl_L_rowWith_13 (fn_retci rl_L_rowWith_14 rfl (fn_istore_n (ls' := [.ref 19, .int v1, .int ((v2 + 1) ||| ((2 : Int32) <<< ((3 + (2 * (v2 &&& 7))) &&& 31 : Int32))), .int (v3 ||| ((1 : Int32) <<< (2 &&& 31 : Int32))), .int v4, .int 2]) rl_T_takeRow_64 rfl rfl (fn_iinc (ls' := [.ref 19, .int v1, .int ((v2 + 1) ||| ((2 : Int32) <<< ((3 + (2 * (v2 &&& 7))) &&& 31 : Int32))), .int (v3 ||| ((1 : Int32) <<< (2 &&& 31 : Int32))), .int (v4 + 1), .int 2]) rl_T_takeRow_65 rfl rfl rfl (fn_goto rl_T_takeRow_68 (k2425))))))))))))))))))))))))))))))))) k2434)))))))))))))))) (fun k2435 => fn_swC (tg := 0) (F := fun t => am_fin ((z_T_letterOf, t, [.int ((A 20) v4.toNatClampNeg)], []) :: [(z_T_takeRow, 29, [.ref 19, .int v1, .int v2, .int v3, .int v4, .int v5], [])]) (hp L xs A V K T) v h') (fun k2432 => fn_iconst rl_T_letterOf_44 (fn_retci rl_T_letterOf_45 rfl (fn_istore (ls' := [.ref 19, .int v1, .int v2, .int v3, .int v4, .int 0]) rl_T_takeRow_29 rfl rfl (fn_iload rl_T_takeRow_31 rfl (fn_iconst rl_T_takeRow_33 (fn_icmp_eq_f rl_T_takeRow_34 (by decide +kernel) (fn_iload_n rl_T_takeRow_37 rfl (fn_iload rl_T_takeRow_38 rfl (fn_stat (as := [.int v3, .int 0]) (r := []) (ls' := [.int v3, .int 0]) rl_T_takeRow_40 rfl rfl rfl rfl pl_L_hasBit rfl rfl (fn_iload_n rl_L_hasBit_0 rfl (fn_iload_n rl_L_hasBit_1 rfl (fn_ishr rl_L_hasBit_2 (fn_iconst rl_L_hasBit_3 (fn_iand rl_L_hasBit_4 (fn_iconst rl_L_hasBit_5 (fn_icmp_ne rl_L_hasBit_6 (fun k2426 => fn_iconst rl_L_hasBit_9 (fn_goto rl_L_hasBit_10 (fn_retci rl_L_hasBit_14 rfl (fn_if_eq_f rl_T_takeRow_43 (by decide +kernel) (fn_iconst rl_T_takeRow_46 (fn_istore_n (ls' := [.ref 19, .int v1, .int (-1), .int v3, .int v4, .int 0]) rl_T_takeRow_47 rfl rfl (fn_goto rl_T_takeRow_48 (fn_aload_n rl_T_takeRow_71 rfl (fn_iconst rl_T_takeRow_72 (fn_put rl_T_takeRow_73 hp_19 rfl hpv_19_1 (fn_iload_n rl_T_takeRow_76 rfl (fn_reti rl_T_takeRow_77 rfl k2426)))))))))))) (fun k2427 => fn_iconst rl_L_hasBit_13 (fn_retci rl_L_hasBit_14 rfl (fn_if_eq_t rl_T_takeRow_43 (by decide +kernel) (fn_iload_n rl_T_takeRow_51 rfl (fn_iconst rl_T_takeRow_52 (fn_iload rl_T_takeRow_53 rfl (fn_ishl rl_T_takeRow_55 (fn_ior rl_T_takeRow_56 (fn_istore_n (ls' := [.ref 19, .int v1, .int v2, .int (v3 ||| ((1 : Int32) <<< (0 &&& 31 : Int32))), .int v4, .int 0]) rl_T_takeRow_57 rfl rfl (fn_iload_n rl_T_takeRow_58 rfl (fn_iload rl_T_takeRow_59 rfl (fn_stat (as := [.int v2, .int 0]) (r := []) (ls' := [.int v2, .int 0]) rl_T_takeRow_61 rfl rfl rfl rfl pl_L_rowWith rfl rfl (fn_iload_n rl_L_rowWith_0 rfl (fn_iconst rl_L_rowWith_1 (fn_iadd rl_L_rowWith_2 (fn_iload_n rl_L_rowWith_3 rfl (fn_iconst rl_L_rowWith_4 (fn_iconst rl_L_rowWith_5 (fn_iload_n rl_L_rowWith_6 rfl (fn_stat (as := [.int v2]) (r := [.int 2, .int 3, .int 0, .int (v2 + 1)]) (ls' := [.int v2]) rl_L_rowWith_7 rfl rfl rfl rfl pl_L_rowLength rfl rfl (fn_iload_n rl_L_rowLength_0 rfl (fn_bipush rl_L_rowLength_1 (fn_iand rl_L_rowLength_3 (fn_retci rl_L_rowLength_4 rfl (fn_imul rl_L_rowWith_10 (fn_iadd rl_L_rowWith_11 (fn_ishl rl_L_rowWith_12 (fn_ior rl_L_rowWith_13 (fn_retci rl_L_rowWith_14 rfl (fn_istore_n (ls' := [.ref 19, .int v1, .int ((v2 + 1) ||| ((0 : Int32) <<< ((3 + (2 * (v2 &&& 7))) &&& 31 : Int32))), .int (v3 ||| ((1 : Int32) <<< (0 &&& 31 : Int32))), .int v4, .int 0]) rl_T_takeRow_64 rfl rfl (fn_iinc (ls' := [.ref 19, .int v1, .int ((v2 + 1) ||| ((0 : Int32) <<< ((3 + (2 * (v2 &&& 7))) &&& 31 : Int32))), .int (v3 ||| ((1 : Int32) <<< (0 &&& 31 : Int32))), .int (v4 + 1), .int 0]) rl_T_takeRow_65 rfl rfl rfl (fn_goto rl_T_takeRow_68 (k2427))))))))))))))))))))))))))))))))) k2432)))))))))))))))) (fun k2433 => fn_swC (tg := 0) (F := fun t => am_fin ((z_T_letterOf, t, [.int ((A 20) v4.toNatClampNeg)], []) :: [(z_T_takeRow, 29, [.ref 19, .int v1, .int v2, .int v3, .int v4, .int v5], [])]) (hp L xs A V K T) v h') (fun k2430 => fn_iconst rl_T_letterOf_50 (fn_retci rl_T_letterOf_51 rfl (fn_istore (ls' := [.ref 19, .int v1, .int v2, .int v3, .int v4, .int 3]) rl_T_takeRow_29 rfl rfl (fn_iload rl_T_takeRow_31 rfl (fn_iconst rl_T_takeRow_33 (fn_icmp_eq_f rl_T_takeRow_34 (by decide +kernel) (fn_iload_n rl_T_takeRow_37 rfl (fn_iload rl_T_takeRow_38 rfl (fn_stat (as := [.int v3, .int 3]) (r := []) (ls' := [.int v3, .int 3]) rl_T_takeRow_40 rfl rfl rfl rfl pl_L_hasBit rfl rfl (fn_iload_n rl_L_hasBit_0 rfl (fn_iload_n rl_L_hasBit_1 rfl (fn_ishr rl_L_hasBit_2 (fn_iconst rl_L_hasBit_3 (fn_iand rl_L_hasBit_4 (fn_iconst rl_L_hasBit_5 (fn_icmp_ne rl_L_hasBit_6 (fun k2428 => fn_iconst rl_L_hasBit_9 (fn_goto rl_L_hasBit_10 (fn_retci rl_L_hasBit_14 rfl (fn_if_eq_f rl_T_takeRow_43 (by decide +kernel) (fn_iconst rl_T_takeRow_46 (fn_istore_n (ls' := [.ref 19, .int v1, .int (-1), .int v3, .int v4, .int 3]) rl_T_takeRow_47 rfl rfl (fn_goto rl_T_takeRow_48 (fn_aload_n rl_T_takeRow_71 rfl (fn_iconst rl_T_takeRow_72 (fn_put rl_T_takeRow_73 hp_19 rfl hpv_19_1 (fn_iload_n rl_T_takeRow_76 rfl (fn_reti rl_T_takeRow_77 rfl k2428)))))))))))) (fun k2429 => fn_iconst rl_L_hasBit_13 (fn_retci rl_L_hasBit_14 rfl (fn_if_eq_t rl_T_takeRow_43 (by decide +kernel) (fn_iload_n rl_T_takeRow_51 rfl (fn_iconst rl_T_takeRow_52 (fn_iload rl_T_takeRow_53 rfl (fn_ishl rl_T_takeRow_55 (fn_ior rl_T_takeRow_56 (fn_istore_n (ls' := [.ref 19, .int v1, .int v2, .int (v3 ||| ((1 : Int32) <<< (3 &&& 31 : Int32))), .int v4, .int 3]) rl_T_takeRow_57 rfl rfl (fn_iload_n rl_T_takeRow_58 rfl (fn_iload rl_T_takeRow_59 rfl (fn_stat (as := [.int v2, .int 3]) (r := []) (ls' := [.int v2, .int 3]) rl_T_takeRow_61 rfl rfl rfl rfl pl_L_rowWith rfl rfl (fn_iload_n rl_L_rowWith_0 rfl (fn_iconst rl_L_rowWith_1 (fn_iadd rl_L_rowWith_2 (fn_iload_n rl_L_rowWith_3 rfl (fn_iconst rl_L_rowWith_4 (fn_iconst rl_L_rowWith_5 (fn_iload_n rl_L_rowWith_6 rfl (fn_stat (as := [.int v2]) (r := [.int 2, .int 3, .int 3, .int (v2 + 1)]) (ls' := [.int v2]) rl_L_rowWith_7 rfl rfl rfl rfl pl_L_rowLength rfl rfl (fn_iload_n rl_L_rowLength_0 rfl (fn_bipush rl_L_rowLength_1 (fn_iand rl_L_rowLength_3 (fn_retci rl_L_rowLength_4 rfl (fn_imul rl_L_rowWith_10 (fn_iadd rl_L_rowWith_11 (fn_ishl rl_L_rowWith_12 (fn_ior rl_L_rowWith_13 (fn_retci rl_L_rowWith_14 rfl (fn_istore_n (ls' := [.ref 19, .int v1, .int ((v2 + 1) ||| ((3 : Int32) <<< ((3 + (2 * (v2 &&& 7))) &&& 31 : Int32))), .int (v3 ||| ((1 : Int32) <<< (3 &&& 31 : Int32))), .int v4, .int 3]) rl_T_takeRow_64 rfl rfl (fn_iinc (ls' := [.ref 19, .int v1, .int ((v2 + 1) ||| ((3 : Int32) <<< ((3 + (2 * (v2 &&& 7))) &&& 31 : Int32))), .int (v3 ||| ((1 : Int32) <<< (3 &&& 31 : Int32))), .int (v4 + 1), .int 3]) rl_T_takeRow_65 rfl rfl rfl (fn_goto rl_T_takeRow_68 (k2429))))))))))))))))))))))))))))))))) k2430)))))))))))))))) (fun k2431 => fn_iconst rl_T_letterOf_52 (fn_retci rl_T_letterOf_53 rfl (fn_istore (ls' := [.ref 19, .int v1, .int v2, .int v3, .int v4, .int (-1)]) rl_T_takeRow_29 rfl rfl (fn_iload rl_T_takeRow_31 rfl (fn_iconst rl_T_takeRow_33 (fn_icmp_eq_t rl_T_takeRow_34 (by decide +kernel) (fn_iconst rl_T_takeRow_46 (fn_istore_n (ls' := [.ref 19, .int v1, .int (-1), .int v3, .int v4, .int (-1)]) rl_T_takeRow_47 rfl rfl (fn_goto rl_T_takeRow_48 (fn_aload_n rl_T_takeRow_71 rfl (fn_iconst rl_T_takeRow_72 (fn_put rl_T_takeRow_73 hp_19 rfl hpv_19_1 (fn_iload_n rl_T_takeRow_76 rfl (fn_reti rl_T_takeRow_77 rfl k2431)))))))))))))) k2433) k2435) k2437) k2438)))) k2440)))) k2442))) k0))
set_option maxRecDepth 100000 in
set_option maxHeartbeats 4000000 in
theorem sg_P_startsStay_3_0 {L : Nat} {xs : Nat → Int32} {A V : Nat → Nat → Int32} {K : Nat → Option Nat} {T : am_H} {v : Option Int32} {h' : am_H} {a1 : Int32} (k0 :
    am_fin [(z_P_landOn, 0, [.ref 3, .int a1], []), (z_P_startsStay, 5, [.ref 3, .int a1], [])] (hp L xs A V K T) v h') : am_fin [(z_P_startsStay, 0, [.ref 3, .int a1], [])] (hp L xs A V K T) v h' :=
  fn_aload_n rl_P_startsStay_0 rfl (fn_iload_n rl_P_startsStay_1 rfl (fn_virt (as := [.ref 3, .int a1]) (r := []) (ls' := [.ref 3, .int a1]) rl_P_startsStay_2 rfl hp_3 rfl rfl pl_P_landOn rfl rfl (k0)))
set_option maxRecDepth 100000 in
set_option maxHeartbeats 4000000 in
theorem sg_P_startsStay_3_5r {L : Nat} {xs : Nat → Int32} {A V : Nat → Nat → Int32} {K : Nat → Option Nat} {T : am_H} {v : Option Int32} {h' : am_H} {v1 r : Int32} (k0 :
    if r = (-1) then (
      v = some 0 ∧ h' = hp L xs A V K T)
    else (
      am_fin [(z_P_landOn, 0, [.ref 3, .int v1], []), (z_P_startsStay, 14, [.ref 3, .int v1], [])] (hp L xs A V K T) v h')) : am_fin [(z_P_startsStay, 5, [.ref 3, .int v1], [.int r])] (hp L xs A V K T) v h' :=
  fn_iconst rl_P_startsStay_5 (fn_icmp_eq rl_P_startsStay_6 (fun k2443 => fn_iconst rl_P_startsStay_28 (fn_reti rl_P_startsStay_29 rfl k2443)) (fun k2444 => fn_aload_n rl_P_startsStay_9 rfl (fn_iload_n rl_P_startsStay_10 rfl (fn_virt (as := [.ref 3, .int v1]) (r := []) (ls' := [.ref 3, .int v1]) rl_P_startsStay_11 rfl hp_3 rfl rfl pl_P_landOn rfl rfl (k2444)))) k0)
set_option maxRecDepth 100000 in
set_option maxHeartbeats 4000000 in
theorem sg_P_startsStay_3_14r {L : Nat} {xs : Nat → Int32} {A V : Nat → Nat → Int32} {K : Nat → Option Nat} {T : am_H} {v : Option Int32} {h' : am_H} {v1 r : Int32} (k0 :
    am_fin [(z_P_landOn, 0, [.ref 3, .int (v1 - 1)], []), (z_P_startsStay, 21, [.ref 3, .int v1], [.int r])] (hp L xs A V K T) v h') : am_fin [(z_P_startsStay, 14, [.ref 3, .int v1], [.int r])] (hp L xs A V K T) v h' :=
  fn_aload_n rl_P_startsStay_14 rfl (fn_iload_n rl_P_startsStay_15 rfl (fn_iconst rl_P_startsStay_16 (fn_isub rl_P_startsStay_17 (fn_virt (as := [.ref 3, .int (v1 - 1)]) (r := [.int r]) (ls' := [.ref 3, .int (v1 - 1)]) rl_P_startsStay_18 rfl hp_3 rfl rfl pl_P_landOn rfl rfl (k0)))))
set_option maxRecDepth 100000 in
set_option maxHeartbeats 4000000 in
theorem sg_P_startsStay_3_21r {L : Nat} {xs : Nat → Int32} {A V : Nat → Nat → Int32} {K : Nat → Option Nat} {T : am_H} {v : Option Int32} {h' : am_H} {v1 s0 r : Int32} (k0 :
    if s0 = r then (
      v = some 0 ∧ h' = hp L xs A V K T)
    else (
      v = some 1 ∧ h' = hp L xs A V K T)) : am_fin [(z_P_startsStay, 21, [.ref 3, .int v1], [.int r, .int s0])] (hp L xs A V K T) v h' :=
  fn_icmp_eq rl_P_startsStay_21 (fun k2445 => fn_iconst rl_P_startsStay_28 (fn_reti rl_P_startsStay_29 rfl k2445)) (fun k2446 => fn_iconst rl_P_startsStay_24 (fn_goto rl_P_startsStay_25 (fn_reti rl_P_startsStay_29 rfl k2446))) k0
set_option maxRecDepth 100000 in
set_option maxHeartbeats 4000000 in
theorem sg_P_countOf_3_0 {L : Nat} {xs : Nat → Int32} {A V : Nat → Nat → Int32} {K : Nat → Option Nat} {T : am_H} {v : Option Int32} {h' : am_H} {a1 a2 a3 : Int32} (k0 :
    am_fin [(z_P_countOf, 6, [.ref 3, .int a1, .int a2, .int a3, .int 0, .int a2], [])] (hp L xs A V K T) v h') : am_fin [(z_P_countOf, 0, [.ref 3, .int a1, .int a2, .int a3, .null, .null], [])] (hp L xs A V K T) v h' :=
  fn_iconst rl_P_countOf_0 (fn_istore (ls' := [.ref 3, .int a1, .int a2, .int a3, .int 0, .null]) rl_P_countOf_1 rfl rfl (fn_iload_n rl_P_countOf_3 rfl (fn_istore (ls' := [.ref 3, .int a1, .int a2, .int a3, .int 0, .int a2]) rl_P_countOf_4 rfl rfl (k0))))
set_option maxRecDepth 100000 in
set_option maxHeartbeats 4000000 in
theorem sg_P_countOf_3_6 {L : Nat} {xs : Nat → Int32} {A V : Nat → Nat → Int32} {K : Nat → Option Nat} {T : am_H} {v : Option Int32} {h' : am_H} {v1 v2 v3 v4 v5 : Int32} (k0 :
    if v3 < v5 then (
      v = some v4 ∧ h' = hp L xs A V K T)
    else (
      am_fin [(z_P_landOn, 0, [.ref 3, .int v5], []), (z_P_countOf, 18, [.ref 3, .int v1, .int v2, .int v3, .int v4, .int v5], [])] (hp L xs A V K T) v h')) : am_fin [(z_P_countOf, 6, [.ref 3, .int v1, .int v2, .int v3, .int v4, .int v5], [])] (hp L xs A V K T) v h' :=
  fn_iload rl_P_countOf_6 rfl (fn_iload_n rl_P_countOf_8 rfl (fn_icmp_gt rl_P_countOf_9 (fun k2447 => fn_iload rl_P_countOf_31 rfl (fn_reti rl_P_countOf_33 rfl k2447)) (fun k2448 => fn_aload_n rl_P_countOf_12 rfl (fn_iload rl_P_countOf_13 rfl (fn_virt (as := [.ref 3, .int v5]) (r := []) (ls' := [.ref 3, .int v5]) rl_P_countOf_15 rfl hp_3 rfl rfl pl_P_landOn rfl rfl (k2448)))) k0))
set_option maxRecDepth 100000 in
set_option maxHeartbeats 4000000 in
theorem sg_P_countOf_3_18r {L : Nat} {xs : Nat → Int32} {A V : Nat → Nat → Int32} {K : Nat → Option Nat} {T : am_H} {v : Option Int32} {h' : am_H} {v1 v2 v3 v4 v5 r : Int32} (k0 :
    if r = v1 then (
      am_fin [(z_P_countOf, 6, [.ref 3, .int v1, .int v2, .int v3, .int (v4 + 1), .int (v5 + 1)], [])] (hp L xs A V K T) v h')
    else (
      am_fin [(z_P_countOf, 6, [.ref 3, .int v1, .int v2, .int v3, .int v4, .int (v5 + 1)], [])] (hp L xs A V K T) v h')) : am_fin [(z_P_countOf, 18, [.ref 3, .int v1, .int v2, .int v3, .int v4, .int v5], [.int r])] (hp L xs A V K T) v h' :=
  fn_iload_n rl_P_countOf_18 rfl (fn_icmp_ne rl_P_countOf_19 (fun k2449 => fn_iinc (ls' := [.ref 3, .int v1, .int v2, .int v3, .int (v4 + 1), .int v5]) rl_P_countOf_22 rfl rfl rfl (fn_iinc (ls' := [.ref 3, .int v1, .int v2, .int v3, .int (v4 + 1), .int (v5 + 1)]) rl_P_countOf_25 rfl rfl rfl (fn_goto rl_P_countOf_28 (k2449)))) (fun k2450 => fn_iinc (ls' := [.ref 3, .int v1, .int v2, .int v3, .int v4, .int (v5 + 1)]) rl_P_countOf_25 rfl rfl rfl (fn_goto rl_P_countOf_28 (k2450))) k0)
set_option maxRecDepth 100000 in
set_option maxHeartbeats 4000000 in
theorem sg_S_homeDays_0 {L : Nat} {xs : Nat → Int32} {A V : Nat → Nat → Int32} {K : Nat → Option Nat} {T : am_H} {v : Option Int32} {h' : am_H} {a1 a2 a3 : Int32} (k0 :
    am_fin [(z_S_homeDays, 6, [.ref 2, .int a1, .int a2, .int a3, .int 0, .int a2], [])] (hp L xs A V K T) v h') : am_fin [(z_S_homeDays, 0, [.ref 2, .int a1, .int a2, .int a3, .null, .null], [])] (hp L xs A V K T) v h' :=
  fn_iconst rl_S_homeDays_0 (fn_istore (ls' := [.ref 2, .int a1, .int a2, .int a3, .int 0, .null]) rl_S_homeDays_1 rfl rfl (fn_iload_n rl_S_homeDays_3 rfl (fn_istore (ls' := [.ref 2, .int a1, .int a2, .int a3, .int 0, .int a2]) rl_S_homeDays_4 rfl rfl (k0))))
set_option maxRecDepth 100000 in
set_option maxHeartbeats 4000000 in
theorem sg_S_homeDays_6 {L : Nat} {xs : Nat → Int32} {A V : Nat → Nat → Int32} {K : Nat → Option Nat} {T : am_H} {v : Option Int32} {h' : am_H} {v1 v2 v3 v4 v5 : Int32} (k0 :
    if v3 < v5 then (
      v = some v4 ∧ h' = hp L xs A V K T)
    else (
      ¬ (v5 < 0 ∨ 1080 ≤ v5.toNatClampNeg) ∧ (
      if (((((A 9) v5.toNatClampNeg) : Int32) >>> (v1 &&& 31 : Int32)) &&& 1) = 1 then (
        am_fin [(z_S_homeDays, 6, [.ref 2, .int v1, .int v2, .int v3, .int (v4 + 1), .int (v5 + 1)], [])] (hp L xs A V K T) v h')
      else (
        am_fin [(z_S_homeDays, 6, [.ref 2, .int v1, .int v2, .int v3, .int v4, .int (v5 + 1)], [])] (hp L xs A V K T) v h')))) : am_fin [(z_S_homeDays, 6, [.ref 2, .int v1, .int v2, .int v3, .int v4, .int v5], [])] (hp L xs A V K T) v h' :=
  fn_iload rl_S_homeDays_6 rfl (fn_iload_n rl_S_homeDays_8 rfl (fn_icmp_gt rl_S_homeDays_9 (fun k2454 => fn_iload rl_S_homeDays_31 rfl (fn_reti rl_S_homeDays_33 rfl k2454)) (fun k2455 => fn_aload_n rl_S_homeDays_12 rfl (fn_iload_n rl_S_homeDays_13 rfl (fn_iload rl_S_homeDays_14 rfl (fn_virt (as := [.ref 2, .int v1, .int v5]) (r := []) (ls' := [.ref 2, .int v1, .int v5]) rl_S_homeDays_16 rfl hp_2 rfl rfl pl_S_hasHome rfl rfl (fn_aload_n rl_S_hasHome_0 rfl (fn_get rl_S_hasHome_1 hp_2 rfl (fn_iload_n rl_S_hasHome_4 rfl (fn_iald rl_S_hasHome_5 hp_9 (fun k2453 => fn_iload_n rl_S_hasHome_6 rfl (fn_stat (as := [.int ((A 9) v5.toNatClampNeg), .int v1]) (r := []) (ls' := [.int ((A 9) v5.toNatClampNeg), .int v1]) rl_S_hasHome_7 rfl rfl rfl rfl pl_L_hasBit rfl rfl (fn_iload_n rl_L_hasBit_0 rfl (fn_iload_n rl_L_hasBit_1 rfl (fn_ishr rl_L_hasBit_2 (fn_iconst rl_L_hasBit_3 (fn_iand rl_L_hasBit_4 (fn_iconst rl_L_hasBit_5 (fn_icmp_ne rl_L_hasBit_6 (fun k2451 => fn_iconst rl_L_hasBit_9 (fn_goto rl_L_hasBit_10 (fn_retci rl_L_hasBit_14 rfl (fn_retci rl_S_hasHome_10 rfl (fn_if_eq_f rl_S_homeDays_19 (by decide +kernel) (fn_iinc (ls' := [.ref 2, .int v1, .int v2, .int v3, .int (v4 + 1), .int v5]) rl_S_homeDays_22 rfl rfl rfl (fn_iinc (ls' := [.ref 2, .int v1, .int v2, .int v3, .int (v4 + 1), .int (v5 + 1)]) rl_S_homeDays_25 rfl rfl rfl (fn_goto rl_S_homeDays_28 (k2451))))))))) (fun k2452 => fn_iconst rl_L_hasBit_13 (fn_retci rl_L_hasBit_14 rfl (fn_retci rl_S_hasHome_10 rfl (fn_if_eq_t rl_S_homeDays_19 (by decide +kernel) (fn_iinc (ls' := [.ref 2, .int v1, .int v2, .int v3, .int v4, .int (v5 + 1)]) rl_S_homeDays_25 rfl rfl rfl (fn_goto rl_S_homeDays_28 (k2452))))))) k2453))))))))) k2455)))))))) k0))
set_option maxRecDepth 100000 in
set_option maxHeartbeats 4000000 in
theorem sg_P_countOf_5_0 {L : Nat} {xs : Nat → Int32} {A V : Nat → Nat → Int32} {K : Nat → Option Nat} {T : am_H} {v : Option Int32} {h' : am_H} {a1 a2 a3 : Int32} (k0 :
    am_fin [(z_P_countOf, 6, [.ref 5, .int a1, .int a2, .int a3, .int 0, .int a2], [])] (hp L xs A V K T) v h') : am_fin [(z_P_countOf, 0, [.ref 5, .int a1, .int a2, .int a3, .null, .null], [])] (hp L xs A V K T) v h' :=
  fn_iconst rl_P_countOf_0 (fn_istore (ls' := [.ref 5, .int a1, .int a2, .int a3, .int 0, .null]) rl_P_countOf_1 rfl rfl (fn_iload_n rl_P_countOf_3 rfl (fn_istore (ls' := [.ref 5, .int a1, .int a2, .int a3, .int 0, .int a2]) rl_P_countOf_4 rfl rfl (k0))))
set_option maxRecDepth 100000 in
set_option maxHeartbeats 4000000 in
theorem sg_P_countOf_5_6 {L : Nat} {xs : Nat → Int32} {A V : Nat → Nat → Int32} {K : Nat → Option Nat} {T : am_H} {v : Option Int32} {h' : am_H} {v1 v2 v3 v4 v5 : Int32} (k0 :
    if v3 < v5 then (
      v = some v4 ∧ h' = hp L xs A V K T)
    else (
      am_fin [(z_P_landOn, 0, [.ref 5, .int v5], []), (z_P_countOf, 18, [.ref 5, .int v1, .int v2, .int v3, .int v4, .int v5], [])] (hp L xs A V K T) v h')) : am_fin [(z_P_countOf, 6, [.ref 5, .int v1, .int v2, .int v3, .int v4, .int v5], [])] (hp L xs A V K T) v h' :=
  fn_iload rl_P_countOf_6 rfl (fn_iload_n rl_P_countOf_8 rfl (fn_icmp_gt rl_P_countOf_9 (fun k2456 => fn_iload rl_P_countOf_31 rfl (fn_reti rl_P_countOf_33 rfl k2456)) (fun k2457 => fn_aload_n rl_P_countOf_12 rfl (fn_iload rl_P_countOf_13 rfl (fn_virt (as := [.ref 5, .int v5]) (r := []) (ls' := [.ref 5, .int v5]) rl_P_countOf_15 rfl hp_5 rfl rfl pl_P_landOn rfl rfl (k2457)))) k0))
set_option maxRecDepth 100000 in
set_option maxHeartbeats 4000000 in
theorem sg_P_countOf_5_18r {L : Nat} {xs : Nat → Int32} {A V : Nat → Nat → Int32} {K : Nat → Option Nat} {T : am_H} {v : Option Int32} {h' : am_H} {v1 v2 v3 v4 v5 r : Int32} (k0 :
    if r = v1 then (
      am_fin [(z_P_countOf, 6, [.ref 5, .int v1, .int v2, .int v3, .int (v4 + 1), .int (v5 + 1)], [])] (hp L xs A V K T) v h')
    else (
      am_fin [(z_P_countOf, 6, [.ref 5, .int v1, .int v2, .int v3, .int v4, .int (v5 + 1)], [])] (hp L xs A V K T) v h')) : am_fin [(z_P_countOf, 18, [.ref 5, .int v1, .int v2, .int v3, .int v4, .int v5], [.int r])] (hp L xs A V K T) v h' :=
  fn_iload_n rl_P_countOf_18 rfl (fn_icmp_ne rl_P_countOf_19 (fun k2458 => fn_iinc (ls' := [.ref 5, .int v1, .int v2, .int v3, .int (v4 + 1), .int v5]) rl_P_countOf_22 rfl rfl rfl (fn_iinc (ls' := [.ref 5, .int v1, .int v2, .int v3, .int (v4 + 1), .int (v5 + 1)]) rl_P_countOf_25 rfl rfl rfl (fn_goto rl_P_countOf_28 (k2458)))) (fun k2459 => fn_iinc (ls' := [.ref 5, .int v1, .int v2, .int v3, .int v4, .int (v5 + 1)]) rl_P_countOf_25 rfl rfl rfl (fn_goto rl_P_countOf_28 (k2459))) k0)
set_option maxRecDepth 100000 in
set_option maxHeartbeats 4000000 in
theorem sg_P_rowsOf_3_0 {L : Nat} {xs : Nat → Int32} {A V : Nat → Nat → Int32} {K : Nat → Option Nat} {T : am_H} {v : Option Int32} {h' : am_H} {a1 a2 a3 : Int32} (k0 :
    am_fin [(z_P_rowsOf, 6, [.ref 3, .int a1, .int a2, .int a3, .int 0, .int a2], [])] (hp L xs A V K T) v h') : am_fin [(z_P_rowsOf, 0, [.ref 3, .int a1, .int a2, .int a3, .null, .null], [])] (hp L xs A V K T) v h' :=
  fn_iconst rl_P_rowsOf_0 (fn_istore (ls' := [.ref 3, .int a1, .int a2, .int a3, .int 0, .null]) rl_P_rowsOf_1 rfl rfl (fn_iload_n rl_P_rowsOf_3 rfl (fn_istore (ls' := [.ref 3, .int a1, .int a2, .int a3, .int 0, .int a2]) rl_P_rowsOf_4 rfl rfl (k0))))
set_option maxRecDepth 100000 in
set_option maxHeartbeats 4000000 in
theorem sg_P_rowsOf_3_6 {L : Nat} {xs : Nat → Int32} {A V : Nat → Nat → Int32} {K : Nat → Option Nat} {T : am_H} {v : Option Int32} {h' : am_H} {v1 v2 v3 v4 v5 : Int32} (k0 :
    if v3 < v5 then (
      v = some v4 ∧ h' = hp L xs A V K T)
    else (
      am_fin [(z_P_landOn, 0, [.ref 3, .int v5], []), (z_P_rowsOf, 18, [.ref 3, .int v1, .int v2, .int v3, .int v4, .int v5], [])] (hp L xs A V K T) v h')) : am_fin [(z_P_rowsOf, 6, [.ref 3, .int v1, .int v2, .int v3, .int v4, .int v5], [])] (hp L xs A V K T) v h' :=
  fn_iload rl_P_rowsOf_6 rfl (fn_iload_n rl_P_rowsOf_8 rfl (fn_icmp_gt rl_P_rowsOf_9 (fun k2460 => fn_iload rl_P_rowsOf_49 rfl (fn_reti rl_P_rowsOf_51 rfl k2460)) (fun k2461 => fn_aload_n rl_P_rowsOf_12 rfl (fn_iload rl_P_rowsOf_13 rfl (fn_virt (as := [.ref 3, .int v5]) (r := []) (ls' := [.ref 3, .int v5]) rl_P_rowsOf_15 rfl hp_3 rfl rfl pl_P_landOn rfl rfl (k2461)))) k0))
set_option maxRecDepth 100000 in
set_option maxHeartbeats 4000000 in
theorem sg_P_rowsOf_3_18r {L : Nat} {xs : Nat → Int32} {A V : Nat → Nat → Int32} {K : Nat → Option Nat} {T : am_H} {v : Option Int32} {h' : am_H} {v1 v2 v3 v4 v5 r : Int32} (k0 :
    if r = v1 then (
      if v5 = v2 then (
        am_fin [(z_P_rowsOf, 6, [.ref 3, .int v1, .int v2, .int v3, .int (v4 + 1), .int (v5 + 1)], [])] (hp L xs A V K T) v h')
      else (
        am_fin [(z_P_landOn, 0, [.ref 3, .int (v5 - 1)], []), (z_P_rowsOf, 36, [.ref 3, .int v1, .int v2, .int v3, .int v4, .int v5], [])] (hp L xs A V K T) v h'))
    else (
      am_fin [(z_P_rowsOf, 6, [.ref 3, .int v1, .int v2, .int v3, .int v4, .int (v5 + 1)], [])] (hp L xs A V K T) v h')) : am_fin [(z_P_rowsOf, 18, [.ref 3, .int v1, .int v2, .int v3, .int v4, .int v5], [.int r])] (hp L xs A V K T) v h' :=
  fn_iload_n rl_P_rowsOf_18 rfl (fn_icmp_ne rl_P_rowsOf_19 (fun k2464 => fn_iload rl_P_rowsOf_22 rfl (fn_iload_n rl_P_rowsOf_24 rfl (fn_icmp_eq rl_P_rowsOf_25 (fun k2462 => fn_iinc (ls' := [.ref 3, .int v1, .int v2, .int v3, .int (v4 + 1), .int v5]) rl_P_rowsOf_40 rfl rfl rfl (fn_iinc (ls' := [.ref 3, .int v1, .int v2, .int v3, .int (v4 + 1), .int (v5 + 1)]) rl_P_rowsOf_43 rfl rfl rfl (fn_goto rl_P_rowsOf_46 (k2462)))) (fun k2463 => fn_aload_n rl_P_rowsOf_28 rfl (fn_iload rl_P_rowsOf_29 rfl (fn_iconst rl_P_rowsOf_31 (fn_isub rl_P_rowsOf_32 (fn_virt (as := [.ref 3, .int (v5 - 1)]) (r := []) (ls' := [.ref 3, .int (v5 - 1)]) rl_P_rowsOf_33 rfl hp_3 rfl rfl pl_P_landOn rfl rfl (k2463)))))) k2464))) (fun k2465 => fn_iinc (ls' := [.ref 3, .int v1, .int v2, .int v3, .int v4, .int (v5 + 1)]) rl_P_rowsOf_43 rfl rfl rfl (fn_goto rl_P_rowsOf_46 (k2465))) k0)
set_option maxRecDepth 100000 in
set_option maxHeartbeats 4000000 in
theorem sg_P_rowsOf_3_36r {L : Nat} {xs : Nat → Int32} {A V : Nat → Nat → Int32} {K : Nat → Option Nat} {T : am_H} {v : Option Int32} {h' : am_H} {v1 v2 v3 v4 v5 r : Int32} (k0 :
    if r = v1 then (
      am_fin [(z_P_rowsOf, 6, [.ref 3, .int v1, .int v2, .int v3, .int v4, .int (v5 + 1)], [])] (hp L xs A V K T) v h')
    else (
      am_fin [(z_P_rowsOf, 6, [.ref 3, .int v1, .int v2, .int v3, .int (v4 + 1), .int (v5 + 1)], [])] (hp L xs A V K T) v h')) : am_fin [(z_P_rowsOf, 36, [.ref 3, .int v1, .int v2, .int v3, .int v4, .int v5], [.int r])] (hp L xs A V K T) v h' :=
  fn_iload_n rl_P_rowsOf_36 rfl (fn_icmp_eq rl_P_rowsOf_37 (fun k2466 => fn_iinc (ls' := [.ref 3, .int v1, .int v2, .int v3, .int v4, .int (v5 + 1)]) rl_P_rowsOf_43 rfl rfl rfl (fn_goto rl_P_rowsOf_46 (k2466))) (fun k2467 => fn_iinc (ls' := [.ref 3, .int v1, .int v2, .int v3, .int (v4 + 1), .int v5]) rl_P_rowsOf_40 rfl rfl rfl (fn_iinc (ls' := [.ref 3, .int v1, .int v2, .int v3, .int (v4 + 1), .int (v5 + 1)]) rl_P_rowsOf_43 rfl rfl rfl (fn_goto rl_P_rowsOf_46 (k2467)))) k0)
set_option maxRecDepth 100000 in
set_option maxHeartbeats 4000000 in
theorem sg_P_longestRow_3_0 {L : Nat} {xs : Nat → Int32} {A V : Nat → Nat → Int32} {K : Nat → Option Nat} {T : am_H} {v : Option Int32} {h' : am_H} {a1 a2 a3 : Int32} (k0 :
    am_fin [(z_P_longestRow, 9, [.ref 3, .int a1, .int a2, .int a3, .int 0, .int 0, .int a2], [])] (hp L xs A V K T) v h') : am_fin [(z_P_longestRow, 0, [.ref 3, .int a1, .int a2, .int a3, .null, .null, .null], [])] (hp L xs A V K T) v h' :=
  fn_iconst rl_P_longestRow_0 (fn_istore (ls' := [.ref 3, .int a1, .int a2, .int a3, .int 0, .null, .null]) rl_P_longestRow_1 rfl rfl (fn_iconst rl_P_longestRow_3 (fn_istore (ls' := [.ref 3, .int a1, .int a2, .int a3, .int 0, .int 0, .null]) rl_P_longestRow_4 rfl rfl (fn_iload_n rl_P_longestRow_6 rfl (fn_istore (ls' := [.ref 3, .int a1, .int a2, .int a3, .int 0, .int 0, .int a2]) rl_P_longestRow_7 rfl rfl (k0))))))
set_option maxRecDepth 100000 in
set_option maxHeartbeats 4000000 in
theorem sg_P_longestRow_3_9 {L : Nat} {xs : Nat → Int32} {A V : Nat → Nat → Int32} {K : Nat → Option Nat} {T : am_H} {v : Option Int32} {h' : am_H} {v1 v2 v3 v4 v5 v6 : Int32} (k0 :
    if v3 < v6 then (
      v = some v4 ∧ h' = hp L xs A V K T)
    else (
      am_fin [(z_P_landOn, 0, [.ref 3, .int v6], []), (z_P_longestRow, 21, [.ref 3, .int v1, .int v2, .int v3, .int v4, .int v5, .int v6], [])] (hp L xs A V K T) v h')) : am_fin [(z_P_longestRow, 9, [.ref 3, .int v1, .int v2, .int v3, .int v4, .int v5, .int v6], [])] (hp L xs A V K T) v h' :=
  fn_iload rl_P_longestRow_9 rfl (fn_iload_n rl_P_longestRow_11 rfl (fn_icmp_gt rl_P_longestRow_12 (fun k2468 => fn_iload rl_P_longestRow_50 rfl (fn_reti rl_P_longestRow_52 rfl k2468)) (fun k2469 => fn_aload_n rl_P_longestRow_15 rfl (fn_iload rl_P_longestRow_16 rfl (fn_virt (as := [.ref 3, .int v6]) (r := []) (ls' := [.ref 3, .int v6]) rl_P_longestRow_18 rfl hp_3 rfl rfl pl_P_landOn rfl rfl (k2469)))) k0))
set_option maxRecDepth 100000 in
set_option maxHeartbeats 4000000 in
theorem sg_P_longestRow_3_21r {L : Nat} {xs : Nat → Int32} {A V : Nat → Nat → Int32} {K : Nat → Option Nat} {T : am_H} {v : Option Int32} {h' : am_H} {v1 v2 v3 v4 v5 v6 r : Int32} (k0 :
    if r = v1 then (
      am_fin [(z_P_longestRow, 9, [.ref 3, .int v1, .int v2, .int v3, .int (if v4 < (v5 + 1) then (v5 + 1) else v4 : Int32), .int (v5 + 1), .int (v6 + 1)], [])] (hp L xs A V K T) v h')
    else (
      am_fin [(z_P_longestRow, 9, [.ref 3, .int v1, .int v2, .int v3, .int (if v4 < 0 then 0 else v4 : Int32), .int 0, .int (v6 + 1)], [])] (hp L xs A V K T) v h')) : am_fin [(z_P_longestRow, 21, [.ref 3, .int v1, .int v2, .int v3, .int v4, .int v5, .int v6], [.int r])] (hp L xs A V K T) v h' :=
  fn_iload_n rl_P_longestRow_21 rfl (fn_icmp_ne rl_P_longestRow_22 (fun k2470 => fn_iload rl_P_longestRow_25 rfl (fn_iconst rl_P_longestRow_27 (fn_iadd rl_P_longestRow_28 (fn_goto rl_P_longestRow_29 (fn_istore (ls' := [.ref 3, .int v1, .int v2, .int v3, .int v4, .int (v5 + 1), .int v6]) rl_P_longestRow_33 rfl rfl (fn_iload rl_P_longestRow_35 rfl (fn_iload rl_P_longestRow_37 rfl (fn_max rl_P_longestRow_39 rfl (fn_istore (ls' := [.ref 3, .int v1, .int v2, .int v3, .int (if v4 < (v5 + 1) then (v5 + 1) else v4 : Int32), .int (v5 + 1), .int v6]) rl_P_longestRow_42 rfl rfl (fn_iinc (ls' := [.ref 3, .int v1, .int v2, .int v3, .int (if v4 < (v5 + 1) then (v5 + 1) else v4 : Int32), .int (v5 + 1), .int (v6 + 1)]) rl_P_longestRow_44 rfl rfl rfl (fn_goto rl_P_longestRow_47 (k2470)))))))))))) (fun k2471 => fn_iconst rl_P_longestRow_32 (fn_istore (ls' := [.ref 3, .int v1, .int v2, .int v3, .int v4, .int 0, .int v6]) rl_P_longestRow_33 rfl rfl (fn_iload rl_P_longestRow_35 rfl (fn_iload rl_P_longestRow_37 rfl (fn_max rl_P_longestRow_39 rfl (fn_istore (ls' := [.ref 3, .int v1, .int v2, .int v3, .int (if v4 < 0 then 0 else v4 : Int32), .int 0, .int v6]) rl_P_longestRow_42 rfl rfl (fn_iinc (ls' := [.ref 3, .int v1, .int v2, .int v3, .int (if v4 < 0 then 0 else v4 : Int32), .int 0, .int (v6 + 1)]) rl_P_longestRow_44 rfl rfl rfl (fn_goto rl_P_longestRow_47 (k2471))))))))) k0)
set_option maxRecDepth 100000 in
set_option maxHeartbeats 4000000 in
theorem sg_O_read_3_0 {L : Nat} {xs : Nat → Int32} {A V : Nat → Nat → Int32} {K : Nat → Option Nat} {T : am_H} {v : Option Int32} {h' : am_H} {a2 : Int32} (k0 :
    ¬ (a2 < 0 ∨ 6 ≤ a2.toNatClampNeg) ∧ (
    ¬ (a2 < 0 ∨ 6 ≤ a2.toNatClampNeg) ∧ (
    am_fin [(z_O_read, 28, [.ref 30, .ref 3, .int a2, .int 0], [])] (hp L xs A (upV (upV V 30 4 ((A 11) a2.toNatClampNeg)) 30 5 ((A 12) a2.toNatClampNeg)) K T) v h'))) : am_fin [(z_O_read, 0, [.ref 30, .ref 3, .int a2, .null], [])] (hp L xs A V K T) v h' :=
  fn_aload_n rl_O_read_0 rfl (fn_aload_n rl_O_read_1 rfl (fn_get rl_O_read_2 hp_30 rfl (fn_get rl_O_read_5 hp_10 rfl (fn_iload_n rl_O_read_8 rfl (fn_iald rl_O_read_9 hp_11 (fun k2473 => fn_put rl_O_read_10 hp_30 rfl hpv_30_4 (fn_aload_n rl_O_read_13 rfl (fn_aload_n rl_O_read_14 rfl (fn_get rl_O_read_15 hp_30 rfl (fn_get rl_O_read_18 hp_10 rfl (fn_iload_n rl_O_read_21 rfl (fn_iald rl_O_read_22 hp_12 (fun k2472 => fn_put rl_O_read_23 hp_30 rfl hpv_30_5 (fn_iconst rl_O_read_26 (fn_istore_n (ls' := [.ref 30, .ref 3, .int a2, .int 0]) rl_O_read_27 rfl rfl (k2472)))) k2473))))))) k0)))))
set_option maxRecDepth 100000 in
set_option maxHeartbeats 4000000 in
theorem sg_O_read_3_28 {L : Nat} {xs : Nat → Int32} {A V : Nat → Nat → Int32} {K : Nat → Option Nat} {T : am_H} {v : Option Int32} {h' : am_H} {v2 v3 : Int32} (k0 :
    if 1080 ≤ v3 then (
      v = none ∧ h' = hp L xs A V K T)
    else (
      ¬ (v3 < 0 ∨ 1081 ≤ v3.toNatClampNeg) ∧ (
      ¬ (v3 < 0 ∨ 1080 ≤ v3.toNatClampNeg) ∧ (
      if ((A 4) v3.toNatClampNeg) = v2 then (
        ¬ ((v3 + 1) < 0 ∨ 1081 ≤ (v3 + 1).toNatClampNeg) ∧ (
        am_fin [(z_O_read, 28, [.ref 30, .ref 3, .int v2, .int (v3 + 1)], [])] (hp L xs (upA A 31 (upd (A 31) (v3 + 1).toNatClampNeg (((A 31) v3.toNatClampNeg) + 1))) V K T) v h'))
      else (
        ¬ ((v3 + 1) < 0 ∨ 1081 ≤ (v3 + 1).toNatClampNeg) ∧ (
        am_fin [(z_O_read, 28, [.ref 30, .ref 3, .int v2, .int (v3 + 1)], [])] (hp L xs (upA A 31 (upd (A 31) (v3 + 1).toNatClampNeg (((A 31) v3.toNatClampNeg) + 0))) V K T) v h')))))) : am_fin [(z_O_read, 28, [.ref 30, .ref 3, .int v2, .int v3], [])] (hp L xs A V K T) v h' :=
  fn_iload_n rl_O_read_28 rfl (fn_sipush rl_O_read_29 (fn_icmp_ge rl_O_read_32 (fun k2480 => fn_retv rl_O_read_71 k2480) (fun k2481 => fn_aload_n rl_O_read_35 rfl (fn_get rl_O_read_36 hp_30 rfl (fn_iload_n rl_O_read_39 rfl (fn_iconst rl_O_read_40 (fn_iadd rl_O_read_41 (fn_aload_n rl_O_read_42 rfl (fn_get rl_O_read_43 hp_30 rfl (fn_iload_n rl_O_read_46 rfl (fn_iald rl_O_read_47 hp_31 (fun k2479 => fn_aload_n rl_O_read_48 rfl (fn_get rl_O_read_49 hp_3 rfl (fn_iload_n rl_O_read_52 rfl (fn_iald rl_O_read_53 hp_4 (fun k2478 => fn_iload_n rl_O_read_54 rfl (fn_icmp_ne rl_O_read_55 (fun k2476 => fn_iconst rl_O_read_58 (fn_goto rl_O_read_59 (fn_iadd rl_O_read_63 (fn_iast rl_O_read_64 hp_31 hps_31 (fun k2474 => fn_iinc (ls' := [.ref 30, .ref 3, .int v2, .int (v3 + 1)]) rl_O_read_65 rfl rfl rfl (fn_goto rl_O_read_68 (k2474))) k2476)))) (fun k2477 => fn_iconst rl_O_read_62 (fn_iadd rl_O_read_63 (fn_iast rl_O_read_64 hp_31 hps_31 (fun k2475 => fn_iinc (ls' := [.ref 30, .ref 3, .int v2, .int (v3 + 1)]) rl_O_read_65 rfl rfl rfl (fn_goto rl_O_read_68 (k2475))) k2477))) k2478)) k2479)))) k2481))))))))) k0))
set_option maxRecDepth 100000 in
set_option maxHeartbeats 4000000 in
theorem sg_O_beyond_0 {L : Nat} {xs : Nat → Int32} {A V : Nat → Nat → Int32} {K : Nat → Option Nat} {T : am_H} {v : Option Int32} {h' : am_H} {a1 : Int32} (k0 :
    if (V 30 4) = 0 then (
      v = some 0 ∧ h' = hp L xs A V K T)
    else (
      am_fin [(z_O_isThere, 0, [.ref 30, .int a1], []), (z_O_beyond, 12, [.ref 30, .int a1], [])] (hp L xs A V K T) v h')) : am_fin [(z_O_beyond, 0, [.ref 30, .int a1], [])] (hp L xs A V K T) v h' :=
  fn_aload_n rl_O_beyond_0 rfl (fn_get rl_O_beyond_1 hp_30 rfl (fn_if_eq rl_O_beyond_4 (fun k2482 => fn_iconst rl_O_beyond_15 (fn_reti rl_O_beyond_16 rfl k2482)) (fun k2483 => fn_aload_n rl_O_beyond_7 rfl (fn_iload_n rl_O_beyond_8 rfl (fn_virt (as := [.ref 30, .int a1]) (r := []) (ls' := [.ref 30, .int a1]) rl_O_beyond_9 rfl hp_30 rfl rfl pl_O_isThere rfl rfl (k2483)))) k0))
set_option maxRecDepth 100000 in
set_option maxHeartbeats 4000000 in
theorem sg_O_beyond_12r {L : Nat} {xs : Nat → Int32} {A V : Nat → Nat → Int32} {K : Nat → Option Nat} {T : am_H} {v : Option Int32} {h' : am_H} {v1 r : Int32} (k0 :
    if r = 0 then (
      v = some 0 ∧ h' = hp L xs A V K T)
    else (
      am_fin [(z_O_between, 0, [.ref 30, .int ((v1 - (V 30 4)) + 1), .int v1, .null], []), (z_O_beyond, 30, [.ref 30, .int v1], [])] (hp L xs A V K T) v h')) : am_fin [(z_O_beyond, 12, [.ref 30, .int v1], [.int r])] (hp L xs A V K T) v h' :=
  fn_if_ne rl_O_beyond_12 (fun k2484 => fn_iconst rl_O_beyond_15 (fn_reti rl_O_beyond_16 rfl k2484)) (fun k2485 => fn_aload_n rl_O_beyond_17 rfl (fn_iload_n rl_O_beyond_18 rfl (fn_aload_n rl_O_beyond_19 rfl (fn_get rl_O_beyond_20 hp_30 rfl (fn_isub rl_O_beyond_23 (fn_iconst rl_O_beyond_24 (fn_iadd rl_O_beyond_25 (fn_iload_n rl_O_beyond_26 rfl (fn_virt (as := [.ref 30, .int ((v1 - (V 30 4)) + 1), .int v1]) (r := []) (ls' := [.ref 30, .int ((v1 - (V 30 4)) + 1), .int v1, .null]) rl_O_beyond_27 rfl hp_30 rfl rfl pl_O_between rfl rfl (k2485)))))))))) k0
set_option maxRecDepth 100000 in
set_option maxHeartbeats 4000000 in
theorem sg_O_beyond_30r {L : Nat} {xs : Nat → Int32} {A V : Nat → Nat → Int32} {K : Nat → Option Nat} {T : am_H} {v : Option Int32} {h' : am_H} {v1 r : Int32} (k0 :
    v = some (if (r - (V 30 5)) < 0 then 0 else (r - (V 30 5)) : Int32) ∧ h' = hp L xs A V K T) : am_fin [(z_O_beyond, 30, [.ref 30, .int v1], [.int r])] (hp L xs A V K T) v h' :=
  fn_aload_n rl_O_beyond_30 rfl (fn_get rl_O_beyond_31 hp_30 rfl (fn_isub rl_O_beyond_34 (fn_iconst rl_O_beyond_35 (fn_max rl_O_beyond_36 rfl (fn_reti rl_O_beyond_39 rfl k0)))))
set_option maxRecDepth 100000 in
set_option maxHeartbeats 4000000 in
theorem sg_P_lastOfStay_3_0 {L : Nat} {xs : Nat → Int32} {A V : Nat → Nat → Int32} {K : Nat → Option Nat} {T : am_H} {v : Option Int32} {h' : am_H} {a1 : Int32} (k0 :
    am_fin [(z_P_landOn, 0, [.ref 3, .int a1], []), (z_P_lastOfStay, 7, [.ref 3, .int a1, .int a1, .null, .null], [])] (hp L xs A V K T) v h') : am_fin [(z_P_lastOfStay, 0, [.ref 3, .int a1, .null, .null, .null], [])] (hp L xs A V K T) v h' :=
  fn_iload_n rl_P_lastOfStay_0 rfl (fn_istore_n (ls' := [.ref 3, .int a1, .int a1, .null, .null]) rl_P_lastOfStay_1 rfl rfl (fn_aload_n rl_P_lastOfStay_2 rfl (fn_iload_n rl_P_lastOfStay_3 rfl (fn_virt (as := [.ref 3, .int a1]) (r := []) (ls' := [.ref 3, .int a1]) rl_P_lastOfStay_4 rfl hp_3 rfl rfl pl_P_landOn rfl rfl (k0)))))
set_option maxRecDepth 100000 in
set_option maxHeartbeats 4000000 in
theorem sg_P_lastOfStay_3_7r {L : Nat} {xs : Nat → Int32} {A V : Nat → Nat → Int32} {K : Nat → Option Nat} {T : am_H} {v : Option Int32} {h' : am_H} {v1 v2 r : Int32} (k0 :
    am_fin [(z_P_lastOfStay, 13, [.ref 3, .int v1, .int v2, .int r, .int (v1 + 1)], [])] (hp L xs A V K T) v h') : am_fin [(z_P_lastOfStay, 7, [.ref 3, .int v1, .int v2, .null, .null], [.int r])] (hp L xs A V K T) v h' :=
  fn_istore_n (ls' := [.ref 3, .int v1, .int v2, .int r, .null]) rl_P_lastOfStay_7 rfl rfl (fn_iload_n rl_P_lastOfStay_8 rfl (fn_iconst rl_P_lastOfStay_9 (fn_iadd rl_P_lastOfStay_10 (fn_istore (ls' := [.ref 3, .int v1, .int v2, .int r, .int (v1 + 1)]) rl_P_lastOfStay_11 rfl rfl (k0)))))
set_option maxRecDepth 100000 in
set_option maxHeartbeats 4000000 in
theorem sg_P_lastOfStay_3_13 {L : Nat} {xs : Nat → Int32} {A V : Nat → Nat → Int32} {K : Nat → Option Nat} {T : am_H} {v : Option Int32} {h' : am_H} {v1 v2 v3 v4 : Int32} (k0 :
    if 1080 ≤ v4 then (
      v = some v2 ∧ h' = hp L xs A V K T)
    else (
      ¬ (v4 < 0 ∨ 1080 ≤ v4.toNatClampNeg) ∧ (
      if ((A 4) v4.toNatClampNeg) = v3 then (
        am_fin [(z_P_lastOfStay, 13, [.ref 3, .int v1, .int v4, .int v3, .int (v4 + 1)], [])] (hp L xs A V K T) v h')
      else (
        v = some v2 ∧ h' = hp L xs A V K T)))) : am_fin [(z_P_lastOfStay, 13, [.ref 3, .int v1, .int v2, .int v3, .int v4], [])] (hp L xs A V K T) v h' :=
  fn_iload rl_P_lastOfStay_13 rfl (fn_sipush rl_P_lastOfStay_15 (fn_icmp_ge rl_P_lastOfStay_18 (fun k2489 => fn_iload_n rl_P_lastOfStay_41 rfl (fn_reti rl_P_lastOfStay_42 rfl k2489)) (fun k2490 => fn_aload_n rl_P_lastOfStay_21 rfl (fn_get rl_P_lastOfStay_22 hp_3 rfl (fn_iload rl_P_lastOfStay_25 rfl (fn_iald rl_P_lastOfStay_27 hp_4 (fun k2488 => fn_iload_n rl_P_lastOfStay_28 rfl (fn_icmp_ne rl_P_lastOfStay_29 (fun k2486 => fn_iload rl_P_lastOfStay_32 rfl (fn_istore_n (ls' := [.ref 3, .int v1, .int v4, .int v3, .int v4]) rl_P_lastOfStay_34 rfl rfl (fn_iinc (ls' := [.ref 3, .int v1, .int v4, .int v3, .int (v4 + 1)]) rl_P_lastOfStay_35 rfl rfl rfl (fn_goto rl_P_lastOfStay_38 (k2486))))) (fun k2487 => fn_iload_n rl_P_lastOfStay_41 rfl (fn_reti rl_P_lastOfStay_42 rfl k2487)) k2488)) k2490)))) k0))
set_option maxRecDepth 100000 in
set_option maxHeartbeats 4000000 in
theorem sg_J_weigh_3_0 {L : Nat} {xs : Nat → Int32} {A V : Nat → Nat → Int32} {K : Nat → Option Nat} {T : am_H} {v : Option Int32} {h' : am_H} (k0 :
    am_fin [(z_J_weighHomes, 0, [.ref 26, .null, .null, .null, .null], []), (z_J_weigh, 4, [.ref 26, .ref 3], [])] (hp L xs A V K T) v h') : am_fin [(z_J_weigh, 0, [.ref 26, .ref 3], [])] (hp L xs A V K T) v h' :=
  fn_aload_n rl_J_weigh_0 rfl (fn_virt (as := [.ref 26]) (r := []) (ls' := [.ref 26, .null, .null, .null, .null]) rl_J_weigh_1 rfl hp_26 rfl rfl pl_J_weighHomes rfl rfl (k0))
set_option maxRecDepth 100000 in
set_option maxHeartbeats 4000000 in
theorem sg_J_weigh_3_4r {L : Nat} {xs : Nat → Int32} {A V : Nat → Nat → Int32} {K : Nat → Option Nat} {T : am_H} {v : Option Int32} {h' : am_H} (k0 :
    am_fin [(z_J_weighPlaces, 0, [.ref 26, .ref 3], []), (z_J_weigh, 9, [.ref 26, .ref 3], [])] (hp L xs A V K T) v h') : am_fin [(z_J_weigh, 4, [.ref 26, .ref 3], [])] (hp L xs A V K T) v h' :=
  fn_aload_n rl_J_weigh_4 rfl (fn_aload_n rl_J_weigh_5 rfl (fn_virt (as := [.ref 26, .ref 3]) (r := []) (ls' := [.ref 26, .ref 3]) rl_J_weigh_6 rfl hp_26 rfl rfl pl_J_weighPlaces rfl rfl (k0)))
set_option maxRecDepth 100000 in
set_option maxHeartbeats 4000000 in
theorem sg_J_weigh_3_9r {L : Nat} {xs : Nat → Int32} {A V : Nat → Nat → Int32} {K : Nat → Option Nat} {T : am_H} {v : Option Int32} {h' : am_H} (k0 :
    v = none ∧ h' = hp L xs A V K T) : am_fin [(z_J_weigh, 9, [.ref 26, .ref 3], [])] (hp L xs A V K T) v h' :=
  fn_retv rl_J_weigh_9 k0
set_option maxRecDepth 100000 in
set_option maxHeartbeats 4000000 in
theorem sg_J_greatest_0 {L : Nat} {xs : Nat → Int32} {A V : Nat → Nat → Int32} {K : Nat → Option Nat} {T : am_H} {v : Option Int32} {h' : am_H} {a1 a2 a3 : Int32} (k0 :
    ¬ (((a1 * 3) + a3) < 0 ∨ 18 ≤ ((a1 * 3) + a3).toNatClampNeg) ∧ (
    if a2 = 0 then (
      v = some ((A 27) ((a1 * 3) + a3).toNatClampNeg) ∧ h' = hp L xs A V K T)
    else (
      if a2 = 1 then (
        if 31 ≤ ((A 27) ((a1 * 3) + a3).toNatClampNeg) then (
          if a3 ≤ 0 then (
            if a3 ≤ 1 then (
              if (((6 * ((A 27) ((a1 * 3) + a3).toNatClampNeg)) + 0) + 0) < 2160 then (
                v = some ((((6 * ((A 27) ((a1 * 3) + a3).toNatClampNeg)) + 0) + 0) / 6) ∧ h' = hp L xs A V K T)
              else (
                v = some 360 ∧ h' = hp L xs A V K T))
            else (
              ¬ ((((a1 * 3) + a3) - 2) < 0 ∨ 18 ≤ (((a1 * 3) + a3) - 2).toNatClampNeg) ∧ (
              if (((6 * ((A 27) ((a1 * 3) + a3).toNatClampNeg)) + 0) + ((A 27) (((a1 * 3) + a3) - 2).toNatClampNeg)) < 2160 then (
                v = some ((((6 * ((A 27) ((a1 * 3) + a3).toNatClampNeg)) + 0) + ((A 27) (((a1 * 3) + a3) - 2).toNatClampNeg)) / 6) ∧ h' = hp L xs A V K T)
              else (
                v = some 360 ∧ h' = hp L xs A V K T))))
          else (
            ¬ ((((a1 * 3) + a3) - 1) < 0 ∨ 18 ≤ (((a1 * 3) + a3) - 1).toNatClampNeg) ∧ (
            if a3 ≤ 1 then (
              if (((6 * ((A 27) ((a1 * 3) + a3).toNatClampNeg)) + (2 * ((A 27) (((a1 * 3) + a3) - 1).toNatClampNeg))) + 0) < 2160 then (
                v = some ((((6 * ((A 27) ((a1 * 3) + a3).toNatClampNeg)) + (2 * ((A 27) (((a1 * 3) + a3) - 1).toNatClampNeg))) + 0) / 6) ∧ h' = hp L xs A V K T)
              else (
                v = some 360 ∧ h' = hp L xs A V K T))
            else (
              ¬ ((((a1 * 3) + a3) - 2) < 0 ∨ 18 ≤ (((a1 * 3) + a3) - 2).toNatClampNeg) ∧ (
              if (((6 * ((A 27) ((a1 * 3) + a3).toNatClampNeg)) + (2 * ((A 27) (((a1 * 3) + a3) - 1).toNatClampNeg))) + ((A 27) (((a1 * 3) + a3) - 2).toNatClampNeg)) < 2160 then (
                v = some ((((6 * ((A 27) ((a1 * 3) + a3).toNatClampNeg)) + (2 * ((A 27) (((a1 * 3) + a3) - 1).toNatClampNeg))) + ((A 27) (((a1 * 3) + a3) - 2).toNatClampNeg)) / 6) ∧ h' = hp L xs A V K T)
              else (
                v = some 360 ∧ h' = hp L xs A V K T))))))
        else (
          v = some 0 ∧ h' = hp L xs A V K T))
      else (
        if ((A 27) ((a1 * 3) + a3).toNatClampNeg) = 0 then (
          v = some 0 ∧ h' = hp L xs A V K T)
        else (
          ¬ (((a1 * 3) + a3) < 0 ∨ 18 ≤ ((a1 * 3) + a3).toNatClampNeg) ∧ (
          v = some ((A 28) ((a1 * 3) + a3).toNatClampNeg) ∧ h' = hp L xs A V K T)))))) : am_fin [(z_J_greatest, 0, [.ref 26, .int a1, .int a2, .int a3, .null, .null, .null], [])] (hp L xs A V K T) v h' :=
  fn_iload_n rl_J_greatest_0 rfl (fn_iconst rl_J_greatest_1 (fn_imul rl_J_greatest_2 (fn_iload_n rl_J_greatest_3 rfl (fn_iadd rl_J_greatest_4 (fn_istore (ls' := [.ref 26, .int a1, .int a2, .int a3, .int ((a1 * 3) + a3), .null, .null]) rl_J_greatest_5 rfl rfl (fn_aload_n rl_J_greatest_7 rfl (fn_get rl_J_greatest_8 hp_26 rfl (fn_iload rl_J_greatest_11 rfl (fn_iald rl_J_greatest_13 hp_27 (fun k2517 => fn_istore (ls' := [.ref 26, .int a1, .int a2, .int a3, .int ((a1 * 3) + a3), .int ((A 27) ((a1 * 3) + a3).toNatClampNeg), .null]) rl_J_greatest_14 rfl rfl (fn_iload_n rl_J_greatest_16 rfl (fn_if_ne rl_J_greatest_17 (fun k2515 => fn_iload rl_J_greatest_20 rfl (fn_reti rl_J_greatest_22 rfl k2515)) (fun k2516 => fn_iload_n rl_J_greatest_23 rfl (fn_iconst rl_J_greatest_24 (fn_icmp_eq rl_J_greatest_25 (fun k2513 => fn_iload rl_J_greatest_45 rfl (fn_bipush rl_J_greatest_47 (fn_icmp_ge rl_J_greatest_49 (fun k2508 => fn_bipush rl_J_greatest_54 (fn_iload rl_J_greatest_56 rfl (fn_imul rl_J_greatest_58 (fn_istore (ls' := [.ref 26, .int a1, .int a2, .int a3, .int ((a1 * 3) + a3), .int ((A 27) ((a1 * 3) + a3).toNatClampNeg), .int (6 * ((A 27) ((a1 * 3) + a3).toNatClampNeg))]) rl_J_greatest_59 rfl rfl (fn_iload rl_J_greatest_61 rfl (fn_iload_n rl_J_greatest_63 rfl (fn_if_le rl_J_greatest_64 (fun k2506 => fn_iconst rl_J_greatest_81 (fn_iadd rl_J_greatest_82 (fn_istore (ls' := [.ref 26, .int a1, .int a2, .int a3, .int ((a1 * 3) + a3), .int ((A 27) ((a1 * 3) + a3).toNatClampNeg), .int ((6 * ((A 27) ((a1 * 3) + a3).toNatClampNeg)) + 0)]) rl_J_greatest_83 rfl rfl (fn_iload rl_J_greatest_85 rfl (fn_iload_n rl_J_greatest_87 rfl (fn_iconst rl_J_greatest_88 (fn_icmp_le rl_J_greatest_89 (fun k2496 => fn_iconst rl_J_greatest_104 (fn_iadd rl_J_greatest_105 (fn_istore (ls' := [.ref 26, .int a1, .int a2, .int a3, .int ((a1 * 3) + a3), .int ((A 27) ((a1 * 3) + a3).toNatClampNeg), .int (((6 * ((A 27) ((a1 * 3) + a3).toNatClampNeg)) + 0) + 0)]) rl_J_greatest_106 rfl rfl (fn_iload rl_J_greatest_108 rfl (fn_sipush rl_J_greatest_110 (fn_icmp_lt rl_J_greatest_113 (fun k2491 => fn_iload rl_J_greatest_122 rfl (fn_bipush rl_J_greatest_124 (fn_idiv rl_J_greatest_126 (by decide +kernel) (fn_reti rl_J_greatest_127 rfl k2491)))) (fun k2492 => fn_sipush rl_J_greatest_116 (fn_goto rl_J_greatest_119 (fn_reti rl_J_greatest_127 rfl k2492))) k2496)))))) (fun k2497 => fn_aload_n rl_J_greatest_92 rfl (fn_get rl_J_greatest_93 hp_26 rfl (fn_iload rl_J_greatest_96 rfl (fn_iconst rl_J_greatest_98 (fn_isub rl_J_greatest_99 (fn_iald rl_J_greatest_100 hp_27 (fun k2495 => fn_goto rl_J_greatest_101 (fn_iadd rl_J_greatest_105 (fn_istore (ls' := [.ref 26, .int a1, .int a2, .int a3, .int ((a1 * 3) + a3), .int ((A 27) ((a1 * 3) + a3).toNatClampNeg), .int (((6 * ((A 27) ((a1 * 3) + a3).toNatClampNeg)) + 0) + ((A 27) (((a1 * 3) + a3) - 2).toNatClampNeg))]) rl_J_greatest_106 rfl rfl (fn_iload rl_J_greatest_108 rfl (fn_sipush rl_J_greatest_110 (fn_icmp_lt rl_J_greatest_113 (fun k2493 => fn_iload rl_J_greatest_122 rfl (fn_bipush rl_J_greatest_124 (fn_idiv rl_J_greatest_126 (by decide +kernel) (fn_reti rl_J_greatest_127 rfl k2493)))) (fun k2494 => fn_sipush rl_J_greatest_116 (fn_goto rl_J_greatest_119 (fn_reti rl_J_greatest_127 rfl k2494))) k2495)))))) k2497)))))) k2506))))))) (fun k2507 => fn_iconst rl_J_greatest_67 (fn_aload_n rl_J_greatest_68 rfl (fn_get rl_J_greatest_69 hp_26 rfl (fn_iload rl_J_greatest_72 rfl (fn_iconst rl_J_greatest_74 (fn_isub rl_J_greatest_75 (fn_iald rl_J_greatest_76 hp_27 (fun k2505 => fn_imul rl_J_greatest_77 (fn_goto rl_J_greatest_78 (fn_iadd rl_J_greatest_82 (fn_istore (ls' := [.ref 26, .int a1, .int a2, .int a3, .int ((a1 * 3) + a3), .int ((A 27) ((a1 * 3) + a3).toNatClampNeg), .int ((6 * ((A 27) ((a1 * 3) + a3).toNatClampNeg)) + (2 * ((A 27) (((a1 * 3) + a3) - 1).toNatClampNeg)))]) rl_J_greatest_83 rfl rfl (fn_iload rl_J_greatest_85 rfl (fn_iload_n rl_J_greatest_87 rfl (fn_iconst rl_J_greatest_88 (fn_icmp_le rl_J_greatest_89 (fun k2503 => fn_iconst rl_J_greatest_104 (fn_iadd rl_J_greatest_105 (fn_istore (ls' := [.ref 26, .int a1, .int a2, .int a3, .int ((a1 * 3) + a3), .int ((A 27) ((a1 * 3) + a3).toNatClampNeg), .int (((6 * ((A 27) ((a1 * 3) + a3).toNatClampNeg)) + (2 * ((A 27) (((a1 * 3) + a3) - 1).toNatClampNeg))) + 0)]) rl_J_greatest_106 rfl rfl (fn_iload rl_J_greatest_108 rfl (fn_sipush rl_J_greatest_110 (fn_icmp_lt rl_J_greatest_113 (fun k2498 => fn_iload rl_J_greatest_122 rfl (fn_bipush rl_J_greatest_124 (fn_idiv rl_J_greatest_126 (by decide +kernel) (fn_reti rl_J_greatest_127 rfl k2498)))) (fun k2499 => fn_sipush rl_J_greatest_116 (fn_goto rl_J_greatest_119 (fn_reti rl_J_greatest_127 rfl k2499))) k2503)))))) (fun k2504 => fn_aload_n rl_J_greatest_92 rfl (fn_get rl_J_greatest_93 hp_26 rfl (fn_iload rl_J_greatest_96 rfl (fn_iconst rl_J_greatest_98 (fn_isub rl_J_greatest_99 (fn_iald rl_J_greatest_100 hp_27 (fun k2502 => fn_goto rl_J_greatest_101 (fn_iadd rl_J_greatest_105 (fn_istore (ls' := [.ref 26, .int a1, .int a2, .int a3, .int ((a1 * 3) + a3), .int ((A 27) ((a1 * 3) + a3).toNatClampNeg), .int (((6 * ((A 27) ((a1 * 3) + a3).toNatClampNeg)) + (2 * ((A 27) (((a1 * 3) + a3) - 1).toNatClampNeg))) + ((A 27) (((a1 * 3) + a3) - 2).toNatClampNeg))]) rl_J_greatest_106 rfl rfl (fn_iload rl_J_greatest_108 rfl (fn_sipush rl_J_greatest_110 (fn_icmp_lt rl_J_greatest_113 (fun k2500 => fn_iload rl_J_greatest_122 rfl (fn_bipush rl_J_greatest_124 (fn_idiv rl_J_greatest_126 (by decide +kernel) (fn_reti rl_J_greatest_127 rfl k2500)))) (fun k2501 => fn_sipush rl_J_greatest_116 (fn_goto rl_J_greatest_119 (fn_reti rl_J_greatest_127 rfl k2501))) k2502)))))) k2504)))))) k2505)))))))) k2507))))))) k2508))))))) (fun k2509 => fn_iconst rl_J_greatest_52 (fn_reti rl_J_greatest_53 rfl k2509)) k2513))) (fun k2514 => fn_iload rl_J_greatest_28 rfl (fn_if_ne rl_J_greatest_30 (fun k2511 => fn_iconst rl_J_greatest_33 (fn_goto rl_J_greatest_34 (fn_reti rl_J_greatest_44 rfl k2511))) (fun k2512 => fn_aload_n rl_J_greatest_37 rfl (fn_get rl_J_greatest_38 hp_26 rfl (fn_iload rl_J_greatest_41 rfl (fn_iald rl_J_greatest_43 hp_28 (fun k2510 => fn_reti rl_J_greatest_44 rfl k2510) k2512)))) k2514)) k2516))) k2517))) k0)))))))))
set_option maxRecDepth 100000 in
set_option maxHeartbeats 4000000 in
theorem sg_O_between_0 {L : Nat} {xs : Nat → Int32} {A V : Nat → Nat → Int32} {K : Nat → Option Nat} {T : am_H} {v : Option Int32} {h' : am_H} {a1 a2 : Int32} (k0 :
    if a2 < (if a1 < 0 then 0 else a1 : Int32) then (
      v = some 0 ∧ h' = hp L xs A V K T)
    else (
      if 1080 ≤ a2 then (
        v = some 0 ∧ h' = hp L xs A V K T)
      else (
        ¬ ((a2 + 1) < 0 ∨ 1081 ≤ (a2 + 1).toNatClampNeg) ∧ (
        ¬ ((if a1 < 0 then 0 else a1 : Int32) < 0 ∨ 1081 ≤ (if a1 < 0 then 0 else a1 : Int32).toNatClampNeg) ∧ (
        v = some (((A 31) (a2 + 1).toNatClampNeg) - ((A 31) (if a1 < 0 then 0 else a1 : Int32).toNatClampNeg)) ∧ h' = hp L xs A V K T))))) : am_fin [(z_O_between, 0, [.ref 30, .int a1, .int a2, .null], [])] (hp L xs A V K T) v h' :=
  fn_iload_n rl_O_between_0 rfl (fn_iconst rl_O_between_1 (fn_max rl_O_between_2 rfl (fn_istore_n (ls' := [.ref 30, .int a1, .int a2, .int (if a1 < 0 then 0 else a1 : Int32)]) rl_O_between_5 rfl rfl (fn_iload_n rl_O_between_6 rfl (fn_iload_n rl_O_between_7 rfl (fn_icmp_gt rl_O_between_8 (fun k2522 => fn_iconst rl_O_between_36 (fn_reti rl_O_between_37 rfl k2522)) (fun k2523 => fn_iload_n rl_O_between_11 rfl (fn_sipush rl_O_between_12 (fn_icmp_ge rl_O_between_15 (fun k2520 => fn_iconst rl_O_between_36 (fn_reti rl_O_between_37 rfl k2520)) (fun k2521 => fn_aload_n rl_O_between_18 rfl (fn_get rl_O_between_19 hp_30 rfl (fn_iload_n rl_O_between_22 rfl (fn_iconst rl_O_between_23 (fn_iadd rl_O_between_24 (fn_iald rl_O_between_25 hp_31 (fun k2519 => fn_aload_n rl_O_between_26 rfl (fn_get rl_O_between_27 hp_30 rfl (fn_iload_n rl_O_between_30 rfl (fn_iald rl_O_between_31 hp_31 (fun k2518 => fn_isub rl_O_between_32 (fn_goto rl_O_between_33 (fn_reti rl_O_between_37 rfl k2518))) k2519)))) k2521)))))) k2523))) k0))))))
set_option maxRecDepth 100000 in
set_option maxHeartbeats 4000000 in
theorem sg_J_landsAbove_0 {L : Nat} {xs : Nat → Int32} {A V : Nat → Nat → Int32} {K : Nat → Option Nat} {T : am_H} {v : Option Int32} {h' : am_H} {a1 a2 : Int32} (k0 :
    ¬ (((a1 * 3) + a2) < 0 ∨ 18 ≤ ((a1 * 3) + a2).toNatClampNeg) ∧ (
    am_fin [(z_J_landsAbove, 17, [.ref 26, .int a1, .int a2, .int ((A 27) ((a1 * 3) + a2).toNatClampNeg), .int 0, .int 0, .null], [])] (hp L xs A V K T) v h')) : am_fin [(z_J_landsAbove, 0, [.ref 26, .int a1, .int a2, .null, .null, .null, .null], [])] (hp L xs A V K T) v h' :=
  fn_aload_n rl_J_landsAbove_0 rfl (fn_get rl_J_landsAbove_1 hp_26 rfl (fn_iload_n rl_J_landsAbove_4 rfl (fn_iload_n rl_J_landsAbove_5 rfl (fn_stat (as := [.int a1, .int a2]) (r := [.ref 27]) (ls' := [.int a1, .int a2]) rl_J_landsAbove_6 rfl rfl rfl rfl pl_L_spot rfl rfl (fn_iload_n rl_L_spot_0 rfl (fn_iconst rl_L_spot_1 (fn_imul rl_L_spot_2 (fn_iload_n rl_L_spot_3 rfl (fn_iadd rl_L_spot_4 (fn_retci rl_L_spot_5 rfl (fn_iald rl_J_landsAbove_9 hp_27 (fun k2524 => fn_istore_n (ls' := [.ref 26, .int a1, .int a2, .int ((A 27) ((a1 * 3) + a2).toNatClampNeg), .null, .null, .null]) rl_J_landsAbove_10 rfl rfl (fn_iconst rl_J_landsAbove_11 (fn_istore (ls' := [.ref 26, .int a1, .int a2, .int ((A 27) ((a1 * 3) + a2).toNatClampNeg), .int 0, .null, .null]) rl_J_landsAbove_12 rfl rfl (fn_iconst rl_J_landsAbove_14 (fn_istore (ls' := [.ref 26, .int a1, .int a2, .int ((A 27) ((a1 * 3) + a2).toNatClampNeg), .int 0, .int 0, .null]) rl_J_landsAbove_15 rfl rfl (k2524)))))) k0)))))))))))
set_option maxRecDepth 100000 in
set_option maxHeartbeats 4000000 in
theorem sg_J_landsAbove_17 {L : Nat} {xs : Nat → Int32} {A V : Nat → Nat → Int32} {K : Nat → Option Nat} {T : am_H} {v : Option Int32} {h' : am_H} {v1 v2 v3 v4 v5 : Int32} (k0 :
    if 6 ≤ v5 then (
      v = some v4 ∧ h' = hp L xs A V K T)
    else (
      ¬ (((v5 * 3) + v2) < 0 ∨ 18 ≤ ((v5 * 3) + v2).toNatClampNeg) ∧ (
      if v3 < ((A 27) ((v5 * 3) + v2).toNatClampNeg) then (
        am_fin [(z_J_landsAbove, 17, [.ref 26, .int v1, .int v2, .int v3, .int (v4 + 1), .int (v5 + 1), .int ((A 27) ((v5 * 3) + v2).toNatClampNeg)], [])] (hp L xs A V K T) v h')
      else (
        if ((A 27) ((v5 * 3) + v2).toNatClampNeg) = v3 then (
          if v1 ≤ v5 then (
            am_fin [(z_J_landsAbove, 17, [.ref 26, .int v1, .int v2, .int v3, .int v4, .int (v5 + 1), .int ((A 27) ((v5 * 3) + v2).toNatClampNeg)], [])] (hp L xs A V K T) v h')
          else (
            am_fin [(z_J_landsAbove, 17, [.ref 26, .int v1, .int v2, .int v3, .int (v4 + 1), .int (v5 + 1), .int ((A 27) ((v5 * 3) + v2).toNatClampNeg)], [])] (hp L xs A V K T) v h'))
        else (
          am_fin [(z_J_landsAbove, 17, [.ref 26, .int v1, .int v2, .int v3, .int v4, .int (v5 + 1), .int ((A 27) ((v5 * 3) + v2).toNatClampNeg)], [])] (hp L xs A V K T) v h'))))) : am_fin [(z_J_landsAbove, 17, [.ref 26, .int v1, .int v2, .int v3, .int v4, .int v5, .null], [])] (hp L xs A V K T) v h' :=
  fn_iload rl_J_landsAbove_17 rfl (fn_bipush rl_J_landsAbove_19 (fn_icmp_ge rl_J_landsAbove_21 (fun k2532 => fn_iload rl_J_landsAbove_64 rfl (fn_reti rl_J_landsAbove_66 rfl k2532)) (fun k2533 => fn_aload_n rl_J_landsAbove_24 rfl (fn_get rl_J_landsAbove_25 hp_26 rfl (fn_iload rl_J_landsAbove_28 rfl (fn_iload_n rl_J_landsAbove_30 rfl (fn_stat (as := [.int v5, .int v2]) (r := [.ref 27]) (ls' := [.int v5, .int v2]) rl_J_landsAbove_31 rfl rfl rfl rfl pl_L_spot rfl rfl (fn_iload_n rl_L_spot_0 rfl (fn_iconst rl_L_spot_1 (fn_imul rl_L_spot_2 (fn_iload_n rl_L_spot_3 rfl (fn_iadd rl_L_spot_4 (fn_retci rl_L_spot_5 rfl (fn_iald rl_J_landsAbove_34 hp_27 (fun k2531 => fn_istore (ls' := [.ref 26, .int v1, .int v2, .int v3, .int v4, .int v5, .int ((A 27) ((v5 * 3) + v2).toNatClampNeg)]) rl_J_landsAbove_35 rfl rfl (fn_iload rl_J_landsAbove_37 rfl (fn_iload_n rl_J_landsAbove_39 rfl (fn_icmp_gt rl_J_landsAbove_40 (fun k2529 => fn_iinc (ls' := [.ref 26, .int v1, .int v2, .int v3, .int (v4 + 1), .int v5, .int ((A 27) ((v5 * 3) + v2).toNatClampNeg)]) rl_J_landsAbove_55 rfl rfl rfl (fn_iinc (ls' := [.ref 26, .int v1, .int v2, .int v3, .int (v4 + 1), .int (v5 + 1), .int ((A 27) ((v5 * 3) + v2).toNatClampNeg)]) rl_J_landsAbove_58 rfl rfl rfl (fn_goto rl_J_landsAbove_61 (k2529)))) (fun k2530 => fn_iload rl_J_landsAbove_43 rfl (fn_iload_n rl_J_landsAbove_45 rfl (fn_icmp_ne rl_J_landsAbove_46 (fun k2527 => fn_iload rl_J_landsAbove_49 rfl (fn_iload_n rl_J_landsAbove_51 rfl (fn_icmp_ge rl_J_landsAbove_52 (fun k2525 => fn_iinc (ls' := [.ref 26, .int v1, .int v2, .int v3, .int v4, .int (v5 + 1), .int ((A 27) ((v5 * 3) + v2).toNatClampNeg)]) rl_J_landsAbove_58 rfl rfl rfl (fn_goto rl_J_landsAbove_61 (k2525))) (fun k2526 => fn_iinc (ls' := [.ref 26, .int v1, .int v2, .int v3, .int (v4 + 1), .int v5, .int ((A 27) ((v5 * 3) + v2).toNatClampNeg)]) rl_J_landsAbove_55 rfl rfl rfl (fn_iinc (ls' := [.ref 26, .int v1, .int v2, .int v3, .int (v4 + 1), .int (v5 + 1), .int ((A 27) ((v5 * 3) + v2).toNatClampNeg)]) rl_J_landsAbove_58 rfl rfl rfl (fn_goto rl_J_landsAbove_61 (k2526)))) k2527))) (fun k2528 => fn_iinc (ls' := [.ref 26, .int v1, .int v2, .int v3, .int v4, .int (v5 + 1), .int ((A 27) ((v5 * 3) + v2).toNatClampNeg)]) rl_J_landsAbove_58 rfl rfl rfl (fn_goto rl_J_landsAbove_61 (k2528))) k2530))) k2531)))) k2533)))))))))))) k0))
set_option maxRecDepth 100000 in
set_option maxHeartbeats 4000000 in
theorem sg_J_landsAbove_17b {L : Nat} {xs : Nat → Int32} {A V : Nat → Nat → Int32} {K : Nat → Option Nat} {T : am_H} {v : Option Int32} {h' : am_H} {v1 v2 v3 v4 v5 v6 : Int32} (k0 :
    if 6 ≤ v5 then (
      v = some v4 ∧ h' = hp L xs A V K T)
    else (
      ¬ (((v5 * 3) + v2) < 0 ∨ 18 ≤ ((v5 * 3) + v2).toNatClampNeg) ∧ (
      if v3 < ((A 27) ((v5 * 3) + v2).toNatClampNeg) then (
        am_fin [(z_J_landsAbove, 17, [.ref 26, .int v1, .int v2, .int v3, .int (v4 + 1), .int (v5 + 1), .int ((A 27) ((v5 * 3) + v2).toNatClampNeg)], [])] (hp L xs A V K T) v h')
      else (
        if ((A 27) ((v5 * 3) + v2).toNatClampNeg) = v3 then (
          if v1 ≤ v5 then (
            am_fin [(z_J_landsAbove, 17, [.ref 26, .int v1, .int v2, .int v3, .int v4, .int (v5 + 1), .int ((A 27) ((v5 * 3) + v2).toNatClampNeg)], [])] (hp L xs A V K T) v h')
          else (
            am_fin [(z_J_landsAbove, 17, [.ref 26, .int v1, .int v2, .int v3, .int (v4 + 1), .int (v5 + 1), .int ((A 27) ((v5 * 3) + v2).toNatClampNeg)], [])] (hp L xs A V K T) v h'))
        else (
          am_fin [(z_J_landsAbove, 17, [.ref 26, .int v1, .int v2, .int v3, .int v4, .int (v5 + 1), .int ((A 27) ((v5 * 3) + v2).toNatClampNeg)], [])] (hp L xs A V K T) v h'))))) : am_fin [(z_J_landsAbove, 17, [.ref 26, .int v1, .int v2, .int v3, .int v4, .int v5, .int v6], [])] (hp L xs A V K T) v h' :=
  fn_iload rl_J_landsAbove_17 rfl (fn_bipush rl_J_landsAbove_19 (fn_icmp_ge rl_J_landsAbove_21 (fun k2541 => fn_iload rl_J_landsAbove_64 rfl (fn_reti rl_J_landsAbove_66 rfl k2541)) (fun k2542 => fn_aload_n rl_J_landsAbove_24 rfl (fn_get rl_J_landsAbove_25 hp_26 rfl (fn_iload rl_J_landsAbove_28 rfl (fn_iload_n rl_J_landsAbove_30 rfl (fn_stat (as := [.int v5, .int v2]) (r := [.ref 27]) (ls' := [.int v5, .int v2]) rl_J_landsAbove_31 rfl rfl rfl rfl pl_L_spot rfl rfl (fn_iload_n rl_L_spot_0 rfl (fn_iconst rl_L_spot_1 (fn_imul rl_L_spot_2 (fn_iload_n rl_L_spot_3 rfl (fn_iadd rl_L_spot_4 (fn_retci rl_L_spot_5 rfl (fn_iald rl_J_landsAbove_34 hp_27 (fun k2540 => fn_istore (ls' := [.ref 26, .int v1, .int v2, .int v3, .int v4, .int v5, .int ((A 27) ((v5 * 3) + v2).toNatClampNeg)]) rl_J_landsAbove_35 rfl rfl (fn_iload rl_J_landsAbove_37 rfl (fn_iload_n rl_J_landsAbove_39 rfl (fn_icmp_gt rl_J_landsAbove_40 (fun k2538 => fn_iinc (ls' := [.ref 26, .int v1, .int v2, .int v3, .int (v4 + 1), .int v5, .int ((A 27) ((v5 * 3) + v2).toNatClampNeg)]) rl_J_landsAbove_55 rfl rfl rfl (fn_iinc (ls' := [.ref 26, .int v1, .int v2, .int v3, .int (v4 + 1), .int (v5 + 1), .int ((A 27) ((v5 * 3) + v2).toNatClampNeg)]) rl_J_landsAbove_58 rfl rfl rfl (fn_goto rl_J_landsAbove_61 (k2538)))) (fun k2539 => fn_iload rl_J_landsAbove_43 rfl (fn_iload_n rl_J_landsAbove_45 rfl (fn_icmp_ne rl_J_landsAbove_46 (fun k2536 => fn_iload rl_J_landsAbove_49 rfl (fn_iload_n rl_J_landsAbove_51 rfl (fn_icmp_ge rl_J_landsAbove_52 (fun k2534 => fn_iinc (ls' := [.ref 26, .int v1, .int v2, .int v3, .int v4, .int (v5 + 1), .int ((A 27) ((v5 * 3) + v2).toNatClampNeg)]) rl_J_landsAbove_58 rfl rfl rfl (fn_goto rl_J_landsAbove_61 (k2534))) (fun k2535 => fn_iinc (ls' := [.ref 26, .int v1, .int v2, .int v3, .int (v4 + 1), .int v5, .int ((A 27) ((v5 * 3) + v2).toNatClampNeg)]) rl_J_landsAbove_55 rfl rfl rfl (fn_iinc (ls' := [.ref 26, .int v1, .int v2, .int v3, .int (v4 + 1), .int (v5 + 1), .int ((A 27) ((v5 * 3) + v2).toNatClampNeg)]) rl_J_landsAbove_58 rfl rfl rfl (fn_goto rl_J_landsAbove_61 (k2535)))) k2536))) (fun k2537 => fn_iinc (ls' := [.ref 26, .int v1, .int v2, .int v3, .int v4, .int (v5 + 1), .int ((A 27) ((v5 * 3) + v2).toNatClampNeg)]) rl_J_landsAbove_58 rfl rfl rfl (fn_goto rl_J_landsAbove_61 (k2537))) k2539))) k2540)))) k2542)))))))))))) k0))
set_option maxRecDepth 100000 in
set_option maxHeartbeats 4000000 in
theorem sg_P_put_34_0 {L : Nat} {xs : Nat → Int32} {A V : Nat → Nat → Int32} {K : Nat → Option Nat} {T : am_H} {v : Option Int32} {h' : am_H} {a1 a2 a3 : Int32} (k0 :
    am_fin [(z_P_put, 10, [.ref 34, .int a1, .int a2, .int a3, .int 0, .int (if a2 < 0 then 0 else a2 : Int32)], [])] (hp L xs A V K T) v h') : am_fin [(z_P_put, 0, [.ref 34, .int a1, .int a2, .int a3, .null, .null], [])] (hp L xs A V K T) v h' :=
  fn_iconst rl_P_put_0 (fn_istore (ls' := [.ref 34, .int a1, .int a2, .int a3, .int 0, .null]) rl_P_put_1 rfl rfl (fn_iload_n rl_P_put_3 rfl (fn_iconst rl_P_put_4 (fn_max rl_P_put_5 rfl (fn_istore (ls' := [.ref 34, .int a1, .int a2, .int a3, .int 0, .int (if a2 < 0 then 0 else a2 : Int32)]) rl_P_put_8 rfl rfl (k0))))))
set_option maxRecDepth 100000 in
set_option maxHeartbeats 4000000 in
theorem sg_P_put_34_10 {L : Nat} {xs : Nat → Int32} {A V : Nat → Nat → Int32} {K : Nat → Option Nat} {T : am_H} {v : Option Int32} {h' : am_H} {v1 v2 v3 v4 v5 : Int32} (k0 :
    if v3 < v5 then (
      v = some v4 ∧ h' = hp L xs A V K T)
    else (
      if 1080 ≤ v5 then (
        v = some v4 ∧ h' = hp L xs A V K T)
      else (
        ¬ (v5 < 0 ∨ 1080 ≤ v5.toNatClampNeg) ∧ (
        if ((A 35) v5.toNatClampNeg) = v1 then (
          am_fin [(z_P_put, 10, [.ref 34, .int v1, .int v2, .int v3, .int v4, .int (v5 + 1)], [])] (hp L xs A V K T) v h')
        else (
          ¬ (v5 < 0 ∨ 1080 ≤ v5.toNatClampNeg) ∧ (
          am_fin [(z_P_put, 10, [.ref 34, .int v1, .int v2, .int v3, .int (v4 + 1), .int (v5 + 1)], [])] (hp L xs (upA A 35 (upd (A 35) v5.toNatClampNeg v1)) V K T) v h')))))) : am_fin [(z_P_put, 10, [.ref 34, .int v1, .int v2, .int v3, .int v4, .int v5], [])] (hp L xs A V K T) v h' :=
  fn_iload rl_P_put_10 rfl (fn_iload_n rl_P_put_12 rfl (fn_icmp_gt rl_P_put_13 (fun k2549 => fn_iload rl_P_put_52 rfl (fn_reti rl_P_put_54 rfl k2549)) (fun k2550 => fn_iload rl_P_put_16 rfl (fn_sipush rl_P_put_18 (fn_icmp_ge rl_P_put_21 (fun k2547 => fn_iload rl_P_put_52 rfl (fn_reti rl_P_put_54 rfl k2547)) (fun k2548 => fn_aload_n rl_P_put_24 rfl (fn_get rl_P_put_25 hp_34 rfl (fn_iload rl_P_put_28 rfl (fn_iald rl_P_put_30 hp_35 (fun k2546 => fn_iload_n rl_P_put_31 rfl (fn_icmp_eq rl_P_put_32 (fun k2544 => fn_iinc (ls' := [.ref 34, .int v1, .int v2, .int v3, .int v4, .int (v5 + 1)]) rl_P_put_46 rfl rfl rfl (fn_goto rl_P_put_49 (k2544))) (fun k2545 => fn_aload_n rl_P_put_35 rfl (fn_get rl_P_put_36 hp_34 rfl (fn_iload rl_P_put_39 rfl (fn_iload_n rl_P_put_41 rfl (fn_iast rl_P_put_42 hp_35 hps_35 (fun k2543 => fn_iinc (ls' := [.ref 34, .int v1, .int v2, .int v3, .int (v4 + 1), .int v5]) rl_P_put_43 rfl rfl rfl (fn_iinc (ls' := [.ref 34, .int v1, .int v2, .int v3, .int (v4 + 1), .int (v5 + 1)]) rl_P_put_46 rfl rfl rfl (fn_goto rl_P_put_49 (k2543)))) k2545))))) k2546)) k2548)))) k2550))) k0))
set_option maxRecDepth 100000 in
set_option maxHeartbeats 4000000 in
theorem sg_P_becomeLike_3_34_0 {L : Nat} {xs : Nat → Int32} {A V : Nat → Nat → Int32} {K : Nat → Option Nat} {T : am_H} {v : Option Int32} {h' : am_H} (k0 :
    am_fin [(z_P_becomeLike, 4, [.ref 3, .ref 34, .int 0, .int 0], [])] (hp L xs A V K T) v h') : am_fin [(z_P_becomeLike, 0, [.ref 3, .ref 34, .null, .null], [])] (hp L xs A V K T) v h' :=
  fn_iconst rl_P_becomeLike_0 (fn_istore_n (ls' := [.ref 3, .ref 34, .int 0, .null]) rl_P_becomeLike_1 rfl rfl (fn_iconst rl_P_becomeLike_2 (fn_istore_n (ls' := [.ref 3, .ref 34, .int 0, .int 0]) rl_P_becomeLike_3 rfl rfl (k0))))
set_option maxRecDepth 100000 in
set_option maxHeartbeats 4000000 in
theorem sg_P_becomeLike_3_34_4 {L : Nat} {xs : Nat → Int32} {A V : Nat → Nat → Int32} {K : Nat → Option Nat} {T : am_H} {v : Option Int32} {h' : am_H} {v2 v3 : Int32} (k0 :
    if 1080 ≤ v3 then (
      v = some v2 ∧ h' = hp L xs A V K T)
    else (
      ¬ (v3 < 0 ∨ 1080 ≤ v3.toNatClampNeg) ∧ (
      ¬ (v3 < 0 ∨ 1080 ≤ v3.toNatClampNeg) ∧ (
      if ((A 4) v3.toNatClampNeg) = ((A 35) v3.toNatClampNeg) then (
        am_fin [(z_P_becomeLike, 4, [.ref 3, .ref 34, .int v2, .int (v3 + 1)], [])] (hp L xs A V K T) v h')
      else (
        ¬ (v3 < 0 ∨ 1080 ≤ v3.toNatClampNeg) ∧ (
        ¬ (v3 < 0 ∨ 1080 ≤ v3.toNatClampNeg) ∧ (
        am_fin [(z_P_becomeLike, 4, [.ref 3, .ref 34, .int (v2 + 1), .int (v3 + 1)], [])] (hp L xs (upA A 4 (upd (A 4) v3.toNatClampNeg ((A 35) v3.toNatClampNeg))) V K T) v h'))))))) : am_fin [(z_P_becomeLike, 4, [.ref 3, .ref 34, .int v2, .int v3], [])] (hp L xs A V K T) v h' :=
  fn_iload_n rl_P_becomeLike_4 rfl (fn_sipush rl_P_becomeLike_5 (fn_icmp_ge rl_P_becomeLike_8 (fun k2557 => fn_iload_n rl_P_becomeLike_47 rfl (fn_reti rl_P_becomeLike_48 rfl k2557)) (fun k2558 => fn_aload_n rl_P_becomeLike_11 rfl (fn_get rl_P_becomeLike_12 hp_3 rfl (fn_iload_n rl_P_becomeLike_15 rfl (fn_iald rl_P_becomeLike_16 hp_4 (fun k2556 => fn_aload_n rl_P_becomeLike_17 rfl (fn_get rl_P_becomeLike_18 hp_34 rfl (fn_iload_n rl_P_becomeLike_21 rfl (fn_iald rl_P_becomeLike_22 hp_35 (fun k2555 => fn_icmp_eq rl_P_becomeLike_23 (fun k2553 => fn_iinc (ls' := [.ref 3, .ref 34, .int v2, .int (v3 + 1)]) rl_P_becomeLike_41 rfl rfl rfl (fn_goto rl_P_becomeLike_44 (k2553))) (fun k2554 => fn_aload_n rl_P_becomeLike_26 rfl (fn_get rl_P_becomeLike_27 hp_3 rfl (fn_iload_n rl_P_becomeLike_30 rfl (fn_aload_n rl_P_becomeLike_31 rfl (fn_get rl_P_becomeLike_32 hp_34 rfl (fn_iload_n rl_P_becomeLike_35 rfl (fn_iald rl_P_becomeLike_36 hp_35 (fun k2552 => fn_iast rl_P_becomeLike_37 hp_4 hps_4 (fun k2551 => fn_iinc (ls' := [.ref 3, .ref 34, .int (v2 + 1), .int v3]) rl_P_becomeLike_38 rfl rfl rfl (fn_iinc (ls' := [.ref 3, .ref 34, .int (v2 + 1), .int (v3 + 1)]) rl_P_becomeLike_41 rfl rfl rfl (fn_goto rl_P_becomeLike_44 (k2551)))) k2552) k2554))))))) k2555) k2556)))) k2558)))) k0))
set_option maxRecDepth 100000 in
set_option maxHeartbeats 4000000 in
theorem sg_J_isClaiming_0 {L : Nat} {xs : Nat → Int32} {A V : Nat → Nat → Int32} {K : Nat → Option Nat} {T : am_H} {v : Option Int32} {h' : am_H} {a1 a2 : Int32} (k0 :
    am_fin [(z_J_holdingBits, 0, [.ref 26, .int a1, .int a2, .null, .null, .null], []), (z_J_isClaiming, 6, [.ref 26, .int a1, .int a2], [])] (hp L xs A V K T) v h') : am_fin [(z_J_isClaiming, 0, [.ref 26, .int a1, .int a2], [])] (hp L xs A V K T) v h' :=
  fn_aload_n rl_J_isClaiming_0 rfl (fn_iload_n rl_J_isClaiming_1 rfl (fn_iload_n rl_J_isClaiming_2 rfl (fn_virt (as := [.ref 26, .int a1, .int a2]) (r := []) (ls' := [.ref 26, .int a1, .int a2, .null, .null, .null]) rl_J_isClaiming_3 rfl hp_26 rfl rfl pl_J_holdingBits rfl rfl (k0))))
set_option maxRecDepth 100000 in
set_option maxHeartbeats 4000000 in
theorem sg_J_isClaiming_6r {L : Nat} {xs : Nat → Int32} {A V : Nat → Nat → Int32} {K : Nat → Option Nat} {T : am_H} {v : Option Int32} {h' : am_H} {v1 v2 r : Int32} (k0 :
    if r = 0 then (
      v = some 0 ∧ h' = hp L xs A V K T)
    else (
      v = some 1 ∧ h' = hp L xs A V K T)) : am_fin [(z_J_isClaiming, 6, [.ref 26, .int v1, .int v2], [.int r])] (hp L xs A V K T) v h' :=
  fn_if_eq rl_J_isClaiming_6 (fun k2559 => fn_iconst rl_J_isClaiming_13 (fn_reti rl_J_isClaiming_14 rfl k2559)) (fun k2560 => fn_iconst rl_J_isClaiming_9 (fn_goto rl_J_isClaiming_10 (fn_reti rl_J_isClaiming_14 rfl k2560))) k0
set_option maxRecDepth 100000 in
set_option maxHeartbeats 4000000 in
theorem sg_J_claimBits_0 {L : Nat} {xs : Nat → Int32} {A V : Nat → Nat → Int32} {K : Nat → Option Nat} {T : am_H} {v : Option Int32} {h' : am_H} {a1 : Int32} (k0 :
    am_fin [(z_J_claimBits, 4, [.ref 26, .int a1, .int 0, .int 0], [])] (hp L xs A V K T) v h') : am_fin [(z_J_claimBits, 0, [.ref 26, .int a1, .null, .null], [])] (hp L xs A V K T) v h' :=
  fn_iconst rl_J_claimBits_0 (fn_istore_n (ls' := [.ref 26, .int a1, .int 0, .null]) rl_J_claimBits_1 rfl rfl (fn_iconst rl_J_claimBits_2 (fn_istore_n (ls' := [.ref 26, .int a1, .int 0, .int 0]) rl_J_claimBits_3 rfl rfl (k0))))
set_option maxRecDepth 100000 in
set_option maxHeartbeats 4000000 in
theorem sg_J_claimBits_4 {L : Nat} {xs : Nat → Int32} {A V : Nat → Nat → Int32} {K : Nat → Option Nat} {T : am_H} {v : Option Int32} {h' : am_H} {v1 v2 v3 : Int32} (k0 :
    if 6 ≤ v3 then (
      v = some v2 ∧ h' = hp L xs A V K T)
    else (
      am_fin [(z_J_holdingBits, 0, [.ref 26, .int v3, .int v1, .null, .null, .null], []), (z_J_claimBits, 17, [.ref 26, .int v1, .int v2, .int v3], [.int v2])] (hp L xs A V K T) v h')) : am_fin [(z_J_claimBits, 4, [.ref 26, .int v1, .int v2, .int v3], [])] (hp L xs A V K T) v h' :=
  fn_iload_n rl_J_claimBits_4 rfl (fn_bipush rl_J_claimBits_5 (fn_icmp_ge rl_J_claimBits_7 (fun k2561 => fn_iload_n rl_J_claimBits_35 rfl (fn_reti rl_J_claimBits_36 rfl k2561)) (fun k2562 => fn_iload_n rl_J_claimBits_10 rfl (fn_aload_n rl_J_claimBits_11 rfl (fn_iload_n rl_J_claimBits_12 rfl (fn_iload_n rl_J_claimBits_13 rfl (fn_virt (as := [.ref 26, .int v3, .int v1]) (r := [.int v2]) (ls' := [.ref 26, .int v3, .int v1, .null, .null, .null]) rl_J_claimBits_14 rfl hp_26 rfl rfl pl_J_holdingBits rfl rfl (k2562)))))) k0))
set_option maxRecDepth 100000 in
set_option maxHeartbeats 4000000 in
theorem sg_J_claimBits_17r {L : Nat} {xs : Nat → Int32} {A V : Nat → Nat → Int32} {K : Nat → Option Nat} {T : am_H} {v : Option Int32} {h' : am_H} {v1 v2 v3 s0 r : Int32} (k0 :
    if r = 0 then (
      am_fin [(z_J_claimBits, 4, [.ref 26, .int v1, .int (s0 ||| 0), .int (v3 + 1)], [])] (hp L xs A V K T) v h')
    else (
      am_fin [(z_J_claimBits, 4, [.ref 26, .int v1, .int (s0 ||| ((1 : Int32) <<< (v3 &&& 31 : Int32))), .int (v3 + 1)], [])] (hp L xs A V K T) v h')) : am_fin [(z_J_claimBits, 17, [.ref 26, .int v1, .int v2, .int v3], [.int r, .int s0])] (hp L xs A V K T) v h' :=
  fn_if_eq rl_J_claimBits_17 (fun k2563 => fn_iconst rl_J_claimBits_26 (fn_ior rl_J_claimBits_27 (fn_istore_n (ls' := [.ref 26, .int v1, .int (s0 ||| 0), .int v3]) rl_J_claimBits_28 rfl rfl (fn_iinc (ls' := [.ref 26, .int v1, .int (s0 ||| 0), .int (v3 + 1)]) rl_J_claimBits_29 rfl rfl rfl (fn_goto rl_J_claimBits_32 (k2563)))))) (fun k2564 => fn_iconst rl_J_claimBits_20 (fn_iload_n rl_J_claimBits_21 rfl (fn_ishl rl_J_claimBits_22 (fn_goto rl_J_claimBits_23 (fn_ior rl_J_claimBits_27 (fn_istore_n (ls' := [.ref 26, .int v1, .int (s0 ||| ((1 : Int32) <<< (v3 &&& 31 : Int32))), .int v3]) rl_J_claimBits_28 rfl rfl (fn_iinc (ls' := [.ref 26, .int v1, .int (s0 ||| ((1 : Int32) <<< (v3 &&& 31 : Int32))), .int (v3 + 1)]) rl_J_claimBits_29 rfl rfl rfl (fn_goto rl_J_claimBits_32 (k2564))))))))) k0
set_option maxRecDepth 100000 in
set_option maxHeartbeats 4000000 in
theorem sg_J_beaten_0 {L : Nat} {xs : Nat → Int32} {A V : Nat → Nat → Int32} {K : Nat → Option Nat} {T : am_H} {v : Option Int32} {h' : am_H} {a1 a2 a3 : Int32} (k0 :
    am_fin [(z_J_beaten, 6, [.ref 26, .int a1, .int a2, .int a3, .int 0, .int 0], [])] (hp L xs A V K T) v h') : am_fin [(z_J_beaten, 0, [.ref 26, .int a1, .int a2, .int a3, .null, .null], [])] (hp L xs A V K T) v h' :=
  fn_iconst rl_J_beaten_0 (fn_istore (ls' := [.ref 26, .int a1, .int a2, .int a3, .int 0, .null]) rl_J_beaten_1 rfl rfl (fn_iconst rl_J_beaten_3 (fn_istore (ls' := [.ref 26, .int a1, .int a2, .int a3, .int 0, .int 0]) rl_J_beaten_4 rfl rfl (k0))))
set_option maxRecDepth 100000 in
set_option maxHeartbeats 4000000 in
theorem sg_J_beaten_6 {L : Nat} {xs : Nat → Int32} {A V : Nat → Nat → Int32} {K : Nat → Option Nat} {T : am_H} {v : Option Int32} {h' : am_H} {v1 v2 v3 v4 v5 : Int32} (k0 :
    if 6 ≤ v5 then (
      v = some v4 ∧ h' = hp L xs A V K T)
    else (
      if v5 = v1 then (
        am_fin [(z_J_beaten, 6, [.ref 26, .int v1, .int v2, .int v3, .int v4, .int (v5 + 1)], [])] (hp L xs A V K T) v h')
      else (
        if (((v2 : Int32) >>> (v5 &&& 31 : Int32)) &&& 1) = 1 then (
          am_fin [(z_J_answerOf, 0, [.ref 26, .int v1, .int v5, .int v3, .null, .null, .null], []), (z_J_beaten, 36, [.ref 26, .int v1, .int v2, .int v3, .int v4, .int v5], [])] (hp L xs A V K T) v h')
        else (
          am_fin [(z_J_beaten, 6, [.ref 26, .int v1, .int v2, .int v3, .int v4, .int (v5 + 1)], [])] (hp L xs A V K T) v h')))) : am_fin [(z_J_beaten, 6, [.ref 26, .int v1, .int v2, .int v3, .int v4, .int v5], [])] (hp L xs A V K T) v h' :=
  fn_iload rl_J_beaten_6 rfl (fn_bipush rl_J_beaten_8 (fn_icmp_ge rl_J_beaten_10 (fun k2569 => fn_iload rl_J_beaten_61 rfl (fn_reti rl_J_beaten_63 rfl k2569)) (fun k2570 => fn_iload rl_J_beaten_13 rfl (fn_iload_n rl_J_beaten_15 rfl (fn_icmp_eq rl_J_beaten_16 (fun k2567 => fn_iinc (ls' := [.ref 26, .int v1, .int v2, .int v3, .int v4, .int (v5 + 1)]) rl_J_beaten_55 rfl rfl rfl (fn_goto rl_J_beaten_58 (k2567))) (fun k2568 => fn_iload_n rl_J_beaten_19 rfl (fn_iload rl_J_beaten_20 rfl (fn_stat (as := [.int v2, .int v5]) (r := []) (ls' := [.int v2, .int v5]) rl_J_beaten_22 rfl rfl rfl rfl pl_L_hasBit rfl rfl (fn_iload_n rl_L_hasBit_0 rfl (fn_iload_n rl_L_hasBit_1 rfl (fn_ishr rl_L_hasBit_2 (fn_iconst rl_L_hasBit_3 (fn_iand rl_L_hasBit_4 (fn_iconst rl_L_hasBit_5 (fn_icmp_ne rl_L_hasBit_6 (fun k2565 => fn_iconst rl_L_hasBit_9 (fn_goto rl_L_hasBit_10 (fn_retci rl_L_hasBit_14 rfl (fn_if_eq_f rl_J_beaten_25 (by decide +kernel) (fn_aload_n rl_J_beaten_28 rfl (fn_iload_n rl_J_beaten_29 rfl (fn_iload rl_J_beaten_30 rfl (fn_iload_n rl_J_beaten_32 rfl (fn_virt (as := [.ref 26, .int v1, .int v5, .int v3]) (r := []) (ls' := [.ref 26, .int v1, .int v5, .int v3, .null, .null, .null]) rl_J_beaten_33 rfl hp_26 rfl rfl pl_J_answerOf rfl rfl (k2565)))))))))) (fun k2566 => fn_iconst rl_L_hasBit_13 (fn_retci rl_L_hasBit_14 rfl (fn_if_eq_t rl_J_beaten_25 (by decide +kernel) (fn_iinc (ls' := [.ref 26, .int v1, .int v2, .int v3, .int v4, .int (v5 + 1)]) rl_J_beaten_55 rfl rfl rfl (fn_goto rl_J_beaten_58 (k2566)))))) k2568)))))))))) k2570))) k0))
set_option maxRecDepth 100000 in
set_option maxHeartbeats 4000000 in
theorem sg_J_beaten_36r {L : Nat} {xs : Nat → Int32} {A V : Nat → Nat → Int32} {K : Nat → Option Nat} {T : am_H} {v : Option Int32} {h' : am_H} {v1 v2 v3 v4 v5 r : Int32} (k0 :
    if r = v1 then (
      am_fin [(z_J_answerOf, 0, [.ref 26, .int v5, .int v1, .int v3, .null, .null, .null], []), (z_J_beaten, 48, [.ref 26, .int v1, .int v2, .int v3, .int v4, .int v5], [])] (hp L xs A V K T) v h')
    else (
      am_fin [(z_J_beaten, 6, [.ref 26, .int v1, .int v2, .int v3, .int v4, .int (v5 + 1)], [])] (hp L xs A V K T) v h')) : am_fin [(z_J_beaten, 36, [.ref 26, .int v1, .int v2, .int v3, .int v4, .int v5], [.int r])] (hp L xs A V K T) v h' :=
  fn_iload_n rl_J_beaten_36 rfl (fn_icmp_ne rl_J_beaten_37 (fun k2571 => fn_aload_n rl_J_beaten_40 rfl (fn_iload rl_J_beaten_41 rfl (fn_iload_n rl_J_beaten_43 rfl (fn_iload_n rl_J_beaten_44 rfl (fn_virt (as := [.ref 26, .int v5, .int v1, .int v3]) (r := []) (ls' := [.ref 26, .int v5, .int v1, .int v3, .null, .null, .null]) rl_J_beaten_45 rfl hp_26 rfl rfl pl_J_answerOf rfl rfl (k2571)))))) (fun k2572 => fn_iinc (ls' := [.ref 26, .int v1, .int v2, .int v3, .int v4, .int (v5 + 1)]) rl_J_beaten_55 rfl rfl rfl (fn_goto rl_J_beaten_58 (k2572))) k0)
set_option maxRecDepth 100000 in
set_option maxHeartbeats 4000000 in
theorem sg_J_beaten_48r {L : Nat} {xs : Nat → Int32} {A V : Nat → Nat → Int32} {K : Nat → Option Nat} {T : am_H} {v : Option Int32} {h' : am_H} {v1 v2 v3 v4 v5 r : Int32} (k0 :
    if r = v1 then (
      am_fin [(z_J_beaten, 6, [.ref 26, .int v1, .int v2, .int v3, .int (v4 + 1), .int (v5 + 1)], [])] (hp L xs A V K T) v h')
    else (
      am_fin [(z_J_beaten, 6, [.ref 26, .int v1, .int v2, .int v3, .int v4, .int (v5 + 1)], [])] (hp L xs A V K T) v h')) : am_fin [(z_J_beaten, 48, [.ref 26, .int v1, .int v2, .int v3, .int v4, .int v5], [.int r])] (hp L xs A V K T) v h' :=
  fn_iload_n rl_J_beaten_48 rfl (fn_icmp_ne rl_J_beaten_49 (fun k2573 => fn_iinc (ls' := [.ref 26, .int v1, .int v2, .int v3, .int (v4 + 1), .int v5]) rl_J_beaten_52 rfl rfl rfl (fn_iinc (ls' := [.ref 26, .int v1, .int v2, .int v3, .int (v4 + 1), .int (v5 + 1)]) rl_J_beaten_55 rfl rfl rfl (fn_goto rl_J_beaten_58 (k2573)))) (fun k2574 => fn_iinc (ls' := [.ref 26, .int v1, .int v2, .int v3, .int v4, .int (v5 + 1)]) rl_J_beaten_55 rfl rfl rfl (fn_goto rl_J_beaten_58 (k2574))) k0)
set_option maxRecDepth 100000 in
set_option maxHeartbeats 4000000 in
theorem sg_P_stayCount_3_0 {L : Nat} {xs : Nat → Int32} {A V : Nat → Nat → Int32} {K : Nat → Option Nat} {T : am_H} {v : Option Int32} {h' : am_H} (k0 :
    am_fin [(z_P_stayCount, 4, [.ref 3, .int 0, .int 0], [])] (hp L xs A V K T) v h') : am_fin [(z_P_stayCount, 0, [.ref 3, .null, .null], [])] (hp L xs A V K T) v h' :=
  fn_iconst rl_P_stayCount_0 (fn_istore_n (ls' := [.ref 3, .int 0, .null]) rl_P_stayCount_1 rfl rfl (fn_iconst rl_P_stayCount_2 (fn_istore_n (ls' := [.ref 3, .int 0, .int 0]) rl_P_stayCount_3 rfl rfl (k0))))
set_option maxRecDepth 100000 in
set_option maxHeartbeats 4000000 in
theorem sg_P_stayCount_3_4 {L : Nat} {xs : Nat → Int32} {A V : Nat → Nat → Int32} {K : Nat → Option Nat} {T : am_H} {v : Option Int32} {h' : am_H} {v1 v2 : Int32} (k0 :
    if 1080 ≤ v2 then (
      v = some v1 ∧ h' = hp L xs A V K T)
    else (
      am_fin [(z_P_startsStay, 0, [.ref 3, .int v2], []), (z_P_stayCount, 16, [.ref 3, .int v1, .int v2], [])] (hp L xs A V K T) v h')) : am_fin [(z_P_stayCount, 4, [.ref 3, .int v1, .int v2], [])] (hp L xs A V K T) v h' :=
  fn_iload_n rl_P_stayCount_4 rfl (fn_sipush rl_P_stayCount_5 (fn_icmp_ge rl_P_stayCount_8 (fun k2575 => fn_iload_n rl_P_stayCount_28 rfl (fn_reti rl_P_stayCount_29 rfl k2575)) (fun k2576 => fn_aload_n rl_P_stayCount_11 rfl (fn_iload_n rl_P_stayCount_12 rfl (fn_virt (as := [.ref 3, .int v2]) (r := []) (ls' := [.ref 3, .int v2]) rl_P_stayCount_13 rfl hp_3 rfl rfl pl_P_startsStay rfl rfl (k2576)))) k0))
set_option maxRecDepth 100000 in
set_option maxHeartbeats 4000000 in
theorem sg_P_stayCount_3_16r {L : Nat} {xs : Nat → Int32} {A V : Nat → Nat → Int32} {K : Nat → Option Nat} {T : am_H} {v : Option Int32} {h' : am_H} {v1 v2 r : Int32} (k0 :
    if r = 0 then (
      am_fin [(z_P_stayCount, 4, [.ref 3, .int v1, .int (v2 + 1)], [])] (hp L xs A V K T) v h')
    else (
      am_fin [(z_P_stayCount, 4, [.ref 3, .int (v1 + 1), .int (v2 + 1)], [])] (hp L xs A V K T) v h')) : am_fin [(z_P_stayCount, 16, [.ref 3, .int v1, .int v2], [.int r])] (hp L xs A V K T) v h' :=
  fn_if_eq rl_P_stayCount_16 (fun k2577 => fn_iinc (ls' := [.ref 3, .int v1, .int (v2 + 1)]) rl_P_stayCount_22 rfl rfl rfl (fn_goto rl_P_stayCount_25 (k2577))) (fun k2578 => fn_iinc (ls' := [.ref 3, .int (v1 + 1), .int v2]) rl_P_stayCount_19 rfl rfl rfl (fn_iinc (ls' := [.ref 3, .int (v1 + 1), .int (v2 + 1)]) rl_P_stayCount_22 rfl rfl rfl (fn_goto rl_P_stayCount_25 (k2578)))) k0
set_option maxRecDepth 100000 in
set_option maxHeartbeats 4000000 in
theorem sg_P_landOn_7_0 {L : Nat} {xs : Nat → Int32} {A V : Nat → Nat → Int32} {K : Nat → Option Nat} {T : am_H} {v : Option Int32} {h' : am_H} {a1 : Int32} (k0 :
    if a1 < 0 then (
      v = some (-1) ∧ h' = hp L xs A V K T)
    else (
      if 1080 ≤ a1 then (
        v = some (-1) ∧ h' = hp L xs A V K T)
      else (
        ¬ (a1 < 0 ∨ 1080 ≤ a1.toNatClampNeg) ∧ (
        v = some ((A 8) a1.toNatClampNeg) ∧ h' = hp L xs A V K T)))) : am_fin [(z_P_landOn, 0, [.ref 7, .int a1], [])] (hp L xs A V K T) v h' :=
  fn_iload_n rl_P_landOn_0 rfl (fn_if_lt rl_P_landOn_1 (fun k2582 => fn_iconst rl_P_landOn_20 (fn_reti rl_P_landOn_21 rfl k2582)) (fun k2583 => fn_iload_n rl_P_landOn_4 rfl (fn_sipush rl_P_landOn_5 (fn_icmp_ge rl_P_landOn_8 (fun k2580 => fn_iconst rl_P_landOn_20 (fn_reti rl_P_landOn_21 rfl k2580)) (fun k2581 => fn_aload_n rl_P_landOn_11 rfl (fn_get rl_P_landOn_12 hp_7 rfl (fn_iload_n rl_P_landOn_15 rfl (fn_iald rl_P_landOn_16 hp_8 (fun k2579 => fn_goto rl_P_landOn_17 (fn_reti rl_P_landOn_21 rfl k2579)) k2581)))) k2583))) k0)
set_option maxRecDepth 100000 in
set_option maxHeartbeats 4000000 in
theorem sg_J_holdingBits_0 {L : Nat} {xs : Nat → Int32} {A V : Nat → Nat → Int32} {K : Nat → Option Nat} {T : am_H} {v : Option Int32} {h' : am_H} {a1 a2 : Int32} (k0 :
    am_fin [(z_J_holdingBits, 5, [.ref 26, .int a1, .int a2, .int 0, .int 0, .null], [])] (hp L xs A V K T) v h') : am_fin [(z_J_holdingBits, 0, [.ref 26, .int a1, .int a2, .null, .null, .null], [])] (hp L xs A V K T) v h' :=
  fn_iconst rl_J_holdingBits_0 (fn_istore_n (ls' := [.ref 26, .int a1, .int a2, .int 0, .null, .null]) rl_J_holdingBits_1 rfl rfl (fn_iconst rl_J_holdingBits_2 (fn_istore (ls' := [.ref 26, .int a1, .int a2, .int 0, .int 0, .null]) rl_J_holdingBits_3 rfl rfl (k0))))
set_option maxRecDepth 100000 in
set_option maxHeartbeats 4000000 in
theorem sg_J_holdingBits_5 {L : Nat} {xs : Nat → Int32} {A V : Nat → Nat → Int32} {K : Nat → Option Nat} {T : am_H} {v : Option Int32} {h' : am_H} {v1 v2 v3 v4 : Int32} (k0 :
    if 3 ≤ v4 then (
      v = some v3 ∧ h' = hp L xs A V K T)
    else (
      ¬ (((v1 * 3) + v4) < 0 ∨ 18 ≤ ((v1 * 3) + v4).toNatClampNeg) ∧ (
      if ((A 13) ((v1 * 3) + v4).toNatClampNeg) ≤ 0 then (
        am_fin [(z_J_holdingBits, 5, [.ref 26, .int v1, .int v2, .int v3, .int (v4 + 1), .int ((A 13) ((v1 * 3) + v4).toNatClampNeg)], [])] (hp L xs A V K T) v h')
      else (
        am_fin [(z_J_greatest, 0, [.ref 26, .int v1, .int v4, .int v2, .null, .null, .null], []), (z_J_holdingBits, 36, [.ref 26, .int v1, .int v2, .int v3, .int v4, .int ((A 13) ((v1 * 3) + v4).toNatClampNeg)], [])] (hp L xs A V K T) v h')))) : am_fin [(z_J_holdingBits, 5, [.ref 26, .int v1, .int v2, .int v3, .int v4, .null], [])] (hp L xs A V K T) v h' :=
  fn_iload rl_J_holdingBits_5 rfl (fn_iconst rl_J_holdingBits_7 (fn_icmp_ge rl_J_holdingBits_8 (fun k2587 => fn_iload_n rl_J_holdingBits_54 rfl (fn_reti rl_J_holdingBits_55 rfl k2587)) (fun k2588 => fn_aload_n rl_J_holdingBits_11 rfl (fn_get rl_J_holdingBits_12 hp_26 rfl (fn_iload_n rl_J_holdingBits_15 rfl (fn_iload rl_J_holdingBits_16 rfl (fn_virt (as := [.ref 10, .int v1, .int v4]) (r := []) (ls' := [.ref 10, .int v1, .int v4]) rl_J_holdingBits_18 rfl hp_10 rfl rfl pl_R_needed rfl rfl (fn_aload_n rl_R_needed_0 rfl (fn_get rl_R_needed_1 hp_10 rfl (fn_iload_n rl_R_needed_4 rfl (fn_iconst rl_R_needed_5 (fn_imul rl_R_needed_6 (fn_iload_n rl_R_needed_7 rfl (fn_iadd rl_R_needed_8 (fn_iald rl_R_needed_9 hp_13 (fun k2586 => fn_retci rl_R_needed_10 rfl (fn_istore (ls' := [.ref 26, .int v1, .int v2, .int v3, .int v4, .int ((A 13) ((v1 * 3) + v4).toNatClampNeg)]) rl_J_holdingBits_21 rfl rfl (fn_iload rl_J_holdingBits_23 rfl (fn_if_le rl_J_holdingBits_25 (fun k2584 => fn_iinc (ls' := [.ref 26, .int v1, .int v2, .int v3, .int (v4 + 1), .int ((A 13) ((v1 * 3) + v4).toNatClampNeg)]) rl_J_holdingBits_48 rfl rfl rfl (fn_goto rl_J_holdingBits_51 (k2584))) (fun k2585 => fn_aload_n rl_J_holdingBits_28 rfl (fn_iload_n rl_J_holdingBits_29 rfl (fn_iload rl_J_holdingBits_30 rfl (fn_iload_n rl_J_holdingBits_32 rfl (fn_virt (as := [.ref 26, .int v1, .int v4, .int v2]) (r := []) (ls' := [.ref 26, .int v1, .int v4, .int v2, .null, .null, .null]) rl_J_holdingBits_33 rfl hp_26 rfl rfl pl_J_greatest rfl rfl (k2585)))))) k2586)))) k2588))))))))))))) k0))
set_option maxRecDepth 100000 in
set_option maxHeartbeats 4000000 in
theorem sg_J_holdingBits_5b {L : Nat} {xs : Nat → Int32} {A V : Nat → Nat → Int32} {K : Nat → Option Nat} {T : am_H} {v : Option Int32} {h' : am_H} {v1 v2 v3 v4 v5 : Int32} (k0 :
    if 3 ≤ v4 then (
      v = some v3 ∧ h' = hp L xs A V K T)
    else (
      ¬ (((v1 * 3) + v4) < 0 ∨ 18 ≤ ((v1 * 3) + v4).toNatClampNeg) ∧ (
      if ((A 13) ((v1 * 3) + v4).toNatClampNeg) ≤ 0 then (
        am_fin [(z_J_holdingBits, 5, [.ref 26, .int v1, .int v2, .int v3, .int (v4 + 1), .int ((A 13) ((v1 * 3) + v4).toNatClampNeg)], [])] (hp L xs A V K T) v h')
      else (
        am_fin [(z_J_greatest, 0, [.ref 26, .int v1, .int v4, .int v2, .null, .null, .null], []), (z_J_holdingBits, 36, [.ref 26, .int v1, .int v2, .int v3, .int v4, .int ((A 13) ((v1 * 3) + v4).toNatClampNeg)], [])] (hp L xs A V K T) v h')))) : am_fin [(z_J_holdingBits, 5, [.ref 26, .int v1, .int v2, .int v3, .int v4, .int v5], [])] (hp L xs A V K T) v h' :=
  fn_iload rl_J_holdingBits_5 rfl (fn_iconst rl_J_holdingBits_7 (fn_icmp_ge rl_J_holdingBits_8 (fun k2592 => fn_iload_n rl_J_holdingBits_54 rfl (fn_reti rl_J_holdingBits_55 rfl k2592)) (fun k2593 => fn_aload_n rl_J_holdingBits_11 rfl (fn_get rl_J_holdingBits_12 hp_26 rfl (fn_iload_n rl_J_holdingBits_15 rfl (fn_iload rl_J_holdingBits_16 rfl (fn_virt (as := [.ref 10, .int v1, .int v4]) (r := []) (ls' := [.ref 10, .int v1, .int v4]) rl_J_holdingBits_18 rfl hp_10 rfl rfl pl_R_needed rfl rfl (fn_aload_n rl_R_needed_0 rfl (fn_get rl_R_needed_1 hp_10 rfl (fn_iload_n rl_R_needed_4 rfl (fn_iconst rl_R_needed_5 (fn_imul rl_R_needed_6 (fn_iload_n rl_R_needed_7 rfl (fn_iadd rl_R_needed_8 (fn_iald rl_R_needed_9 hp_13 (fun k2591 => fn_retci rl_R_needed_10 rfl (fn_istore (ls' := [.ref 26, .int v1, .int v2, .int v3, .int v4, .int ((A 13) ((v1 * 3) + v4).toNatClampNeg)]) rl_J_holdingBits_21 rfl rfl (fn_iload rl_J_holdingBits_23 rfl (fn_if_le rl_J_holdingBits_25 (fun k2589 => fn_iinc (ls' := [.ref 26, .int v1, .int v2, .int v3, .int (v4 + 1), .int ((A 13) ((v1 * 3) + v4).toNatClampNeg)]) rl_J_holdingBits_48 rfl rfl rfl (fn_goto rl_J_holdingBits_51 (k2589))) (fun k2590 => fn_aload_n rl_J_holdingBits_28 rfl (fn_iload_n rl_J_holdingBits_29 rfl (fn_iload rl_J_holdingBits_30 rfl (fn_iload_n rl_J_holdingBits_32 rfl (fn_virt (as := [.ref 26, .int v1, .int v4, .int v2]) (r := []) (ls' := [.ref 26, .int v1, .int v4, .int v2, .null, .null, .null]) rl_J_holdingBits_33 rfl hp_26 rfl rfl pl_J_greatest rfl rfl (k2590)))))) k2591)))) k2593))))))))))))) k0))
set_option maxRecDepth 100000 in
set_option maxHeartbeats 4000000 in
theorem sg_J_holdingBits_36r {L : Nat} {xs : Nat → Int32} {A V : Nat → Nat → Int32} {K : Nat → Option Nat} {T : am_H} {v : Option Int32} {h' : am_H} {v1 v2 v3 v4 v5 r : Int32} (k0 :
    if r < v5 then (
      am_fin [(z_J_holdingBits, 5, [.ref 26, .int v1, .int v2, .int v3, .int (v4 + 1), .int v5], [])] (hp L xs A V K T) v h')
    else (
      am_fin [(z_J_holdingBits, 5, [.ref 26, .int v1, .int v2, .int (v3 ||| ((1 : Int32) <<< (v4 &&& 31 : Int32))), .int (v4 + 1), .int v5], [])] (hp L xs A V K T) v h')) : am_fin [(z_J_holdingBits, 36, [.ref 26, .int v1, .int v2, .int v3, .int v4, .int v5], [.int r])] (hp L xs A V K T) v h' :=
  fn_iload rl_J_holdingBits_36 rfl (fn_icmp_lt rl_J_holdingBits_38 (fun k2594 => fn_iinc (ls' := [.ref 26, .int v1, .int v2, .int v3, .int (v4 + 1), .int v5]) rl_J_holdingBits_48 rfl rfl rfl (fn_goto rl_J_holdingBits_51 (k2594))) (fun k2595 => fn_iload_n rl_J_holdingBits_41 rfl (fn_iconst rl_J_holdingBits_42 (fn_iload rl_J_holdingBits_43 rfl (fn_ishl rl_J_holdingBits_45 (fn_ior rl_J_holdingBits_46 (fn_istore_n (ls' := [.ref 26, .int v1, .int v2, .int (v3 ||| ((1 : Int32) <<< (v4 &&& 31 : Int32))), .int v4, .int v5]) rl_J_holdingBits_47 rfl rfl (fn_iinc (ls' := [.ref 26, .int v1, .int v2, .int (v3 ||| ((1 : Int32) <<< (v4 &&& 31 : Int32))), .int (v4 + 1), .int v5]) rl_J_holdingBits_48 rfl rfl rfl (fn_goto rl_J_holdingBits_51 (k2595))))))))) k0)
set_option maxRecDepth 100000 in
set_option maxHeartbeats 4000000 in
theorem sg_J_answerOf_0 {L : Nat} {xs : Nat → Int32} {A V : Nat → Nat → Int32} {K : Nat → Option Nat} {T : am_H} {v : Option Int32} {h' : am_H} {a1 a2 a3 : Int32} (k0 :
    ¬ (((a1 * 6) + a2) < 0 ∨ 36 ≤ ((a1 * 6) + a2).toNatClampNeg) ∧ (
    if ((A 17) ((a1 * 6) + a2).toNatClampNeg) = (-1) then (
      ¬ (a1 < 0 ∨ 6 ≤ a1.toNatClampNeg) ∧ (
      am_fin [(z_J_answerOf, 17, [.ref 26, .int a1, .int a2, .int a3, .int ((A 16) a1.toNatClampNeg), .int 0, .int 0], [])] (hp L xs A V K T) v h'))
    else (
      am_fin [(z_J_answerOf, 17, [.ref 26, .int a1, .int a2, .int a3, .int ((A 17) ((a1 * 6) + a2).toNatClampNeg), .int 0, .int 0], [])] (hp L xs A V K T) v h'))) : am_fin [(z_J_answerOf, 0, [.ref 26, .int a1, .int a2, .int a3, .null, .null, .null], [])] (hp L xs A V K T) v h' :=
  fn_aload_n rl_J_answerOf_0 rfl (fn_get rl_J_answerOf_1 hp_26 rfl (fn_iload_n rl_J_answerOf_4 rfl (fn_iload_n rl_J_answerOf_5 rfl (fn_virt (as := [.ref 10, .int a1, .int a2]) (r := []) (ls' := [.ref 10, .int a1, .int a2, .null]) rl_J_answerOf_6 rfl hp_10 rfl rfl pl_R_answerRow rfl rfl (fn_aload_n rl_R_answerRow_0 rfl (fn_get rl_R_answerRow_1 hp_10 rfl (fn_iload_n rl_R_answerRow_4 rfl (fn_bipush rl_R_answerRow_5 (fn_imul rl_R_answerRow_7 (fn_iload_n rl_R_answerRow_8 rfl (fn_iadd rl_R_answerRow_9 (fn_iald rl_R_answerRow_10 hp_17 (fun k2599 => fn_istore_n (ls' := [.ref 10, .int a1, .int a2, .int ((A 17) ((a1 * 6) + a2).toNatClampNeg)]) rl_R_answerRow_11 rfl rfl (fn_iload_n rl_R_answerRow_12 rfl (fn_iconst rl_R_answerRow_13 (fn_icmp_ne rl_R_answerRow_14 (fun k2597 => fn_aload_n rl_R_answerRow_17 rfl (fn_get rl_R_answerRow_18 hp_10 rfl (fn_iload_n rl_R_answerRow_21 rfl (fn_iald rl_R_answerRow_22 hp_16 (fun k2596 => fn_goto rl_R_answerRow_23 (fn_retci rl_R_answerRow_27 rfl (fn_istore (ls' := [.ref 26, .int a1, .int a2, .int a3, .int ((A 16) a1.toNatClampNeg), .null, .null]) rl_J_answerOf_9 rfl rfl (fn_iconst rl_J_answerOf_11 (fn_istore (ls' := [.ref 26, .int a1, .int a2, .int a3, .int ((A 16) a1.toNatClampNeg), .int 0, .null]) rl_J_answerOf_12 rfl rfl (fn_iconst rl_J_answerOf_14 (fn_istore (ls' := [.ref 26, .int a1, .int a2, .int a3, .int ((A 16) a1.toNatClampNeg), .int 0, .int 0]) rl_J_answerOf_15 rfl rfl (k2596)))))))) k2597)))) (fun k2598 => fn_iload_n rl_R_answerRow_26 rfl (fn_retci rl_R_answerRow_27 rfl (fn_istore (ls' := [.ref 26, .int a1, .int a2, .int a3, .int ((A 17) ((a1 * 6) + a2).toNatClampNeg), .null, .null]) rl_J_answerOf_9 rfl rfl (fn_iconst rl_J_answerOf_11 (fn_istore (ls' := [.ref 26, .int a1, .int a2, .int a3, .int ((A 17) ((a1 * 6) + a2).toNatClampNeg), .int 0, .null]) rl_J_answerOf_12 rfl rfl (fn_iconst rl_J_answerOf_14 (fn_istore (ls' := [.ref 26, .int a1, .int a2, .int a3, .int ((A 17) ((a1 * 6) + a2).toNatClampNeg), .int 0, .int 0]) rl_J_answerOf_15 rfl rfl (k2598)))))))) k2599)))) k0))))))))))))
set_option maxRecDepth 100000 in
set_option maxHeartbeats 4000000 in
theorem sg_J_answerOf_17 {L : Nat} {xs : Nat → Int32} {A V : Nat → Nat → Int32} {K : Nat → Option Nat} {T : am_H} {v : Option Int32} {h' : am_H} {v1 v2 v3 v4 v5 v6 : Int32} (k0 :
    if 4 ≤ v6 then (
      if v5 = 0 then (
        v = some (-2) ∧ h' = hp L xs A V K T)
      else (
        if v5 ≤ 0 then (
          v = some v2 ∧ h' = hp L xs A V K T)
        else (
          v = some v1 ∧ h' = hp L xs A V K T)))
    else (
      if (v4 &&& 7) ≤ v6 then (
        if v5 = 0 then (
          v = some (-2) ∧ h' = hp L xs A V K T)
        else (
          if v5 ≤ 0 then (
            v = some v2 ∧ h' = hp L xs A V K T)
          else (
            v = some v1 ∧ h' = hp L xs A V K T)))
      else (
        if v5 = 0 then (
          am_fin [(z_J_leaning, 0, [.ref 26, .int (((v4 : Int32) >>> ((3 + (2 * v6)) &&& 31 : Int32)) &&& 3), .int v1, .int v2, .int v3, .null, .null], []), (z_J_answerOf, 52, [.ref 26, .int v1, .int v2, .int v3, .int v4, .int v5, .int v6], [])] (hp L xs A V K T) v h')
        else (
          if v5 = 0 then (
            v = some (-2) ∧ h' = hp L xs A V K T)
          else (
            if v5 ≤ 0 then (
              v = some v2 ∧ h' = hp L xs A V K T)
            else (
              v = some v1 ∧ h' = hp L xs A V K T)))))) : am_fin [(z_J_answerOf, 17, [.ref 26, .int v1, .int v2, .int v3, .int v4, .int v5, .int v6], [])] (hp L xs A V K T) v h' :=
  fn_iload rl_J_answerOf_17 rfl (fn_iconst rl_J_answerOf_19 (fn_icmp_ge rl_J_answerOf_20 (fun k2616 => fn_iload rl_J_answerOf_60 rfl (fn_if_ne rl_J_answerOf_62 (fun k2602 => fn_bipush rl_J_answerOf_65 (fn_reti rl_J_answerOf_67 rfl k2602)) (fun k2603 => fn_iload rl_J_answerOf_68 rfl (fn_if_le rl_J_answerOf_70 (fun k2600 => fn_iload_n rl_J_answerOf_77 rfl (fn_reti rl_J_answerOf_78 rfl k2600)) (fun k2601 => fn_iload_n rl_J_answerOf_73 rfl (fn_goto rl_J_answerOf_74 (fn_reti rl_J_answerOf_78 rfl k2601))) k2603)) k2616)) (fun k2617 => fn_iload rl_J_answerOf_23 rfl (fn_iload rl_J_answerOf_25 rfl (fn_stat (as := [.int v4]) (r := [.int v6]) (ls' := [.int v4]) rl_J_answerOf_27 rfl rfl rfl rfl pl_L_rowLength rfl rfl (fn_iload_n rl_L_rowLength_0 rfl (fn_bipush rl_L_rowLength_1 (fn_iand rl_L_rowLength_3 (fn_retci rl_L_rowLength_4 rfl (fn_icmp_ge rl_J_answerOf_30 (fun k2614 => fn_iload rl_J_answerOf_60 rfl (fn_if_ne rl_J_answerOf_62 (fun k2606 => fn_bipush rl_J_answerOf_65 (fn_reti rl_J_answerOf_67 rfl k2606)) (fun k2607 => fn_iload rl_J_answerOf_68 rfl (fn_if_le rl_J_answerOf_70 (fun k2604 => fn_iload_n rl_J_answerOf_77 rfl (fn_reti rl_J_answerOf_78 rfl k2604)) (fun k2605 => fn_iload_n rl_J_answerOf_73 rfl (fn_goto rl_J_answerOf_74 (fn_reti rl_J_answerOf_78 rfl k2605))) k2607)) k2614)) (fun k2615 => fn_iload rl_J_answerOf_33 rfl (fn_if_ne rl_J_answerOf_35 (fun k2612 => fn_aload_n rl_J_answerOf_38 rfl (fn_iload rl_J_answerOf_39 rfl (fn_iload rl_J_answerOf_41 rfl (fn_stat (as := [.int v4, .int v6]) (r := [.ref 26]) (ls' := [.int v4, .int v6]) rl_J_answerOf_43 rfl rfl rfl rfl pl_L_rowLetter rfl rfl (fn_iload_n rl_L_rowLetter_0 rfl (fn_iconst rl_L_rowLetter_1 (fn_iconst rl_L_rowLetter_2 (fn_iload_n rl_L_rowLetter_3 rfl (fn_imul rl_L_rowLetter_4 (fn_iadd rl_L_rowLetter_5 (fn_ishr rl_L_rowLetter_6 (fn_iconst rl_L_rowLetter_7 (fn_iand rl_L_rowLetter_8 (fn_retci rl_L_rowLetter_9 rfl (fn_iload_n rl_J_answerOf_46 rfl (fn_iload_n rl_J_answerOf_47 rfl (fn_iload_n rl_J_answerOf_48 rfl (fn_virt (as := [.ref 26, .int (((v4 : Int32) >>> ((3 + (2 * v6)) &&& 31 : Int32)) &&& 3), .int v1, .int v2, .int v3]) (r := []) (ls' := [.ref 26, .int (((v4 : Int32) >>> ((3 + (2 * v6)) &&& 31 : Int32)) &&& 3), .int v1, .int v2, .int v3, .null, .null]) rl_J_answerOf_49 rfl hp_26 rfl rfl pl_J_leaning rfl rfl (k2612))))))))))))))))))) (fun k2613 => fn_iload rl_J_answerOf_60 rfl (fn_if_ne rl_J_answerOf_62 (fun k2610 => fn_bipush rl_J_answerOf_65 (fn_reti rl_J_answerOf_67 rfl k2610)) (fun k2611 => fn_iload rl_J_answerOf_68 rfl (fn_if_le rl_J_answerOf_70 (fun k2608 => fn_iload_n rl_J_answerOf_77 rfl (fn_reti rl_J_answerOf_78 rfl k2608)) (fun k2609 => fn_iload_n rl_J_answerOf_73 rfl (fn_goto rl_J_answerOf_74 (fn_reti rl_J_answerOf_78 rfl k2609))) k2611)) k2613)) k2615)) k2617)))))))) k0))
set_option maxRecDepth 100000 in
set_option maxHeartbeats 4000000 in
theorem sg_J_answerOf_52r {L : Nat} {xs : Nat → Int32} {A V : Nat → Nat → Int32} {K : Nat → Option Nat} {T : am_H} {v : Option Int32} {h' : am_H} {v1 v2 v3 v4 v5 v6 r : Int32} (k0 :
    am_fin [(z_J_answerOf, 17, [.ref 26, .int v1, .int v2, .int v3, .int v4, .int r, .int (v6 + 1)], [])] (hp L xs A V K T) v h') : am_fin [(z_J_answerOf, 52, [.ref 26, .int v1, .int v2, .int v3, .int v4, .int v5, .int v6], [.int r])] (hp L xs A V K T) v h' :=
  fn_istore (ls' := [.ref 26, .int v1, .int v2, .int v3, .int v4, .int r, .int v6]) rl_J_answerOf_52 rfl rfl (fn_iinc (ls' := [.ref 26, .int v1, .int v2, .int v3, .int v4, .int r, .int (v6 + 1)]) rl_J_answerOf_54 rfl rfl rfl (fn_goto rl_J_answerOf_57 (k0)))
set_option maxRecDepth 100000 in
set_option maxHeartbeats 4000000 in
theorem sg_J_tellingPlace_0 {L : Nat} {xs : Nat → Int32} {A V : Nat → Nat → Int32} {K : Nat → Option Nat} {T : am_H} {v : Option Int32} {h' : am_H} {a1 a2 a3 : Int32} (k0 :
    ¬ (((a1 * 6) + a2) < 0 ∨ 36 ≤ ((a1 * 6) + a2).toNatClampNeg) ∧ (
    if ((A 17) ((a1 * 6) + a2).toNatClampNeg) = (-1) then (
      ¬ (a1 < 0 ∨ 6 ≤ a1.toNatClampNeg) ∧ (
      am_fin [(z_J_tellingPlace, 14, [.ref 26, .int a1, .int a2, .int a3, .int ((A 16) a1.toNatClampNeg), .int 0], [])] (hp L xs A V K T) v h'))
    else (
      am_fin [(z_J_tellingPlace, 14, [.ref 26, .int a1, .int a2, .int a3, .int ((A 17) ((a1 * 6) + a2).toNatClampNeg), .int 0], [])] (hp L xs A V K T) v h'))) : am_fin [(z_J_tellingPlace, 0, [.ref 26, .int a1, .int a2, .int a3, .null, .null], [])] (hp L xs A V K T) v h' :=
  fn_aload_n rl_J_tellingPlace_0 rfl (fn_get rl_J_tellingPlace_1 hp_26 rfl (fn_iload_n rl_J_tellingPlace_4 rfl (fn_iload_n rl_J_tellingPlace_5 rfl (fn_virt (as := [.ref 10, .int a1, .int a2]) (r := []) (ls' := [.ref 10, .int a1, .int a2, .null]) rl_J_tellingPlace_6 rfl hp_10 rfl rfl pl_R_answerRow rfl rfl (fn_aload_n rl_R_answerRow_0 rfl (fn_get rl_R_answerRow_1 hp_10 rfl (fn_iload_n rl_R_answerRow_4 rfl (fn_bipush rl_R_answerRow_5 (fn_imul rl_R_answerRow_7 (fn_iload_n rl_R_answerRow_8 rfl (fn_iadd rl_R_answerRow_9 (fn_iald rl_R_answerRow_10 hp_17 (fun k2621 => fn_istore_n (ls' := [.ref 10, .int a1, .int a2, .int ((A 17) ((a1 * 6) + a2).toNatClampNeg)]) rl_R_answerRow_11 rfl rfl (fn_iload_n rl_R_answerRow_12 rfl (fn_iconst rl_R_answerRow_13 (fn_icmp_ne rl_R_answerRow_14 (fun k2619 => fn_aload_n rl_R_answerRow_17 rfl (fn_get rl_R_answerRow_18 hp_10 rfl (fn_iload_n rl_R_answerRow_21 rfl (fn_iald rl_R_answerRow_22 hp_16 (fun k2618 => fn_goto rl_R_answerRow_23 (fn_retci rl_R_answerRow_27 rfl (fn_istore (ls' := [.ref 26, .int a1, .int a2, .int a3, .int ((A 16) a1.toNatClampNeg), .null]) rl_J_tellingPlace_9 rfl rfl (fn_iconst rl_J_tellingPlace_11 (fn_istore (ls' := [.ref 26, .int a1, .int a2, .int a3, .int ((A 16) a1.toNatClampNeg), .int 0]) rl_J_tellingPlace_12 rfl rfl (k2618)))))) k2619)))) (fun k2620 => fn_iload_n rl_R_answerRow_26 rfl (fn_retci rl_R_answerRow_27 rfl (fn_istore (ls' := [.ref 26, .int a1, .int a2, .int a3, .int ((A 17) ((a1 * 6) + a2).toNatClampNeg), .null]) rl_J_tellingPlace_9 rfl rfl (fn_iconst rl_J_tellingPlace_11 (fn_istore (ls' := [.ref 26, .int a1, .int a2, .int a3, .int ((A 17) ((a1 * 6) + a2).toNatClampNeg), .int 0]) rl_J_tellingPlace_12 rfl rfl (k2620)))))) k2621)))) k0))))))))))))
