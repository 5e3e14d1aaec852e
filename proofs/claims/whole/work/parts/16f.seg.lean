set_option maxRecDepth 100000 in
set_option maxHeartbeats 4000000 in
theorem sg_D_readDay_10 {L : Nat} {xs : Nat → Int32} {A V : Nat → Nat → Int32} {K : Nat → Option Nat} {T : am_H} {v : Option Int32} {h' : am_H} {v1 v2 v3 v4 : Int32} (k0 :
    if 4 ≤ v4 then (
      if (V 21 6) = v2 then (
        if (V 21 7) = 0 then (
          v = some v3 ∧ h' = hp L xs A (upV V 21 7 (((-1000) * 1) - (V 21 6))) K T)
        else (
          v = some v3 ∧ h' = hp L xs A V K T))
      else (
        if (V 21 4) ≤ (V 21 6) then (
          if 1080 ≤ v3 then (
            if (V 21 7) = 0 then (
              v = some v3 ∧ h' = hp L xs A (upV V 21 7 (((-1000) * 2) - v2)) K T)
            else (
              v = some v3 ∧ h' = hp L xs A V K T))
          else (
            if v1 ≤ v3 then (
              v = some v3 ∧ h' = hp L xs A V K T)
            else (
              if (V 21 7) = 0 then (
                v = some v3 ∧ h' = hp L xs A (upV V 21 7 (((-1000) * 2) - v2)) K T)
              else (
                v = some v3 ∧ h' = hp L xs A V K T))))
        else (
          ¬ ((V 21 6) < 0 ∨ 320 ≤ (V 21 6).toNatClampNeg) ∧ (
          if ((A 20) (V 21 6).toNatClampNeg) < 48 then (
            if 1080 ≤ v3 then (
              if (V 21 7) = 0 then (
                v = some v3 ∧ h' = hp L xs A (upV V 21 7 (((-1000) * 2) - v2)) K T)
              else (
                v = some v3 ∧ h' = hp L xs A V K T))
            else (
              if v1 ≤ v3 then (
                v = some v3 ∧ h' = hp L xs A V K T)
              else (
                if (V 21 7) = 0 then (
                  v = some v3 ∧ h' = hp L xs A (upV V 21 7 (((-1000) * 2) - v2)) K T)
                else (
                  v = some v3 ∧ h' = hp L xs A V K T))))
          else (
            if 57 < ((A 20) (V 21 6).toNatClampNeg) then (
              if 1080 ≤ v3 then (
                if (V 21 7) = 0 then (
                  v = some v3 ∧ h' = hp L xs A (upV V 21 7 (((-1000) * 2) - v2)) K T)
                else (
                  v = some v3 ∧ h' = hp L xs A V K T))
              else (
                if v1 ≤ v3 then (
                  v = some v3 ∧ h' = hp L xs A V K T)
                else (
                  if (V 21 7) = 0 then (
                    v = some v3 ∧ h' = hp L xs A (upV V 21 7 (((-1000) * 2) - v2)) K T)
                  else (
                    v = some v3 ∧ h' = hp L xs A V K T))))
            else (
              if (V 21 7) = 0 then (
                v = some v3 ∧ h' = hp L xs A (upV V 21 7 (((-1000) * 1) - (V 21 6))) K T)
              else (
                v = some v3 ∧ h' = hp L xs A V K T)))))))
    else (
      if (V 21 4) ≤ (V 21 6) then (
        if (V 21 6) = v2 then (
          if (V 21 7) = 0 then (
            v = some v3 ∧ h' = hp L xs A (upV V 21 7 (((-1000) * 1) - (V 21 6))) K T)
          else (
            v = some v3 ∧ h' = hp L xs A V K T))
        else (
          if (V 21 4) ≤ (V 21 6) then (
            if 1080 ≤ v3 then (
              if (V 21 7) = 0 then (
                v = some v3 ∧ h' = hp L xs A (upV V 21 7 (((-1000) * 2) - v2)) K T)
              else (
                v = some v3 ∧ h' = hp L xs A V K T))
            else (
              if v1 ≤ v3 then (
                v = some v3 ∧ h' = hp L xs A V K T)
              else (
                if (V 21 7) = 0 then (
                  v = some v3 ∧ h' = hp L xs A (upV V 21 7 (((-1000) * 2) - v2)) K T)
                else (
                  v = some v3 ∧ h' = hp L xs A V K T))))
          else (
            ¬ ((V 21 6) < 0 ∨ 320 ≤ (V 21 6).toNatClampNeg) ∧ (
            if ((A 20) (V 21 6).toNatClampNeg) < 48 then (
              if 1080 ≤ v3 then (
                if (V 21 7) = 0 then (
                  v = some v3 ∧ h' = hp L xs A (upV V 21 7 (((-1000) * 2) - v2)) K T)
                else (
                  v = some v3 ∧ h' = hp L xs A V K T))
              else (
                if v1 ≤ v3 then (
                  v = some v3 ∧ h' = hp L xs A V K T)
                else (
                  if (V 21 7) = 0 then (
                    v = some v3 ∧ h' = hp L xs A (upV V 21 7 (((-1000) * 2) - v2)) K T)
                  else (
                    v = some v3 ∧ h' = hp L xs A V K T))))
            else (
              if 57 < ((A 20) (V 21 6).toNatClampNeg) then (
                if 1080 ≤ v3 then (
                  if (V 21 7) = 0 then (
                    v = some v3 ∧ h' = hp L xs A (upV V 21 7 (((-1000) * 2) - v2)) K T)
                  else (
                    v = some v3 ∧ h' = hp L xs A V K T))
                else (
                  if v1 ≤ v3 then (
                    v = some v3 ∧ h' = hp L xs A V K T)
                  else (
                    if (V 21 7) = 0 then (
                      v = some v3 ∧ h' = hp L xs A (upV V 21 7 (((-1000) * 2) - v2)) K T)
                    else (
                      v = some v3 ∧ h' = hp L xs A V K T))))
              else (
                if (V 21 7) = 0 then (
                  v = some v3 ∧ h' = hp L xs A (upV V 21 7 (((-1000) * 1) - (V 21 6))) K T)
                else (
                  v = some v3 ∧ h' = hp L xs A V K T)))))))
      else (
        ¬ ((V 21 6) < 0 ∨ 320 ≤ (V 21 6).toNatClampNeg) ∧ (
        if ((A 20) (V 21 6).toNatClampNeg) < 48 then (
          if (V 21 6) = v2 then (
            if (V 21 7) = 0 then (
              v = some v3 ∧ h' = hp L xs A (upV V 21 7 (((-1000) * 1) - (V 21 6))) K T)
            else (
              v = some v3 ∧ h' = hp L xs A V K T))
          else (
            if (V 21 4) ≤ (V 21 6) then (
              if 1080 ≤ v3 then (
                if (V 21 7) = 0 then (
                  v = some v3 ∧ h' = hp L xs A (upV V 21 7 (((-1000) * 2) - v2)) K T)
                else (
                  v = some v3 ∧ h' = hp L xs A V K T))
              else (
                if v1 ≤ v3 then (
                  v = some v3 ∧ h' = hp L xs A V K T)
                else (
                  if (V 21 7) = 0 then (
                    v = some v3 ∧ h' = hp L xs A (upV V 21 7 (((-1000) * 2) - v2)) K T)
                  else (
                    v = some v3 ∧ h' = hp L xs A V K T))))
            else (
              ¬ ((V 21 6) < 0 ∨ 320 ≤ (V 21 6).toNatClampNeg) ∧ (
              if ((A 20) (V 21 6).toNatClampNeg) < 48 then (
                if 1080 ≤ v3 then (
                  if (V 21 7) = 0 then (
                    v = some v3 ∧ h' = hp L xs A (upV V 21 7 (((-1000) * 2) - v2)) K T)
                  else (
                    v = some v3 ∧ h' = hp L xs A V K T))
                else (
                  if v1 ≤ v3 then (
                    v = some v3 ∧ h' = hp L xs A V K T)
                  else (
                    if (V 21 7) = 0 then (
                      v = some v3 ∧ h' = hp L xs A (upV V 21 7 (((-1000) * 2) - v2)) K T)
                    else (
                      v = some v3 ∧ h' = hp L xs A V K T))))
              else (
                if 57 < ((A 20) (V 21 6).toNatClampNeg) then (
                  if 1080 ≤ v3 then (
                    if (V 21 7) = 0 then (
                      v = some v3 ∧ h' = hp L xs A (upV V 21 7 (((-1000) * 2) - v2)) K T)
                    else (
                      v = some v3 ∧ h' = hp L xs A V K T))
                  else (
                    if v1 ≤ v3 then (
                      v = some v3 ∧ h' = hp L xs A V K T)
                    else (
                      if (V 21 7) = 0 then (
                        v = some v3 ∧ h' = hp L xs A (upV V 21 7 (((-1000) * 2) - v2)) K T)
                      else (
                        v = some v3 ∧ h' = hp L xs A V K T))))
                else (
                  if (V 21 7) = 0 then (
                    v = some v3 ∧ h' = hp L xs A (upV V 21 7 (((-1000) * 1) - (V 21 6))) K T)
                  else (
                    v = some v3 ∧ h' = hp L xs A V K T)))))))
        else (
          if 57 < ((A 20) (V 21 6).toNatClampNeg) then (
            if (V 21 6) = v2 then (
              if (V 21 7) = 0 then (
                v = some v3 ∧ h' = hp L xs A (upV V 21 7 (((-1000) * 1) - (V 21 6))) K T)
              else (
                v = some v3 ∧ h' = hp L xs A V K T))
            else (
              if (V 21 4) ≤ (V 21 6) then (
                if 1080 ≤ v3 then (
                  if (V 21 7) = 0 then (
                    v = some v3 ∧ h' = hp L xs A (upV V 21 7 (((-1000) * 2) - v2)) K T)
                  else (
                    v = some v3 ∧ h' = hp L xs A V K T))
                else (
                  if v1 ≤ v3 then (
                    v = some v3 ∧ h' = hp L xs A V K T)
                  else (
                    if (V 21 7) = 0 then (
                      v = some v3 ∧ h' = hp L xs A (upV V 21 7 (((-1000) * 2) - v2)) K T)
                    else (
                      v = some v3 ∧ h' = hp L xs A V K T))))
              else (
                ¬ ((V 21 6) < 0 ∨ 320 ≤ (V 21 6).toNatClampNeg) ∧ (
                if ((A 20) (V 21 6).toNatClampNeg) < 48 then (
                  if 1080 ≤ v3 then (
                    if (V 21 7) = 0 then (
                      v = some v3 ∧ h' = hp L xs A (upV V 21 7 (((-1000) * 2) - v2)) K T)
                    else (
                      v = some v3 ∧ h' = hp L xs A V K T))
                  else (
                    if v1 ≤ v3 then (
                      v = some v3 ∧ h' = hp L xs A V K T)
                    else (
                      if (V 21 7) = 0 then (
                        v = some v3 ∧ h' = hp L xs A (upV V 21 7 (((-1000) * 2) - v2)) K T)
                      else (
                        v = some v3 ∧ h' = hp L xs A V K T))))
                else (
                  if 57 < ((A 20) (V 21 6).toNatClampNeg) then (
                    if 1080 ≤ v3 then (
                      if (V 21 7) = 0 then (
                        v = some v3 ∧ h' = hp L xs A (upV V 21 7 (((-1000) * 2) - v2)) K T)
                      else (
                        v = some v3 ∧ h' = hp L xs A V K T))
                    else (
                      if v1 ≤ v3 then (
                        v = some v3 ∧ h' = hp L xs A V K T)
                      else (
                        if (V 21 7) = 0 then (
                          v = some v3 ∧ h' = hp L xs A (upV V 21 7 (((-1000) * 2) - v2)) K T)
                        else (
                          v = some v3 ∧ h' = hp L xs A V K T))))
                  else (
                    if (V 21 7) = 0 then (
                      v = some v3 ∧ h' = hp L xs A (upV V 21 7 (((-1000) * 1) - (V 21 6))) K T)
                    else (
                      v = some v3 ∧ h' = hp L xs A V K T)))))))
          else (
            if (V 21 4) ≤ (V 21 6) then (
              am_fin [(z_D_readDay, 10, [.ref 21, .int v1, .int v2, .int (((v3 * 10) + (-1)) - 48), .int (v4 + 1)], [])] (hp L xs A (upV V 21 6 ((V 21 6) + 1)) K T) v h')
            else (
              ¬ ((V 21 6) < 0 ∨ 320 ≤ (V 21 6).toNatClampNeg) ∧ (
              am_fin [(z_D_readDay, 10, [.ref 21, .int v1, .int v2, .int (((v3 * 10) + ((A 20) (V 21 6).toNatClampNeg)) - 48), .int (v4 + 1)], [])] (hp L xs A (upV V 21 6 ((V 21 6) + 1)) K T) v h')))))))) : am_fin [(z_D_readDay, 10, [.ref 21, .int v1, .int v2, .int v3, .int v4], [])] (hp L xs A V K T) v h' :=
  fn_iload rl_D_readDay_10 rfl (fn_iconst rl_D_readDay_12 (fn_icmp_ge rl_D_readDay_13 (fun k3447 => fn_aload_n rl_D_readDay_55 rfl (fn_get rl_D_readDay_56 hp_21 rfl (fn_iload_n rl_D_readDay_59 rfl (fn_icmp_eq rl_D_readDay_60 (fun k3324 => fn_aload_n rl_D_readDay_73 rfl (fn_iconst rl_D_readDay_74 (fn_aload_n rl_D_readDay_75 rfl (fn_get rl_D_readDay_76 hp_21 rfl (fn_virt (as := [.ref 21, .int 1, .int (V 21 6)]) (r := []) (ls' := [.ref 21, .int 1, .int (V 21 6)]) rl_D_readDay_79 rfl hp_21 rfl rfl pl_D_fail rfl rfl (fn_aload_n rl_D_fail_0 rfl (fn_get rl_D_fail_1 hp_21 rfl (fn_if_ne rl_D_fail_4 (fun k3289 => fn_aload_n rl_D_fail_7 rfl (fn_sipush rl_D_fail_8 (fn_iload_n rl_D_fail_11 rfl (fn_imul rl_D_fail_12 (fn_iload_n rl_D_fail_13 rfl (fn_isub rl_D_fail_14 (fn_put rl_D_fail_15 hp_21 rfl hpv_21_7 (fn_retcv rl_D_fail_18 (fn_goto rl_D_readDay_82 (fn_iload_n rl_D_readDay_103 rfl (fn_reti rl_D_readDay_104 rfl k3289))))))))))) (fun k3290 => fn_retcv rl_D_fail_18 (fn_goto rl_D_readDay_82 (fn_iload_n rl_D_readDay_103 rfl (fn_reti rl_D_readDay_104 rfl k3290)))) k3324)))))))) (fun k3325 => fn_aload_n rl_D_readDay_63 rfl (fn_virt (as := [.ref 21]) (r := []) (ls' := [.ref 21]) rl_D_readDay_64 rfl hp_21 rfl rfl pl_D_sign rfl rfl (fn_aload_n rl_D_sign_0 rfl (fn_get rl_D_sign_1 hp_21 rfl (fn_aload_n rl_D_sign_4 rfl (fn_get rl_D_sign_5 hp_21 rfl (fn_icmp_ge rl_D_sign_8 (fun k3322 => fn_iconst rl_D_sign_23 (fn_retci rl_D_sign_24 rfl (fn_stat (as := [.int (-1)]) (r := []) (ls' := [.int (-1)]) rl_D_readDay_67 rfl rfl rfl rfl pl_D_isDigit rfl rfl (fn_iload_n rl_D_isDigit_0 rfl (fn_bipush rl_D_isDigit_1 (fn_bipush rl_D_isDigit_3 (fn_stat (as := [.int (-1), .int 48, .int 57]) (r := []) (ls' := [.int (-1), .int 48, .int 57]) rl_D_isDigit_5 rfl rfl rfl rfl pl_L_isAmong rfl rfl (fn_iload_n rl_L_isAmong_0 rfl (fn_iload_n rl_L_isAmong_1 rfl (fn_icmp_lt_t rl_L_isAmong_2 (by decide +kernel) (fn_iconst rl_L_isAmong_14 (fn_retci rl_L_isAmong_15 rfl (fn_retci rl_D_isDigit_8 rfl (fn_if_eq_t rl_D_readDay_70 (by decide +kernel) (fn_iload_n rl_D_readDay_85 rfl (fn_sipush rl_D_readDay_86 (fn_icmp_ge rl_D_readDay_89 (fun k3297 => fn_aload_n rl_D_readDay_97 rfl (fn_iconst rl_D_readDay_98 (fn_iload_n rl_D_readDay_99 rfl (fn_virt (as := [.ref 21, .int 2, .int v2]) (r := []) (ls' := [.ref 21, .int 2, .int v2]) rl_D_readDay_100 rfl hp_21 rfl rfl pl_D_fail rfl rfl (fn_aload_n rl_D_fail_0 rfl (fn_get rl_D_fail_1 hp_21 rfl (fn_if_ne rl_D_fail_4 (fun k3291 => fn_aload_n rl_D_fail_7 rfl (fn_sipush rl_D_fail_8 (fn_iload_n rl_D_fail_11 rfl (fn_imul rl_D_fail_12 (fn_iload_n rl_D_fail_13 rfl (fn_isub rl_D_fail_14 (fn_put rl_D_fail_15 hp_21 rfl hpv_21_7 (fn_retcv rl_D_fail_18 (fn_iload_n rl_D_readDay_103 rfl (fn_reti rl_D_readDay_104 rfl k3291)))))))))) (fun k3292 => fn_retcv rl_D_fail_18 (fn_iload_n rl_D_readDay_103 rfl (fn_reti rl_D_readDay_104 rfl k3292))) k3297))))))) (fun k3298 => fn_iload_n rl_D_readDay_92 rfl (fn_iload_n rl_D_readDay_93 rfl (fn_icmp_ge rl_D_readDay_94 (fun k3295 => fn_iload_n rl_D_readDay_103 rfl (fn_reti rl_D_readDay_104 rfl k3295)) (fun k3296 => fn_aload_n rl_D_readDay_97 rfl (fn_iconst rl_D_readDay_98 (fn_iload_n rl_D_readDay_99 rfl (fn_virt (as := [.ref 21, .int 2, .int v2]) (r := []) (ls' := [.ref 21, .int 2, .int v2]) rl_D_readDay_100 rfl hp_21 rfl rfl pl_D_fail rfl rfl (fn_aload_n rl_D_fail_0 rfl (fn_get rl_D_fail_1 hp_21 rfl (fn_if_ne rl_D_fail_4 (fun k3293 => fn_aload_n rl_D_fail_7 rfl (fn_sipush rl_D_fail_8 (fn_iload_n rl_D_fail_11 rfl (fn_imul rl_D_fail_12 (fn_iload_n rl_D_fail_13 rfl (fn_isub rl_D_fail_14 (fn_put rl_D_fail_15 hp_21 rfl hpv_21_7 (fn_retcv rl_D_fail_18 (fn_iload_n rl_D_readDay_103 rfl (fn_reti rl_D_readDay_104 rfl k3293)))))))))) (fun k3294 => fn_retcv rl_D_fail_18 (fn_iload_n rl_D_readDay_103 rfl (fn_reti rl_D_readDay_104 rfl k3294))) k3296))))))) k3298))) k3322))))))))))))))))) (fun k3323 => fn_aload_n rl_D_sign_11 rfl (fn_get rl_D_sign_12 hp_21 rfl (fn_aload_n rl_D_sign_15 rfl (fn_get rl_D_sign_16 hp_21 rfl (fn_iald rl_D_sign_19 hp_20 (fun k3321 => fn_goto rl_D_sign_20 (fn_retci rl_D_sign_24 rfl (fn_stat (as := [.int ((A 20) (V 21 6).toNatClampNeg)]) (r := []) (ls' := [.int ((A 20) (V 21 6).toNatClampNeg)]) rl_D_readDay_67 rfl rfl rfl rfl pl_D_isDigit rfl rfl (fn_iload_n rl_D_isDigit_0 rfl (fn_bipush rl_D_isDigit_1 (fn_bipush rl_D_isDigit_3 (fn_stat (as := [.int ((A 20) (V 21 6).toNatClampNeg), .int 48, .int 57]) (r := []) (ls' := [.int ((A 20) (V 21 6).toNatClampNeg), .int 48, .int 57]) rl_D_isDigit_5 rfl rfl rfl rfl pl_L_isAmong rfl rfl (fn_iload_n rl_L_isAmong_0 rfl (fn_iload_n rl_L_isAmong_1 rfl (fn_icmp_lt rl_L_isAmong_2 (fun k3319 => fn_iconst rl_L_isAmong_14 (fn_retci rl_L_isAmong_15 rfl (fn_retci rl_D_isDigit_8 rfl (fn_if_eq_t rl_D_readDay_70 (by decide +kernel) (fn_iload_n rl_D_readDay_85 rfl (fn_sipush rl_D_readDay_86 (fn_icmp_ge rl_D_readDay_89 (fun k3305 => fn_aload_n rl_D_readDay_97 rfl (fn_iconst rl_D_readDay_98 (fn_iload_n rl_D_readDay_99 rfl (fn_virt (as := [.ref 21, .int 2, .int v2]) (r := []) (ls' := [.ref 21, .int 2, .int v2]) rl_D_readDay_100 rfl hp_21 rfl rfl pl_D_fail rfl rfl (fn_aload_n rl_D_fail_0 rfl (fn_get rl_D_fail_1 hp_21 rfl (fn_if_ne rl_D_fail_4 (fun k3299 => fn_aload_n rl_D_fail_7 rfl (fn_sipush rl_D_fail_8 (fn_iload_n rl_D_fail_11 rfl (fn_imul rl_D_fail_12 (fn_iload_n rl_D_fail_13 rfl (fn_isub rl_D_fail_14 (fn_put rl_D_fail_15 hp_21 rfl hpv_21_7 (fn_retcv rl_D_fail_18 (fn_iload_n rl_D_readDay_103 rfl (fn_reti rl_D_readDay_104 rfl k3299)))))))))) (fun k3300 => fn_retcv rl_D_fail_18 (fn_iload_n rl_D_readDay_103 rfl (fn_reti rl_D_readDay_104 rfl k3300))) k3305))))))) (fun k3306 => fn_iload_n rl_D_readDay_92 rfl (fn_iload_n rl_D_readDay_93 rfl (fn_icmp_ge rl_D_readDay_94 (fun k3303 => fn_iload_n rl_D_readDay_103 rfl (fn_reti rl_D_readDay_104 rfl k3303)) (fun k3304 => fn_aload_n rl_D_readDay_97 rfl (fn_iconst rl_D_readDay_98 (fn_iload_n rl_D_readDay_99 rfl (fn_virt (as := [.ref 21, .int 2, .int v2]) (r := []) (ls' := [.ref 21, .int 2, .int v2]) rl_D_readDay_100 rfl hp_21 rfl rfl pl_D_fail rfl rfl (fn_aload_n rl_D_fail_0 rfl (fn_get rl_D_fail_1 hp_21 rfl (fn_if_ne rl_D_fail_4 (fun k3301 => fn_aload_n rl_D_fail_7 rfl (fn_sipush rl_D_fail_8 (fn_iload_n rl_D_fail_11 rfl (fn_imul rl_D_fail_12 (fn_iload_n rl_D_fail_13 rfl (fn_isub rl_D_fail_14 (fn_put rl_D_fail_15 hp_21 rfl hpv_21_7 (fn_retcv rl_D_fail_18 (fn_iload_n rl_D_readDay_103 rfl (fn_reti rl_D_readDay_104 rfl k3301)))))))))) (fun k3302 => fn_retcv rl_D_fail_18 (fn_iload_n rl_D_readDay_103 rfl (fn_reti rl_D_readDay_104 rfl k3302))) k3304))))))) k3306))) k3319))))))) (fun k3320 => fn_iload_n rl_L_isAmong_5 rfl (fn_iload_n rl_L_isAmong_6 rfl (fn_icmp_gt rl_L_isAmong_7 (fun k3317 => fn_iconst rl_L_isAmong_14 (fn_retci rl_L_isAmong_15 rfl (fn_retci rl_D_isDigit_8 rfl (fn_if_eq_t rl_D_readDay_70 (by decide +kernel) (fn_iload_n rl_D_readDay_85 rfl (fn_sipush rl_D_readDay_86 (fn_icmp_ge rl_D_readDay_89 (fun k3313 => fn_aload_n rl_D_readDay_97 rfl (fn_iconst rl_D_readDay_98 (fn_iload_n rl_D_readDay_99 rfl (fn_virt (as := [.ref 21, .int 2, .int v2]) (r := []) (ls' := [.ref 21, .int 2, .int v2]) rl_D_readDay_100 rfl hp_21 rfl rfl pl_D_fail rfl rfl (fn_aload_n rl_D_fail_0 rfl (fn_get rl_D_fail_1 hp_21 rfl (fn_if_ne rl_D_fail_4 (fun k3307 => fn_aload_n rl_D_fail_7 rfl (fn_sipush rl_D_fail_8 (fn_iload_n rl_D_fail_11 rfl (fn_imul rl_D_fail_12 (fn_iload_n rl_D_fail_13 rfl (fn_isub rl_D_fail_14 (fn_put rl_D_fail_15 hp_21 rfl hpv_21_7 (fn_retcv rl_D_fail_18 (fn_iload_n rl_D_readDay_103 rfl (fn_reti rl_D_readDay_104 rfl k3307)))))))))) (fun k3308 => fn_retcv rl_D_fail_18 (fn_iload_n rl_D_readDay_103 rfl (fn_reti rl_D_readDay_104 rfl k3308))) k3313))))))) (fun k3314 => fn_iload_n rl_D_readDay_92 rfl (fn_iload_n rl_D_readDay_93 rfl (fn_icmp_ge rl_D_readDay_94 (fun k3311 => fn_iload_n rl_D_readDay_103 rfl (fn_reti rl_D_readDay_104 rfl k3311)) (fun k3312 => fn_aload_n rl_D_readDay_97 rfl (fn_iconst rl_D_readDay_98 (fn_iload_n rl_D_readDay_99 rfl (fn_virt (as := [.ref 21, .int 2, .int v2]) (r := []) (ls' := [.ref 21, .int 2, .int v2]) rl_D_readDay_100 rfl hp_21 rfl rfl pl_D_fail rfl rfl (fn_aload_n rl_D_fail_0 rfl (fn_get rl_D_fail_1 hp_21 rfl (fn_if_ne rl_D_fail_4 (fun k3309 => fn_aload_n rl_D_fail_7 rfl (fn_sipush rl_D_fail_8 (fn_iload_n rl_D_fail_11 rfl (fn_imul rl_D_fail_12 (fn_iload_n rl_D_fail_13 rfl (fn_isub rl_D_fail_14 (fn_put rl_D_fail_15 hp_21 rfl hpv_21_7 (fn_retcv rl_D_fail_18 (fn_iload_n rl_D_readDay_103 rfl (fn_reti rl_D_readDay_104 rfl k3309)))))))))) (fun k3310 => fn_retcv rl_D_fail_18 (fn_iload_n rl_D_readDay_103 rfl (fn_reti rl_D_readDay_104 rfl k3310))) k3312))))))) k3314))) k3317))))))) (fun k3318 => fn_iconst rl_L_isAmong_10 (fn_goto rl_L_isAmong_11 (fn_retci rl_L_isAmong_15 rfl (fn_retci rl_D_isDigit_8 rfl (fn_if_eq_f rl_D_readDay_70 (by decide +kernel) (fn_aload_n rl_D_readDay_73 rfl (fn_iconst rl_D_readDay_74 (fn_aload_n rl_D_readDay_75 rfl (fn_get rl_D_readDay_76 hp_21 rfl (fn_virt (as := [.ref 21, .int 1, .int (V 21 6)]) (r := []) (ls' := [.ref 21, .int 1, .int (V 21 6)]) rl_D_readDay_79 rfl hp_21 rfl rfl pl_D_fail rfl rfl (fn_aload_n rl_D_fail_0 rfl (fn_get rl_D_fail_1 hp_21 rfl (fn_if_ne rl_D_fail_4 (fun k3315 => fn_aload_n rl_D_fail_7 rfl (fn_sipush rl_D_fail_8 (fn_iload_n rl_D_fail_11 rfl (fn_imul rl_D_fail_12 (fn_iload_n rl_D_fail_13 rfl (fn_isub rl_D_fail_14 (fn_put rl_D_fail_15 hp_21 rfl hpv_21_7 (fn_retcv rl_D_fail_18 (fn_goto rl_D_readDay_82 (fn_iload_n rl_D_readDay_103 rfl (fn_reti rl_D_readDay_104 rfl k3315))))))))))) (fun k3316 => fn_retcv rl_D_fail_18 (fn_goto rl_D_readDay_82 (fn_iload_n rl_D_readDay_103 rfl (fn_reti rl_D_readDay_104 rfl k3316)))) k3318))))))))))))) k3320))) k3321)))))))))) k3323))))) k3325))))))) k3447)))) (fun k3448 => fn_aload_n rl_D_readDay_16 rfl (fn_virt (as := [.ref 21]) (r := []) (ls' := [.ref 21]) rl_D_readDay_17 rfl hp_21 rfl rfl pl_D_sign rfl rfl (fn_aload_n rl_D_sign_0 rfl (fn_get rl_D_sign_1 hp_21 rfl (fn_aload_n rl_D_sign_4 rfl (fn_get rl_D_sign_5 hp_21 rfl (fn_icmp_ge rl_D_sign_8 (fun k3445 => fn_iconst rl_D_sign_23 (fn_retci rl_D_sign_24 rfl (fn_stat (as := [.int (-1)]) (r := []) (ls' := [.int (-1)]) rl_D_readDay_20 rfl rfl rfl rfl pl_D_isDigit rfl rfl (fn_iload_n rl_D_isDigit_0 rfl (fn_bipush rl_D_isDigit_1 (fn_bipush rl_D_isDigit_3 (fn_stat (as := [.int (-1), .int 48, .int 57]) (r := []) (ls' := [.int (-1), .int 48, .int 57]) rl_D_isDigit_5 rfl rfl rfl rfl pl_L_isAmong rfl rfl (fn_iload_n rl_L_isAmong_0 rfl (fn_iload_n rl_L_isAmong_1 rfl (fn_icmp_lt_t rl_L_isAmong_2 (by decide +kernel) (fn_iconst rl_L_isAmong_14 (fn_retci rl_L_isAmong_15 rfl (fn_retci rl_D_isDigit_8 rfl (fn_if_eq_t rl_D_readDay_23 (by decide +kernel) (fn_aload_n rl_D_readDay_55 rfl (fn_get rl_D_readDay_56 hp_21 rfl (fn_iload_n rl_D_readDay_59 rfl (fn_icmp_eq rl_D_readDay_60 (fun k3361 => fn_aload_n rl_D_readDay_73 rfl (fn_iconst rl_D_readDay_74 (fn_aload_n rl_D_readDay_75 rfl (fn_get rl_D_readDay_76 hp_21 rfl (fn_virt (as := [.ref 21, .int 1, .int (V 21 6)]) (r := []) (ls' := [.ref 21, .int 1, .int (V 21 6)]) rl_D_readDay_79 rfl hp_21 rfl rfl pl_D_fail rfl rfl (fn_aload_n rl_D_fail_0 rfl (fn_get rl_D_fail_1 hp_21 rfl (fn_if_ne rl_D_fail_4 (fun k3326 => fn_aload_n rl_D_fail_7 rfl (fn_sipush rl_D_fail_8 (fn_iload_n rl_D_fail_11 rfl (fn_imul rl_D_fail_12 (fn_iload_n rl_D_fail_13 rfl (fn_isub rl_D_fail_14 (fn_put rl_D_fail_15 hp_21 rfl hpv_21_7 (fn_retcv rl_D_fail_18 (fn_goto rl_D_readDay_82 (fn_iload_n rl_D_readDay_103 rfl (fn_reti rl_D_readDay_104 rfl k3326))))))))))) (fun k3327 => fn_retcv rl_D_fail_18 (fn_goto rl_D_readDay_82 (fn_iload_n rl_D_readDay_103 rfl (fn_reti rl_D_readDay_104 rfl k3327)))) k3361)))))))) (fun k3362 => fn_aload_n rl_D_readDay_63 rfl (fn_virt (as := [.ref 21]) (r := []) (ls' := [.ref 21]) rl_D_readDay_64 rfl hp_21 rfl rfl pl_D_sign rfl rfl (fn_aload_n rl_D_sign_0 rfl (fn_get rl_D_sign_1 hp_21 rfl (fn_aload_n rl_D_sign_4 rfl (fn_get rl_D_sign_5 hp_21 rfl (fn_icmp_ge rl_D_sign_8 (fun k3359 => fn_iconst rl_D_sign_23 (fn_retci rl_D_sign_24 rfl (fn_stat (as := [.int (-1)]) (r := []) (ls' := [.int (-1)]) rl_D_readDay_67 rfl rfl rfl rfl pl_D_isDigit rfl rfl (fn_iload_n rl_D_isDigit_0 rfl (fn_bipush rl_D_isDigit_1 (fn_bipush rl_D_isDigit_3 (fn_stat (as := [.int (-1), .int 48, .int 57]) (r := []) (ls' := [.int (-1), .int 48, .int 57]) rl_D_isDigit_5 rfl rfl rfl rfl pl_L_isAmong rfl rfl (fn_iload_n rl_L_isAmong_0 rfl (fn_iload_n rl_L_isAmong_1 rfl (fn_icmp_lt_t rl_L_isAmong_2 (by decide +kernel) (fn_iconst rl_L_isAmong_14 (fn_retci rl_L_isAmong_15 rfl (fn_retci rl_D_isDigit_8 rfl (fn_if_eq_t rl_D_readDay_70 (by decide +kernel) (fn_iload_n rl_D_readDay_85 rfl (fn_sipush rl_D_readDay_86 (fn_icmp_ge rl_D_readDay_89 (fun k3334 => fn_aload_n rl_D_readDay_97 rfl (fn_iconst rl_D_readDay_98 (fn_iload_n rl_D_readDay_99 rfl (fn_virt (as := [.ref 21, .int 2, .int v2]) (r := []) (ls' := [.ref 21, .int 2, .int v2]) rl_D_readDay_100 rfl hp_21 rfl rfl pl_D_fail rfl rfl (fn_aload_n rl_D_fail_0 rfl (fn_get rl_D_fail_1 hp_21 rfl (fn_if_ne rl_D_fail_4 (fun k3328 => fn_aload_n rl_D_fail_7 rfl (fn_sipush rl_D_fail_8 (fn_iload_n rl_D_fail_11 rfl (fn_imul rl_D_fail_12 (fn_iload_n rl_D_fail_13 rfl (fn_isub rl_D_fail_14 (fn_put rl_D_fail_15 hp_21 rfl hpv_21_7 (fn_retcv rl_D_fail_18 (fn_iload_n rl_D_readDay_103 rfl (fn_reti rl_D_readDay_104 rfl k3328)))))))))) (fun k3329 => fn_retcv rl_D_fail_18 (fn_iload_n rl_D_readDay_103 rfl (fn_reti rl_D_readDay_104 rfl k3329))) k3334))))))) (fun k3335 => fn_iload_n rl_D_readDay_92 rfl (fn_iload_n rl_D_readDay_93 rfl (fn_icmp_ge rl_D_readDay_94 (fun k3332 => fn_iload_n rl_D_readDay_103 rfl (fn_reti rl_D_readDay_104 rfl k3332)) (fun k3333 => fn_aload_n rl_D_readDay_97 rfl (fn_iconst rl_D_readDay_98 (fn_iload_n rl_D_readDay_99 rfl (fn_virt (as := [.ref 21, .int 2, .int v2]) (r := []) (ls' := [.ref 21, .int 2, .int v2]) rl_D_readDay_100 rfl hp_21 rfl rfl pl_D_fail rfl rfl (fn_aload_n rl_D_fail_0 rfl (fn_get rl_D_fail_1 hp_21 rfl (fn_if_ne rl_D_fail_4 (fun k3330 => fn_aload_n rl_D_fail_7 rfl (fn_sipush rl_D_fail_8 (fn_iload_n rl_D_fail_11 rfl (fn_imul rl_D_fail_12 (fn_iload_n rl_D_fail_13 rfl (fn_isub rl_D_fail_14 (fn_put rl_D_fail_15 hp_21 rfl hpv_21_7 (fn_retcv rl_D_fail_18 (fn_iload_n rl_D_readDay_103 rfl (fn_reti rl_D_readDay_104 rfl k3330)))))))))) (fun k3331 => fn_retcv rl_D_fail_18 (fn_iload_n rl_D_readDay_103 rfl (fn_reti rl_D_readDay_104 rfl k3331))) k3333))))))) k3335))) k3359))))))))))))))))) (fun k3360 => fn_aload_n rl_D_sign_11 rfl (fn_get rl_D_sign_12 hp_21 rfl (fn_aload_n rl_D_sign_15 rfl (fn_get rl_D_sign_16 hp_21 rfl (fn_iald rl_D_sign_19 hp_20 (fun k3358 => fn_goto rl_D_sign_20 (fn_retci rl_D_sign_24 rfl (fn_stat (as := [.int ((A 20) (V 21 6).toNatClampNeg)]) (r := []) (ls' := [.int ((A 20) (V 21 6).toNatClampNeg)]) rl_D_readDay_67 rfl rfl rfl rfl pl_D_isDigit rfl rfl (fn_iload_n rl_D_isDigit_0 rfl (fn_bipush rl_D_isDigit_1 (fn_bipush rl_D_isDigit_3 (fn_stat (as := [.int ((A 20) (V 21 6).toNatClampNeg), .int 48, .int 57]) (r := []) (ls' := [.int ((A 20) (V 21 6).toNatClampNeg), .int 48, .int 57]) rl_D_isDigit_5 rfl rfl rfl rfl pl_L_isAmong rfl rfl (fn_iload_n rl_L_isAmong_0 rfl (fn_iload_n rl_L_isAmong_1 rfl (fn_icmp_lt rl_L_isAmong_2 (fun k3356 => fn_iconst rl_L_isAmong_14 (fn_retci rl_L_isAmong_15 rfl (fn_retci rl_D_isDigit_8 rfl (fn_if_eq_t rl_D_readDay_70 (by decide +kernel) (fn_iload_n rl_D_readDay_85 rfl (fn_sipush rl_D_readDay_86 (fn_icmp_ge rl_D_readDay_89 (fun k3342 => fn_aload_n rl_D_readDay_97 rfl (fn_iconst rl_D_readDay_98 (fn_iload_n rl_D_readDay_99 rfl (fn_virt (as := [.ref 21, .int 2, .int v2]) (r := []) (ls' := [.ref 21, .int 2, .int v2]) rl_D_readDay_100 rfl hp_21 rfl rfl pl_D_fail rfl rfl (fn_aload_n rl_D_fail_0 rfl (fn_get rl_D_fail_1 hp_21 rfl (fn_if_ne rl_D_fail_4 (fun k3336 => fn_aload_n rl_D_fail_7 rfl (fn_sipush rl_D_fail_8 (fn_iload_n rl_D_fail_11 rfl (fn_imul rl_D_fail_12 (fn_iload_n rl_D_fail_13 rfl (fn_isub rl_D_fail_14 (fn_put rl_D_fail_15 hp_21 rfl hpv_21_7 (fn_retcv rl_D_fail_18 (fn_iload_n rl_D_readDay_103 rfl (fn_reti rl_D_readDay_104 rfl k3336)))))))))) (fun k3337 => fn_retcv rl_D_fail_18 (fn_iload_n rl_D_readDay_103 rfl (fn_reti rl_D_readDay_104 rfl k3337))) k3342))))))) (fun k3343 => fn_iload_n rl_D_readDay_92 rfl (fn_iload_n rl_D_readDay_93 rfl (fn_icmp_ge rl_D_readDay_94 (fun k3340 => fn_iload_n rl_D_readDay_103 rfl (fn_reti rl_D_readDay_104 rfl k3340)) (fun k3341 => fn_aload_n rl_D_readDay_97 rfl (fn_iconst rl_D_readDay_98 (fn_iload_n rl_D_readDay_99 rfl (fn_virt (as := [.ref 21, .int 2, .int v2]) (r := []) (ls' := [.ref 21, .int 2, .int v2]) rl_D_readDay_100 rfl hp_21 rfl rfl pl_D_fail rfl rfl (fn_aload_n rl_D_fail_0 rfl (fn_get rl_D_fail_1 hp_21 rfl (fn_if_ne rl_D_fail_4 (fun k3338 => fn_aload_n rl_D_fail_7 rfl (fn_sipush rl_D_fail_8 (fn_iload_n rl_D_fail_11 rfl (fn_imul rl_D_fail_12 (fn_iload_n rl_D_fail_13 rfl (fn_isub rl_D_fail_14 (fn_put rl_D_fail_15 hp_21 rfl hpv_21_7 (fn_retcv rl_D_fail_18 (fn_iload_n rl_D_readDay_103 rfl (fn_reti rl_D_readDay_104 rfl k3338)))))))))) (fun k3339 => fn_retcv rl_D_fail_18 (fn_iload_n rl_D_readDay_103 rfl (fn_reti rl_D_readDay_104 rfl k3339))) k3341))))))) k3343))) k3356))))))) (fun k3357 => fn_iload_n rl_L_isAmong_5 rfl (fn_iload_n rl_L_isAmong_6 rfl (fn_icmp_gt rl_L_isAmong_7 (fun k3354 => fn_iconst rl_L_isAmong_14 (fn_retci rl_L_isAmong_15 rfl (fn_retci rl_D_isDigit_8 rfl (fn_if_eq_t rl_D_readDay_70 (by decide +kernel) (fn_iload_n rl_D_readDay_85 rfl (fn_sipush rl_D_readDay_86 (fn_icmp_ge rl_D_readDay_89 (fun k3350 => fn_aload_n rl_D_readDay_97 rfl (fn_iconst rl_D_readDay_98 (fn_iload_n rl_D_readDay_99 rfl (fn_virt (as := [.ref 21, .int 2, .int v2]) (r := []) (ls' := [.ref 21, .int 2, .int v2]) rl_D_readDay_100 rfl hp_21 rfl rfl pl_D_fail rfl rfl (fn_aload_n rl_D_fail_0 rfl (fn_get rl_D_fail_1 hp_21 rfl (fn_if_ne rl_D_fail_4 (fun k3344 => fn_aload_n rl_D_fail_7 rfl (fn_sipush rl_D_fail_8 (fn_iload_n rl_D_fail_11 rfl (fn_imul rl_D_fail_12 (fn_iload_n rl_D_fail_13 rfl (fn_isub rl_D_fail_14 (fn_put rl_D_fail_15 hp_21 rfl hpv_21_7 (fn_retcv rl_D_fail_18 (fn_iload_n rl_D_readDay_103 rfl (fn_reti rl_D_readDay_104 rfl k3344)))))))))) (fun k3345 => fn_retcv rl_D_fail_18 (fn_iload_n rl_D_readDay_103 rfl (fn_reti rl_D_readDay_104 rfl k3345))) k3350))))))) (fun k3351 => fn_iload_n rl_D_readDay_92 rfl (fn_iload_n rl_D_readDay_93 rfl (fn_icmp_ge rl_D_readDay_94 (fun k3348 => fn_iload_n rl_D_readDay_103 rfl (fn_reti rl_D_readDay_104 rfl k3348)) (fun k3349 => fn_aload_n rl_D_readDay_97 rfl (fn_iconst rl_D_readDay_98 (fn_iload_n rl_D_readDay_99 rfl (fn_virt (as := [.ref 21, .int 2, .int v2]) (r := []) (ls' := [.ref 21, .int 2, .int v2]) rl_D_readDay_100 rfl hp_21 rfl rfl pl_D_fail rfl rfl (fn_aload_n rl_D_fail_0 rfl (fn_get rl_D_fail_1 hp_21 rfl (fn_if_ne rl_D_fail_4 (fun k3346 => fn_aload_n rl_D_fail_7 rfl (fn_sipush rl_D_fail_8 (fn_iload_n rl_D_fail_11 rfl (fn_imul rl_D_fail_12 (fn_iload_n rl_D_fail_13 rfl (fn_isub rl_D_fail_14 (fn_put rl_D_fail_15 hp_21 rfl hpv_21_7 (fn_retcv rl_D_fail_18 (fn_iload_n rl_D_readDay_103 rfl (fn_reti rl_D_readDay_104 rfl k3346)))))))))) (fun k3347 => fn_retcv rl_D_fail_18 (fn_iload_n rl_D_readDay_103 rfl (fn_reti rl_D_readDay_104 rfl k3347))) k3349))))))) k3351))) k3354))))))) (fun k3355 => fn_iconst rl_L_isAmong_10 (fn_goto rl_L_isAmong_11 (fn_retci rl_L_isAmong_15 rfl (fn_retci rl_D_isDigit_8 rfl (fn_if_eq_f rl_D_readDay_70 (by decide +kernel) (fn_aload_n rl_D_readDay_73 rfl (fn_iconst rl_D_readDay_74 (fn_aload_n rl_D_readDay_75 rfl (fn_get rl_D_readDay_76 hp_21 rfl (fn_virt (as := [.ref 21, .int 1, .int (V 21 6)]) (r := []) (ls' := [.ref 21, .int 1, .int (V 21 6)]) rl_D_readDay_79 rfl hp_21 rfl rfl pl_D_fail rfl rfl (fn_aload_n rl_D_fail_0 rfl (fn_get rl_D_fail_1 hp_21 rfl (fn_if_ne rl_D_fail_4 (fun k3352 => fn_aload_n rl_D_fail_7 rfl (fn_sipush rl_D_fail_8 (fn_iload_n rl_D_fail_11 rfl (fn_imul rl_D_fail_12 (fn_iload_n rl_D_fail_13 rfl (fn_isub rl_D_fail_14 (fn_put rl_D_fail_15 hp_21 rfl hpv_21_7 (fn_retcv rl_D_fail_18 (fn_goto rl_D_readDay_82 (fn_iload_n rl_D_readDay_103 rfl (fn_reti rl_D_readDay_104 rfl k3352))))))))))) (fun k3353 => fn_retcv rl_D_fail_18 (fn_goto rl_D_readDay_82 (fn_iload_n rl_D_readDay_103 rfl (fn_reti rl_D_readDay_104 rfl k3353)))) k3355))))))))))))) k3357))) k3358)))))))))) k3360))))) k3362))))))) k3445)))))))))))))))))) (fun k3446 => fn_aload_n rl_D_sign_11 rfl (fn_get rl_D_sign_12 hp_21 rfl (fn_aload_n rl_D_sign_15 rfl (fn_get rl_D_sign_16 hp_21 rfl (fn_iald rl_D_sign_19 hp_20 (fun k3444 => fn_goto rl_D_sign_20 (fn_retci rl_D_sign_24 rfl (fn_stat (as := [.int ((A 20) (V 21 6).toNatClampNeg)]) (r := []) (ls' := [.int ((A 20) (V 21 6).toNatClampNeg)]) rl_D_readDay_20 rfl rfl rfl rfl pl_D_isDigit rfl rfl (fn_iload_n rl_D_isDigit_0 rfl (fn_bipush rl_D_isDigit_1 (fn_bipush rl_D_isDigit_3 (fn_stat (as := [.int ((A 20) (V 21 6).toNatClampNeg), .int 48, .int 57]) (r := []) (ls' := [.int ((A 20) (V 21 6).toNatClampNeg), .int 48, .int 57]) rl_D_isDigit_5 rfl rfl rfl rfl pl_L_isAmong rfl rfl (fn_iload_n rl_L_isAmong_0 rfl (fn_iload_n rl_L_isAmong_1 rfl (fn_icmp_lt rl_L_isAmong_2 (fun k3442 => fn_iconst rl_L_isAmong_14 (fn_retci rl_L_isAmong_15 rfl (fn_retci rl_D_isDigit_8 rfl (fn_if_eq_t rl_D_readDay_23 (by decide +kernel) (fn_aload_n rl_D_readDay_55 rfl (fn_get rl_D_readDay_56 hp_21 rfl (fn_iload_n rl_D_readDay_59 rfl (fn_icmp_eq rl_D_readDay_60 (fun k3398 => fn_aload_n rl_D_readDay_73 rfl (fn_iconst rl_D_readDay_74 (fn_aload_n rl_D_readDay_75 rfl (fn_get rl_D_readDay_76 hp_21 rfl (fn_virt (as := [.ref 21, .int 1, .int (V 21 6)]) (r := []) (ls' := [.ref 21, .int 1, .int (V 21 6)]) rl_D_readDay_79 rfl hp_21 rfl rfl pl_D_fail rfl rfl (fn_aload_n rl_D_fail_0 rfl (fn_get rl_D_fail_1 hp_21 rfl (fn_if_ne rl_D_fail_4 (fun k3363 => fn_aload_n rl_D_fail_7 rfl (fn_sipush rl_D_fail_8 (fn_iload_n rl_D_fail_11 rfl (fn_imul rl_D_fail_12 (fn_iload_n rl_D_fail_13 rfl (fn_isub rl_D_fail_14 (fn_put rl_D_fail_15 hp_21 rfl hpv_21_7 (fn_retcv rl_D_fail_18 (fn_goto rl_D_readDay_82 (fn_iload_n rl_D_readDay_103 rfl (fn_reti rl_D_readDay_104 rfl k3363))))))))))) (fun k3364 => fn_retcv rl_D_fail_18 (fn_goto rl_D_readDay_82 (fn_iload_n rl_D_readDay_103 rfl (fn_reti rl_D_readDay_104 rfl k3364)))) k3398)))))))) (fun k3399 => fn_aload_n rl_D_readDay_63 rfl (fn_virt (as := [.ref 21]) (r := []) (ls' := [.ref 21]) rl_D_readDay_64 rfl hp_21 rfl rfl pl_D_sign rfl rfl (fn_aload_n rl_D_sign_0 rfl (fn_get rl_D_sign_1 hp_21 rfl (fn_aload_n rl_D_sign_4 rfl (fn_get rl_D_sign_5 hp_21 rfl (fn_icmp_ge rl_D_sign_8 (fun k3396 => fn_iconst rl_D_sign_23 (fn_retci rl_D_sign_24 rfl (fn_stat (as := [.int (-1)]) (r := []) (ls' := [.int (-1)]) rl_D_readDay_67 rfl rfl rfl rfl pl_D_isDigit rfl rfl (fn_iload_n rl_D_isDigit_0 rfl (fn_bipush rl_D_isDigit_1 (fn_bipush rl_D_isDigit_3 (fn_stat (as := [.int (-1), .int 48, .int 57]) (r := []) (ls' := [.int (-1), .int 48, .int 57]) rl_D_isDigit_5 rfl rfl rfl rfl pl_L_isAmong rfl rfl (fn_iload_n rl_L_isAmong_0 rfl (fn_iload_n rl_L_isAmong_1 rfl (fn_icmp_lt_t rl_L_isAmong_2 (by decide +kernel) (fn_iconst rl_L_isAmong_14 (fn_retci rl_L_isAmong_15 rfl (fn_retci rl_D_isDigit_8 rfl (fn_if_eq_t rl_D_readDay_70 (by decide +kernel) (fn_iload_n rl_D_readDay_85 rfl (fn_sipush rl_D_readDay_86 (fn_icmp_ge rl_D_readDay_89 (fun k3371 => fn_aload_n rl_D_readDay_97 rfl (fn_iconst rl_D_readDay_98 (fn_iload_n rl_D_readDay_99 rfl (fn_virt (as := [.ref 21, .int 2, .int v2]) (r := []) (ls' := [.ref 21, .int 2, .int v2]) rl_D_readDay_100 rfl hp_21 rfl rfl pl_D_fail rfl rfl (fn_aload_n rl_D_fail_0 rfl (fn_get rl_D_fail_1 hp_21 rfl (fn_if_ne rl_D_fail_4 (fun k3365 => fn_aload_n rl_D_fail_7 rfl (fn_sipush rl_D_fail_8 (fn_iload_n rl_D_fail_11 rfl (fn_imul rl_D_fail_12 (fn_iload_n rl_D_fail_13 rfl (fn_isub rl_D_fail_14 (fn_put rl_D_fail_15 hp_21 rfl hpv_21_7 (fn_retcv rl_D_fail_18 (fn_iload_n rl_D_readDay_103 rfl (fn_reti rl_D_readDay_104 rfl k3365)))))))))) (fun k3366 => fn_retcv rl_D_fail_18 (fn_iload_n rl_D_readDay_103 rfl (fn_reti rl_D_readDay_104 rfl k3366))) k3371))))))) (fun k3372 => fn_iload_n rl_D_readDay_92 rfl (fn_iload_n rl_D_readDay_93 rfl (fn_icmp_ge rl_D_readDay_94 (fun k3369 => fn_iload_n rl_D_readDay_103 rfl (fn_reti rl_D_readDay_104 rfl k3369)) (fun k3370 => fn_aload_n rl_D_readDay_97 rfl (fn_iconst rl_D_readDay_98 (fn_iload_n rl_D_readDay_99 rfl (fn_virt (as := [.ref 21, .int 2, .int v2]) (r := []) (ls' := [.ref 21, .int 2, .int v2]) rl_D_readDay_100 rfl hp_21 rfl rfl pl_D_fail rfl rfl (fn_aload_n rl_D_fail_0 rfl (fn_get rl_D_fail_1 hp_21 rfl (fn_if_ne rl_D_fail_4 (fun k3367 => fn_aload_n rl_D_fail_7 rfl (fn_sipush rl_D_fail_8 (fn_iload_n rl_D_fail_11 rfl (fn_imul rl_D_fail_12 (fn_iload_n rl_D_fail_13 rfl (fn_isub rl_D_fail_14 (fn_put rl_D_fail_15 hp_21 rfl hpv_21_7 (fn_retcv rl_D_fail_18 (fn_iload_n rl_D_readDay_103 rfl (fn_reti rl_D_readDay_104 rfl k3367)))))))))) (fun k3368 => fn_retcv rl_D_fail_18 (fn_iload_n rl_D_readDay_103 rfl (fn_reti rl_D_readDay_104 rfl k3368))) k3370))))))) k3372))) k3396))))))))))))))))) (fun k3397 => fn_aload_n rl_D_sign_11 rfl (fn_get rl_D_sign_12 hp_21 rfl (fn_aload_n rl_D_sign_15 rfl (fn_get rl_D_sign_16 hp_21 rfl (fn_iald rl_D_sign_19 hp_20 (fun k3395 => fn_goto rl_D_sign_20 (fn_retci rl_D_sign_24 rfl (fn_stat (as := [.int ((A 20) (V 21 6).toNatClampNeg)]) (r := []) (ls' := [.int ((A 20) (V 21 6).toNatClampNeg)]) rl_D_readDay_67 rfl rfl rfl rfl pl_D_isDigit rfl rfl (fn_iload_n rl_D_isDigit_0 rfl (fn_bipush rl_D_isDigit_1 (fn_bipush rl_D_isDigit_3 (fn_stat (as := [.int ((A 20) (V 21 6).toNatClampNeg), .int 48, .int 57]) (r := []) (ls' := [.int ((A 20) (V 21 6).toNatClampNeg), .int 48, .int 57]) rl_D_isDigit_5 rfl rfl rfl rfl pl_L_isAmong rfl rfl (fn_iload_n rl_L_isAmong_0 rfl (fn_iload_n rl_L_isAmong_1 rfl (fn_icmp_lt rl_L_isAmong_2 (fun k3393 => fn_iconst rl_L_isAmong_14 (fn_retci rl_L_isAmong_15 rfl (fn_retci rl_D_isDigit_8 rfl (fn_if_eq_t rl_D_readDay_70 (by decide +kernel) (fn_iload_n rl_D_readDay_85 rfl (fn_sipush rl_D_readDay_86 (fn_icmp_ge rl_D_readDay_89 (fun k3379 => fn_aload_n rl_D_readDay_97 rfl (fn_iconst rl_D_readDay_98 (fn_iload_n rl_D_readDay_99 rfl (fn_virt (as := [.ref 21, .int 2, .int v2]) (r := []) (ls' := [.ref 21, .int 2, .int v2]) rl_D_readDay_100 rfl hp_21 rfl rfl pl_D_fail rfl rfl (fn_aload_n rl_D_fail_0 rfl (fn_get rl_D_fail_1 hp_21 rfl (fn_if_ne rl_D_fail_4 (fun k3373 => fn_aload_n rl_D_fail_7 rfl (fn_sipush rl_D_fail_8 (fn_iload_n rl_D_fail_11 rfl (fn_imul rl_D_fail_12 (fn_iload_n rl_D_fail_13 rfl (fn_isub rl_D_fail_14 (fn_put rl_D_fail_15 hp_21 rfl hpv_21_7 (fn_retcv rl_D_fail_18 (fn_iload_n rl_D_readDay_103 rfl (fn_reti rl_D_readDay_104 rfl k3373)))))))))) (fun k3374 => fn_retcv rl_D_fail_18 (fn_iload_n rl_D_readDay_103 rfl (fn_reti rl_D_readDay_104 rfl k3374))) k3379))))))) (fun k3380 => fn_iload_n rl_D_readDay_92 rfl (fn_iload_n rl_D_readDay_93 rfl (fn_icmp_ge rl_D_readDay_94 (fun k3377 => fn_iload_n rl_D_readDay_103 rfl (fn_reti rl_D_readDay_104 rfl k3377)) (fun k3378 => fn_aload_n rl_D_readDay_97 rfl (fn_iconst rl_D_readDay_98 (fn_iload_n rl_D_readDay_99 rfl (fn_virt (as := [.ref 21, .int 2, .int v2]) (r := []) (ls' := [.ref 21, .int 2, .int v2]) rl_D_readDay_100 rfl hp_21 rfl rfl pl_D_fail rfl rfl (fn_aload_n rl_D_fail_0 rfl (fn_get rl_D_fail_1 hp_21 rfl (fn_if_ne rl_D_fail_4 (fun k3375 => fn_aload_n rl_D_fail_7 rfl (fn_sipush rl_D_fail_8 (fn_iload_n rl_D_fail_11 rfl (fn_imul rl_D_fail_12 (fn_iload_n rl_D_fail_13 rfl (fn_isub rl_D_fail_14 (fn_put rl_D_fail_15 hp_21 rfl hpv_21_7 (fn_retcv rl_D_fail_18 (fn_iload_n rl_D_readDay_103 rfl (fn_reti rl_D_readDay_104 rfl k3375)))))))))) (fun k3376 => fn_retcv rl_D_fail_18 (fn_iload_n rl_D_readDay_103 rfl (fn_reti rl_D_readDay_104 rfl k3376))) k3378))))))) k3380))) k3393))))))) (fun k3394 => fn_iload_n rl_L_isAmong_5 rfl (fn_iload_n rl_L_isAmong_6 rfl (fn_icmp_gt rl_L_isAmong_7 (fun k3391 => fn_iconst rl_L_isAmong_14 (fn_retci rl_L_isAmong_15 rfl (fn_retci rl_D_isDigit_8 rfl (fn_if_eq_t rl_D_readDay_70 (by decide +kernel) (fn_iload_n rl_D_readDay_85 rfl (fn_sipush rl_D_readDay_86 (fn_icmp_ge rl_D_readDay_89 (fun k3387 => fn_aload_n rl_D_readDay_97 rfl (fn_iconst rl_D_readDay_98 (fn_iload_n rl_D_readDay_99 rfl (fn_virt (as := [.ref 21, .int 2, .int v2]) (r := []) (ls' := [.ref 21, .int 2, .int v2]) rl_D_readDay_100 rfl hp_21 rfl rfl pl_D_fail rfl rfl (fn_aload_n rl_D_fail_0 rfl (fn_get rl_D_fail_1 hp_21 rfl (fn_if_ne rl_D_fail_4 (fun k3381 => fn_aload_n rl_D_fail_7 rfl (fn_sipush rl_D_fail_8 (fn_iload_n rl_D_fail_11 rfl (fn_imul rl_D_fail_12 (fn_iload_n rl_D_fail_13 rfl (fn_isub rl_D_fail_14 (fn_put rl_D_fail_15 hp_21 rfl hpv_21_7 (fn_retcv rl_D_fail_18 (fn_iload_n rl_D_readDay_103 rfl (fn_reti rl_D_readDay_104 rfl k3381)))))))))) (fun k3382 => fn_retcv rl_D_fail_18 (fn_iload_n rl_D_readDay_103 rfl (fn_reti rl_D_readDay_104 rfl k3382))) k3387))))))) (fun k3388 => fn_iload_n rl_D_readDay_92 rfl (fn_iload_n rl_D_readDay_93 rfl (fn_icmp_ge rl_D_readDay_94 (fun k3385 => fn_iload_n rl_D_readDay_103 rfl (fn_reti rl_D_readDay_104 rfl k3385)) (fun k3386 => fn_aload_n rl_D_readDay_97 rfl (fn_iconst rl_D_readDay_98 (fn_iload_n rl_D_readDay_99 rfl (fn_virt (as := [.ref 21, .int 2, .int v2]) (r := []) (ls' := [.ref 21, .int 2, .int v2]) rl_D_readDay_100 rfl hp_21 rfl rfl pl_D_fail rfl rfl (fn_aload_n rl_D_fail_0 rfl (fn_get rl_D_fail_1 hp_21 rfl (fn_if_ne rl_D_fail_4 (fun k3383 => fn_aload_n rl_D_fail_7 rfl (fn_sipush rl_D_fail_8 (fn_iload_n rl_D_fail_11 rfl (fn_imul rl_D_fail_12 (fn_iload_n rl_D_fail_13 rfl (fn_isub rl_D_fail_14 (fn_put rl_D_fail_15 hp_21 rfl hpv_21_7 (fn_retcv rl_D_fail_18 (fn_iload_n rl_D_readDay_103 rfl (fn_reti rl_D_readDay_104 rfl k3383)))))))))) (fun k3384 => fn_retcv rl_D_fail_18 (fn_iload_n rl_D_readDay_103 rfl (fn_reti rl_D_readDay_104 rfl k3384))) k3386))))))) k3388))) k3391))))))) (fun k3392 => fn_iconst rl_L_isAmong_10 (fn_goto rl_L_isAmong_11 (fn_retci rl_L_isAmong_15 rfl (fn_retci rl_D_isDigit_8 rfl (fn_if_eq_f rl_D_readDay_70 (by decide +kernel) (fn_aload_n rl_D_readDay_73 rfl (fn_iconst rl_D_readDay_74 (fn_aload_n rl_D_readDay_75 rfl (fn_get rl_D_readDay_76 hp_21 rfl (fn_virt (as := [.ref 21, .int 1, .int (V 21 6)]) (r := []) (ls' := [.ref 21, .int 1, .int (V 21 6)]) rl_D_readDay_79 rfl hp_21 rfl rfl pl_D_fail rfl rfl (fn_aload_n rl_D_fail_0 rfl (fn_get rl_D_fail_1 hp_21 rfl (fn_if_ne rl_D_fail_4 (fun k3389 => fn_aload_n rl_D_fail_7 rfl (fn_sipush rl_D_fail_8 (fn_iload_n rl_D_fail_11 rfl (fn_imul rl_D_fail_12 (fn_iload_n rl_D_fail_13 rfl (fn_isub rl_D_fail_14 (fn_put rl_D_fail_15 hp_21 rfl hpv_21_7 (fn_retcv rl_D_fail_18 (fn_goto rl_D_readDay_82 (fn_iload_n rl_D_readDay_103 rfl (fn_reti rl_D_readDay_104 rfl k3389))))))))))) (fun k3390 => fn_retcv rl_D_fail_18 (fn_goto rl_D_readDay_82 (fn_iload_n rl_D_readDay_103 rfl (fn_reti rl_D_readDay_104 rfl k3390)))) k3392))))))))))))) k3394))) k3395)))))))))) k3397))))) k3399))))))) k3442)))))))) (fun k3443 => fn_iload_n rl_L_isAmong_5 rfl (fn_iload_n rl_L_isAmong_6 rfl (fn_icmp_gt rl_L_isAmong_7 (fun k3440 => fn_iconst rl_L_isAmong_14 (fn_retci rl_L_isAmong_15 rfl (fn_retci rl_D_isDigit_8 rfl (fn_if_eq_t rl_D_readDay_23 (by decide +kernel) (fn_aload_n rl_D_readDay_55 rfl (fn_get rl_D_readDay_56 hp_21 rfl (fn_iload_n rl_D_readDay_59 rfl (fn_icmp_eq rl_D_readDay_60 (fun k3435 => fn_aload_n rl_D_readDay_73 rfl (fn_iconst rl_D_readDay_74 (fn_aload_n rl_D_readDay_75 rfl (fn_get rl_D_readDay_76 hp_21 rfl (fn_virt (as := [.ref 21, .int 1, .int (V 21 6)]) (r := []) (ls' := [.ref 21, .int 1, .int (V 21 6)]) rl_D_readDay_79 rfl hp_21 rfl rfl pl_D_fail rfl rfl (fn_aload_n rl_D_fail_0 rfl (fn_get rl_D_fail_1 hp_21 rfl (fn_if_ne rl_D_fail_4 (fun k3400 => fn_aload_n rl_D_fail_7 rfl (fn_sipush rl_D_fail_8 (fn_iload_n rl_D_fail_11 rfl (fn_imul rl_D_fail_12 (fn_iload_n rl_D_fail_13 rfl (fn_isub rl_D_fail_14 (fn_put rl_D_fail_15 hp_21 rfl hpv_21_7 (fn_retcv rl_D_fail_18 (fn_goto rl_D_readDay_82 (fn_iload_n rl_D_readDay_103 rfl (fn_reti rl_D_readDay_104 rfl k3400))))))))))) (fun k3401 => fn_retcv rl_D_fail_18 (fn_goto rl_D_readDay_82 (fn_iload_n rl_D_readDay_103 rfl (fn_reti rl_D_readDay_104 rfl k3401)))) k3435)))))))) (fun k3436 => fn_aload_n rl_D_readDay_63 rfl (fn_virt (as := [.ref 21]) (r := []) (ls' := [.ref 21]) rl_D_readDay_64 rfl hp_21 rfl rfl pl_D_sign rfl rfl (fn_aload_n rl_D_sign_0 rfl (fn_get rl_D_sign_1 hp_21 rfl (fn_aload_n rl_D_sign_4 rfl (fn_get rl_D_sign_5 hp_21 rfl (fn_icmp_ge rl_D_sign_8 (fun k3433 => fn_iconst rl_D_sign_23 (fn_retci rl_D_sign_24 rfl (fn_stat (as := [.int (-1)]) (r := []) (ls' := [.int (-1)]) rl_D_readDay_67 rfl rfl rfl rfl pl_D_isDigit rfl rfl (fn_iload_n rl_D_isDigit_0 rfl (fn_bipush rl_D_isDigit_1 (fn_bipush rl_D_isDigit_3 (fn_stat (as := [.int (-1), .int 48, .int 57]) (r := []) (ls' := [.int (-1), .int 48, .int 57]) rl_D_isDigit_5 rfl rfl rfl rfl pl_L_isAmong rfl rfl (fn_iload_n rl_L_isAmong_0 rfl (fn_iload_n rl_L_isAmong_1 rfl (fn_icmp_lt_t rl_L_isAmong_2 (by decide +kernel) (fn_iconst rl_L_isAmong_14 (fn_retci rl_L_isAmong_15 rfl (fn_retci rl_D_isDigit_8 rfl (fn_if_eq_t rl_D_readDay_70 (by decide +kernel) (fn_iload_n rl_D_readDay_85 rfl (fn_sipush rl_D_readDay_86 (fn_icmp_ge rl_D_readDay_89 (fun k3408 => fn_aload_n rl_D_readDay_97 rfl (fn_iconst rl_D_readDay_98 (fn_iload_n rl_D_readDay_99 rfl (fn_virt (as := [.ref 21, .int 2, .int v2]) (r := []) (ls' := [.ref 21, .int 2, .int v2]) rl_D_readDay_100 rfl hp_21 rfl rfl pl_D_fail rfl rfl (fn_aload_n rl_D_fail_0 rfl (fn_get rl_D_fail_1 hp_21 rfl (fn_if_ne rl_D_fail_4 (fun k3402 => fn_aload_n rl_D_fail_7 rfl (fn_sipush rl_D_fail_8 (fn_iload_n rl_D_fail_11 rfl (fn_imul rl_D_fail_12 (fn_iload_n rl_D_fail_13 rfl (fn_isub rl_D_fail_14 (fn_put rl_D_fail_15 hp_21 rfl hpv_21_7 (fn_retcv rl_D_fail_18 (fn_iload_n rl_D_readDay_103 rfl (fn_reti rl_D_readDay_104 rfl k3402)))))))))) (fun k3403 => fn_retcv rl_D_fail_18 (fn_iload_n rl_D_readDay_103 rfl (fn_reti rl_D_readDay_104 rfl k3403))) k3408))))))) (fun k3409 => fn_iload_n rl_D_readDay_92 rfl (fn_iload_n rl_D_readDay_93 rfl (fn_icmp_ge rl_D_readDay_94 (fun k3406 => fn_iload_n rl_D_readDay_103 rfl (fn_reti rl_D_readDay_104 rfl k3406)) (fun k3407 => fn_aload_n rl_D_readDay_97 rfl (fn_iconst rl_D_readDay_98 (fn_iload_n rl_D_readDay_99 rfl (fn_virt (as := [.ref 21, .int 2, .int v2]) (r := []) (ls' := [.ref 21, .int 2, .int v2]) rl_D_readDay_100 rfl hp_21 rfl rfl pl_D_fail rfl rfl (fn_aload_n rl_D_fail_0 rfl (fn_get rl_D_fail_1 hp_21 rfl (fn_if_ne rl_D_fail_4 (fun k3404 => fn_aload_n rl_D_fail_7 rfl (fn_sipush rl_D_fail_8 (fn_iload_n rl_D_fail_11 rfl (fn_imul rl_D_fail_12 (fn_iload_n rl_D_fail_13 rfl (fn_isub rl_D_fail_14 (fn_put rl_D_fail_15 hp_21 rfl hpv_21_7 (fn_retcv rl_D_fail_18 (fn_iload_n rl_D_readDay_103 rfl (fn_reti rl_D_readDay_104 rfl k3404)))))))))) (fun k3405 => fn_retcv rl_D_fail_18 (fn_iload_n rl_D_readDay_103 rfl (fn_reti rl_D_readDay_104 rfl k3405))) k3407))))))) k3409))) k3433))))))))))))))))) (fun k3434 => fn_aload_n rl_D_sign_11 rfl (fn_get rl_D_sign_12 hp_21 rfl (fn_aload_n rl_D_sign_15 rfl (fn_get rl_D_sign_16 hp_21 rfl (fn_iald rl_D_sign_19 hp_20 (fun k3432 => fn_goto rl_D_sign_20 (fn_retci rl_D_sign_24 rfl (fn_stat (as := [.int ((A 20) (V 21 6).toNatClampNeg)]) (r := []) (ls' := [.int ((A 20) (V 21 6).toNatClampNeg)]) rl_D_readDay_67 rfl rfl rfl rfl pl_D_isDigit rfl rfl (fn_iload_n rl_D_isDigit_0 rfl (fn_bipush rl_D_isDigit_1 (fn_bipush rl_D_isDigit_3 (fn_stat (as := [.int ((A 20) (V 21 6).toNatClampNeg), .int 48, .int 57]) (r := []) (ls' := [.int ((A 20) (V 21 6).toNatClampNeg), .int 48, .int 57]) rl_D_isDigit_5 rfl rfl rfl rfl pl_L_isAmong rfl rfl (fn_iload_n rl_L_isAmong_0 rfl (fn_iload_n rl_L_isAmong_1 rfl (fn_icmp_lt rl_L_isAmong_2 (fun k3430 => fn_iconst rl_L_isAmong_14 (fn_retci rl_L_isAmong_15 rfl (fn_retci rl_D_isDigit_8 rfl (fn_if_eq_t rl_D_readDay_70 (by decide +kernel) (fn_iload_n rl_D_readDay_85 rfl (fn_sipush rl_D_readDay_86 (fn_icmp_ge rl_D_readDay_89 (fun k3416 => fn_aload_n rl_D_readDay_97 rfl (fn_iconst rl_D_readDay_98 (fn_iload_n rl_D_readDay_99 rfl (fn_virt (as := [.ref 21, .int 2, .int v2]) (r := []) (ls' := [.ref 21, .int 2, .int v2]) rl_D_readDay_100 rfl hp_21 rfl rfl pl_D_fail rfl rfl (fn_aload_n rl_D_fail_0 rfl (fn_get rl_D_fail_1 hp_21 rfl (fn_if_ne rl_D_fail_4 (fun k3410 => fn_aload_n rl_D_fail_7 rfl (fn_sipush rl_D_fail_8 (fn_iload_n rl_D_fail_11 rfl (fn_imul rl_D_fail_12 (fn_iload_n rl_D_fail_13 rfl (fn_isub rl_D_fail_14 (fn_put rl_D_fail_15 hp_21 rfl hpv_21_7 (fn_retcv rl_D_fail_18 (fn_iload_n rl_D_readDay_103 rfl (fn_reti rl_D_readDay_104 rfl k3410)))))))))) (fun k3411 => fn_retcv rl_D_fail_18 (fn_iload_n rl_D_readDay_103 rfl (fn_reti rl_D_readDay_104 rfl k3411))) k3416))))))) (fun k3417 => fn_iload_n rl_D_readDay_92 rfl (fn_iload_n rl_D_readDay_93 rfl (fn_icmp_ge rl_D_readDay_94 (fun k3414 => fn_iload_n rl_D_readDay_103 rfl (fn_reti rl_D_readDay_104 rfl k3414)) (fun k3415 => fn_aload_n rl_D_readDay_97 rfl (fn_iconst rl_D_readDay_98 (fn_iload_n rl_D_readDay_99 rfl (fn_virt (as := [.ref 21, .int 2, .int v2]) (r := []) (ls' := [.ref 21, .int 2, .int v2]) rl_D_readDay_100 rfl hp_21 rfl rfl pl_D_fail rfl rfl (fn_aload_n rl_D_fail_0 rfl (fn_get rl_D_fail_1 hp_21 rfl (fn_if_ne rl_D_fail_4 (fun k3412 => fn_aload_n rl_D_fail_7 rfl (fn_sipush rl_D_fail_8 (fn_iload_n rl_D_fail_11 rfl (fn_imul rl_D_fail_12 (fn_iload_n rl_D_fail_13 rfl (fn_isub rl_D_fail_14 (fn_put rl_D_fail_15 hp_21 rfl hpv_21_7 (fn_retcv rl_D_fail_18 (fn_iload_n rl_D_readDay_103 rfl (fn_reti rl_D_readDay_104 rfl k3412)))))))))) (fun k3413 => fn_retcv rl_D_fail_18 (fn_iload_n rl_D_readDay_103 rfl (fn_reti rl_D_readDay_104 rfl k3413))) k3415))))))) k3417))) k3430))))))) (fun k3431 => fn_iload_n rl_L_isAmong_5 rfl (fn_iload_n rl_L_isAmong_6 rfl (fn_icmp_gt rl_L_isAmong_7 (fun k3428 => fn_iconst rl_L_isAmong_14 (fn_retci rl_L_isAmong_15 rfl (fn_retci rl_D_isDigit_8 rfl (fn_if_eq_t rl_D_readDay_70 (by decide +kernel) (fn_iload_n rl_D_readDay_85 rfl (fn_sipush rl_D_readDay_86 (fn_icmp_ge rl_D_readDay_89 (fun k3424 => fn_aload_n rl_D_readDay_97 rfl (fn_iconst rl_D_readDay_98 (fn_iload_n rl_D_readDay_99 rfl (fn_virt (as := [.ref 21, .int 2, .int v2]) (r := []) (ls' := [.ref 21, .int 2, .int v2]) rl_D_readDay_100 rfl hp_21 rfl rfl pl_D_fail rfl rfl (fn_aload_n rl_D_fail_0 rfl (fn_get rl_D_fail_1 hp_21 rfl (fn_if_ne rl_D_fail_4 (fun k3418 => fn_aload_n rl_D_fail_7 rfl (fn_sipush rl_D_fail_8 (fn_iload_n rl_D_fail_11 rfl (fn_imul rl_D_fail_12 (fn_iload_n rl_D_fail_13 rfl (fn_isub rl_D_fail_14 (fn_put rl_D_fail_15 hp_21 rfl hpv_21_7 (fn_retcv rl_D_fail_18 (fn_iload_n rl_D_readDay_103 rfl (fn_reti rl_D_readDay_104 rfl k3418)))))))))) (fun k3419 => fn_retcv rl_D_fail_18 (fn_iload_n rl_D_readDay_103 rfl (fn_reti rl_D_readDay_104 rfl k3419))) k3424))))))) (fun k3425 => fn_iload_n rl_D_readDay_92 rfl (fn_iload_n rl_D_readDay_93 rfl (fn_icmp_ge rl_D_readDay_94 (fun k3422 => fn_iload_n rl_D_readDay_103 rfl (fn_reti rl_D_readDay_104 rfl k3422)) (fun k3423 => fn_aload_n rl_D_readDay_97 rfl (fn_iconst rl_D_readDay_98 (fn_iload_n rl_D_readDay_99 rfl (fn_virt (as := [.ref 21, .int 2, .int v2]) (r := []) (ls' := [.ref 21, .int 2, .int v2]) rl_D_readDay_100 rfl hp_21 rfl rfl pl_D_fail rfl rfl (fn_aload_n rl_D_fail_0 rfl (fn_get rl_D_fail_1 hp_21 rfl (fn_if_ne rl_D_fail_4 (fun k3420 => fn_aload_n rl_D_fail_7 rfl (fn_sipush rl_D_fail_8 (fn_iload_n rl_D_fail_11 rfl (fn_imul rl_D_fail_12 (fn_iload_n rl_D_fail_13 rfl (fn_isub rl_D_fail_14 (fn_put rl_D_fail_15 hp_21 rfl hpv_21_7 (fn_retcv rl_D_fail_18 (fn_iload_n rl_D_readDay_103 rfl (fn_reti rl_D_readDay_104 rfl k3420)))))))))) (fun k3421 => fn_retcv rl_D_fail_18 (fn_iload_n rl_D_readDay_103 rfl (fn_reti rl_D_readDay_104 rfl k3421))) k3423))))))) k3425))) k3428))))))) (fun k3429 => fn_iconst rl_L_isAmong_10 (fn_goto rl_L_isAmong_11 (fn_retci rl_L_isAmong_15 rfl (fn_retci rl_D_isDigit_8 rfl (fn_if_eq_f rl_D_readDay_70 (by decide +kernel) (fn_aload_n rl_D_readDay_73 rfl (fn_iconst rl_D_readDay_74 (fn_aload_n rl_D_readDay_75 rfl (fn_get rl_D_readDay_76 hp_21 rfl (fn_virt (as := [.ref 21, .int 1, .int (V 21 6)]) (r := []) (ls' := [.ref 21, .int 1, .int (V 21 6)]) rl_D_readDay_79 rfl hp_21 rfl rfl pl_D_fail rfl rfl (fn_aload_n rl_D_fail_0 rfl (fn_get rl_D_fail_1 hp_21 rfl (fn_if_ne rl_D_fail_4 (fun k3426 => fn_aload_n rl_D_fail_7 rfl (fn_sipush rl_D_fail_8 (fn_iload_n rl_D_fail_11 rfl (fn_imul rl_D_fail_12 (fn_iload_n rl_D_fail_13 rfl (fn_isub rl_D_fail_14 (fn_put rl_D_fail_15 hp_21 rfl hpv_21_7 (fn_retcv rl_D_fail_18 (fn_goto rl_D_readDay_82 (fn_iload_n rl_D_readDay_103 rfl (fn_reti rl_D_readDay_104 rfl k3426))))))))))) (fun k3427 => fn_retcv rl_D_fail_18 (fn_goto rl_D_readDay_82 (fn_iload_n rl_D_readDay_103 rfl (fn_reti rl_D_readDay_104 rfl k3427)))) k3429))))))))))))) k3431))) k3432)))))))))) k3434))))) k3436))))))) k3440)))))))) (fun k3441 => fn_iconst rl_L_isAmong_10 (fn_goto rl_L_isAmong_11 (fn_retci rl_L_isAmong_15 rfl (fn_retci rl_D_isDigit_8 rfl (fn_if_eq_f rl_D_readDay_23 (by decide +kernel) (fn_iload_n rl_D_readDay_26 rfl (fn_bipush rl_D_readDay_27 (fn_imul rl_D_readDay_29 (fn_aload_n rl_D_readDay_30 rfl (fn_virt (as := [.ref 21]) (r := [.int (v3 * 10)]) (ls' := [.ref 21]) rl_D_readDay_31 rfl hp_21 rfl rfl pl_D_sign rfl rfl (fn_aload_n rl_D_sign_0 rfl (fn_get rl_D_sign_1 hp_21 rfl (fn_aload_n rl_D_sign_4 rfl (fn_get rl_D_sign_5 hp_21 rfl (fn_icmp_ge rl_D_sign_8 (fun k3438 => fn_iconst rl_D_sign_23 (fn_retci rl_D_sign_24 rfl (fn_iadd rl_D_readDay_34 (fn_bipush rl_D_readDay_35 (fn_isub rl_D_readDay_37 (fn_istore_n (ls' := [.ref 21, .int v1, .int v2, .int (((v3 * 10) + (-1)) - 48), .int v4]) rl_D_readDay_38 rfl rfl (fn_aload_n rl_D_readDay_39 rfl (fn_dup_ref rl_D_readDay_40 (fn_get rl_D_readDay_41 hp_21 rfl (fn_iconst rl_D_readDay_44 (fn_iadd rl_D_readDay_45 (fn_put rl_D_readDay_46 hp_21 rfl hpv_21_6 (fn_iinc (ls' := [.ref 21, .int v1, .int v2, .int (((v3 * 10) + (-1)) - 48), .int (v4 + 1)]) rl_D_readDay_49 rfl rfl rfl (fn_goto rl_D_readDay_52 (k3438))))))))))))))) (fun k3439 => fn_aload_n rl_D_sign_11 rfl (fn_get rl_D_sign_12 hp_21 rfl (fn_aload_n rl_D_sign_15 rfl (fn_get rl_D_sign_16 hp_21 rfl (fn_iald rl_D_sign_19 hp_20 (fun k3437 => fn_goto rl_D_sign_20 (fn_retci rl_D_sign_24 rfl (fn_iadd rl_D_readDay_34 (fn_bipush rl_D_readDay_35 (fn_isub rl_D_readDay_37 (fn_istore_n (ls' := [.ref 21, .int v1, .int v2, .int (((v3 * 10) + ((A 20) (V 21 6).toNatClampNeg)) - 48), .int v4]) rl_D_readDay_38 rfl rfl (fn_aload_n rl_D_readDay_39 rfl (fn_dup_ref rl_D_readDay_40 (fn_get rl_D_readDay_41 hp_21 rfl (fn_iconst rl_D_readDay_44 (fn_iadd rl_D_readDay_45 (fn_put rl_D_readDay_46 hp_21 rfl hpv_21_6 (fn_iinc (ls' := [.ref 21, .int v1, .int v2, .int (((v3 * 10) + ((A 20) (V 21 6).toNatClampNeg)) - 48), .int (v4 + 1)]) rl_D_readDay_49 rfl rfl rfl (fn_goto rl_D_readDay_52 (k3437))))))))))))))) k3439))))) k3441))))))))))))))) k3443))) k3444)))))))))) k3446))))) k3448))))))) k0))
set_option maxRecDepth 100000 in
set_option maxHeartbeats 4000000 in
theorem sg_E_putNumber_0 {L : Nat} {xs : Nat → Int32} {A V : Nat → Nat → Int32} {K : Nat → Option Nat} {T : am_H} {v : Option Int32} {h' : am_H} {a1 : Int32} (k0 :
    am_fin [(z_E_putNumber, 4, [.ref 25, .int a1, .int 1000], [])] (hp L xs A V K T) v h') : am_fin [(z_E_putNumber, 0, [.ref 25, .int a1, .null], [])] (hp L xs A V K T) v h' :=
  fn_sipush rl_E_putNumber_0 (fn_istore_n (ls' := [.ref 25, .int a1, .int 1000]) rl_E_putNumber_3 rfl rfl (k0))
set_option maxRecDepth 100000 in
set_option maxHeartbeats 4000000 in
theorem sg_E_putNumber_4 {L : Nat} {xs : Nat → Int32} {A V : Nat → Nat → Int32} {K : Nat → Option Nat} {T : am_H} {v : Option Int32} {h' : am_H} {v1 v2 : Int32} (k0 :
    if v2 < 1 then (
      v = none ∧ h' = hp L xs A V K T)
    else (
      if v2 ≤ v1 then (
        ¬ v2 = 0 ∧ (
        if (V 25 0) = (V 25 1) then (
          am_fin [(z_E_putNumber, 4, [.ref 25, .int v1, .int (v2 / 10)], [])] (hp L xs A (upV (upV V 25 2 (48 + ((v1 / v2) - (v1 / v2) / 10 * 10))) 25 0 (((upV V 25 2 (48 + ((v1 / v2) - (v1 / v2) / 10 * 10))) 25 0) + 1)) K T) v h')
        else (
          am_fin [(z_E_putNumber, 4, [.ref 25, .int v1, .int (v2 / 10)], [])] (hp L xs A (upV V 25 0 ((V 25 0) + 1)) K T) v h')))
      else (
        if v2 = 1 then (
          ¬ v2 = 0 ∧ (
          if (V 25 0) = (V 25 1) then (
            am_fin [(z_E_putNumber, 4, [.ref 25, .int v1, .int (v2 / 10)], [])] (hp L xs A (upV (upV V 25 2 (48 + ((v1 / v2) - (v1 / v2) / 10 * 10))) 25 0 (((upV V 25 2 (48 + ((v1 / v2) - (v1 / v2) / 10 * 10))) 25 0) + 1)) K T) v h')
          else (
            am_fin [(z_E_putNumber, 4, [.ref 25, .int v1, .int (v2 / 10)], [])] (hp L xs A (upV V 25 0 ((V 25 0) + 1)) K T) v h')))
        else (
          am_fin [(z_E_putNumber, 4, [.ref 25, .int v1, .int (v2 / 10)], [])] (hp L xs A V K T) v h')))) : am_fin [(z_E_putNumber, 4, [.ref 25, .int v1, .int v2], [])] (hp L xs A V K T) v h' :=
  fn_iload_n rl_E_putNumber_4 rfl (fn_iconst rl_E_putNumber_5 (fn_icmp_lt rl_E_putNumber_6 (fun k3457 => fn_retv rl_E_putNumber_40 k3457) (fun k3458 => fn_iload_n rl_E_putNumber_9 rfl (fn_iload_n rl_E_putNumber_10 rfl (fn_icmp_ge rl_E_putNumber_11 (fun k3455 => fn_aload_n rl_E_putNumber_19 rfl (fn_bipush rl_E_putNumber_20 (fn_iload_n rl_E_putNumber_22 rfl (fn_iload_n rl_E_putNumber_23 rfl (fn_idiv rl_E_putNumber_24 k3455.1 (fn_bipush rl_E_putNumber_25 (fn_irem rl_E_putNumber_27 (by decide +kernel) (fn_iadd rl_E_putNumber_28 (fn_virt (as := [.ref 25, .int (48 + ((v1 / v2) - (v1 / v2) / 10 * 10))]) (r := []) (ls' := [.ref 25, .int (48 + ((v1 / v2) - (v1 / v2) / 10 * 10))]) rl_E_putNumber_29 rfl hp_25 rfl rfl pl_E_putSign rfl rfl (fn_aload_n rl_E_putSign_0 rfl (fn_get rl_E_putSign_1 hp_25 rfl (fn_aload_n rl_E_putSign_4 rfl (fn_get rl_E_putSign_5 hp_25 rfl (fn_icmp_ne rl_E_putSign_8 (fun k3449 => fn_aload_n rl_E_putSign_11 rfl (fn_iload_n rl_E_putSign_12 rfl (fn_put rl_E_putSign_13 hp_25 rfl hpv_25_2 (fn_aload_n rl_E_putSign_16 rfl (fn_dup_ref rl_E_putSign_17 (fn_get rl_E_putSign_18 hp_25 rfl (fn_iconst rl_E_putSign_21 (fn_iadd rl_E_putSign_22 (fn_put rl_E_putSign_23 hp_25 rfl hpv_25_0 (fn_retcv rl_E_putSign_26 (fn_iload_n rl_E_putNumber_32 rfl (fn_bipush rl_E_putNumber_33 (fn_idiv rl_E_putNumber_35 (by decide +kernel) (fn_istore_n (ls' := [.ref 25, .int v1, .int (v2 / 10)]) rl_E_putNumber_36 rfl rfl (fn_goto rl_E_putNumber_37 (k3449)))))))))))))))) (fun k3450 => fn_aload_n rl_E_putSign_16 rfl (fn_dup_ref rl_E_putSign_17 (fn_get rl_E_putSign_18 hp_25 rfl (fn_iconst rl_E_putSign_21 (fn_iadd rl_E_putSign_22 (fn_put rl_E_putSign_23 hp_25 rfl hpv_25_0 (fn_retcv rl_E_putSign_26 (fn_iload_n rl_E_putNumber_32 rfl (fn_bipush rl_E_putNumber_33 (fn_idiv rl_E_putNumber_35 (by decide +kernel) (fn_istore_n (ls' := [.ref 25, .int v1, .int (v2 / 10)]) rl_E_putNumber_36 rfl rfl (fn_goto rl_E_putNumber_37 (k3450))))))))))))) k3455.2)))))))))))))) (fun k3456 => fn_iload_n rl_E_putNumber_14 rfl (fn_iconst rl_E_putNumber_15 (fn_icmp_ne rl_E_putNumber_16 (fun k3453 => fn_aload_n rl_E_putNumber_19 rfl (fn_bipush rl_E_putNumber_20 (fn_iload_n rl_E_putNumber_22 rfl (fn_iload_n rl_E_putNumber_23 rfl (fn_idiv rl_E_putNumber_24 k3453.1 (fn_bipush rl_E_putNumber_25 (fn_irem rl_E_putNumber_27 (by decide +kernel) (fn_iadd rl_E_putNumber_28 (fn_virt (as := [.ref 25, .int (48 + ((v1 / v2) - (v1 / v2) / 10 * 10))]) (r := []) (ls' := [.ref 25, .int (48 + ((v1 / v2) - (v1 / v2) / 10 * 10))]) rl_E_putNumber_29 rfl hp_25 rfl rfl pl_E_putSign rfl rfl (fn_aload_n rl_E_putSign_0 rfl (fn_get rl_E_putSign_1 hp_25 rfl (fn_aload_n rl_E_putSign_4 rfl (fn_get rl_E_putSign_5 hp_25 rfl (fn_icmp_ne rl_E_putSign_8 (fun k3451 => fn_aload_n rl_E_putSign_11 rfl (fn_iload_n rl_E_putSign_12 rfl (fn_put rl_E_putSign_13 hp_25 rfl hpv_25_2 (fn_aload_n rl_E_putSign_16 rfl (fn_dup_ref rl_E_putSign_17 (fn_get rl_E_putSign_18 hp_25 rfl (fn_iconst rl_E_putSign_21 (fn_iadd rl_E_putSign_22 (fn_put rl_E_putSign_23 hp_25 rfl hpv_25_0 (fn_retcv rl_E_putSign_26 (fn_iload_n rl_E_putNumber_32 rfl (fn_bipush rl_E_putNumber_33 (fn_idiv rl_E_putNumber_35 (by decide +kernel) (fn_istore_n (ls' := [.ref 25, .int v1, .int (v2 / 10)]) rl_E_putNumber_36 rfl rfl (fn_goto rl_E_putNumber_37 (k3451)))))))))))))))) (fun k3452 => fn_aload_n rl_E_putSign_16 rfl (fn_dup_ref rl_E_putSign_17 (fn_get rl_E_putSign_18 hp_25 rfl (fn_iconst rl_E_putSign_21 (fn_iadd rl_E_putSign_22 (fn_put rl_E_putSign_23 hp_25 rfl hpv_25_0 (fn_retcv rl_E_putSign_26 (fn_iload_n rl_E_putNumber_32 rfl (fn_bipush rl_E_putNumber_33 (fn_idiv rl_E_putNumber_35 (by decide +kernel) (fn_istore_n (ls' := [.ref 25, .int v1, .int (v2 / 10)]) rl_E_putNumber_36 rfl rfl (fn_goto rl_E_putNumber_37 (k3452))))))))))))) k3453.2)))))))))))))) (fun k3454 => fn_iload_n rl_E_putNumber_32 rfl (fn_bipush rl_E_putNumber_33 (fn_idiv rl_E_putNumber_35 (by decide +kernel) (fn_istore_n (ls' := [.ref 25, .int v1, .int (v2 / 10)]) rl_E_putNumber_36 rfl rfl (fn_goto rl_E_putNumber_37 (k3454)))))) k3456))) k3458))) k0))
set_option maxRecDepth 100000 in
set_option maxHeartbeats 4000000 in
theorem sg_J_countInto_27_3_0 {L : Nat} {xs : Nat → Int32} {A V : Nat → Nat → Int32} {K : Nat → Option Nat} {T : am_H} {v : Option Int32} {h' : am_H} (k0 :
    am_fin [(z_X_fill, 0, [.ref 27, .int 0, .null, .null], []), (z_J_countInto, 5, [.ref 27, .ref 3, .null, .null], [])] (hp L xs A V K T) v h') : am_fin [(z_J_countInto, 0, [.ref 27, .ref 3, .null, .null], [])] (hp L xs A V K T) v h' :=
  fn_aload_n rl_J_countInto_0 rfl (fn_iconst rl_J_countInto_1 (fn_stat (as := [.ref 27, .int 0]) (r := []) (ls' := [.ref 27, .int 0, .null, .null]) rl_J_countInto_2 rfl rfl rfl rfl pl_X_fill rfl rfl (k0)))
set_option maxRecDepth 100000 in
set_option maxHeartbeats 4000000 in
theorem sg_J_countInto_27_3_5r {L : Nat} {xs : Nat → Int32} {A V : Nat → Nat → Int32} {K : Nat → Option Nat} {T : am_H} {v : Option Int32} {h' : am_H} (k0 :
    am_fin [(z_J_countInto, 7, [.ref 27, .ref 3, .int 0, .null], [])] (hp L xs A V K T) v h') : am_fin [(z_J_countInto, 5, [.ref 27, .ref 3, .null, .null], [])] (hp L xs A V K T) v h' :=
  fn_iconst rl_J_countInto_5 (fn_istore_n (ls' := [.ref 27, .ref 3, .int 0, .null]) rl_J_countInto_6 rfl rfl (k0))
set_option maxRecDepth 100000 in
set_option maxHeartbeats 4000000 in
theorem sg_J_countInto_27_3_7 {L : Nat} {xs : Nat → Int32} {A V : Nat → Nat → Int32} {K : Nat → Option Nat} {T : am_H} {v : Option Int32} {h' : am_H} {v2 : Int32} (k0 :
    if 1080 ≤ v2 then (
      v = none ∧ h' = hp L xs A V K T)
    else (
      ¬ (v2 < 0 ∨ 1080 ≤ v2.toNatClampNeg) ∧ (
      if ((A 4) v2.toNatClampNeg) < 0 then (
        am_fin [(z_J_countInto, 7, [.ref 27, .ref 3, .int (v2 + 1), .int ((A 4) v2.toNatClampNeg)], [])] (hp L xs A V K T) v h')
      else (
        if 6 ≤ ((A 4) v2.toNatClampNeg) then (
          am_fin [(z_J_countInto, 7, [.ref 27, .ref 3, .int (v2 + 1), .int ((A 4) v2.toNatClampNeg)], [])] (hp L xs A V K T) v h')
        else (
          ¬ (((((A 4) v2.toNatClampNeg) * 3) + (v2 / 360)) < 0 ∨ 18 ≤ ((((A 4) v2.toNatClampNeg) * 3) + (v2 / 360)).toNatClampNeg) ∧ (
          ¬ (((((A 4) v2.toNatClampNeg) * 3) + (v2 / 360)) < 0 ∨ 18 ≤ ((((A 4) v2.toNatClampNeg) * 3) + (v2 / 360)).toNatClampNeg) ∧ (
          am_fin [(z_J_countInto, 7, [.ref 27, .ref 3, .int (v2 + 1), .int ((A 4) v2.toNatClampNeg)], [])] (hp L xs (upA A 27 (upd (A 27) ((((A 4) v2.toNatClampNeg) * 3) + (v2 / 360)).toNatClampNeg (((A 27) ((((A 4) v2.toNatClampNeg) * 3) + (v2 / 360)).toNatClampNeg) + 1))) V K T) v h'))))))) : am_fin [(z_J_countInto, 7, [.ref 27, .ref 3, .int v2, .null], [])] (hp L xs A V K T) v h' :=
  fn_iload_n rl_J_countInto_7 rfl (fn_sipush rl_J_countInto_8 (fn_icmp_ge rl_J_countInto_11 (fun k3466 => fn_retv rl_J_countInto_52 k3466) (fun k3467 => fn_aload_n rl_J_countInto_14 rfl (fn_get rl_J_countInto_15 hp_3 rfl (fn_iload_n rl_J_countInto_18 rfl (fn_iald rl_J_countInto_19 hp_4 (fun k3465 => fn_istore_n (ls' := [.ref 27, .ref 3, .int v2, .int ((A 4) v2.toNatClampNeg)]) rl_J_countInto_20 rfl rfl (fn_iload_n rl_J_countInto_21 rfl (fn_if_lt rl_J_countInto_22 (fun k3463 => fn_iinc (ls' := [.ref 27, .ref 3, .int (v2 + 1), .int ((A 4) v2.toNatClampNeg)]) rl_J_countInto_46 rfl rfl rfl (fn_goto rl_J_countInto_49 (k3463))) (fun k3464 => fn_iload_n rl_J_countInto_25 rfl (fn_bipush rl_J_countInto_26 (fn_icmp_ge rl_J_countInto_28 (fun k3461 => fn_iinc (ls' := [.ref 27, .ref 3, .int (v2 + 1), .int ((A 4) v2.toNatClampNeg)]) rl_J_countInto_46 rfl rfl rfl (fn_goto rl_J_countInto_49 (k3461))) (fun k3462 => fn_aload_n rl_J_countInto_31 rfl (fn_iload_n rl_J_countInto_32 rfl (fn_iconst rl_J_countInto_33 (fn_imul rl_J_countInto_34 (fn_iload_n rl_J_countInto_35 rfl (fn_sipush rl_J_countInto_36 (fn_idiv rl_J_countInto_39 (by decide +kernel) (fn_iadd rl_J_countInto_40 (fn_dup2 rl_J_countInto_41 (fn_iald rl_J_countInto_42 hp_27 (fun k3460 => fn_iconst rl_J_countInto_43 (fn_iadd rl_J_countInto_44 (fn_iast rl_J_countInto_45 hp_27 hps_27 (fun k3459 => fn_iinc (ls' := [.ref 27, .ref 3, .int (v2 + 1), .int ((A 4) v2.toNatClampNeg)]) rl_J_countInto_46 rfl rfl rfl (fn_goto rl_J_countInto_49 (k3459))) k3460))) k3462)))))))))) k3464))) k3465))) k3467)))) k0))
set_option maxRecDepth 100000 in
set_option maxHeartbeats 4000000 in
theorem sg_O_read_34_0 {L : Nat} {xs : Nat → Int32} {A V : Nat → Nat → Int32} {K : Nat → Option Nat} {T : am_H} {v : Option Int32} {h' : am_H} {a2 : Int32} (k0 :
    ¬ (a2 < 0 ∨ 6 ≤ a2.toNatClampNeg) ∧ (
    ¬ (a2 < 0 ∨ 6 ≤ a2.toNatClampNeg) ∧ (
    am_fin [(z_O_read, 28, [.ref 30, .ref 34, .int a2, .int 0], [])] (hp L xs A (upV (upV V 30 4 ((A 11) a2.toNatClampNeg)) 30 5 ((A 12) a2.toNatClampNeg)) K T) v h'))) : am_fin [(z_O_read, 0, [.ref 30, .ref 34, .int a2, .null], [])] (hp L xs A V K T) v h' :=
  fn_aload_n rl_O_read_0 rfl (fn_aload_n rl_O_read_1 rfl (fn_get rl_O_read_2 hp_30 rfl (fn_get rl_O_read_5 hp_10 rfl (fn_iload_n rl_O_read_8 rfl (fn_iald rl_O_read_9 hp_11 (fun k3469 => fn_put rl_O_read_10 hp_30 rfl hpv_30_4 (fn_aload_n rl_O_read_13 rfl (fn_aload_n rl_O_read_14 rfl (fn_get rl_O_read_15 hp_30 rfl (fn_get rl_O_read_18 hp_10 rfl (fn_iload_n rl_O_read_21 rfl (fn_iald rl_O_read_22 hp_12 (fun k3468 => fn_put rl_O_read_23 hp_30 rfl hpv_30_5 (fn_iconst rl_O_read_26 (fn_istore_n (ls' := [.ref 30, .ref 34, .int a2, .int 0]) rl_O_read_27 rfl rfl (k3468)))) k3469))))))) k0)))))
set_option maxRecDepth 100000 in
set_option maxHeartbeats 4000000 in
theorem sg_O_read_34_28 {L : Nat} {xs : Nat → Int32} {A V : Nat → Nat → Int32} {K : Nat → Option Nat} {T : am_H} {v : Option Int32} {h' : am_H} {v2 v3 : Int32} (k0 :
    if 1080 ≤ v3 then (
      v = none ∧ h' = hp L xs A V K T)
    else (
      ¬ (v3 < 0 ∨ 1081 ≤ v3.toNatClampNeg) ∧ (
      ¬ (v3 < 0 ∨ 1080 ≤ v3.toNatClampNeg) ∧ (
      if ((A 35) v3.toNatClampNeg) = v2 then (
        ¬ ((v3 + 1) < 0 ∨ 1081 ≤ (v3 + 1).toNatClampNeg) ∧ (
        am_fin [(z_O_read, 28, [.ref 30, .ref 34, .int v2, .int (v3 + 1)], [])] (hp L xs (upA A 31 (upd (A 31) (v3 + 1).toNatClampNeg (((A 31) v3.toNatClampNeg) + 1))) V K T) v h'))
      else (
        ¬ ((v3 + 1) < 0 ∨ 1081 ≤ (v3 + 1).toNatClampNeg) ∧ (
        am_fin [(z_O_read, 28, [.ref 30, .ref 34, .int v2, .int (v3 + 1)], [])] (hp L xs (upA A 31 (upd (A 31) (v3 + 1).toNatClampNeg (((A 31) v3.toNatClampNeg) + 0))) V K T) v h')))))) : am_fin [(z_O_read, 28, [.ref 30, .ref 34, .int v2, .int v3], [])] (hp L xs A V K T) v h' :=
  fn_iload_n rl_O_read_28 rfl (fn_sipush rl_O_read_29 (fn_icmp_ge rl_O_read_32 (fun k3476 => fn_retv rl_O_read_71 k3476) (fun k3477 => fn_aload_n rl_O_read_35 rfl (fn_get rl_O_read_36 hp_30 rfl (fn_iload_n rl_O_read_39 rfl (fn_iconst rl_O_read_40 (fn_iadd rl_O_read_41 (fn_aload_n rl_O_read_42 rfl (fn_get rl_O_read_43 hp_30 rfl (fn_iload_n rl_O_read_46 rfl (fn_iald rl_O_read_47 hp_31 (fun k3475 => fn_aload_n rl_O_read_48 rfl (fn_get rl_O_read_49 hp_34 rfl (fn_iload_n rl_O_read_52 rfl (fn_iald rl_O_read_53 hp_35 (fun k3474 => fn_iload_n rl_O_read_54 rfl (fn_icmp_ne rl_O_read_55 (fun k3472 => fn_iconst rl_O_read_58 (fn_goto rl_O_read_59 (fn_iadd rl_O_read_63 (fn_iast rl_O_read_64 hp_31 hps_31 (fun k3470 => fn_iinc (ls' := [.ref 30, .ref 34, .int v2, .int (v3 + 1)]) rl_O_read_65 rfl rfl rfl (fn_goto rl_O_read_68 (k3470))) k3472)))) (fun k3473 => fn_iconst rl_O_read_62 (fn_iadd rl_O_read_63 (fn_iast rl_O_read_64 hp_31 hps_31 (fun k3471 => fn_iinc (ls' := [.ref 30, .ref 34, .int v2, .int (v3 + 1)]) rl_O_read_65 rfl rfl rfl (fn_goto rl_O_read_68 (k3471))) k3473))) k3474)) k3475)))) k3477))))))))) k0))
set_option maxRecDepth 100000 in
set_option maxHeartbeats 4000000 in
theorem sg_X_fill_29_0 {L : Nat} {xs : Nat → Int32} {A V : Nat → Nat → Int32} {K : Nat → Option Nat} {T : am_H} {v : Option Int32} {h' : am_H} {a1 : Int32} (k0 :
    am_fin [(z_X_fill, 5, [.ref 29, .int a1, .int 0, .int (Int32.ofNat 18)], [])] (hp L xs A V K T) v h') : am_fin [(z_X_fill, 0, [.ref 29, .int a1, .null, .null], [])] (hp L xs A V K T) v h' :=
  fn_iconst rl_X_fill_0 (fn_istore_n (ls' := [.ref 29, .int a1, .int 0, .null]) rl_X_fill_1 rfl rfl (fn_aload_n rl_X_fill_2 rfl (fn_alen rl_X_fill_3 hp_29 (fn_istore_n (ls' := [.ref 29, .int a1, .int 0, .int (Int32.ofNat 18)]) rl_X_fill_4 rfl rfl (k0)))))
set_option maxRecDepth 100000 in
set_option maxHeartbeats 4000000 in
theorem sg_X_fill_29_5 {L : Nat} {xs : Nat → Int32} {A V : Nat → Nat → Int32} {K : Nat → Option Nat} {T : am_H} {v : Option Int32} {h' : am_H} {v1 v2 v3 : Int32} (k0 :
    if v3 ≤ v2 then (
      v = none ∧ h' = hp L xs A V K T)
    else (
      ¬ (v2 < 0 ∨ 18 ≤ v2.toNatClampNeg) ∧ (
      am_fin [(z_X_fill, 5, [.ref 29, .int v1, .int (v2 + 1), .int v3], [])] (hp L xs (upA A 29 (upd (A 29) v2.toNatClampNeg v1)) V K T) v h'))) : am_fin [(z_X_fill, 5, [.ref 29, .int v1, .int v2, .int v3], [])] (hp L xs A V K T) v h' :=
  fn_iload_n rl_X_fill_5 rfl (fn_iload_n rl_X_fill_6 rfl (fn_icmp_ge rl_X_fill_7 (fun k3479 => fn_retv rl_X_fill_20 k3479) (fun k3480 => fn_aload_n rl_X_fill_10 rfl (fn_iload_n rl_X_fill_11 rfl (fn_iload_n rl_X_fill_12 rfl (fn_iast rl_X_fill_13 hp_29 hps_29 (fun k3478 => fn_iinc (ls' := [.ref 29, .int v1, .int (v2 + 1), .int v3]) rl_X_fill_14 rfl rfl rfl (fn_goto rl_X_fill_17 (k3478))) k3480)))) k0))
set_option maxRecDepth 100000 in
set_option maxHeartbeats 4000000 in
theorem sg_X_fill_27_0 {L : Nat} {xs : Nat → Int32} {A V : Nat → Nat → Int32} {K : Nat → Option Nat} {T : am_H} {v : Option Int32} {h' : am_H} {a1 : Int32} (k0 :
    am_fin [(z_X_fill, 5, [.ref 27, .int a1, .int 0, .int (Int32.ofNat 18)], [])] (hp L xs A V K T) v h') : am_fin [(z_X_fill, 0, [.ref 27, .int a1, .null, .null], [])] (hp L xs A V K T) v h' :=
  fn_iconst rl_X_fill_0 (fn_istore_n (ls' := [.ref 27, .int a1, .int 0, .null]) rl_X_fill_1 rfl rfl (fn_aload_n rl_X_fill_2 rfl (fn_alen rl_X_fill_3 hp_27 (fn_istore_n (ls' := [.ref 27, .int a1, .int 0, .int (Int32.ofNat 18)]) rl_X_fill_4 rfl rfl (k0)))))
set_option maxRecDepth 100000 in
set_option maxHeartbeats 4000000 in
theorem sg_X_fill_27_5 {L : Nat} {xs : Nat → Int32} {A V : Nat → Nat → Int32} {K : Nat → Option Nat} {T : am_H} {v : Option Int32} {h' : am_H} {v1 v2 v3 : Int32} (k0 :
    if v3 ≤ v2 then (
      v = none ∧ h' = hp L xs A V K T)
    else (
      ¬ (v2 < 0 ∨ 18 ≤ v2.toNatClampNeg) ∧ (
      am_fin [(z_X_fill, 5, [.ref 27, .int v1, .int (v2 + 1), .int v3], [])] (hp L xs (upA A 27 (upd (A 27) v2.toNatClampNeg v1)) V K T) v h'))) : am_fin [(z_X_fill, 5, [.ref 27, .int v1, .int v2, .int v3], [])] (hp L xs A V K T) v h' :=
  fn_iload_n rl_X_fill_5 rfl (fn_iload_n rl_X_fill_6 rfl (fn_icmp_ge rl_X_fill_7 (fun k3482 => fn_retv rl_X_fill_20 k3482) (fun k3483 => fn_aload_n rl_X_fill_10 rfl (fn_iload_n rl_X_fill_11 rfl (fn_iload_n rl_X_fill_12 rfl (fn_iast rl_X_fill_13 hp_27 hps_27 (fun k3481 => fn_iinc (ls' := [.ref 27, .int v1, .int (v2 + 1), .int v3]) rl_X_fill_14 rfl rfl rfl (fn_goto rl_X_fill_17 (k3481))) k3483)))) k0))
set_option maxRecDepth 100000 in
set_option maxHeartbeats 4000000 in
theorem sg_P_landOn_34_0 {L : Nat} {xs : Nat → Int32} {A V : Nat → Nat → Int32} {K : Nat → Option Nat} {T : am_H} {v : Option Int32} {h' : am_H} {a1 : Int32} (k0 :
    if a1 < 0 then (
      v = some (-1) ∧ h' = hp L xs A V K T)
    else (
      if 1080 ≤ a1 then (
        v = some (-1) ∧ h' = hp L xs A V K T)
      else (
        ¬ (a1 < 0 ∨ 1080 ≤ a1.toNatClampNeg) ∧ (
        v = some ((A 35) a1.toNatClampNeg) ∧ h' = hp L xs A V K T)))) : am_fin [(z_P_landOn, 0, [.ref 34, .int a1], [])] (hp L xs A V K T) v h' :=
  fn_iload_n rl_P_landOn_0 rfl (fn_if_lt rl_P_landOn_1 (fun k3487 => fn_iconst rl_P_landOn_20 (fn_reti rl_P_landOn_21 rfl k3487)) (fun k3488 => fn_iload_n rl_P_landOn_4 rfl (fn_sipush rl_P_landOn_5 (fn_icmp_ge rl_P_landOn_8 (fun k3485 => fn_iconst rl_P_landOn_20 (fn_reti rl_P_landOn_21 rfl k3485)) (fun k3486 => fn_aload_n rl_P_landOn_11 rfl (fn_get rl_P_landOn_12 hp_34 rfl (fn_iload_n rl_P_landOn_15 rfl (fn_iald rl_P_landOn_16 hp_35 (fun k3484 => fn_goto rl_P_landOn_17 (fn_reti rl_P_landOn_21 rfl k3484)) k3486)))) k3488))) k0)
set_option maxRecDepth 100000 in
set_option maxHeartbeats 4000000 in
theorem sg_J_splitTill_34_0 {L : Nat} {xs : Nat → Int32} {A V : Nat → Nat → Int32} {K : Nat → Option Nat} {T : am_H} {v : Option Int32} {h' : am_H} {a1 a2 : Int32} (k0 :
    if 2 ≤ a2 then (
      am_fin [(z_J_splitTill, 25, [.ref 26, .int a1, .int a2, .ref 34, .int (((a2 * 360) + 360) - 1)], [])] (hp L xs A V K T) v h')
    else (
      am_fin [(z_J_isClaiming, 0, [.ref 26, .int a1, .int (a2 + 1)], []), (z_J_splitTill, 19, [.ref 26, .int a1, .int a2, .ref 34, .int (((a2 * 360) + 360) - 1)], [])] (hp L xs A V K T) v h')) : am_fin [(z_J_splitTill, 0, [.ref 26, .int a1, .int a2, .ref 34, .null], [])] (hp L xs A V K T) v h' :=
  fn_iload_n rl_J_splitTill_0 rfl (fn_stat (as := [.int a2]) (r := []) (ls' := [.int a2]) rl_J_splitTill_1 rfl rfl rfl rfl pl_L_lastOf rfl rfl (fn_iload_n rl_L_lastOf_0 rfl (fn_sipush rl_L_lastOf_1 (fn_imul rl_L_lastOf_4 (fn_sipush rl_L_lastOf_5 (fn_iadd rl_L_lastOf_8 (fn_iconst rl_L_lastOf_9 (fn_isub rl_L_lastOf_10 (fn_retci rl_L_lastOf_11 rfl (fn_istore (ls' := [.ref 26, .int a1, .int a2, .ref 34, .int (((a2 * 360) + 360) - 1)]) rl_J_splitTill_4 rfl rfl (fn_iload_n rl_J_splitTill_6 rfl (fn_iconst rl_J_splitTill_7 (fn_icmp_ge rl_J_splitTill_8 (fun k3489 => k3489) (fun k3490 => fn_aload_n rl_J_splitTill_11 rfl (fn_iload_n rl_J_splitTill_12 rfl (fn_iload_n rl_J_splitTill_13 rfl (fn_iconst rl_J_splitTill_14 (fn_iadd rl_J_splitTill_15 (fn_virt (as := [.ref 26, .int a1, .int (a2 + 1)]) (r := []) (ls' := [.ref 26, .int a1, .int (a2 + 1)]) rl_J_splitTill_16 rfl hp_26 rfl rfl pl_J_isClaiming rfl rfl (k3490))))))) k0)))))))))))))
set_option maxRecDepth 100000 in
set_option maxHeartbeats 4000000 in
theorem sg_J_splitTill_34_25 {L : Nat} {xs : Nat → Int32} {A V : Nat → Nat → Int32} {K : Nat → Option Nat} {T : am_H} {v : Option Int32} {h' : am_H} {v1 v2 v4 : Int32} (k0 :
    if v4 ≤ (v2 * 360) then (
      v = some v4 ∧ h' = hp L xs A V K T)
    else (
      am_fin [(z_J_isBound, 0, [.ref 26, .int v1, .int v4, .ref 34], []), (z_J_splitTill, 42, [.ref 26, .int v1, .int v2, .ref 34, .int v4], [])] (hp L xs A V K T) v h')) : am_fin [(z_J_splitTill, 25, [.ref 26, .int v1, .int v2, .ref 34, .int v4], [])] (hp L xs A V K T) v h' :=
  fn_iload rl_J_splitTill_25 rfl (fn_iload_n rl_J_splitTill_27 rfl (fn_stat (as := [.int v2]) (r := [.int v4]) (ls' := [.int v2]) rl_J_splitTill_28 rfl rfl rfl rfl pl_L_firstOf rfl rfl (fn_iload_n rl_L_firstOf_0 rfl (fn_sipush rl_L_firstOf_1 (fn_imul rl_L_firstOf_4 (fn_retci rl_L_firstOf_5 rfl (fn_icmp_le rl_J_splitTill_31 (fun k3491 => fn_iload rl_J_splitTill_51 rfl (fn_reti rl_J_splitTill_53 rfl k3491)) (fun k3492 => fn_aload_n rl_J_splitTill_34 rfl (fn_iload_n rl_J_splitTill_35 rfl (fn_iload rl_J_splitTill_36 rfl (fn_aload_n rl_J_splitTill_38 rfl (fn_virt (as := [.ref 26, .int v1, .int v4, .ref 34]) (r := []) (ls' := [.ref 26, .int v1, .int v4, .ref 34]) rl_J_splitTill_39 rfl hp_26 rfl rfl pl_J_isBound rfl rfl (k3492)))))) k0)))))))
set_option maxRecDepth 100000 in
set_option maxHeartbeats 4000000 in
theorem sg_J_splitTill_34_42r {L : Nat} {xs : Nat → Int32} {A V : Nat → Nat → Int32} {K : Nat → Option Nat} {T : am_H} {v : Option Int32} {h' : am_H} {v1 v2 v4 r : Int32} (k0 :
    if r = 0 then (
      am_fin [(z_J_splitTill, 25, [.ref 26, .int v1, .int v2, .ref 34, .int (v4 + (-1))], [])] (hp L xs A V K T) v h')
    else (
      v = some v4 ∧ h' = hp L xs A V K T)) : am_fin [(z_J_splitTill, 42, [.ref 26, .int v1, .int v2, .ref 34, .int v4], [.int r])] (hp L xs A V K T) v h' :=
  fn_if_ne rl_J_splitTill_42 (fun k3493 => fn_iinc (ls' := [.ref 26, .int v1, .int v2, .ref 34, .int (v4 + (-1))]) rl_J_splitTill_45 rfl rfl rfl (fn_goto rl_J_splitTill_48 (k3493))) (fun k3494 => fn_iload rl_J_splitTill_51 rfl (fn_reti rl_J_splitTill_53 rfl k3494)) k0
set_option maxRecDepth 100000 in
set_option maxHeartbeats 4000000 in
theorem sg_J_splitTill_34_19r {L : Nat} {xs : Nat → Int32} {A V : Nat → Nat → Int32} {K : Nat → Option Nat} {T : am_H} {v : Option Int32} {h' : am_H} {v1 v2 v4 r : Int32} (k0 :
    if r = 0 then (
      am_fin [(z_J_splitTill, 25, [.ref 26, .int v1, .int v2, .ref 34, .int v4], [])] (hp L xs A V K T) v h')
    else (
      v = some v4 ∧ h' = hp L xs A V K T)) : am_fin [(z_J_splitTill, 19, [.ref 26, .int v1, .int v2, .ref 34, .int v4], [.int r])] (hp L xs A V K T) v h' :=
  fn_if_eq rl_J_splitTill_19 (fun k3495 => k3495) (fun k3496 => fn_iload rl_J_splitTill_22 rfl (fn_reti rl_J_splitTill_24 rfl k3496)) k0
set_option maxRecDepth 100000 in
set_option maxHeartbeats 4000000 in
theorem sg_J_splitFrom_34_0 {L : Nat} {xs : Nat → Int32} {A V : Nat → Nat → Int32} {K : Nat → Option Nat} {T : am_H} {v : Option Int32} {h' : am_H} {a1 a2 : Int32} (k0 :
    if a2 ≤ 0 then (
      am_fin [(z_J_splitFrom, 24, [.ref 26, .int a1, .int a2, .ref 34, .int (a2 * 360)], [])] (hp L xs A V K T) v h')
    else (
      am_fin [(z_J_isClaiming, 0, [.ref 26, .int a1, .int (a2 - 1)], []), (z_J_splitFrom, 18, [.ref 26, .int a1, .int a2, .ref 34, .int (a2 * 360)], [])] (hp L xs A V K T) v h')) : am_fin [(z_J_splitFrom, 0, [.ref 26, .int a1, .int a2, .ref 34, .null], [])] (hp L xs A V K T) v h' :=
  fn_iload_n rl_J_splitFrom_0 rfl (fn_stat (as := [.int a2]) (r := []) (ls' := [.int a2]) rl_J_splitFrom_1 rfl rfl rfl rfl pl_L_firstOf rfl rfl (fn_iload_n rl_L_firstOf_0 rfl (fn_sipush rl_L_firstOf_1 (fn_imul rl_L_firstOf_4 (fn_retci rl_L_firstOf_5 rfl (fn_istore (ls' := [.ref 26, .int a1, .int a2, .ref 34, .int (a2 * 360)]) rl_J_splitFrom_4 rfl rfl (fn_iload_n rl_J_splitFrom_6 rfl (fn_if_le rl_J_splitFrom_7 (fun k3497 => k3497) (fun k3498 => fn_aload_n rl_J_splitFrom_10 rfl (fn_iload_n rl_J_splitFrom_11 rfl (fn_iload_n rl_J_splitFrom_12 rfl (fn_iconst rl_J_splitFrom_13 (fn_isub rl_J_splitFrom_14 (fn_virt (as := [.ref 26, .int a1, .int (a2 - 1)]) (r := []) (ls' := [.ref 26, .int a1, .int (a2 - 1)]) rl_J_splitFrom_15 rfl hp_26 rfl rfl pl_J_isClaiming rfl rfl (k3498))))))) k0))))))))
set_option maxRecDepth 100000 in
set_option maxHeartbeats 4000000 in
theorem sg_J_splitFrom_34_24 {L : Nat} {xs : Nat → Int32} {A V : Nat → Nat → Int32} {K : Nat → Option Nat} {T : am_H} {v : Option Int32} {h' : am_H} {v1 v2 v4 : Int32} (k0 :
    if (((v2 * 360) + 360) - 1) ≤ v4 then (
      v = some v4 ∧ h' = hp L xs A V K T)
    else (
      am_fin [(z_J_isBound, 0, [.ref 26, .int v1, .int v4, .ref 34], []), (z_J_splitFrom, 41, [.ref 26, .int v1, .int v2, .ref 34, .int v4], [])] (hp L xs A V K T) v h')) : am_fin [(z_J_splitFrom, 24, [.ref 26, .int v1, .int v2, .ref 34, .int v4], [])] (hp L xs A V K T) v h' :=
  fn_iload rl_J_splitFrom_24 rfl (fn_iload_n rl_J_splitFrom_26 rfl (fn_stat (as := [.int v2]) (r := [.int v4]) (ls' := [.int v2]) rl_J_splitFrom_27 rfl rfl rfl rfl pl_L_lastOf rfl rfl (fn_iload_n rl_L_lastOf_0 rfl (fn_sipush rl_L_lastOf_1 (fn_imul rl_L_lastOf_4 (fn_sipush rl_L_lastOf_5 (fn_iadd rl_L_lastOf_8 (fn_iconst rl_L_lastOf_9 (fn_isub rl_L_lastOf_10 (fn_retci rl_L_lastOf_11 rfl (fn_icmp_ge rl_J_splitFrom_30 (fun k3499 => fn_iload rl_J_splitFrom_50 rfl (fn_reti rl_J_splitFrom_52 rfl k3499)) (fun k3500 => fn_aload_n rl_J_splitFrom_33 rfl (fn_iload_n rl_J_splitFrom_34 rfl (fn_iload rl_J_splitFrom_35 rfl (fn_aload_n rl_J_splitFrom_37 rfl (fn_virt (as := [.ref 26, .int v1, .int v4, .ref 34]) (r := []) (ls' := [.ref 26, .int v1, .int v4, .ref 34]) rl_J_splitFrom_38 rfl hp_26 rfl rfl pl_J_isBound rfl rfl (k3500)))))) k0)))))))))))
set_option maxRecDepth 100000 in
set_option maxHeartbeats 4000000 in
theorem sg_J_splitFrom_34_41r {L : Nat} {xs : Nat → Int32} {A V : Nat → Nat → Int32} {K : Nat → Option Nat} {T : am_H} {v : Option Int32} {h' : am_H} {v1 v2 v4 r : Int32} (k0 :
    if r = 0 then (
      am_fin [(z_J_splitFrom, 24, [.ref 26, .int v1, .int v2, .ref 34, .int (v4 + 1)], [])] (hp L xs A V K T) v h')
    else (
      v = some v4 ∧ h' = hp L xs A V K T)) : am_fin [(z_J_splitFrom, 41, [.ref 26, .int v1, .int v2, .ref 34, .int v4], [.int r])] (hp L xs A V K T) v h' :=
  fn_if_ne rl_J_splitFrom_41 (fun k3501 => fn_iinc (ls' := [.ref 26, .int v1, .int v2, .ref 34, .int (v4 + 1)]) rl_J_splitFrom_44 rfl rfl rfl (fn_goto rl_J_splitFrom_47 (k3501))) (fun k3502 => fn_iload rl_J_splitFrom_50 rfl (fn_reti rl_J_splitFrom_52 rfl k3502)) k0
set_option maxRecDepth 100000 in
set_option maxHeartbeats 4000000 in
theorem sg_J_splitFrom_34_18r {L : Nat} {xs : Nat → Int32} {A V : Nat → Nat → Int32} {K : Nat → Option Nat} {T : am_H} {v : Option Int32} {h' : am_H} {v1 v2 v4 r : Int32} (k0 :
    if r = 0 then (
      am_fin [(z_J_splitFrom, 24, [.ref 26, .int v1, .int v2, .ref 34, .int v4], [])] (hp L xs A V K T) v h')
    else (
      v = some v4 ∧ h' = hp L xs A V K T)) : am_fin [(z_J_splitFrom, 18, [.ref 26, .int v1, .int v2, .ref 34, .int v4], [.int r])] (hp L xs A V K T) v h' :=
  fn_if_eq rl_J_splitFrom_18 (fun k3503 => k3503) (fun k3504 => fn_iload rl_J_splitFrom_21 rfl (fn_reti rl_J_splitFrom_23 rfl k3504)) k0
set_option maxRecDepth 100000 in
set_option maxHeartbeats 4000000 in
theorem sg_J_isBound_34_0 {L : Nat} {xs : Nat → Int32} {A V : Nat → Nat → Int32} {K : Nat → Option Nat} {T : am_H} {v : Option Int32} {h' : am_H} {a1 a2 : Int32} (k0 :
    am_fin [(z_P_landOn, 0, [.ref 34, .int a2], []), (z_J_isBound, 5, [.ref 26, .int a1, .int a2, .ref 34], [])] (hp L xs A V K T) v h') : am_fin [(z_J_isBound, 0, [.ref 26, .int a1, .int a2, .ref 34], [])] (hp L xs A V K T) v h' :=
  fn_aload_n rl_J_isBound_0 rfl (fn_iload_n rl_J_isBound_1 rfl (fn_virt (as := [.ref 34, .int a2]) (r := []) (ls' := [.ref 34, .int a2]) rl_J_isBound_2 rfl hp_34 rfl rfl pl_P_landOn rfl rfl (k0)))
set_option maxRecDepth 100000 in
set_option maxHeartbeats 4000000 in
theorem sg_J_isBound_34_5r {L : Nat} {xs : Nat → Int32} {A V : Nat → Nat → Int32} {K : Nat → Option Nat} {T : am_H} {v : Option Int32} {h' : am_H} {v1 v2 r : Int32} (k0 :
    if r = v1 then (
      v = some 1 ∧ h' = hp L xs A V K T)
    else (
      ¬ (v2 < 0 ∨ 1080 ≤ v2.toNatClampNeg) ∧ (
      if (((((A 9) v2.toNatClampNeg) : Int32) >>> (v1 &&& 31 : Int32)) &&& 1) = 1 then (
        v = some 1 ∧ h' = hp L xs A V K T)
      else (
        v = some 0 ∧ h' = hp L xs A V K T)))) : am_fin [(z_J_isBound, 5, [.ref 26, .int v1, .int v2, .ref 34], [.int r])] (hp L xs A V K T) v h' :=
  fn_iload_n rl_J_isBound_5 rfl (fn_icmp_eq rl_J_isBound_6 (fun k3552 => fn_iconst rl_J_isBound_21 (fn_goto rl_J_isBound_22 (fn_reti rl_J_isBound_26 rfl k3552))) (fun k3553 => fn_aload_n rl_J_isBound_9 rfl (fn_get rl_J_isBound_10 hp_26 rfl (fn_iload_n rl_J_isBound_13 rfl (fn_iload_n rl_J_isBound_14 rfl (fn_virt (as := [.ref 2, .int v1, .int v2]) (r := []) (ls' := [.ref 2, .int v1, .int v2]) rl_J_isBound_15 rfl hp_2 rfl rfl pl_S_hasHome rfl rfl (fn_aload_n rl_S_hasHome_0 rfl (fn_get rl_S_hasHome_1 hp_2 rfl (fn_iload_n rl_S_hasHome_4 rfl (fn_iald rl_S_hasHome_5 hp_9 (fun k3551 => fn_iload_n rl_S_hasHome_6 rfl (fn_stat (as := [.int ((A 9) v2.toNatClampNeg), .int v1]) (r := []) (ls' := [.int ((A 9) v2.toNatClampNeg), .int v1]) rl_S_hasHome_7 rfl rfl rfl rfl pl_L_hasBit rfl rfl (fn_iload_n rl_L_hasBit_0 rfl (fn_iload_n rl_L_hasBit_1 rfl (fn_ishr rl_L_hasBit_2 (fn_iconst rl_L_hasBit_3 (fn_iand rl_L_hasBit_4 (fn_iconst rl_L_hasBit_5 (fn_icmp_ne rl_L_hasBit_6 (fun k3549 => fn_iconst rl_L_hasBit_9 (fn_goto rl_L_hasBit_10 (fn_retci rl_L_hasBit_14 rfl (fn_retci rl_S_hasHome_10 rfl (fn_if_eq_f rl_J_isBound_18 (by decide +kernel) (fn_iconst rl_J_isBound_21 (fn_goto rl_J_isBound_22 (fn_reti rl_J_isBound_26 rfl k3549)))))))) (fun k3550 => fn_iconst rl_L_hasBit_13 (fn_retci rl_L_hasBit_14 rfl (fn_retci rl_S_hasHome_10 rfl (fn_if_eq_t rl_J_isBound_18 (by decide +kernel) (fn_iconst rl_J_isBound_25 (fn_reti rl_J_isBound_26 rfl k3550)))))) k3551))))))))) k3553))))))))) k0)
