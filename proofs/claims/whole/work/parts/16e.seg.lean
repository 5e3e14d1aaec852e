set_option maxRecDepth 100000 in
set_option maxHeartbeats 4000000 in
theorem sg_J_livesIfMoved_19r {L : Nat} {xs : Nat → Int32} {A V : Nat → Nat → Int32} {K : Nat → Option Nat} {T : am_H} {v : Option Int32} {h' : am_H} {v1 v2 v3 r : Int32} (k0 :
    if v2 < 0 then (
      if v1 < 0 then (
        v = some r ∧ h' = hp L xs A V K T)
      else (
        if 5 < v1 then (
          v = some r ∧ h' = hp L xs A V K T)
        else (
          ¬ (((v1 * 3) + v3) < 0 ∨ 18 ≤ ((v1 * 3) + v3).toNatClampNeg) ∧ (
          ¬ (((v1 * 3) + v3) < 0 ∨ 18 ≤ ((v1 * 3) + v3).toNatClampNeg) ∧ (
          v = some r ∧ h' = hp L xs (upA A 27 (upd (A 27) ((v1 * 3) + v3).toNatClampNeg (((A 27) ((v1 * 3) + v3).toNatClampNeg) + 1))) V K T)))))
    else (
      if 5 < v2 then (
        if v1 < 0 then (
          v = some r ∧ h' = hp L xs A V K T)
        else (
          if 5 < v1 then (
            v = some r ∧ h' = hp L xs A V K T)
          else (
            ¬ (((v1 * 3) + v3) < 0 ∨ 18 ≤ ((v1 * 3) + v3).toNatClampNeg) ∧ (
            ¬ (((v1 * 3) + v3) < 0 ∨ 18 ≤ ((v1 * 3) + v3).toNatClampNeg) ∧ (
            v = some r ∧ h' = hp L xs (upA A 27 (upd (A 27) ((v1 * 3) + v3).toNatClampNeg (((A 27) ((v1 * 3) + v3).toNatClampNeg) + 1))) V K T)))))
      else (
        ¬ (((v2 * 3) + v3) < 0 ∨ 18 ≤ ((v2 * 3) + v3).toNatClampNeg) ∧ (
        ¬ (((v2 * 3) + v3) < 0 ∨ 18 ≤ ((v2 * 3) + v3).toNatClampNeg) ∧ (
        if v1 < 0 then (
          v = some r ∧ h' = hp L xs (upA A 27 (upd (A 27) ((v2 * 3) + v3).toNatClampNeg (((A 27) ((v2 * 3) + v3).toNatClampNeg) + (-1)))) V K T)
        else (
          if 5 < v1 then (
            v = some r ∧ h' = hp L xs (upA A 27 (upd (A 27) ((v2 * 3) + v3).toNatClampNeg (((A 27) ((v2 * 3) + v3).toNatClampNeg) + (-1)))) V K T)
          else (
            ¬ (((v1 * 3) + v3) < 0 ∨ 18 ≤ ((v1 * 3) + v3).toNatClampNeg) ∧ (
            ¬ (((v1 * 3) + v3) < 0 ∨ 18 ≤ ((v1 * 3) + v3).toNatClampNeg) ∧ (
            v = some r ∧ h' = hp L xs (upA (upA A 27 (upd (A 27) ((v2 * 3) + v3).toNatClampNeg (((A 27) ((v2 * 3) + v3).toNatClampNeg) + (-1)))) 27 (upd ((upA A 27 (upd (A 27) ((v2 * 3) + v3).toNatClampNeg (((A 27) ((v2 * 3) + v3).toNatClampNeg) + (-1)))) 27) ((v1 * 3) + v3).toNatClampNeg ((((upA A 27 (upd (A 27) ((v2 * 3) + v3).toNatClampNeg (((A 27) ((v2 * 3) + v3).toNatClampNeg) + (-1)))) 27) ((v1 * 3) + v3).toNatClampNeg) + 1))) V K T))))))))) : am_fin [(z_J_livesIfMoved, 19, [.ref 26, .int v1, .int v2, .int v3, .null], [.int r])] (hp L xs A V K T) v h' :=
  fn_istore (ls' := [.ref 26, .int v1, .int v2, .int v3, .int r]) rl_J_livesIfMoved_19 rfl rfl (fn_aload_n rl_J_livesIfMoved_21 rfl (fn_iload_n rl_J_livesIfMoved_22 rfl (fn_iload_n rl_J_livesIfMoved_23 rfl (fn_iconst rl_J_livesIfMoved_24 (fn_virt (as := [.ref 26, .int v2, .int v3, .int (-1)]) (r := []) (ls' := [.ref 26, .int v2, .int v3, .int (-1)]) rl_J_livesIfMoved_25 rfl hp_26 rfl rfl pl_J_shift rfl rfl (fn_iload_n rl_J_shift_0 rfl (fn_stat (as := [.int v2]) (r := []) (ls' := [.int v2]) rl_J_shift_1 rfl rfl rfl rfl pl_L_isLand rfl rfl (fn_iload_n rl_L_isLand_0 rfl (fn_iconst rl_L_isLand_1 (fn_iconst rl_L_isLand_2 (fn_stat (as := [.int v2, .int 0, .int 5]) (r := []) (ls' := [.int v2, .int 0, .int 5]) rl_L_isLand_3 rfl rfl rfl rfl pl_L_isAmong rfl rfl (fn_iload_n rl_L_isAmong_0 rfl (fn_iload_n rl_L_isAmong_1 rfl (fn_icmp_lt rl_L_isAmong_2 (fun k2422 => fn_iconst rl_L_isAmong_14 (fn_retci rl_L_isAmong_15 rfl (fn_retci rl_L_isLand_6 rfl (fn_if_eq_t rl_J_shift_4 (by decide +kernel) (fn_retcv rl_J_shift_21 (fn_aload_n rl_J_livesIfMoved_28 rfl (fn_iload_n rl_J_livesIfMoved_29 rfl (fn_iload_n rl_J_livesIfMoved_30 rfl (fn_iconst rl_J_livesIfMoved_31 (fn_virt (as := [.ref 26, .int v1, .int v3, .int 1]) (r := []) (ls' := [.ref 26, .int v1, .int v3, .int 1]) rl_J_livesIfMoved_32 rfl hp_26 rfl rfl pl_J_shift rfl rfl (fn_iload_n rl_J_shift_0 rfl (fn_stat (as := [.int v1]) (r := []) (ls' := [.int v1]) rl_J_shift_1 rfl rfl rfl rfl pl_L_isLand rfl rfl (fn_iload_n rl_L_isLand_0 rfl (fn_iconst rl_L_isLand_1 (fn_iconst rl_L_isLand_2 (fn_stat (as := [.int v1, .int 0, .int 5]) (r := []) (ls' := [.int v1, .int 0, .int 5]) rl_L_isLand_3 rfl rfl rfl rfl pl_L_isAmong rfl rfl (fn_iload_n rl_L_isAmong_0 rfl (fn_iload_n rl_L_isAmong_1 rfl (fn_icmp_lt rl_L_isAmong_2 (fun k2404 => fn_iconst rl_L_isAmong_14 (fn_retci rl_L_isAmong_15 rfl (fn_retci rl_L_isLand_6 rfl (fn_if_eq_t rl_J_shift_4 (by decide +kernel) (fn_retcv rl_J_shift_21 (fn_iload rl_J_livesIfMoved_35 rfl (fn_reti rl_J_livesIfMoved_37 rfl k2404))))))) (fun k2405 => fn_iload_n rl_L_isAmong_5 rfl (fn_iload_n rl_L_isAmong_6 rfl (fn_icmp_gt rl_L_isAmong_7 (fun k2402 => fn_iconst rl_L_isAmong_14 (fn_retci rl_L_isAmong_15 rfl (fn_retci rl_L_isLand_6 rfl (fn_if_eq_t rl_J_shift_4 (by decide +kernel) (fn_retcv rl_J_shift_21 (fn_iload rl_J_livesIfMoved_35 rfl (fn_reti rl_J_livesIfMoved_37 rfl k2402))))))) (fun k2403 => fn_iconst rl_L_isAmong_10 (fn_goto rl_L_isAmong_11 (fn_retci rl_L_isAmong_15 rfl (fn_retci rl_L_isLand_6 rfl (fn_if_eq_f rl_J_shift_4 (by decide +kernel) (fn_aload_n rl_J_shift_7 rfl (fn_get rl_J_shift_8 hp_26 rfl (fn_iload_n rl_J_shift_11 rfl (fn_iload_n rl_J_shift_12 rfl (fn_stat (as := [.int v1, .int v3]) (r := [.ref 27]) (ls' := [.int v1, .int v3]) rl_J_shift_13 rfl rfl rfl rfl pl_L_spot rfl rfl (fn_iload_n rl_L_spot_0 rfl (fn_iconst rl_L_spot_1 (fn_imul rl_L_spot_2 (fn_iload_n rl_L_spot_3 rfl (fn_iadd rl_L_spot_4 (fn_retci rl_L_spot_5 rfl (fn_dup2 rl_J_shift_16 (fn_iald rl_J_shift_17 hp_27 (fun k2401 => fn_iload_n rl_J_shift_18 rfl (fn_iadd rl_J_shift_19 (fn_iast rl_J_shift_20 hp_27 hps_27 (fun k2400 => fn_retcv rl_J_shift_21 (fn_iload rl_J_livesIfMoved_35 rfl (fn_reti rl_J_livesIfMoved_37 rfl k2400))) k2401))) k2403)))))))))))))))))) k2405))) k2422))))))))))))))))))) (fun k2423 => fn_iload_n rl_L_isAmong_5 rfl (fn_iload_n rl_L_isAmong_6 rfl (fn_icmp_gt rl_L_isAmong_7 (fun k2420 => fn_iconst rl_L_isAmong_14 (fn_retci rl_L_isAmong_15 rfl (fn_retci rl_L_isLand_6 rfl (fn_if_eq_t rl_J_shift_4 (by decide +kernel) (fn_retcv rl_J_shift_21 (fn_aload_n rl_J_livesIfMoved_28 rfl (fn_iload_n rl_J_livesIfMoved_29 rfl (fn_iload_n rl_J_livesIfMoved_30 rfl (fn_iconst rl_J_livesIfMoved_31 (fn_virt (as := [.ref 26, .int v1, .int v3, .int 1]) (r := []) (ls' := [.ref 26, .int v1, .int v3, .int 1]) rl_J_livesIfMoved_32 rfl hp_26 rfl rfl pl_J_shift rfl rfl (fn_iload_n rl_J_shift_0 rfl (fn_stat (as := [.int v1]) (r := []) (ls' := [.int v1]) rl_J_shift_1 rfl rfl rfl rfl pl_L_isLand rfl rfl (fn_iload_n rl_L_isLand_0 rfl (fn_iconst rl_L_isLand_1 (fn_iconst rl_L_isLand_2 (fn_stat (as := [.int v1, .int 0, .int 5]) (r := []) (ls' := [.int v1, .int 0, .int 5]) rl_L_isLand_3 rfl rfl rfl rfl pl_L_isAmong rfl rfl (fn_iload_n rl_L_isAmong_0 rfl (fn_iload_n rl_L_isAmong_1 rfl (fn_icmp_lt rl_L_isAmong_2 (fun k2410 => fn_iconst rl_L_isAmong_14 (fn_retci rl_L_isAmong_15 rfl (fn_retci rl_L_isLand_6 rfl (fn_if_eq_t rl_J_shift_4 (by decide +kernel) (fn_retcv rl_J_shift_21 (fn_iload rl_J_livesIfMoved_35 rfl (fn_reti rl_J_livesIfMoved_37 rfl k2410))))))) (fun k2411 => fn_iload_n rl_L_isAmong_5 rfl (fn_iload_n rl_L_isAmong_6 rfl (fn_icmp_gt rl_L_isAmong_7 (fun k2408 => fn_iconst rl_L_isAmong_14 (fn_retci rl_L_isAmong_15 rfl (fn_retci rl_L_isLand_6 rfl (fn_if_eq_t rl_J_shift_4 (by decide +kernel) (fn_retcv rl_J_shift_21 (fn_iload rl_J_livesIfMoved_35 rfl (fn_reti rl_J_livesIfMoved_37 rfl k2408))))))) (fun k2409 => fn_iconst rl_L_isAmong_10 (fn_goto rl_L_isAmong_11 (fn_retci rl_L_isAmong_15 rfl (fn_retci rl_L_isLand_6 rfl (fn_if_eq_f rl_J_shift_4 (by decide +kernel) (fn_aload_n rl_J_shift_7 rfl (fn_get rl_J_shift_8 hp_26 rfl (fn_iload_n rl_J_shift_11 rfl (fn_iload_n rl_J_shift_12 rfl (fn_stat (as := [.int v1, .int v3]) (r := [.ref 27]) (ls' := [.int v1, .int v3]) rl_J_shift_13 rfl rfl rfl rfl pl_L_spot rfl rfl (fn_iload_n rl_L_spot_0 rfl (fn_iconst rl_L_spot_1 (fn_imul rl_L_spot_2 (fn_iload_n rl_L_spot_3 rfl (fn_iadd rl_L_spot_4 (fn_retci rl_L_spot_5 rfl (fn_dup2 rl_J_shift_16 (fn_iald rl_J_shift_17 hp_27 (fun k2407 => fn_iload_n rl_J_shift_18 rfl (fn_iadd rl_J_shift_19 (fn_iast rl_J_shift_20 hp_27 hps_27 (fun k2406 => fn_retcv rl_J_shift_21 (fn_iload rl_J_livesIfMoved_35 rfl (fn_reti rl_J_livesIfMoved_37 rfl k2406))) k2407))) k2409)))))))))))))))))) k2411))) k2420))))))))))))))))))) (fun k2421 => fn_iconst rl_L_isAmong_10 (fn_goto rl_L_isAmong_11 (fn_retci rl_L_isAmong_15 rfl (fn_retci rl_L_isLand_6 rfl (fn_if_eq_f rl_J_shift_4 (by decide +kernel) (fn_aload_n rl_J_shift_7 rfl (fn_get rl_J_shift_8 hp_26 rfl (fn_iload_n rl_J_shift_11 rfl (fn_iload_n rl_J_shift_12 rfl (fn_stat (as := [.int v2, .int v3]) (r := [.ref 27]) (ls' := [.int v2, .int v3]) rl_J_shift_13 rfl rfl rfl rfl pl_L_spot rfl rfl (fn_iload_n rl_L_spot_0 rfl (fn_iconst rl_L_spot_1 (fn_imul rl_L_spot_2 (fn_iload_n rl_L_spot_3 rfl (fn_iadd rl_L_spot_4 (fn_retci rl_L_spot_5 rfl (fn_dup2 rl_J_shift_16 (fn_iald rl_J_shift_17 hp_27 (fun k2419 => fn_iload_n rl_J_shift_18 rfl (fn_iadd rl_J_shift_19 (fn_iast rl_J_shift_20 hp_27 hps_27 (fun k2418 => fn_retcv rl_J_shift_21 (fn_aload_n rl_J_livesIfMoved_28 rfl (fn_iload_n rl_J_livesIfMoved_29 rfl (fn_iload_n rl_J_livesIfMoved_30 rfl (fn_iconst rl_J_livesIfMoved_31 (fn_virt (as := [.ref 26, .int v1, .int v3, .int 1]) (r := []) (ls' := [.ref 26, .int v1, .int v3, .int 1]) rl_J_livesIfMoved_32 rfl hp_26 rfl rfl pl_J_shift rfl rfl (fn_iload_n rl_J_shift_0 rfl (fn_stat (as := [.int v1]) (r := []) (ls' := [.int v1]) rl_J_shift_1 rfl rfl rfl rfl pl_L_isLand rfl rfl (fn_iload_n rl_L_isLand_0 rfl (fn_iconst rl_L_isLand_1 (fn_iconst rl_L_isLand_2 (fn_stat (as := [.int v1, .int 0, .int 5]) (r := []) (ls' := [.int v1, .int 0, .int 5]) rl_L_isLand_3 rfl rfl rfl rfl pl_L_isAmong rfl rfl (fn_iload_n rl_L_isAmong_0 rfl (fn_iload_n rl_L_isAmong_1 rfl (fn_icmp_lt rl_L_isAmong_2 (fun k2416 => fn_iconst rl_L_isAmong_14 (fn_retci rl_L_isAmong_15 rfl (fn_retci rl_L_isLand_6 rfl (fn_if_eq_t rl_J_shift_4 (by decide +kernel) (fn_retcv rl_J_shift_21 (fn_iload rl_J_livesIfMoved_35 rfl (fn_reti rl_J_livesIfMoved_37 rfl k2416))))))) (fun k2417 => fn_iload_n rl_L_isAmong_5 rfl (fn_iload_n rl_L_isAmong_6 rfl (fn_icmp_gt rl_L_isAmong_7 (fun k2414 => fn_iconst rl_L_isAmong_14 (fn_retci rl_L_isAmong_15 rfl (fn_retci rl_L_isLand_6 rfl (fn_if_eq_t rl_J_shift_4 (by decide +kernel) (fn_retcv rl_J_shift_21 (fn_iload rl_J_livesIfMoved_35 rfl (fn_reti rl_J_livesIfMoved_37 rfl k2414))))))) (fun k2415 => fn_iconst rl_L_isAmong_10 (fn_goto rl_L_isAmong_11 (fn_retci rl_L_isAmong_15 rfl (fn_retci rl_L_isLand_6 rfl (fn_if_eq_f rl_J_shift_4 (by decide +kernel) (fn_aload_n rl_J_shift_7 rfl (fn_get rl_J_shift_8 hp_26 rfl (fn_iload_n rl_J_shift_11 rfl (fn_iload_n rl_J_shift_12 rfl (fn_stat (as := [.int v1, .int v3]) (r := [.ref 27]) (ls' := [.int v1, .int v3]) rl_J_shift_13 rfl rfl rfl rfl pl_L_spot rfl rfl (fn_iload_n rl_L_spot_0 rfl (fn_iconst rl_L_spot_1 (fn_imul rl_L_spot_2 (fn_iload_n rl_L_spot_3 rfl (fn_iadd rl_L_spot_4 (fn_retci rl_L_spot_5 rfl (fn_dup2 rl_J_shift_16 (fn_iald rl_J_shift_17 hp_27 (fun k2413 => fn_iload_n rl_J_shift_18 rfl (fn_iadd rl_J_shift_19 (fn_iast rl_J_shift_20 hp_27 hps_27 (fun k2412 => fn_retcv rl_J_shift_21 (fn_iload rl_J_livesIfMoved_35 rfl (fn_reti rl_J_livesIfMoved_37 rfl k2412))) k2413))) k2415)))))))))))))))))) k2417))) k2418))))))))))))))) k2419))) k2421)))))))))))))))))) k2423))) k0))))))))))))))
set_option maxRecDepth 100000 in
set_option maxHeartbeats 4000000 in
theorem sg_J_loosePlaces_0 {L : Nat} {xs : Nat → Int32} {A V : Nat → Nat → Int32} {K : Nat → Option Nat} {T : am_H} {v : Option Int32} {h' : am_H} {a1 : Int32} (k0 :
    am_fin [(z_J_livesIn, 0, [.ref 26, .int a1, .null, .null, .null], []), (z_J_loosePlaces, 5, [.ref 26, .int a1, .null, .null, .null, .null], [])] (hp L xs A V K T) v h') : am_fin [(z_J_loosePlaces, 0, [.ref 26, .int a1, .null, .null, .null, .null], [])] (hp L xs A V K T) v h' :=
  fn_aload_n rl_J_loosePlaces_0 rfl (fn_iload_n rl_J_loosePlaces_1 rfl (fn_virt (as := [.ref 26, .int a1]) (r := []) (ls' := [.ref 26, .int a1, .null, .null, .null]) rl_J_loosePlaces_2 rfl hp_26 rfl rfl pl_J_livesIn rfl rfl (k0)))
set_option maxRecDepth 100000 in
set_option maxHeartbeats 4000000 in
theorem sg_J_loosePlaces_5r {L : Nat} {xs : Nat → Int32} {A V : Nat → Nat → Int32} {K : Nat → Option Nat} {T : am_H} {v : Option Int32} {h' : am_H} {v1 r : Int32} (k0 :
    am_fin [(z_J_loosePlaces, 11, [.ref 26, .int v1, .int r, .int 0, .int (-1), .null], [])] (hp L xs A V K T) v h') : am_fin [(z_J_loosePlaces, 5, [.ref 26, .int v1, .null, .null, .null, .null], [.int r])] (hp L xs A V K T) v h' :=
  fn_istore_n (ls' := [.ref 26, .int v1, .int r, .null, .null, .null]) rl_J_loosePlaces_5 rfl rfl (fn_iconst rl_J_loosePlaces_6 (fn_istore_n (ls' := [.ref 26, .int v1, .int r, .int 0, .null, .null]) rl_J_loosePlaces_7 rfl rfl (fn_iconst rl_J_loosePlaces_8 (fn_istore (ls' := [.ref 26, .int v1, .int r, .int 0, .int (-1), .null]) rl_J_loosePlaces_9 rfl rfl (k0)))))
set_option maxRecDepth 100000 in
set_option maxHeartbeats 4000000 in
theorem sg_J_loosePlaces_11 {L : Nat} {xs : Nat → Int32} {A V : Nat → Nat → Int32} {K : Nat → Option Nat} {T : am_H} {v : Option Int32} {h' : am_H} {v1 v2 v3 v4 : Int32} (k0 :
    if 6 ≤ v4 then (
      v = some v3 ∧ h' = hp L xs A V K T)
    else (
      if v4 = (-1) then (
        am_fin [(z_J_loosePlaces, 44, [.ref 26, .int v1, .int v2, .int v3, .int v4, .int (-1)], [])] (hp L xs A V K T) v h')
      else (
        ¬ (((v4 * 3) + v1) < 0 ∨ 18 ≤ ((v4 * 3) + v1).toNatClampNeg) ∧ (
        if ((A 27) ((v4 * 3) + v1).toNatClampNeg) = 0 then (
          am_fin [(z_J_loosePlaces, 11, [.ref 26, .int v1, .int v2, .int v3, .int (v4 + 1), .null], [])] (hp L xs A V K T) v h')
        else (
          am_fin [(z_J_loosePlaces, 44, [.ref 26, .int v1, .int v2, .int v3, .int v4, .int (-1)], [])] (hp L xs A V K T) v h'))))) : am_fin [(z_J_loosePlaces, 11, [.ref 26, .int v1, .int v2, .int v3, .int v4, .null], [])] (hp L xs A V K T) v h' :=
  fn_iload rl_J_loosePlaces_11 rfl (fn_bipush rl_J_loosePlaces_13 (fn_icmp_ge rl_J_loosePlaces_15 (fun k2429 => fn_iload_n rl_J_loosePlaces_95 rfl (fn_reti rl_J_loosePlaces_96 rfl k2429)) (fun k2430 => fn_iload rl_J_loosePlaces_18 rfl (fn_iconst rl_J_loosePlaces_20 (fn_icmp_eq rl_J_loosePlaces_21 (fun k2427 => fn_iconst rl_J_loosePlaces_41 (fn_istore (ls' := [.ref 26, .int v1, .int v2, .int v3, .int v4, .int (-1)]) rl_J_loosePlaces_42 rfl rfl (k2427))) (fun k2428 => fn_aload_n rl_J_loosePlaces_24 rfl (fn_get rl_J_loosePlaces_25 hp_26 rfl (fn_iload rl_J_loosePlaces_28 rfl (fn_iload_n rl_J_loosePlaces_30 rfl (fn_stat (as := [.int v4, .int v1]) (r := [.ref 27]) (ls' := [.int v4, .int v1]) rl_J_loosePlaces_31 rfl rfl rfl rfl pl_L_spot rfl rfl (fn_iload_n rl_L_spot_0 rfl (fn_iconst rl_L_spot_1 (fn_imul rl_L_spot_2 (fn_iload_n rl_L_spot_3 rfl (fn_iadd rl_L_spot_4 (fn_retci rl_L_spot_5 rfl (fn_iald rl_J_loosePlaces_34 hp_27 (fun k2426 => fn_if_ne rl_J_loosePlaces_35 (fun k2424 => fn_goto rl_J_loosePlaces_38 (fn_iinc (ls' := [.ref 26, .int v1, .int v2, .int v3, .int (v4 + 1), .null]) rl_J_loosePlaces_89 rfl rfl rfl (fn_goto rl_J_loosePlaces_92 (k2424)))) (fun k2425 => fn_iconst rl_J_loosePlaces_41 (fn_istore (ls' := [.ref 26, .int v1, .int v2, .int v3, .int v4, .int (-1)]) rl_J_loosePlaces_42 rfl rfl (k2425))) k2426) k2428)))))))))))) k2430))) k0))
set_option maxRecDepth 100000 in
set_option maxHeartbeats 4000000 in
theorem sg_J_loosePlaces_44 {L : Nat} {xs : Nat → Int32} {A V : Nat → Nat → Int32} {K : Nat → Option Nat} {T : am_H} {v : Option Int32} {h' : am_H} {v1 v2 v3 v4 v5 : Int32} (k0 :
    if 6 ≤ v5 then (
      am_fin [(z_J_loosePlaces, 11, [.ref 26, .int v1, .int v2, .int v3, .int (v4 + 1), .int v5], [])] (hp L xs A V K T) v h')
    else (
      if v5 = v4 then (
        am_fin [(z_J_loosePlaces, 44, [.ref 26, .int v1, .int v2, .int v3, .int v4, .int (v5 + 1)], [])] (hp L xs A V K T) v h')
      else (
        am_fin [(z_J_livesIfMoved, 0, [.ref 26, .int v4, .int v5, .int v1, .null], []), (z_J_loosePlaces, 67, [.ref 26, .int v1, .int v2, .int v3, .int v4, .int v5], [])] (hp L xs A V K T) v h'))) : am_fin [(z_J_loosePlaces, 44, [.ref 26, .int v1, .int v2, .int v3, .int v4, .int v5], [])] (hp L xs A V K T) v h' :=
  fn_iload rl_J_loosePlaces_44 rfl (fn_bipush rl_J_loosePlaces_46 (fn_icmp_ge rl_J_loosePlaces_48 (fun k2433 => fn_iinc (ls' := [.ref 26, .int v1, .int v2, .int v3, .int (v4 + 1), .int v5]) rl_J_loosePlaces_89 rfl rfl rfl (fn_goto rl_J_loosePlaces_92 (k2433))) (fun k2434 => fn_iload rl_J_loosePlaces_51 rfl (fn_iload rl_J_loosePlaces_53 rfl (fn_icmp_eq rl_J_loosePlaces_55 (fun k2431 => fn_iinc (ls' := [.ref 26, .int v1, .int v2, .int v3, .int v4, .int (v5 + 1)]) rl_J_loosePlaces_83 rfl rfl rfl (fn_goto rl_J_loosePlaces_86 (k2431))) (fun k2432 => fn_aload_n rl_J_loosePlaces_58 rfl (fn_iload rl_J_loosePlaces_59 rfl (fn_iload rl_J_loosePlaces_61 rfl (fn_iload_n rl_J_loosePlaces_63 rfl (fn_virt (as := [.ref 26, .int v4, .int v5, .int v1]) (r := []) (ls' := [.ref 26, .int v4, .int v5, .int v1, .null]) rl_J_loosePlaces_64 rfl hp_26 rfl rfl pl_J_livesIfMoved rfl rfl (k2432)))))) k2434))) k0))
set_option maxRecDepth 100000 in
set_option maxHeartbeats 4000000 in
theorem sg_J_loosePlaces_67r {L : Nat} {xs : Nat → Int32} {A V : Nat → Nat → Int32} {K : Nat → Option Nat} {T : am_H} {v : Option Int32} {h' : am_H} {v1 v2 v3 v4 v5 r : Int32} (k0 :
    if r = v2 then (
      am_fin [(z_J_loosePlaces, 44, [.ref 26, .int v1, .int v2, .int v3, .int v4, .int (v5 + 1)], [])] (hp L xs A V K T) v h')
    else (
      am_fin [(z_J_loosePlaces, 11, [.ref 26, .int v1, .int v2, .int (v3 ||| ((1 : Int32) <<< ((v4 + 1) &&& 31 : Int32))), .int (v4 + 1), .int v5], [])] (hp L xs A V K T) v h')) : am_fin [(z_J_loosePlaces, 67, [.ref 26, .int v1, .int v2, .int v3, .int v4, .int v5], [.int r])] (hp L xs A V K T) v h' :=
  fn_iload_n rl_J_loosePlaces_67 rfl (fn_icmp_eq rl_J_loosePlaces_68 (fun k2435 => fn_iinc (ls' := [.ref 26, .int v1, .int v2, .int v3, .int v4, .int (v5 + 1)]) rl_J_loosePlaces_83 rfl rfl rfl (fn_goto rl_J_loosePlaces_86 (k2435))) (fun k2436 => fn_iload_n rl_J_loosePlaces_71 rfl (fn_iconst rl_J_loosePlaces_72 (fn_iload rl_J_loosePlaces_73 rfl (fn_iconst rl_J_loosePlaces_75 (fn_iadd rl_J_loosePlaces_76 (fn_ishl rl_J_loosePlaces_77 (fn_ior rl_J_loosePlaces_78 (fn_istore_n (ls' := [.ref 26, .int v1, .int v2, .int (v3 ||| ((1 : Int32) <<< ((v4 + 1) &&& 31 : Int32))), .int v4, .int v5]) rl_J_loosePlaces_79 rfl rfl (fn_goto rl_J_loosePlaces_80 (fn_iinc (ls' := [.ref 26, .int v1, .int v2, .int (v3 ||| ((1 : Int32) <<< ((v4 + 1) &&& 31 : Int32))), .int (v4 + 1), .int v5]) rl_J_loosePlaces_89 rfl rfl rfl (fn_goto rl_J_loosePlaces_92 (k2436)))))))))))) k0)
set_option maxRecDepth 100000 in
set_option maxHeartbeats 4000000 in
theorem sg_L_outcome_0 {L : Nat} {xs : Nat → Int32} {A V : Nat → Nat → Int32} {K : Nat → Option Nat} {T : am_H} {v : Option Int32} {h' : am_H} {a1 : Int32} (k0 :
    if a1 = 4 then (
      am_fin [(z_L_overstaysInAll, 0, [.ref 1, .ref 34, .null, .null], []), (z_L_outcome, 13, [.ref 1, .int a1], [])] (hp L xs A V K T) v h')
    else (
      am_fin [(z_J_weigh, 0, [.ref 26, .ref 34], []), (z_L_outcome, 25, [.ref 1, .int a1], [])] (hp L xs A V K T) v h')) : am_fin [(z_L_outcome, 0, [.ref 1, .int a1], [])] (hp L xs A V K T) v h' :=
  fn_iload_n rl_L_outcome_0 rfl (fn_iconst rl_L_outcome_1 (fn_icmp_ne rl_L_outcome_2 (fun k2437 => fn_aload_n rl_L_outcome_5 rfl (fn_aload_n rl_L_outcome_6 rfl (fn_get rl_L_outcome_7 hp_1 rfl (fn_virt (as := [.ref 1, .ref 34]) (r := []) (ls' := [.ref 1, .ref 34, .null, .null]) rl_L_outcome_10 rfl hp_1 rfl rfl pl_L_overstaysInAll rfl rfl (k2437))))) (fun k2438 => fn_aload_n rl_L_outcome_14 rfl (fn_get rl_L_outcome_15 hp_1 rfl (fn_aload_n rl_L_outcome_18 rfl (fn_get rl_L_outcome_19 hp_1 rfl (fn_virt (as := [.ref 26, .ref 34]) (r := []) (ls' := [.ref 26, .ref 34]) rl_L_outcome_22 rfl hp_26 rfl rfl pl_J_weigh rfl rfl (k2438)))))) k0))
set_option maxRecDepth 100000 in
set_option maxHeartbeats 4000000 in
theorem sg_L_outcome_13r {L : Nat} {xs : Nat → Int32} {A V : Nat → Nat → Int32} {K : Nat → Option Nat} {T : am_H} {v : Option Int32} {h' : am_H} {v1 r : Int32} (k0 :
    v = some r ∧ h' = hp L xs A V K T) : am_fin [(z_L_outcome, 13, [.ref 1, .int v1], [.int r])] (hp L xs A V K T) v h' :=
  fn_reti rl_L_outcome_13 rfl k0
set_option maxRecDepth 100000 in
set_option maxHeartbeats 4000000 in
theorem sg_L_outcome_25r {L : Nat} {xs : Nat → Int32} {A V : Nat → Nat → Int32} {K : Nat → Option Nat} {T : am_H} {v : Option Int32} {h' : am_H} {v1 : Int32} (k0 :
    if v1 = 3 then (
      am_fin [(z_L_owedAsIf, 0, [.ref 1, .null, .null], []), (z_L_outcome, 34, [.ref 1, .int v1], [])] (hp L xs A V K T) v h')
    else (
      am_fin [(z_J_livesIn, 0, [.ref 26, .int v1, .null, .null, .null], []), (z_L_outcome, 45, [.ref 1, .int v1], [])] (hp L xs A V K T) v h')) : am_fin [(z_L_outcome, 25, [.ref 1, .int v1], [])] (hp L xs A V K T) v h' :=
  fn_iload_n rl_L_outcome_25 rfl (fn_iconst rl_L_outcome_26 (fn_icmp_ne rl_L_outcome_27 (fun k2439 => fn_aload_n rl_L_outcome_30 rfl (fn_virt (as := [.ref 1]) (r := []) (ls' := [.ref 1, .null, .null]) rl_L_outcome_31 rfl hp_1 rfl rfl pl_L_owedAsIf rfl rfl (k2439))) (fun k2440 => fn_aload_n rl_L_outcome_37 rfl (fn_get rl_L_outcome_38 hp_1 rfl (fn_iload_n rl_L_outcome_41 rfl (fn_virt (as := [.ref 26, .int v1]) (r := []) (ls' := [.ref 26, .int v1, .null, .null, .null]) rl_L_outcome_42 rfl hp_26 rfl rfl pl_J_livesIn rfl rfl (k2440))))) k0))
set_option maxRecDepth 100000 in
set_option maxHeartbeats 4000000 in
theorem sg_L_outcome_34r {L : Nat} {xs : Nat → Int32} {A V : Nat → Nat → Int32} {K : Nat → Option Nat} {T : am_H} {v : Option Int32} {h' : am_H} {v1 r : Int32} (k0 :
    v = some r ∧ h' = hp L xs A V K T) : am_fin [(z_L_outcome, 34, [.ref 1, .int v1], [.int r])] (hp L xs A V K T) v h' :=
  fn_goto rl_L_outcome_34 (fn_reti rl_L_outcome_45 rfl k0)
set_option maxRecDepth 100000 in
set_option maxHeartbeats 4000000 in
theorem sg_L_outcome_45r {L : Nat} {xs : Nat → Int32} {A V : Nat → Nat → Int32} {K : Nat → Option Nat} {T : am_H} {v : Option Int32} {h' : am_H} {v1 r : Int32} (k0 :
    v = some r ∧ h' = hp L xs A V K T) : am_fin [(z_L_outcome, 45, [.ref 1, .int v1], [.int r])] (hp L xs A V K T) v h' :=
  fn_reti rl_L_outcome_45 rfl k0
set_option maxRecDepth 100000 in
set_option maxHeartbeats 4000000 in
theorem sg_D_layOver_34_0 {L : Nat} {xs : Nat → Int32} {A V : Nat → Nat → Int32} {K : Nat → Option Nat} {T : am_H} {v : Option Int32} {h' : am_H} (k0 :
    am_fin [(z_D_layOver, 2, [.ref 21, .ref 34, .int 0], [])] (hp L xs A V K T) v h') : am_fin [(z_D_layOver, 0, [.ref 21, .ref 34, .null], [])] (hp L xs A V K T) v h' :=
  fn_iconst rl_D_layOver_0 (fn_istore_n (ls' := [.ref 21, .ref 34, .int 0]) rl_D_layOver_1 rfl rfl (k0))
set_option maxRecDepth 100000 in
set_option maxHeartbeats 4000000 in
theorem sg_D_layOver_34_2 {L : Nat} {xs : Nat → Int32} {A V : Nat → Nat → Int32} {K : Nat → Option Nat} {T : am_H} {v : Option Int32} {h' : am_H} {v2 : Int32} (k0 :
    if (V 21 5) ≤ v2 then (
      v = none ∧ h' = hp L xs A V K T)
    else (
      if 80 ≤ v2 then (
        v = none ∧ h' = hp L xs A V K T)
      else (
        ¬ (v2 < 0 ∨ 80 ≤ v2.toNatClampNeg) ∧ (
        ¬ (v2 < 0 ∨ 80 ≤ v2.toNatClampNeg) ∧ (
        ¬ (v2 < 0 ∨ 80 ≤ v2.toNatClampNeg) ∧ (
        am_fin [(z_P_put, 0, [.ref 34, .int ((A 22) v2.toNatClampNeg), .int ((A 23) v2.toNatClampNeg), .int ((A 24) v2.toNatClampNeg), .null, .null], []), (z_D_layOver, 38, [.ref 21, .ref 34, .int v2], [])] (hp L xs A V K T) v h')))))) : am_fin [(z_D_layOver, 2, [.ref 21, .ref 34, .int v2], [])] (hp L xs A V K T) v h' :=
  fn_iload_n rl_D_layOver_2 rfl (fn_aload_n rl_D_layOver_3 rfl (fn_get rl_D_layOver_4 hp_21 rfl (fn_icmp_ge rl_D_layOver_7 (fun k2446 => fn_retv rl_D_layOver_45 k2446) (fun k2447 => fn_iload_n rl_D_layOver_10 rfl (fn_bipush rl_D_layOver_11 (fn_icmp_ge rl_D_layOver_13 (fun k2444 => fn_retv rl_D_layOver_45 k2444) (fun k2445 => fn_aload_n rl_D_layOver_16 rfl (fn_aload_n rl_D_layOver_17 rfl (fn_get rl_D_layOver_18 hp_21 rfl (fn_iload_n rl_D_layOver_21 rfl (fn_iald rl_D_layOver_22 hp_22 (fun k2443 => fn_aload_n rl_D_layOver_23 rfl (fn_get rl_D_layOver_24 hp_21 rfl (fn_iload_n rl_D_layOver_27 rfl (fn_iald rl_D_layOver_28 hp_23 (fun k2442 => fn_aload_n rl_D_layOver_29 rfl (fn_get rl_D_layOver_30 hp_21 rfl (fn_iload_n rl_D_layOver_33 rfl (fn_iald rl_D_layOver_34 hp_24 (fun k2441 => fn_virt (as := [.ref 34, .int ((A 22) v2.toNatClampNeg), .int ((A 23) v2.toNatClampNeg), .int ((A 24) v2.toNatClampNeg)]) (r := []) (ls' := [.ref 34, .int ((A 22) v2.toNatClampNeg), .int ((A 23) v2.toNatClampNeg), .int ((A 24) v2.toNatClampNeg), .null, .null]) rl_D_layOver_35 rfl hp_34 rfl rfl pl_P_put rfl rfl (k2441)) k2442)))) k2443)))) k2445))))) k2447))) k0)))
set_option maxRecDepth 100000 in
set_option maxHeartbeats 4000000 in
theorem sg_D_layOver_34_38r {L : Nat} {xs : Nat → Int32} {A V : Nat → Nat → Int32} {K : Nat → Option Nat} {T : am_H} {v : Option Int32} {h' : am_H} {v2 r : Int32} (k0 :
    am_fin [(z_D_layOver, 2, [.ref 21, .ref 34, .int (v2 + 1)], [])] (hp L xs A V K T) v h') : am_fin [(z_D_layOver, 38, [.ref 21, .ref 34, .int v2], [.int r])] (hp L xs A V K T) v h' :=
  fn_pop_int rl_D_layOver_38 (fn_iinc (ls' := [.ref 21, .ref 34, .int (v2 + 1)]) rl_D_layOver_39 rfl rfl rfl (fn_goto rl_D_layOver_42 (k0)))
set_option maxRecDepth 100000 in
set_option maxHeartbeats 4000000 in
theorem sg_J_weighHomes_0 {L : Nat} {xs : Nat → Int32} {A V : Nat → Nat → Int32} {K : Nat → Option Nat} {T : am_H} {v : Option Int32} {h' : am_H} (k0 :
    am_fin [(z_J_countInto, 0, [.ref 29, .ref 5, .null, .null], []), (z_J_weighHomes, 14, [.ref 26, .null, .null, .null, .null], [])] (hp L xs A V K T) v h') : am_fin [(z_J_weighHomes, 0, [.ref 26, .null, .null, .null, .null], [])] (hp L xs A V K T) v h' :=
  fn_aload_n rl_J_weighHomes_0 rfl (fn_get rl_J_weighHomes_1 hp_26 rfl (fn_aload_n rl_J_weighHomes_4 rfl (fn_get rl_J_weighHomes_5 hp_26 rfl (fn_get rl_J_weighHomes_8 hp_2 rfl (fn_stat (as := [.ref 29, .ref 5]) (r := []) (ls' := [.ref 29, .ref 5, .null, .null]) rl_J_weighHomes_11 rfl rfl rfl rfl pl_J_countInto rfl rfl (k0))))))
set_option maxRecDepth 100000 in
set_option maxHeartbeats 4000000 in
theorem sg_J_weighHomes_14r {L : Nat} {xs : Nat → Int32} {A V : Nat → Nat → Int32} {K : Nat → Option Nat} {T : am_H} {v : Option Int32} {h' : am_H} (k0 :
    am_fin [(z_X_fill, 0, [.ref 28, .int 0, .null, .null], []), (z_J_weighHomes, 22, [.ref 26, .null, .null, .null, .null], [])] (hp L xs A V K T) v h') : am_fin [(z_J_weighHomes, 14, [.ref 26, .null, .null, .null, .null], [])] (hp L xs A V K T) v h' :=
  fn_aload_n rl_J_weighHomes_14 rfl (fn_get rl_J_weighHomes_15 hp_26 rfl (fn_iconst rl_J_weighHomes_18 (fn_stat (as := [.ref 28, .int 0]) (r := []) (ls' := [.ref 28, .int 0, .null, .null]) rl_J_weighHomes_19 rfl rfl rfl rfl pl_X_fill rfl rfl (k0))))
set_option maxRecDepth 100000 in
set_option maxHeartbeats 4000000 in
theorem sg_J_weighHomes_22r {L : Nat} {xs : Nat → Int32} {A V : Nat → Nat → Int32} {K : Nat → Option Nat} {T : am_H} {v : Option Int32} {h' : am_H} (k0 :
    am_fin [(z_J_weighHomes, 24, [.ref 26, .int 0, .null, .null, .null], [])] (hp L xs A V K T) v h') : am_fin [(z_J_weighHomes, 22, [.ref 26, .null, .null, .null, .null], [])] (hp L xs A V K T) v h' :=
  fn_iconst rl_J_weighHomes_22 (fn_istore_n (ls' := [.ref 26, .int 0, .null, .null, .null]) rl_J_weighHomes_23 rfl rfl (k0))
set_option maxRecDepth 100000 in
set_option maxHeartbeats 4000000 in
theorem sg_J_weighHomes_24 {L : Nat} {xs : Nat → Int32} {A V : Nat → Nat → Int32} {K : Nat → Option Nat} {T : am_H} {v : Option Int32} {h' : am_H} {v1 : Int32} (k0 :
    if 1080 ≤ v1 then (
      v = none ∧ h' = hp L xs A V K T)
    else (
      ¬ (v1 < 0 ∨ 1080 ≤ v1.toNatClampNeg) ∧ (
      am_fin [(z_J_weighHomes, 50, [.ref 26, .int v1, .int (v1 / 360), .int ((A 9) v1.toNatClampNeg), .int 0], [])] (hp L xs A V K T) v h'))) : am_fin [(z_J_weighHomes, 24, [.ref 26, .int v1, .null, .null, .null], [])] (hp L xs A V K T) v h' :=
  fn_iload_n rl_J_weighHomes_24 rfl (fn_sipush rl_J_weighHomes_25 (fn_icmp_ge rl_J_weighHomes_28 (fun k2449 => fn_retv rl_J_weighHomes_93 k2449) (fun k2450 => fn_iload_n rl_J_weighHomes_31 rfl (fn_sipush rl_J_weighHomes_32 (fn_idiv rl_J_weighHomes_35 (by decide +kernel) (fn_istore_n (ls' := [.ref 26, .int v1, .int (v1 / 360), .null, .null]) rl_J_weighHomes_36 rfl rfl (fn_aload_n rl_J_weighHomes_37 rfl (fn_get rl_J_weighHomes_38 hp_26 rfl (fn_get rl_J_weighHomes_41 hp_2 rfl (fn_iload_n rl_J_weighHomes_44 rfl (fn_iald rl_J_weighHomes_45 hp_9 (fun k2448 => fn_istore_n (ls' := [.ref 26, .int v1, .int (v1 / 360), .int ((A 9) v1.toNatClampNeg), .null]) rl_J_weighHomes_46 rfl rfl (fn_iconst rl_J_weighHomes_47 (fn_istore (ls' := [.ref 26, .int v1, .int (v1 / 360), .int ((A 9) v1.toNatClampNeg), .int 0]) rl_J_weighHomes_48 rfl rfl (k2448)))) k2450))))))))) k0))
set_option maxRecDepth 100000 in
set_option maxHeartbeats 4000000 in
theorem sg_J_weighHomes_50 {L : Nat} {xs : Nat → Int32} {A V : Nat → Nat → Int32} {K : Nat → Option Nat} {T : am_H} {v : Option Int32} {h' : am_H} {v1 v2 v3 v4 : Int32} (k0 :
    if 6 ≤ v4 then (
      am_fin [(z_J_weighHomes, 24, [.ref 26, .int (v1 + 1), .int v2, .int v3, .int v4], [])] (hp L xs A V K T) v h')
    else (
      if v3 = 0 then (
        am_fin [(z_J_weighHomes, 24, [.ref 26, .int (v1 + 1), .int v2, .int v3, .int v4], [])] (hp L xs A V K T) v h')
      else (
        ¬ (((v4 * 3) + v2) < 0 ∨ 18 ≤ ((v4 * 3) + v2).toNatClampNeg) ∧ (
        ¬ (((v4 * 3) + v2) < 0 ∨ 18 ≤ ((v4 * 3) + v2).toNatClampNeg) ∧ (
        am_fin [(z_J_weighHomes, 50, [.ref 26, .int v1, .int v2, .int v3, .int (v4 + 1)], [])] (hp L xs (upA A 28 (upd (A 28) ((v4 * 3) + v2).toNatClampNeg (((A 28) ((v4 * 3) + v2).toNatClampNeg) + (((v3 : Int32) >>> (v4 &&& 31 : Int32)) &&& 1)))) V K T) v h'))))) : am_fin [(z_J_weighHomes, 50, [.ref 26, .int v1, .int v2, .int v3, .int v4], [])] (hp L xs A V K T) v h' :=
  fn_iload rl_J_weighHomes_50 rfl (fn_bipush rl_J_weighHomes_52 (fn_icmp_ge rl_J_weighHomes_54 (fun k2455 => fn_iinc (ls' := [.ref 26, .int (v1 + 1), .int v2, .int v3, .int v4]) rl_J_weighHomes_87 rfl rfl rfl (fn_goto rl_J_weighHomes_90 (k2455))) (fun k2456 => fn_iload_n rl_J_weighHomes_57 rfl (fn_if_eq rl_J_weighHomes_58 (fun k2453 => fn_iinc (ls' := [.ref 26, .int (v1 + 1), .int v2, .int v3, .int v4]) rl_J_weighHomes_87 rfl rfl rfl (fn_goto rl_J_weighHomes_90 (k2453))) (fun k2454 => fn_aload_n rl_J_weighHomes_61 rfl (fn_get rl_J_weighHomes_62 hp_26 rfl (fn_iload rl_J_weighHomes_65 rfl (fn_iconst rl_J_weighHomes_67 (fn_imul rl_J_weighHomes_68 (fn_iload_n rl_J_weighHomes_69 rfl (fn_iadd rl_J_weighHomes_70 (fn_dup2 rl_J_weighHomes_71 (fn_iald rl_J_weighHomes_72 hp_28 (fun k2452 => fn_iload_n rl_J_weighHomes_73 rfl (fn_iload rl_J_weighHomes_74 rfl (fn_ishr rl_J_weighHomes_76 (fn_iconst rl_J_weighHomes_77 (fn_iand rl_J_weighHomes_78 (fn_iadd rl_J_weighHomes_79 (fn_iast rl_J_weighHomes_80 hp_28 hps_28 (fun k2451 => fn_iinc (ls' := [.ref 26, .int v1, .int v2, .int v3, .int (v4 + 1)]) rl_J_weighHomes_81 rfl rfl rfl (fn_goto rl_J_weighHomes_84 (k2451))) k2452))))))) k2454))))))))) k2456)) k0))
set_option maxRecDepth 100000 in
set_option maxHeartbeats 4000000 in
theorem sg_J_weighPlaces_34_0 {L : Nat} {xs : Nat → Int32} {A V : Nat → Nat → Int32} {K : Nat → Option Nat} {T : am_H} {v : Option Int32} {h' : am_H} (k0 :
    am_fin [(z_J_countInto, 0, [.ref 27, .ref 34, .null, .null], []), (z_J_weighPlaces, 8, [.ref 26, .ref 34], [])] (hp L xs A V K T) v h') : am_fin [(z_J_weighPlaces, 0, [.ref 26, .ref 34], [])] (hp L xs A V K T) v h' :=
  fn_aload_n rl_J_weighPlaces_0 rfl (fn_get rl_J_weighPlaces_1 hp_26 rfl (fn_aload_n rl_J_weighPlaces_4 rfl (fn_stat (as := [.ref 27, .ref 34]) (r := []) (ls' := [.ref 27, .ref 34, .null, .null]) rl_J_weighPlaces_5 rfl rfl rfl rfl pl_J_countInto rfl rfl (k0))))
set_option maxRecDepth 100000 in
set_option maxHeartbeats 4000000 in
theorem sg_J_weighPlaces_34_8r {L : Nat} {xs : Nat → Int32} {A V : Nat → Nat → Int32} {K : Nat → Option Nat} {T : am_H} {v : Option Int32} {h' : am_H} (k0 :
    v = none ∧ h' = hp L xs A V K T) : am_fin [(z_J_weighPlaces, 8, [.ref 26, .ref 34], [])] (hp L xs A V K T) v h' :=
  fn_retv rl_J_weighPlaces_8 k0
set_option maxRecDepth 100000 in
set_option maxHeartbeats 4000000 in
theorem sg_L_owedAsIf_0 {L : Nat} {xs : Nat → Int32} {A V : Nat → Nat → Int32} {K : Nat → Option Nat} {T : am_H} {v : Option Int32} {h' : am_H} (k0 :
    am_fin [(z_L_owedAsIf, 4, [.ref 1, .int 0, .int 0], [])] (hp L xs A V K T) v h') : am_fin [(z_L_owedAsIf, 0, [.ref 1, .null, .null], [])] (hp L xs A V K T) v h' :=
  fn_iconst rl_L_owedAsIf_0 (fn_istore_n (ls' := [.ref 1, .int 0, .null]) rl_L_owedAsIf_1 rfl rfl (fn_iconst rl_L_owedAsIf_2 (fn_istore_n (ls' := [.ref 1, .int 0, .int 0]) rl_L_owedAsIf_3 rfl rfl (k0))))
set_option maxRecDepth 100000 in
set_option maxHeartbeats 4000000 in
theorem sg_L_owedAsIf_4 {L : Nat} {xs : Nat → Int32} {A V : Nat → Nat → Int32} {K : Nat → Option Nat} {T : am_H} {v : Option Int32} {h' : am_H} {v1 v2 : Int32} (k0 :
    if 3 ≤ v2 then (
      v = some v1 ∧ h' = hp L xs A V K T)
    else (
      am_fin [(z_J_owedIn, 0, [.ref 26, .int v2, .ref 34, .null, .null, .null, .null, .null, .null], []), (z_L_owedAsIf, 22, [.ref 1, .int v1, .int v2], [.int v1])] (hp L xs A V K T) v h')) : am_fin [(z_L_owedAsIf, 4, [.ref 1, .int v1, .int v2], [])] (hp L xs A V K T) v h' :=
  fn_iload_n rl_L_owedAsIf_4 rfl (fn_iconst rl_L_owedAsIf_5 (fn_icmp_ge rl_L_owedAsIf_6 (fun k2457 => fn_iload_n rl_L_owedAsIf_30 rfl (fn_reti rl_L_owedAsIf_31 rfl k2457)) (fun k2458 => fn_iload_n rl_L_owedAsIf_9 rfl (fn_aload_n rl_L_owedAsIf_10 rfl (fn_get rl_L_owedAsIf_11 hp_1 rfl (fn_iload_n rl_L_owedAsIf_14 rfl (fn_aload_n rl_L_owedAsIf_15 rfl (fn_get rl_L_owedAsIf_16 hp_1 rfl (fn_virt (as := [.ref 26, .int v2, .ref 34]) (r := [.int v1]) (ls' := [.ref 26, .int v2, .ref 34, .null, .null, .null, .null, .null, .null]) rl_L_owedAsIf_19 rfl hp_26 rfl rfl pl_J_owedIn rfl rfl (k2458)))))))) k0))
set_option maxRecDepth 100000 in
set_option maxHeartbeats 4000000 in
theorem sg_L_owedAsIf_22r {L : Nat} {xs : Nat → Int32} {A V : Nat → Nat → Int32} {K : Nat → Option Nat} {T : am_H} {v : Option Int32} {h' : am_H} {v1 v2 s0 r : Int32} (k0 :
    am_fin [(z_L_owedAsIf, 4, [.ref 1, .int (s0 + r), .int (v2 + 1)], [])] (hp L xs A V K T) v h') : am_fin [(z_L_owedAsIf, 22, [.ref 1, .int v1, .int v2], [.int r, .int s0])] (hp L xs A V K T) v h' :=
  fn_iadd rl_L_owedAsIf_22 (fn_istore_n (ls' := [.ref 1, .int (s0 + r), .int v2]) rl_L_owedAsIf_23 rfl rfl (fn_iinc (ls' := [.ref 1, .int (s0 + r), .int (v2 + 1)]) rl_L_owedAsIf_24 rfl rfl rfl (fn_goto rl_L_owedAsIf_27 (k0))))
set_option maxRecDepth 100000 in
set_option maxHeartbeats 4000000 in
theorem sg_L_overstaysInAll_3_0 {L : Nat} {xs : Nat → Int32} {A V : Nat → Nat → Int32} {K : Nat → Option Nat} {T : am_H} {v : Option Int32} {h' : am_H} (k0 :
    am_fin [(z_L_overstaysInAll, 4, [.ref 1, .ref 3, .int 0, .int 0], [])] (hp L xs A V K T) v h') : am_fin [(z_L_overstaysInAll, 0, [.ref 1, .ref 3, .null, .null], [])] (hp L xs A V K T) v h' :=
  fn_iconst rl_L_overstaysInAll_0 (fn_istore_n (ls' := [.ref 1, .ref 3, .int 0, .null]) rl_L_overstaysInAll_1 rfl rfl (fn_iconst rl_L_overstaysInAll_2 (fn_istore_n (ls' := [.ref 1, .ref 3, .int 0, .int 0]) rl_L_overstaysInAll_3 rfl rfl (k0))))
set_option maxRecDepth 100000 in
set_option maxHeartbeats 4000000 in
theorem sg_L_overstaysInAll_3_4 {L : Nat} {xs : Nat → Int32} {A V : Nat → Nat → Int32} {K : Nat → Option Nat} {T : am_H} {v : Option Int32} {h' : am_H} {v2 v3 : Int32} (k0 :
    if 6 ≤ v3 then (
      v = some v2 ∧ h' = hp L xs A V K T)
    else (
      am_fin [(z_O_read, 0, [.ref 30, .ref 3, .int v3, .null], []), (z_L_overstaysInAll, 19, [.ref 1, .ref 3, .int v2, .int v3], [])] (hp L xs A V K T) v h')) : am_fin [(z_L_overstaysInAll, 4, [.ref 1, .ref 3, .int v2, .int v3], [])] (hp L xs A V K T) v h' :=
  fn_iload_n rl_L_overstaysInAll_4 rfl (fn_bipush rl_L_overstaysInAll_5 (fn_icmp_ge rl_L_overstaysInAll_7 (fun k2459 => fn_iload_n rl_L_overstaysInAll_35 rfl (fn_reti rl_L_overstaysInAll_36 rfl k2459)) (fun k2460 => fn_aload_n rl_L_overstaysInAll_10 rfl (fn_get rl_L_overstaysInAll_11 hp_1 rfl (fn_aload_n rl_L_overstaysInAll_14 rfl (fn_iload_n rl_L_overstaysInAll_15 rfl (fn_virt (as := [.ref 30, .ref 3, .int v3]) (r := []) (ls' := [.ref 30, .ref 3, .int v3, .null]) rl_L_overstaysInAll_16 rfl hp_30 rfl rfl pl_O_read rfl rfl (k2460)))))) k0))
set_option maxRecDepth 100000 in
set_option maxHeartbeats 4000000 in
theorem sg_L_overstaysInAll_3_19r {L : Nat} {xs : Nat → Int32} {A V : Nat → Nat → Int32} {K : Nat → Option Nat} {T : am_H} {v : Option Int32} {h' : am_H} {v2 v3 : Int32} (k0 :
    am_fin [(z_O_overstayDays, 0, [.ref 30, .null, .null], []), (z_L_overstaysInAll, 27, [.ref 1, .ref 3, .int v2, .int v3], [.int v2])] (hp L xs A V K T) v h') : am_fin [(z_L_overstaysInAll, 19, [.ref 1, .ref 3, .int v2, .int v3], [])] (hp L xs A V K T) v h' :=
  fn_iload_n rl_L_overstaysInAll_19 rfl (fn_aload_n rl_L_overstaysInAll_20 rfl (fn_get rl_L_overstaysInAll_21 hp_1 rfl (fn_virt (as := [.ref 30]) (r := [.int v2]) (ls' := [.ref 30, .null, .null]) rl_L_overstaysInAll_24 rfl hp_30 rfl rfl pl_O_overstayDays rfl rfl (k0))))
set_option maxRecDepth 100000 in
set_option maxHeartbeats 4000000 in
theorem sg_L_overstaysInAll_3_27r {L : Nat} {xs : Nat → Int32} {A V : Nat → Nat → Int32} {K : Nat → Option Nat} {T : am_H} {v : Option Int32} {h' : am_H} {v2 v3 s0 r : Int32} (k0 :
    am_fin [(z_L_overstaysInAll, 4, [.ref 1, .ref 3, .int (s0 + r), .int (v3 + 1)], [])] (hp L xs A V K T) v h') : am_fin [(z_L_overstaysInAll, 27, [.ref 1, .ref 3, .int v2, .int v3], [.int r, .int s0])] (hp L xs A V K T) v h' :=
  fn_iadd rl_L_overstaysInAll_27 (fn_istore_n (ls' := [.ref 1, .ref 3, .int (s0 + r), .int v3]) rl_L_overstaysInAll_28 rfl rfl (fn_iinc (ls' := [.ref 1, .ref 3, .int (s0 + r), .int (v3 + 1)]) rl_L_overstaysInAll_29 rfl rfl rfl (fn_goto rl_L_overstaysInAll_32 (k0))))
set_option maxRecDepth 100000 in
set_option maxHeartbeats 4000000 in
theorem sg_D_readStay_0 {L : Nat} {xs : Nat → Int32} {A V : Nat → Nat → Int32} {K : Nat → Option Nat} {T : am_H} {v : Option Int32} {h' : am_H} {a1 : Int32} (k0 :
    am_fin [(z_D_skipBlanks, 0, [.ref 21, .null], []), (z_D_readStay, 4, [.ref 21, .int a1, .null, .null, .null], [])] (hp L xs A V K T) v h') : am_fin [(z_D_readStay, 0, [.ref 21, .int a1, .null, .null, .null], [])] (hp L xs A V K T) v h' :=
  fn_aload_n rl_D_readStay_0 rfl (fn_virt (as := [.ref 21]) (r := []) (ls' := [.ref 21, .null]) rl_D_readStay_1 rfl hp_21 rfl rfl pl_D_skipBlanks rfl rfl (k0))
set_option maxRecDepth 100000 in
set_option maxHeartbeats 4000000 in
theorem sg_D_readStay_4r {L : Nat} {xs : Nat → Int32} {A V : Nat → Nat → Int32} {K : Nat → Option Nat} {T : am_H} {v : Option Int32} {h' : am_H} {v1 : Int32} (k0 :
    if (V 21 4) ≤ (V 21 6) then (
      if (V 21 7) = 0 then (
        v = none ∧ h' = hp L xs A (upV V 21 7 (((-1000) * 1) - (V 21 6))) K T)
      else (
        v = none ∧ h' = hp L xs A V K T))
    else (
      ¬ ((V 21 6) < 0 ∨ 320 ≤ (V 21 6).toNatClampNeg) ∧ (
      if ((A 20) (V 21 6).toNatClampNeg) = 45 then (
        am_fin [(z_D_skipBlanks, 0, [.ref 21, .null], []), (z_D_readStay, 42, [.ref 21, .int v1, .int (-1), .null, .null], [])] (hp L xs A (upV V 21 6 ((V 21 6) + 1)) K T) v h')
      else (
        if (((A 20) (V 21 6).toNatClampNeg) - 97) < 0 then (
          if (V 21 7) = 0 then (
            v = none ∧ h' = hp L xs A (upV V 21 7 (((-1000) * 1) - (V 21 6))) K T)
          else (
            v = none ∧ h' = hp L xs A V K T))
        else (
          if 5 < (((A 20) (V 21 6).toNatClampNeg) - 97) then (
            if (V 21 7) = 0 then (
              v = none ∧ h' = hp L xs A (upV V 21 7 (((-1000) * 1) - (V 21 6))) K T)
            else (
              v = none ∧ h' = hp L xs A V K T))
          else (
            if (((A 20) (V 21 6).toNatClampNeg) - 97) = (-2) then (
              if (V 21 7) = 0 then (
                v = none ∧ h' = hp L xs A (upV V 21 7 (((-1000) * 1) - (V 21 6))) K T)
              else (
                v = none ∧ h' = hp L xs A V K T))
            else (
              am_fin [(z_D_skipBlanks, 0, [.ref 21, .null], []), (z_D_readStay, 42, [.ref 21, .int v1, .int (((A 20) (V 21 6).toNatClampNeg) - 97), .null, .null], [])] (hp L xs A (upV V 21 6 ((V 21 6) + 1)) K T) v h'))))))) : am_fin [(z_D_readStay, 4, [.ref 21, .int v1, .null, .null, .null], [])] (hp L xs A V K T) v h' :=
  fn_aload_n rl_D_readStay_4 rfl (fn_virt (as := [.ref 21]) (r := []) (ls' := [.ref 21]) rl_D_readStay_5 rfl hp_21 rfl rfl pl_D_sign rfl rfl (fn_aload_n rl_D_sign_0 rfl (fn_get rl_D_sign_1 hp_21 rfl (fn_aload_n rl_D_sign_4 rfl (fn_get rl_D_sign_5 hp_21 rfl (fn_icmp_ge rl_D_sign_8 (fun k2949 => fn_iconst rl_D_sign_23 (fn_retci rl_D_sign_24 rfl (fn_stat (as := [.int (-1)]) (r := []) (ls' := [.int (-1)]) rl_D_readStay_8 rfl rfl rfl rfl pl_D_landOf rfl rfl (fn_iload_n rl_D_landOf_0 rfl (fn_bipush rl_D_landOf_1 (fn_icmp_ne_f rl_D_landOf_3 (by decide +kernel) (fn_iload_n rl_D_landOf_8 rfl (fn_bipush rl_D_landOf_9 (fn_isub rl_D_landOf_11 (fn_stat (as := [.int ((-1) - 97)]) (r := []) (ls' := [.int ((-1) - 97)]) rl_D_landOf_12 rfl rfl rfl rfl pl_L_isLand rfl rfl (fn_iload_n rl_L_isLand_0 rfl (fn_iconst rl_L_isLand_1 (fn_iconst rl_L_isLand_2 (fn_stat (as := [.int ((-1) - 97), .int 0, .int 5]) (r := []) (ls' := [.int ((-1) - 97), .int 0, .int 5]) rl_L_isLand_3 rfl rfl rfl rfl pl_L_isAmong rfl rfl (fn_iload_n rl_L_isAmong_0 rfl (fn_iload_n rl_L_isAmong_1 rfl (fn_icmp_lt_t rl_L_isAmong_2 (by decide +kernel) (fn_iconst rl_L_isAmong_14 (fn_retci rl_L_isAmong_15 rfl (fn_retci rl_L_isLand_6 rfl (fn_if_eq_t rl_D_landOf_15 (by decide +kernel) (fn_bipush rl_D_landOf_25 (fn_retci rl_D_landOf_27 rfl (fn_istore_n (ls' := [.ref 21, .int v1, .int (-2), .null, .null]) rl_D_readStay_11 rfl rfl (fn_iload_n rl_D_readStay_12 rfl (fn_bipush rl_D_readStay_13 (fn_icmp_ne_t rl_D_readStay_15 (by decide +kernel) (fn_aload_n rl_D_readStay_18 rfl (fn_iconst rl_D_readStay_19 (fn_aload_n rl_D_readStay_20 rfl (fn_get rl_D_readStay_21 hp_21 rfl (fn_virt (as := [.ref 21, .int 1, .int (V 21 6)]) (r := []) (ls' := [.ref 21, .int 1, .int (V 21 6)]) rl_D_readStay_24 rfl hp_21 rfl rfl pl_D_fail rfl rfl (fn_aload_n rl_D_fail_0 rfl (fn_get rl_D_fail_1 hp_21 rfl (fn_if_ne rl_D_fail_4 (fun k2932 => fn_aload_n rl_D_fail_7 rfl (fn_sipush rl_D_fail_8 (fn_iload_n rl_D_fail_11 rfl (fn_imul rl_D_fail_12 (fn_iload_n rl_D_fail_13 rfl (fn_isub rl_D_fail_14 (fn_put rl_D_fail_15 hp_21 rfl hpv_21_7 (fn_retcv rl_D_fail_18 (fn_retv rl_D_readStay_27 k2932))))))))) (fun k2933 => fn_retcv rl_D_fail_18 (fn_retv rl_D_readStay_27 k2933)) k2949))))))))))))))))))))))))))))))))))) (fun k2950 => fn_aload_n rl_D_sign_11 rfl (fn_get rl_D_sign_12 hp_21 rfl (fn_aload_n rl_D_sign_15 rfl (fn_get rl_D_sign_16 hp_21 rfl (fn_iald rl_D_sign_19 hp_20 (fun k2948 => fn_goto rl_D_sign_20 (fn_retci rl_D_sign_24 rfl (fn_stat (as := [.int ((A 20) (V 21 6).toNatClampNeg)]) (r := []) (ls' := [.int ((A 20) (V 21 6).toNatClampNeg)]) rl_D_readStay_8 rfl rfl rfl rfl pl_D_landOf rfl rfl (fn_iload_n rl_D_landOf_0 rfl (fn_bipush rl_D_landOf_1 (fn_icmp_ne rl_D_landOf_3 (fun k2946 => fn_iconst rl_D_landOf_6 (fn_retci rl_D_landOf_7 rfl (fn_istore_n (ls' := [.ref 21, .int v1, .int (-1), .null, .null]) rl_D_readStay_11 rfl rfl (fn_iload_n rl_D_readStay_12 rfl (fn_bipush rl_D_readStay_13 (fn_icmp_ne_f rl_D_readStay_15 (by decide +kernel) (fn_aload_n rl_D_readStay_28 rfl (fn_dup_ref rl_D_readStay_29 (fn_get rl_D_readStay_30 hp_21 rfl (fn_iconst rl_D_readStay_33 (fn_iadd rl_D_readStay_34 (fn_put rl_D_readStay_35 hp_21 rfl hpv_21_6 (fn_aload_n rl_D_readStay_38 rfl (fn_virt (as := [.ref 21]) (r := []) (ls' := [.ref 21, .null]) rl_D_readStay_39 rfl hp_21 rfl rfl pl_D_skipBlanks rfl rfl (k2946))))))))))))))) (fun k2947 => fn_iload_n rl_D_landOf_8 rfl (fn_bipush rl_D_landOf_9 (fn_isub rl_D_landOf_11 (fn_stat (as := [.int (((A 20) (V 21 6).toNatClampNeg) - 97)]) (r := []) (ls' := [.int (((A 20) (V 21 6).toNatClampNeg) - 97)]) rl_D_landOf_12 rfl rfl rfl rfl pl_L_isLand rfl rfl (fn_iload_n rl_L_isLand_0 rfl (fn_iconst rl_L_isLand_1 (fn_iconst rl_L_isLand_2 (fn_stat (as := [.int (((A 20) (V 21 6).toNatClampNeg) - 97), .int 0, .int 5]) (r := []) (ls' := [.int (((A 20) (V 21 6).toNatClampNeg) - 97), .int 0, .int 5]) rl_L_isLand_3 rfl rfl rfl rfl pl_L_isAmong rfl rfl (fn_iload_n rl_L_isAmong_0 rfl (fn_iload_n rl_L_isAmong_1 rfl (fn_icmp_lt rl_L_isAmong_2 (fun k2944 => fn_iconst rl_L_isAmong_14 (fn_retci rl_L_isAmong_15 rfl (fn_retci rl_L_isLand_6 rfl (fn_if_eq_t rl_D_landOf_15 (by decide +kernel) (fn_bipush rl_D_landOf_25 (fn_retci rl_D_landOf_27 rfl (fn_istore_n (ls' := [.ref 21, .int v1, .int (-2), .null, .null]) rl_D_readStay_11 rfl rfl (fn_iload_n rl_D_readStay_12 rfl (fn_bipush rl_D_readStay_13 (fn_icmp_ne_t rl_D_readStay_15 (by decide +kernel) (fn_aload_n rl_D_readStay_18 rfl (fn_iconst rl_D_readStay_19 (fn_aload_n rl_D_readStay_20 rfl (fn_get rl_D_readStay_21 hp_21 rfl (fn_virt (as := [.ref 21, .int 1, .int (V 21 6)]) (r := []) (ls' := [.ref 21, .int 1, .int (V 21 6)]) rl_D_readStay_24 rfl hp_21 rfl rfl pl_D_fail rfl rfl (fn_aload_n rl_D_fail_0 rfl (fn_get rl_D_fail_1 hp_21 rfl (fn_if_ne rl_D_fail_4 (fun k2934 => fn_aload_n rl_D_fail_7 rfl (fn_sipush rl_D_fail_8 (fn_iload_n rl_D_fail_11 rfl (fn_imul rl_D_fail_12 (fn_iload_n rl_D_fail_13 rfl (fn_isub rl_D_fail_14 (fn_put rl_D_fail_15 hp_21 rfl hpv_21_7 (fn_retcv rl_D_fail_18 (fn_retv rl_D_readStay_27 k2934))))))))) (fun k2935 => fn_retcv rl_D_fail_18 (fn_retv rl_D_readStay_27 k2935)) k2944)))))))))))))))))) (fun k2945 => fn_iload_n rl_L_isAmong_5 rfl (fn_iload_n rl_L_isAmong_6 rfl (fn_icmp_gt rl_L_isAmong_7 (fun k2942 => fn_iconst rl_L_isAmong_14 (fn_retci rl_L_isAmong_15 rfl (fn_retci rl_L_isLand_6 rfl (fn_if_eq_t rl_D_landOf_15 (by decide +kernel) (fn_bipush rl_D_landOf_25 (fn_retci rl_D_landOf_27 rfl (fn_istore_n (ls' := [.ref 21, .int v1, .int (-2), .null, .null]) rl_D_readStay_11 rfl rfl (fn_iload_n rl_D_readStay_12 rfl (fn_bipush rl_D_readStay_13 (fn_icmp_ne_t rl_D_readStay_15 (by decide +kernel) (fn_aload_n rl_D_readStay_18 rfl (fn_iconst rl_D_readStay_19 (fn_aload_n rl_D_readStay_20 rfl (fn_get rl_D_readStay_21 hp_21 rfl (fn_virt (as := [.ref 21, .int 1, .int (V 21 6)]) (r := []) (ls' := [.ref 21, .int 1, .int (V 21 6)]) rl_D_readStay_24 rfl hp_21 rfl rfl pl_D_fail rfl rfl (fn_aload_n rl_D_fail_0 rfl (fn_get rl_D_fail_1 hp_21 rfl (fn_if_ne rl_D_fail_4 (fun k2936 => fn_aload_n rl_D_fail_7 rfl (fn_sipush rl_D_fail_8 (fn_iload_n rl_D_fail_11 rfl (fn_imul rl_D_fail_12 (fn_iload_n rl_D_fail_13 rfl (fn_isub rl_D_fail_14 (fn_put rl_D_fail_15 hp_21 rfl hpv_21_7 (fn_retcv rl_D_fail_18 (fn_retv rl_D_readStay_27 k2936))))))))) (fun k2937 => fn_retcv rl_D_fail_18 (fn_retv rl_D_readStay_27 k2937)) k2942)))))))))))))))))) (fun k2943 => fn_iconst rl_L_isAmong_10 (fn_goto rl_L_isAmong_11 (fn_retci rl_L_isAmong_15 rfl (fn_retci rl_L_isLand_6 rfl (fn_if_eq_f rl_D_landOf_15 (by decide +kernel) (fn_iload_n rl_D_landOf_18 rfl (fn_bipush rl_D_landOf_19 (fn_isub rl_D_landOf_21 (fn_goto rl_D_landOf_22 (fn_retci rl_D_landOf_27 rfl (fn_istore_n (ls' := [.ref 21, .int v1, .int (((A 20) (V 21 6).toNatClampNeg) - 97), .null, .null]) rl_D_readStay_11 rfl rfl (fn_iload_n rl_D_readStay_12 rfl (fn_bipush rl_D_readStay_13 (fn_icmp_ne rl_D_readStay_15 (fun k2940 => fn_aload_n rl_D_readStay_18 rfl (fn_iconst rl_D_readStay_19 (fn_aload_n rl_D_readStay_20 rfl (fn_get rl_D_readStay_21 hp_21 rfl (fn_virt (as := [.ref 21, .int 1, .int (V 21 6)]) (r := []) (ls' := [.ref 21, .int 1, .int (V 21 6)]) rl_D_readStay_24 rfl hp_21 rfl rfl pl_D_fail rfl rfl (fn_aload_n rl_D_fail_0 rfl (fn_get rl_D_fail_1 hp_21 rfl (fn_if_ne rl_D_fail_4 (fun k2938 => fn_aload_n rl_D_fail_7 rfl (fn_sipush rl_D_fail_8 (fn_iload_n rl_D_fail_11 rfl (fn_imul rl_D_fail_12 (fn_iload_n rl_D_fail_13 rfl (fn_isub rl_D_fail_14 (fn_put rl_D_fail_15 hp_21 rfl hpv_21_7 (fn_retcv rl_D_fail_18 (fn_retv rl_D_readStay_27 k2938))))))))) (fun k2939 => fn_retcv rl_D_fail_18 (fn_retv rl_D_readStay_27 k2939)) k2940)))))))) (fun k2941 => fn_aload_n rl_D_readStay_28 rfl (fn_dup_ref rl_D_readStay_29 (fn_get rl_D_readStay_30 hp_21 rfl (fn_iconst rl_D_readStay_33 (fn_iadd rl_D_readStay_34 (fn_put rl_D_readStay_35 hp_21 rfl hpv_21_6 (fn_aload_n rl_D_readStay_38 rfl (fn_virt (as := [.ref 21]) (r := []) (ls' := [.ref 21, .null]) rl_D_readStay_39 rfl hp_21 rfl rfl pl_D_skipBlanks rfl rfl (k2941))))))))) k2943)))))))))))))) k2945))) k2947))))))))))) k2948)))))) k2950))))) k0))))))
set_option maxRecDepth 100000 in
set_option maxHeartbeats 4000000 in
theorem sg_D_readStay_42r {L : Nat} {xs : Nat → Int32} {A V : Nat → Nat → Int32} {K : Nat → Option Nat} {T : am_H} {v : Option Int32} {h' : am_H} {v1 v2 : Int32} (k0 :
    am_fin [(z_D_readDay, 0, [.ref 21, .int 0, .null, .null, .null], []), (z_D_readStay, 47, [.ref 21, .int v1, .int v2, .null, .null], [])] (hp L xs A V K T) v h') : am_fin [(z_D_readStay, 42, [.ref 21, .int v1, .int v2, .null, .null], [])] (hp L xs A V K T) v h' :=
  fn_aload_n rl_D_readStay_42 rfl (fn_iconst rl_D_readStay_43 (fn_virt (as := [.ref 21, .int 0]) (r := []) (ls' := [.ref 21, .int 0, .null, .null, .null]) rl_D_readStay_44 rfl hp_21 rfl rfl pl_D_readDay rfl rfl (k0)))
set_option maxRecDepth 100000 in
set_option maxHeartbeats 4000000 in
theorem sg_D_readStay_47r {L : Nat} {xs : Nat → Int32} {A V : Nat → Nat → Int32} {K : Nat → Option Nat} {T : am_H} {v : Option Int32} {h' : am_H} {v1 v2 r : Int32} (k0 :
    am_fin [(z_D_skipBlanks, 0, [.ref 21, .null], []), (z_D_readStay, 55, [.ref 21, .int v1, .int v2, .int r, .int r], [])] (hp L xs A V K T) v h') : am_fin [(z_D_readStay, 47, [.ref 21, .int v1, .int v2, .null, .null], [.int r])] (hp L xs A V K T) v h' :=
  fn_istore_n (ls' := [.ref 21, .int v1, .int v2, .int r, .null]) rl_D_readStay_47 rfl rfl (fn_iload_n rl_D_readStay_48 rfl (fn_istore (ls' := [.ref 21, .int v1, .int v2, .int r, .int r]) rl_D_readStay_49 rfl rfl (fn_aload_n rl_D_readStay_51 rfl (fn_virt (as := [.ref 21]) (r := []) (ls' := [.ref 21, .null]) rl_D_readStay_52 rfl hp_21 rfl rfl pl_D_skipBlanks rfl rfl (k0)))))
set_option maxRecDepth 100000 in
set_option maxHeartbeats 4000000 in
theorem sg_D_readStay_55r {L : Nat} {xs : Nat → Int32} {A V : Nat → Nat → Int32} {K : Nat → Option Nat} {T : am_H} {v : Option Int32} {h' : am_H} {v1 v2 v3 v4 : Int32} (k0 :
    if (V 21 7) = 0 then (
      if (V 21 4) ≤ (V 21 6) then (
        if (V 21 7) = 0 then (
          ¬ (v1 < 0 ∨ 80 ≤ v1.toNatClampNeg) ∧ (
          ¬ (v1 < 0 ∨ 80 ≤ v1.toNatClampNeg) ∧ (
          ¬ (v1 < 0 ∨ 80 ≤ v1.toNatClampNeg) ∧ (
          v = none ∧ h' = hp L xs (upA (upA (upA A 22 (upd (A 22) v1.toNatClampNeg v2)) 23 (upd ((upA A 22 (upd (A 22) v1.toNatClampNeg v2)) 23) v1.toNatClampNeg v3)) 24 (upd ((upA (upA A 22 (upd (A 22) v1.toNatClampNeg v2)) 23 (upd ((upA A 22 (upd (A 22) v1.toNatClampNeg v2)) 23) v1.toNatClampNeg v3)) 24) v1.toNatClampNeg v4)) (upV V 21 5 (v1 + 1)) K T))))
        else (
          v = none ∧ h' = hp L xs A V K T))
      else (
        ¬ ((V 21 6) < 0 ∨ 320 ≤ (V 21 6).toNatClampNeg) ∧ (
        if ((A 20) (V 21 6).toNatClampNeg) = 46 then (
          if ((upV V 21 6 ((V 21 6) + 1)) 21 4) ≤ ((upV V 21 6 ((V 21 6) + 1)) 21 6) then (
            if ((upV V 21 6 ((V 21 6) + 1)) 21 7) = 0 then (
              am_fin [(z_D_skipBlanks, 0, [.ref 21, .null], []), (z_D_readStay, 79, [.ref 21, .int v1, .int v2, .int v3, .int v4], [])] (hp L xs A (upV (upV V 21 6 ((V 21 6) + 1)) 21 7 (((-1000) * 1) - ((upV V 21 6 ((V 21 6) + 1)) 21 6))) K T) v h')
            else (
              am_fin [(z_D_skipBlanks, 0, [.ref 21, .null], []), (z_D_readStay, 79, [.ref 21, .int v1, .int v2, .int v3, .int v4], [])] (hp L xs A (upV V 21 6 ((V 21 6) + 1)) K T) v h'))
          else (
            ¬ (((upV V 21 6 ((V 21 6) + 1)) 21 6) < 0 ∨ 320 ≤ ((upV V 21 6 ((V 21 6) + 1)) 21 6).toNatClampNeg) ∧ (
            if ((A 20) ((upV V 21 6 ((V 21 6) + 1)) 21 6).toNatClampNeg) = 46 then (
              am_fin [(z_D_skipBlanks, 0, [.ref 21, .null], []), (z_D_readStay, 79, [.ref 21, .int v1, .int v2, .int v3, .int v4], [])] (hp L xs A (upV (upV V 21 6 ((V 21 6) + 1)) 21 6 (((upV V 21 6 ((V 21 6) + 1)) 21 6) + 1)) K T) v h')
            else (
              if ((upV V 21 6 ((V 21 6) + 1)) 21 7) = 0 then (
                am_fin [(z_D_skipBlanks, 0, [.ref 21, .null], []), (z_D_readStay, 79, [.ref 21, .int v1, .int v2, .int v3, .int v4], [])] (hp L xs A (upV (upV V 21 6 ((V 21 6) + 1)) 21 7 (((-1000) * 1) - ((upV V 21 6 ((V 21 6) + 1)) 21 6))) K T) v h')
              else (
                am_fin [(z_D_skipBlanks, 0, [.ref 21, .null], []), (z_D_readStay, 79, [.ref 21, .int v1, .int v2, .int v3, .int v4], [])] (hp L xs A (upV V 21 6 ((V 21 6) + 1)) K T) v h')))))
        else (
          if (V 21 7) = 0 then (
            ¬ (v1 < 0 ∨ 80 ≤ v1.toNatClampNeg) ∧ (
            ¬ (v1 < 0 ∨ 80 ≤ v1.toNatClampNeg) ∧ (
            ¬ (v1 < 0 ∨ 80 ≤ v1.toNatClampNeg) ∧ (
            v = none ∧ h' = hp L xs (upA (upA (upA A 22 (upd (A 22) v1.toNatClampNeg v2)) 23 (upd ((upA A 22 (upd (A 22) v1.toNatClampNeg v2)) 23) v1.toNatClampNeg v3)) 24 (upd ((upA (upA A 22 (upd (A 22) v1.toNatClampNeg v2)) 23 (upd ((upA A 22 (upd (A 22) v1.toNatClampNeg v2)) 23) v1.toNatClampNeg v3)) 24) v1.toNatClampNeg v4)) (upV V 21 5 (v1 + 1)) K T))))
          else (
            v = none ∧ h' = hp L xs A V K T)))))
    else (
      if (V 21 7) = 0 then (
        ¬ (v1 < 0 ∨ 80 ≤ v1.toNatClampNeg) ∧ (
        ¬ (v1 < 0 ∨ 80 ≤ v1.toNatClampNeg) ∧ (
        ¬ (v1 < 0 ∨ 80 ≤ v1.toNatClampNeg) ∧ (
        v = none ∧ h' = hp L xs (upA (upA (upA A 22 (upd (A 22) v1.toNatClampNeg v2)) 23 (upd ((upA A 22 (upd (A 22) v1.toNatClampNeg v2)) 23) v1.toNatClampNeg v3)) 24 (upd ((upA (upA A 22 (upd (A 22) v1.toNatClampNeg v2)) 23 (upd ((upA A 22 (upd (A 22) v1.toNatClampNeg v2)) 23) v1.toNatClampNeg v3)) 24) v1.toNatClampNeg v4)) (upV V 21 5 (v1 + 1)) K T))))
      else (
        v = none ∧ h' = hp L xs A V K T))) : am_fin [(z_D_readStay, 55, [.ref 21, .int v1, .int v2, .int v3, .int v4], [])] (hp L xs A V K T) v h' :=
  fn_aload_n rl_D_readStay_55 rfl (fn_get rl_D_readStay_56 hp_21 rfl (fn_if_ne rl_D_readStay_59 (fun k2980 => fn_aload_n rl_D_readStay_62 rfl (fn_virt (as := [.ref 21]) (r := []) (ls' := [.ref 21]) rl_D_readStay_63 rfl hp_21 rfl rfl pl_D_sign rfl rfl (fn_aload_n rl_D_sign_0 rfl (fn_get rl_D_sign_1 hp_21 rfl (fn_aload_n rl_D_sign_4 rfl (fn_get rl_D_sign_5 hp_21 rfl (fn_icmp_ge rl_D_sign_8 (fun k2973 => fn_iconst rl_D_sign_23 (fn_retci rl_D_sign_24 rfl (fn_bipush rl_D_readStay_66 (fn_icmp_ne_f rl_D_readStay_68 (by decide +kernel) (fn_aload_n rl_D_readStay_90 rfl (fn_get rl_D_readStay_91 hp_21 rfl (fn_if_ne rl_D_readStay_94 (fun k2954 => fn_aload_n rl_D_readStay_97 rfl (fn_get rl_D_readStay_98 hp_21 rfl (fn_iload_n rl_D_readStay_101 rfl (fn_iload_n rl_D_readStay_102 rfl (fn_iast rl_D_readStay_103 hp_22 hps_22 (fun k2953 => fn_aload_n rl_D_readStay_104 rfl (fn_get rl_D_readStay_105 hp_21 rfl (fn_iload_n rl_D_readStay_108 rfl (fn_iload_n rl_D_readStay_109 rfl (fn_iast rl_D_readStay_110 hp_23 hps_23 (fun k2952 => fn_aload_n rl_D_readStay_111 rfl (fn_get rl_D_readStay_112 hp_21 rfl (fn_iload_n rl_D_readStay_115 rfl (fn_iload rl_D_readStay_116 rfl (fn_iast rl_D_readStay_118 hp_24 hps_24 (fun k2951 => fn_aload_n rl_D_readStay_119 rfl (fn_iload_n rl_D_readStay_120 rfl (fn_iconst rl_D_readStay_121 (fn_iadd rl_D_readStay_122 (fn_put rl_D_readStay_123 hp_21 rfl hpv_21_5 (fn_retv rl_D_readStay_126 k2951)))))) k2952))))) k2953))))) k2954))))) (fun k2955 => fn_retv rl_D_readStay_126 k2955) k2973))))))) (fun k2974 => fn_aload_n rl_D_sign_11 rfl (fn_get rl_D_sign_12 hp_21 rfl (fn_aload_n rl_D_sign_15 rfl (fn_get rl_D_sign_16 hp_21 rfl (fn_iald rl_D_sign_19 hp_20 (fun k2972 => fn_goto rl_D_sign_20 (fn_retci rl_D_sign_24 rfl (fn_bipush rl_D_readStay_66 (fn_icmp_ne rl_D_readStay_68 (fun k2970 => fn_aload_n rl_D_readStay_71 rfl (fn_virt (as := [.ref 21]) (r := []) (ls' := [.ref 21]) rl_D_readStay_72 rfl hp_21 rfl rfl pl_D_readPoints rfl rfl (fn_aload_n rl_D_readPoints_0 rfl (fn_dup_ref rl_D_readPoints_1 (fn_get rl_D_readPoints_2 hp_21 rfl (fn_iconst rl_D_readPoints_5 (fn_iadd rl_D_readPoints_6 (fn_put rl_D_readPoints_7 hp_21 rfl hpv_21_6 (fn_aload_n rl_D_readPoints_10 rfl (fn_virt (as := [.ref 21]) (r := []) (ls' := [.ref 21]) rl_D_readPoints_11 rfl hp_21 rfl rfl pl_D_sign rfl rfl (fn_aload_n rl_D_sign_0 rfl (fn_get rl_D_sign_1 hp_21 rfl (fn_aload_n rl_D_sign_4 rfl (fn_get rl_D_sign_5 hp_21 rfl (fn_icmp_ge rl_D_sign_8 (fun k2963 => fn_iconst rl_D_sign_23 (fn_retci rl_D_sign_24 rfl (fn_bipush rl_D_readPoints_14 (fn_icmp_ne_f rl_D_readPoints_16 (by decide +kernel) (fn_aload_n rl_D_readPoints_32 rfl (fn_iconst rl_D_readPoints_33 (fn_aload_n rl_D_readPoints_34 rfl (fn_get rl_D_readPoints_35 hp_21 rfl (fn_virt (as := [.ref 21, .int 1, .int ((upV V 21 6 ((V 21 6) + 1)) 21 6)]) (r := []) (ls' := [.ref 21, .int 1, .int ((upV V 21 6 ((V 21 6) + 1)) 21 6)]) rl_D_readPoints_38 rfl hp_21 rfl rfl pl_D_fail rfl rfl (fn_aload_n rl_D_fail_0 rfl (fn_get rl_D_fail_1 hp_21 rfl (fn_if_ne rl_D_fail_4 (fun k2956 => fn_aload_n rl_D_fail_7 rfl (fn_sipush rl_D_fail_8 (fn_iload_n rl_D_fail_11 rfl (fn_imul rl_D_fail_12 (fn_iload_n rl_D_fail_13 rfl (fn_isub rl_D_fail_14 (fn_put rl_D_fail_15 hp_21 rfl hpv_21_7 (fn_retcv rl_D_fail_18 (fn_retcv rl_D_readPoints_41 (fn_aload_n rl_D_readStay_75 rfl (fn_virt (as := [.ref 21]) (r := []) (ls' := [.ref 21, .null]) rl_D_readStay_76 rfl hp_21 rfl rfl pl_D_skipBlanks rfl rfl (k2956)))))))))))) (fun k2957 => fn_retcv rl_D_fail_18 (fn_retcv rl_D_readPoints_41 (fn_aload_n rl_D_readStay_75 rfl (fn_virt (as := [.ref 21]) (r := []) (ls' := [.ref 21, .null]) rl_D_readStay_76 rfl hp_21 rfl rfl pl_D_skipBlanks rfl rfl (k2957))))) k2963)))))))))))) (fun k2964 => fn_aload_n rl_D_sign_11 rfl (fn_get rl_D_sign_12 hp_21 rfl (fn_aload_n rl_D_sign_15 rfl (fn_get rl_D_sign_16 hp_21 rfl (fn_iald rl_D_sign_19 hp_20 (fun k2962 => fn_goto rl_D_sign_20 (fn_retci rl_D_sign_24 rfl (fn_bipush rl_D_readPoints_14 (fn_icmp_ne rl_D_readPoints_16 (fun k2960 => fn_aload_n rl_D_readPoints_19 rfl (fn_dup_ref rl_D_readPoints_20 (fn_get rl_D_readPoints_21 hp_21 rfl (fn_iconst rl_D_readPoints_24 (fn_iadd rl_D_readPoints_25 (fn_put rl_D_readPoints_26 hp_21 rfl hpv_21_6 (fn_goto rl_D_readPoints_29 (fn_retcv rl_D_readPoints_41 (fn_aload_n rl_D_readStay_75 rfl (fn_virt (as := [.ref 21]) (r := []) (ls' := [.ref 21, .null]) rl_D_readStay_76 rfl hp_21 rfl rfl pl_D_skipBlanks rfl rfl (k2960))))))))))) (fun k2961 => fn_aload_n rl_D_readPoints_32 rfl (fn_iconst rl_D_readPoints_33 (fn_aload_n rl_D_readPoints_34 rfl (fn_get rl_D_readPoints_35 hp_21 rfl (fn_virt (as := [.ref 21, .int 1, .int ((upV V 21 6 ((V 21 6) + 1)) 21 6)]) (r := []) (ls' := [.ref 21, .int 1, .int ((upV V 21 6 ((V 21 6) + 1)) 21 6)]) rl_D_readPoints_38 rfl hp_21 rfl rfl pl_D_fail rfl rfl (fn_aload_n rl_D_fail_0 rfl (fn_get rl_D_fail_1 hp_21 rfl (fn_if_ne rl_D_fail_4 (fun k2958 => fn_aload_n rl_D_fail_7 rfl (fn_sipush rl_D_fail_8 (fn_iload_n rl_D_fail_11 rfl (fn_imul rl_D_fail_12 (fn_iload_n rl_D_fail_13 rfl (fn_isub rl_D_fail_14 (fn_put rl_D_fail_15 hp_21 rfl hpv_21_7 (fn_retcv rl_D_fail_18 (fn_retcv rl_D_readPoints_41 (fn_aload_n rl_D_readStay_75 rfl (fn_virt (as := [.ref 21]) (r := []) (ls' := [.ref 21, .null]) rl_D_readStay_76 rfl hp_21 rfl rfl pl_D_skipBlanks rfl rfl (k2958)))))))))))) (fun k2959 => fn_retcv rl_D_fail_18 (fn_retcv rl_D_readPoints_41 (fn_aload_n rl_D_readStay_75 rfl (fn_virt (as := [.ref 21]) (r := []) (ls' := [.ref 21, .null]) rl_D_readStay_76 rfl hp_21 rfl rfl pl_D_skipBlanks rfl rfl (k2959))))) k2961)))))))) k2962)))) k2964))))) k2970))))))))))))))) (fun k2971 => fn_aload_n rl_D_readStay_90 rfl (fn_get rl_D_readStay_91 hp_21 rfl (fn_if_ne rl_D_readStay_94 (fun k2968 => fn_aload_n rl_D_readStay_97 rfl (fn_get rl_D_readStay_98 hp_21 rfl (fn_iload_n rl_D_readStay_101 rfl (fn_iload_n rl_D_readStay_102 rfl (fn_iast rl_D_readStay_103 hp_22 hps_22 (fun k2967 => fn_aload_n rl_D_readStay_104 rfl (fn_get rl_D_readStay_105 hp_21 rfl (fn_iload_n rl_D_readStay_108 rfl (fn_iload_n rl_D_readStay_109 rfl (fn_iast rl_D_readStay_110 hp_23 hps_23 (fun k2966 => fn_aload_n rl_D_readStay_111 rfl (fn_get rl_D_readStay_112 hp_21 rfl (fn_iload_n rl_D_readStay_115 rfl (fn_iload rl_D_readStay_116 rfl (fn_iast rl_D_readStay_118 hp_24 hps_24 (fun k2965 => fn_aload_n rl_D_readStay_119 rfl (fn_iload_n rl_D_readStay_120 rfl (fn_iconst rl_D_readStay_121 (fn_iadd rl_D_readStay_122 (fn_put rl_D_readStay_123 hp_21 rfl hpv_21_5 (fn_retv rl_D_readStay_126 k2965)))))) k2966))))) k2967))))) k2968))))) (fun k2969 => fn_retv rl_D_readStay_126 k2969) k2971))) k2972)))) k2974))))) k2980))))))) (fun k2981 => fn_aload_n rl_D_readStay_90 rfl (fn_get rl_D_readStay_91 hp_21 rfl (fn_if_ne rl_D_readStay_94 (fun k2978 => fn_aload_n rl_D_readStay_97 rfl (fn_get rl_D_readStay_98 hp_21 rfl (fn_iload_n rl_D_readStay_101 rfl (fn_iload_n rl_D_readStay_102 rfl (fn_iast rl_D_readStay_103 hp_22 hps_22 (fun k2977 => fn_aload_n rl_D_readStay_104 rfl (fn_get rl_D_readStay_105 hp_21 rfl (fn_iload_n rl_D_readStay_108 rfl (fn_iload_n rl_D_readStay_109 rfl (fn_iast rl_D_readStay_110 hp_23 hps_23 (fun k2976 => fn_aload_n rl_D_readStay_111 rfl (fn_get rl_D_readStay_112 hp_21 rfl (fn_iload_n rl_D_readStay_115 rfl (fn_iload rl_D_readStay_116 rfl (fn_iast rl_D_readStay_118 hp_24 hps_24 (fun k2975 => fn_aload_n rl_D_readStay_119 rfl (fn_iload_n rl_D_readStay_120 rfl (fn_iconst rl_D_readStay_121 (fn_iadd rl_D_readStay_122 (fn_put rl_D_readStay_123 hp_21 rfl hpv_21_5 (fn_retv rl_D_readStay_126 k2975)))))) k2976))))) k2977))))) k2978))))) (fun k2979 => fn_retv rl_D_readStay_126 k2979) k2981))) k0))
set_option maxRecDepth 100000 in
set_option maxHeartbeats 4000000 in
theorem sg_D_readStay_79r {L : Nat} {xs : Nat → Int32} {A V : Nat → Nat → Int32} {K : Nat → Option Nat} {T : am_H} {v : Option Int32} {h' : am_H} {v1 v2 v3 v4 : Int32} (k0 :
    am_fin [(z_D_readDay, 0, [.ref 21, .int v3, .null, .null, .null], []), (z_D_readStay, 84, [.ref 21, .int v1, .int v2, .int v3, .int v4], [])] (hp L xs A V K T) v h') : am_fin [(z_D_readStay, 79, [.ref 21, .int v1, .int v2, .int v3, .int v4], [])] (hp L xs A V K T) v h' :=
  fn_aload_n rl_D_readStay_79 rfl (fn_iload_n rl_D_readStay_80 rfl (fn_virt (as := [.ref 21, .int v3]) (r := []) (ls' := [.ref 21, .int v3, .null, .null, .null]) rl_D_readStay_81 rfl hp_21 rfl rfl pl_D_readDay rfl rfl (k0)))
set_option maxRecDepth 100000 in
set_option maxHeartbeats 4000000 in
theorem sg_D_readStay_84r {L : Nat} {xs : Nat → Int32} {A V : Nat → Nat → Int32} {K : Nat → Option Nat} {T : am_H} {v : Option Int32} {h' : am_H} {v1 v2 v3 v4 r : Int32} (k0 :
    am_fin [(z_D_skipBlanks, 0, [.ref 21, .null], []), (z_D_readStay, 90, [.ref 21, .int v1, .int v2, .int v3, .int r], [])] (hp L xs A V K T) v h') : am_fin [(z_D_readStay, 84, [.ref 21, .int v1, .int v2, .int v3, .int v4], [.int r])] (hp L xs A V K T) v h' :=
  fn_istore (ls' := [.ref 21, .int v1, .int v2, .int v3, .int r]) rl_D_readStay_84 rfl rfl (fn_aload_n rl_D_readStay_86 rfl (fn_virt (as := [.ref 21]) (r := []) (ls' := [.ref 21, .null]) rl_D_readStay_87 rfl hp_21 rfl rfl pl_D_skipBlanks rfl rfl (k0)))
set_option maxRecDepth 100000 in
set_option maxHeartbeats 4000000 in
theorem sg_D_readStay_90r {L : Nat} {xs : Nat → Int32} {A V : Nat → Nat → Int32} {K : Nat → Option Nat} {T : am_H} {v : Option Int32} {h' : am_H} {v1 v2 v3 v4 : Int32} (k0 :
    if (V 21 7) = 0 then (
      ¬ (v1 < 0 ∨ 80 ≤ v1.toNatClampNeg) ∧ (
      ¬ (v1 < 0 ∨ 80 ≤ v1.toNatClampNeg) ∧ (
      ¬ (v1 < 0 ∨ 80 ≤ v1.toNatClampNeg) ∧ (
      v = none ∧ h' = hp L xs (upA (upA (upA A 22 (upd (A 22) v1.toNatClampNeg v2)) 23 (upd ((upA A 22 (upd (A 22) v1.toNatClampNeg v2)) 23) v1.toNatClampNeg v3)) 24 (upd ((upA (upA A 22 (upd (A 22) v1.toNatClampNeg v2)) 23 (upd ((upA A 22 (upd (A 22) v1.toNatClampNeg v2)) 23) v1.toNatClampNeg v3)) 24) v1.toNatClampNeg v4)) (upV V 21 5 (v1 + 1)) K T))))
    else (
      v = none ∧ h' = hp L xs A V K T)) : am_fin [(z_D_readStay, 90, [.ref 21, .int v1, .int v2, .int v3, .int v4], [])] (hp L xs A V K T) v h' :=
  fn_aload_n rl_D_readStay_90 rfl (fn_get rl_D_readStay_91 hp_21 rfl (fn_if_ne rl_D_readStay_94 (fun k2985 => fn_aload_n rl_D_readStay_97 rfl (fn_get rl_D_readStay_98 hp_21 rfl (fn_iload_n rl_D_readStay_101 rfl (fn_iload_n rl_D_readStay_102 rfl (fn_iast rl_D_readStay_103 hp_22 hps_22 (fun k2984 => fn_aload_n rl_D_readStay_104 rfl (fn_get rl_D_readStay_105 hp_21 rfl (fn_iload_n rl_D_readStay_108 rfl (fn_iload_n rl_D_readStay_109 rfl (fn_iast rl_D_readStay_110 hp_23 hps_23 (fun k2983 => fn_aload_n rl_D_readStay_111 rfl (fn_get rl_D_readStay_112 hp_21 rfl (fn_iload_n rl_D_readStay_115 rfl (fn_iload rl_D_readStay_116 rfl (fn_iast rl_D_readStay_118 hp_24 hps_24 (fun k2982 => fn_aload_n rl_D_readStay_119 rfl (fn_iload_n rl_D_readStay_120 rfl (fn_iconst rl_D_readStay_121 (fn_iadd rl_D_readStay_122 (fn_put rl_D_readStay_123 hp_21 rfl hpv_21_5 (fn_retv rl_D_readStay_126 k2982)))))) k2983))))) k2984))))) k2985))))) (fun k2986 => fn_retv rl_D_readStay_126 k2986) k0))
set_option maxRecDepth 100000 in
set_option maxHeartbeats 4000000 in
theorem sg_E_putStay_0 {L : Nat} {xs : Nat → Int32} {A V : Nat → Nat → Int32} {K : Nat → Option Nat} {T : am_H} {v : Option Int32} {h' : am_H} {a1 a2 a3 : Int32} (k0 :
    if (V 25 0) ≤ 0 then (
      if (V 25 0) = (V 25 1) then (
        am_fin [(z_E_putNumber, 0, [.ref 25, .int a2, .null], []), (z_E_putStay, 26, [.ref 25, .int a1, .int a2, .int a3], [])] (hp L xs A (upV (upV V 25 2 (97 + a1)) 25 0 (((upV V 25 2 (97 + a1)) 25 0) + 1)) K T) v h')
      else (
        am_fin [(z_E_putNumber, 0, [.ref 25, .int a2, .null], []), (z_E_putStay, 26, [.ref 25, .int a1, .int a2, .int a3], [])] (hp L xs A (upV V 25 0 ((V 25 0) + 1)) K T) v h'))
    else (
      if (V 25 0) = (V 25 1) then (
        if ((upV (upV V 25 2 44) 25 0 (((upV V 25 2 44) 25 0) + 1)) 25 0) = ((upV (upV V 25 2 44) 25 0 (((upV V 25 2 44) 25 0) + 1)) 25 1) then (
          am_fin [(z_E_putNumber, 0, [.ref 25, .int a2, .null], []), (z_E_putStay, 26, [.ref 25, .int a1, .int a2, .int a3], [])] (hp L xs A (upV (upV (upV (upV V 25 2 44) 25 0 (((upV V 25 2 44) 25 0) + 1)) 25 2 (97 + a1)) 25 0 (((upV (upV (upV V 25 2 44) 25 0 (((upV V 25 2 44) 25 0) + 1)) 25 2 (97 + a1)) 25 0) + 1)) K T) v h')
        else (
          am_fin [(z_E_putNumber, 0, [.ref 25, .int a2, .null], []), (z_E_putStay, 26, [.ref 25, .int a1, .int a2, .int a3], [])] (hp L xs A (upV (upV (upV V 25 2 44) 25 0 (((upV V 25 2 44) 25 0) + 1)) 25 0 (((upV (upV V 25 2 44) 25 0 (((upV V 25 2 44) 25 0) + 1)) 25 0) + 1)) K T) v h'))
      else (
        if ((upV V 25 0 ((V 25 0) + 1)) 25 0) = ((upV V 25 0 ((V 25 0) + 1)) 25 1) then (
          am_fin [(z_E_putNumber, 0, [.ref 25, .int a2, .null], []), (z_E_putStay, 26, [.ref 25, .int a1, .int a2, .int a3], [])] (hp L xs A (upV (upV (upV V 25 0 ((V 25 0) + 1)) 25 2 (97 + a1)) 25 0 (((upV (upV V 25 0 ((V 25 0) + 1)) 25 2 (97 + a1)) 25 0) + 1)) K T) v h')
        else (
          am_fin [(z_E_putNumber, 0, [.ref 25, .int a2, .null], []), (z_E_putStay, 26, [.ref 25, .int a1, .int a2, .int a3], [])] (hp L xs A (upV (upV V 25 0 ((V 25 0) + 1)) 25 0 (((upV V 25 0 ((V 25 0) + 1)) 25 0) + 1)) K T) v h')))) : am_fin [(z_E_putStay, 0, [.ref 25, .int a1, .int a2, .int a3], [])] (hp L xs A V K T) v h' :=
  fn_aload_n rl_E_putStay_0 rfl (fn_get rl_E_putStay_1 hp_25 rfl (fn_if_le rl_E_putStay_4 (fun k2995 => fn_aload_n rl_E_putStay_13 rfl (fn_bipush rl_E_putStay_14 (fn_iload_n rl_E_putStay_16 rfl (fn_iadd rl_E_putStay_17 (fn_virt (as := [.ref 25, .int (97 + a1)]) (r := []) (ls' := [.ref 25, .int (97 + a1)]) rl_E_putStay_18 rfl hp_25 rfl rfl pl_E_putSign rfl rfl (fn_aload_n rl_E_putSign_0 rfl (fn_get rl_E_putSign_1 hp_25 rfl (fn_aload_n rl_E_putSign_4 rfl (fn_get rl_E_putSign_5 hp_25 rfl (fn_icmp_ne rl_E_putSign_8 (fun k2987 => fn_aload_n rl_E_putSign_11 rfl (fn_iload_n rl_E_putSign_12 rfl (fn_put rl_E_putSign_13 hp_25 rfl hpv_25_2 (fn_aload_n rl_E_putSign_16 rfl (fn_dup_ref rl_E_putSign_17 (fn_get rl_E_putSign_18 hp_25 rfl (fn_iconst rl_E_putSign_21 (fn_iadd rl_E_putSign_22 (fn_put rl_E_putSign_23 hp_25 rfl hpv_25_0 (fn_retcv rl_E_putSign_26 (fn_aload_n rl_E_putStay_21 rfl (fn_iload_n rl_E_putStay_22 rfl (fn_virt (as := [.ref 25, .int a2]) (r := []) (ls' := [.ref 25, .int a2, .null]) rl_E_putStay_23 rfl hp_25 rfl rfl pl_E_putNumber rfl rfl (k2987)))))))))))))) (fun k2988 => fn_aload_n rl_E_putSign_16 rfl (fn_dup_ref rl_E_putSign_17 (fn_get rl_E_putSign_18 hp_25 rfl (fn_iconst rl_E_putSign_21 (fn_iadd rl_E_putSign_22 (fn_put rl_E_putSign_23 hp_25 rfl hpv_25_0 (fn_retcv rl_E_putSign_26 (fn_aload_n rl_E_putStay_21 rfl (fn_iload_n rl_E_putStay_22 rfl (fn_virt (as := [.ref 25, .int a2]) (r := []) (ls' := [.ref 25, .int a2, .null]) rl_E_putStay_23 rfl hp_25 rfl rfl pl_E_putNumber rfl rfl (k2988))))))))))) k2995)))))))))) (fun k2996 => fn_aload_n rl_E_putStay_7 rfl (fn_bipush rl_E_putStay_8 (fn_virt (as := [.ref 25, .int 44]) (r := []) (ls' := [.ref 25, .int 44]) rl_E_putStay_10 rfl hp_25 rfl rfl pl_E_putSign rfl rfl (fn_aload_n rl_E_putSign_0 rfl (fn_get rl_E_putSign_1 hp_25 rfl (fn_aload_n rl_E_putSign_4 rfl (fn_get rl_E_putSign_5 hp_25 rfl (fn_icmp_ne rl_E_putSign_8 (fun k2993 => fn_aload_n rl_E_putSign_11 rfl (fn_iload_n rl_E_putSign_12 rfl (fn_put rl_E_putSign_13 hp_25 rfl hpv_25_2 (fn_aload_n rl_E_putSign_16 rfl (fn_dup_ref rl_E_putSign_17 (fn_get rl_E_putSign_18 hp_25 rfl (fn_iconst rl_E_putSign_21 (fn_iadd rl_E_putSign_22 (fn_put rl_E_putSign_23 hp_25 rfl hpv_25_0 (fn_retcv rl_E_putSign_26 (fn_aload_n rl_E_putStay_13 rfl (fn_bipush rl_E_putStay_14 (fn_iload_n rl_E_putStay_16 rfl (fn_iadd rl_E_putStay_17 (fn_virt (as := [.ref 25, .int (97 + a1)]) (r := []) (ls' := [.ref 25, .int (97 + a1)]) rl_E_putStay_18 rfl hp_25 rfl rfl pl_E_putSign rfl rfl (fn_aload_n rl_E_putSign_0 rfl (fn_get rl_E_putSign_1 hp_25 rfl (fn_aload_n rl_E_putSign_4 rfl (fn_get rl_E_putSign_5 hp_25 rfl (fn_icmp_ne rl_E_putSign_8 (fun k2989 => fn_aload_n rl_E_putSign_11 rfl (fn_iload_n rl_E_putSign_12 rfl (fn_put rl_E_putSign_13 hp_25 rfl hpv_25_2 (fn_aload_n rl_E_putSign_16 rfl (fn_dup_ref rl_E_putSign_17 (fn_get rl_E_putSign_18 hp_25 rfl (fn_iconst rl_E_putSign_21 (fn_iadd rl_E_putSign_22 (fn_put rl_E_putSign_23 hp_25 rfl hpv_25_0 (fn_retcv rl_E_putSign_26 (fn_aload_n rl_E_putStay_21 rfl (fn_iload_n rl_E_putStay_22 rfl (fn_virt (as := [.ref 25, .int a2]) (r := []) (ls' := [.ref 25, .int a2, .null]) rl_E_putStay_23 rfl hp_25 rfl rfl pl_E_putNumber rfl rfl (k2989)))))))))))))) (fun k2990 => fn_aload_n rl_E_putSign_16 rfl (fn_dup_ref rl_E_putSign_17 (fn_get rl_E_putSign_18 hp_25 rfl (fn_iconst rl_E_putSign_21 (fn_iadd rl_E_putSign_22 (fn_put rl_E_putSign_23 hp_25 rfl hpv_25_0 (fn_retcv rl_E_putSign_26 (fn_aload_n rl_E_putStay_21 rfl (fn_iload_n rl_E_putStay_22 rfl (fn_virt (as := [.ref 25, .int a2]) (r := []) (ls' := [.ref 25, .int a2, .null]) rl_E_putStay_23 rfl hp_25 rfl rfl pl_E_putNumber rfl rfl (k2990))))))))))) k2993)))))))))))))))))))) (fun k2994 => fn_aload_n rl_E_putSign_16 rfl (fn_dup_ref rl_E_putSign_17 (fn_get rl_E_putSign_18 hp_25 rfl (fn_iconst rl_E_putSign_21 (fn_iadd rl_E_putSign_22 (fn_put rl_E_putSign_23 hp_25 rfl hpv_25_0 (fn_retcv rl_E_putSign_26 (fn_aload_n rl_E_putStay_13 rfl (fn_bipush rl_E_putStay_14 (fn_iload_n rl_E_putStay_16 rfl (fn_iadd rl_E_putStay_17 (fn_virt (as := [.ref 25, .int (97 + a1)]) (r := []) (ls' := [.ref 25, .int (97 + a1)]) rl_E_putStay_18 rfl hp_25 rfl rfl pl_E_putSign rfl rfl (fn_aload_n rl_E_putSign_0 rfl (fn_get rl_E_putSign_1 hp_25 rfl (fn_aload_n rl_E_putSign_4 rfl (fn_get rl_E_putSign_5 hp_25 rfl (fn_icmp_ne rl_E_putSign_8 (fun k2991 => fn_aload_n rl_E_putSign_11 rfl (fn_iload_n rl_E_putSign_12 rfl (fn_put rl_E_putSign_13 hp_25 rfl hpv_25_2 (fn_aload_n rl_E_putSign_16 rfl (fn_dup_ref rl_E_putSign_17 (fn_get rl_E_putSign_18 hp_25 rfl (fn_iconst rl_E_putSign_21 (fn_iadd rl_E_putSign_22 (fn_put rl_E_putSign_23 hp_25 rfl hpv_25_0 (fn_retcv rl_E_putSign_26 (fn_aload_n rl_E_putStay_21 rfl (fn_iload_n rl_E_putStay_22 rfl (fn_virt (as := [.ref 25, .int a2]) (r := []) (ls' := [.ref 25, .int a2, .null]) rl_E_putStay_23 rfl hp_25 rfl rfl pl_E_putNumber rfl rfl (k2991)))))))))))))) (fun k2992 => fn_aload_n rl_E_putSign_16 rfl (fn_dup_ref rl_E_putSign_17 (fn_get rl_E_putSign_18 hp_25 rfl (fn_iconst rl_E_putSign_21 (fn_iadd rl_E_putSign_22 (fn_put rl_E_putSign_23 hp_25 rfl hpv_25_0 (fn_retcv rl_E_putSign_26 (fn_aload_n rl_E_putStay_21 rfl (fn_iload_n rl_E_putStay_22 rfl (fn_virt (as := [.ref 25, .int a2]) (r := []) (ls' := [.ref 25, .int a2, .null]) rl_E_putStay_23 rfl hp_25 rfl rfl pl_E_putNumber rfl rfl (k2992))))))))))) k2994))))))))))))))))) k2996)))))))) k0))
set_option maxRecDepth 100000 in
set_option maxHeartbeats 4000000 in
theorem sg_E_putStay_26r {L : Nat} {xs : Nat → Int32} {A V : Nat → Nat → Int32} {K : Nat → Option Nat} {T : am_H} {v : Option Int32} {h' : am_H} {v1 v2 v3 : Int32} (k0 :
    if v3 ≤ v2 then (
      v = none ∧ h' = hp L xs A V K T)
    else (
      if (V 25 0) = (V 25 1) then (
        if ((upV (upV V 25 2 46) 25 0 (((upV V 25 2 46) 25 0) + 1)) 25 0) = ((upV (upV V 25 2 46) 25 0 (((upV V 25 2 46) 25 0) + 1)) 25 1) then (
          am_fin [(z_E_putNumber, 0, [.ref 25, .int v3, .null], []), (z_E_putStay, 48, [.ref 25, .int v1, .int v2, .int v3], [])] (hp L xs A (upV (upV (upV (upV V 25 2 46) 25 0 (((upV V 25 2 46) 25 0) + 1)) 25 2 46) 25 0 (((upV (upV (upV V 25 2 46) 25 0 (((upV V 25 2 46) 25 0) + 1)) 25 2 46) 25 0) + 1)) K T) v h')
        else (
          am_fin [(z_E_putNumber, 0, [.ref 25, .int v3, .null], []), (z_E_putStay, 48, [.ref 25, .int v1, .int v2, .int v3], [])] (hp L xs A (upV (upV (upV V 25 2 46) 25 0 (((upV V 25 2 46) 25 0) + 1)) 25 0 (((upV (upV V 25 2 46) 25 0 (((upV V 25 2 46) 25 0) + 1)) 25 0) + 1)) K T) v h'))
      else (
        if ((upV V 25 0 ((V 25 0) + 1)) 25 0) = ((upV V 25 0 ((V 25 0) + 1)) 25 1) then (
          am_fin [(z_E_putNumber, 0, [.ref 25, .int v3, .null], []), (z_E_putStay, 48, [.ref 25, .int v1, .int v2, .int v3], [])] (hp L xs A (upV (upV (upV V 25 0 ((V 25 0) + 1)) 25 2 46) 25 0 (((upV (upV V 25 0 ((V 25 0) + 1)) 25 2 46) 25 0) + 1)) K T) v h')
        else (
          am_fin [(z_E_putNumber, 0, [.ref 25, .int v3, .null], []), (z_E_putStay, 48, [.ref 25, .int v1, .int v2, .int v3], [])] (hp L xs A (upV (upV V 25 0 ((V 25 0) + 1)) 25 0 (((upV V 25 0 ((V 25 0) + 1)) 25 0) + 1)) K T) v h')))) : am_fin [(z_E_putStay, 26, [.ref 25, .int v1, .int v2, .int v3], [])] (hp L xs A V K T) v h' :=
  fn_iload_n rl_E_putStay_26 rfl (fn_iload_n rl_E_putStay_27 rfl (fn_icmp_le rl_E_putStay_28 (fun k3003 => fn_retv rl_E_putStay_48 k3003) (fun k3004 => fn_aload_n rl_E_putStay_31 rfl (fn_bipush rl_E_putStay_32 (fn_virt (as := [.ref 25, .int 46]) (r := []) (ls' := [.ref 25, .int 46]) rl_E_putStay_34 rfl hp_25 rfl rfl pl_E_putSign rfl rfl (fn_aload_n rl_E_putSign_0 rfl (fn_get rl_E_putSign_1 hp_25 rfl (fn_aload_n rl_E_putSign_4 rfl (fn_get rl_E_putSign_5 hp_25 rfl (fn_icmp_ne rl_E_putSign_8 (fun k3001 => fn_aload_n rl_E_putSign_11 rfl (fn_iload_n rl_E_putSign_12 rfl (fn_put rl_E_putSign_13 hp_25 rfl hpv_25_2 (fn_aload_n rl_E_putSign_16 rfl (fn_dup_ref rl_E_putSign_17 (fn_get rl_E_putSign_18 hp_25 rfl (fn_iconst rl_E_putSign_21 (fn_iadd rl_E_putSign_22 (fn_put rl_E_putSign_23 hp_25 rfl hpv_25_0 (fn_retcv rl_E_putSign_26 (fn_aload_n rl_E_putStay_37 rfl (fn_bipush rl_E_putStay_38 (fn_virt (as := [.ref 25, .int 46]) (r := []) (ls' := [.ref 25, .int 46]) rl_E_putStay_40 rfl hp_25 rfl rfl pl_E_putSign rfl rfl (fn_aload_n rl_E_putSign_0 rfl (fn_get rl_E_putSign_1 hp_25 rfl (fn_aload_n rl_E_putSign_4 rfl (fn_get rl_E_putSign_5 hp_25 rfl (fn_icmp_ne rl_E_putSign_8 (fun k2997 => fn_aload_n rl_E_putSign_11 rfl (fn_iload_n rl_E_putSign_12 rfl (fn_put rl_E_putSign_13 hp_25 rfl hpv_25_2 (fn_aload_n rl_E_putSign_16 rfl (fn_dup_ref rl_E_putSign_17 (fn_get rl_E_putSign_18 hp_25 rfl (fn_iconst rl_E_putSign_21 (fn_iadd rl_E_putSign_22 (fn_put rl_E_putSign_23 hp_25 rfl hpv_25_0 (fn_retcv rl_E_putSign_26 (fn_aload_n rl_E_putStay_43 rfl (fn_iload_n rl_E_putStay_44 rfl (fn_virt (as := [.ref 25, .int v3]) (r := []) (ls' := [.ref 25, .int v3, .null]) rl_E_putStay_45 rfl hp_25 rfl rfl pl_E_putNumber rfl rfl (k2997)))))))))))))) (fun k2998 => fn_aload_n rl_E_putSign_16 rfl (fn_dup_ref rl_E_putSign_17 (fn_get rl_E_putSign_18 hp_25 rfl (fn_iconst rl_E_putSign_21 (fn_iadd rl_E_putSign_22 (fn_put rl_E_putSign_23 hp_25 rfl hpv_25_0 (fn_retcv rl_E_putSign_26 (fn_aload_n rl_E_putStay_43 rfl (fn_iload_n rl_E_putStay_44 rfl (fn_virt (as := [.ref 25, .int v3]) (r := []) (ls' := [.ref 25, .int v3, .null]) rl_E_putStay_45 rfl hp_25 rfl rfl pl_E_putNumber rfl rfl (k2998))))))))))) k3001)))))))))))))))))) (fun k3002 => fn_aload_n rl_E_putSign_16 rfl (fn_dup_ref rl_E_putSign_17 (fn_get rl_E_putSign_18 hp_25 rfl (fn_iconst rl_E_putSign_21 (fn_iadd rl_E_putSign_22 (fn_put rl_E_putSign_23 hp_25 rfl hpv_25_0 (fn_retcv rl_E_putSign_26 (fn_aload_n rl_E_putStay_37 rfl (fn_bipush rl_E_putStay_38 (fn_virt (as := [.ref 25, .int 46]) (r := []) (ls' := [.ref 25, .int 46]) rl_E_putStay_40 rfl hp_25 rfl rfl pl_E_putSign rfl rfl (fn_aload_n rl_E_putSign_0 rfl (fn_get rl_E_putSign_1 hp_25 rfl (fn_aload_n rl_E_putSign_4 rfl (fn_get rl_E_putSign_5 hp_25 rfl (fn_icmp_ne rl_E_putSign_8 (fun k2999 => fn_aload_n rl_E_putSign_11 rfl (fn_iload_n rl_E_putSign_12 rfl (fn_put rl_E_putSign_13 hp_25 rfl hpv_25_2 (fn_aload_n rl_E_putSign_16 rfl (fn_dup_ref rl_E_putSign_17 (fn_get rl_E_putSign_18 hp_25 rfl (fn_iconst rl_E_putSign_21 (fn_iadd rl_E_putSign_22 (fn_put rl_E_putSign_23 hp_25 rfl hpv_25_0 (fn_retcv rl_E_putSign_26 (fn_aload_n rl_E_putStay_43 rfl (fn_iload_n rl_E_putStay_44 rfl (fn_virt (as := [.ref 25, .int v3]) (r := []) (ls' := [.ref 25, .int v3, .null]) rl_E_putStay_45 rfl hp_25 rfl rfl pl_E_putNumber rfl rfl (k2999)))))))))))))) (fun k3000 => fn_aload_n rl_E_putSign_16 rfl (fn_dup_ref rl_E_putSign_17 (fn_get rl_E_putSign_18 hp_25 rfl (fn_iconst rl_E_putSign_21 (fn_iadd rl_E_putSign_22 (fn_put rl_E_putSign_23 hp_25 rfl hpv_25_0 (fn_retcv rl_E_putSign_26 (fn_aload_n rl_E_putStay_43 rfl (fn_iload_n rl_E_putStay_44 rfl (fn_virt (as := [.ref 25, .int v3]) (r := []) (ls' := [.ref 25, .int v3, .null]) rl_E_putStay_45 rfl hp_25 rfl rfl pl_E_putNumber rfl rfl (k3000))))))))))) k3002))))))))))))))) k3004)))))))) k0))
set_option maxRecDepth 100000 in
set_option maxHeartbeats 4000000 in
theorem sg_E_putStay_48r {L : Nat} {xs : Nat → Int32} {A V : Nat → Nat → Int32} {K : Nat → Option Nat} {T : am_H} {v : Option Int32} {h' : am_H} {v1 v2 v3 : Int32} (k0 :
    v = none ∧ h' = hp L xs A V K T) : am_fin [(z_E_putStay, 48, [.ref 25, .int v1, .int v2, .int v3], [])] (hp L xs A V K T) v h' :=
  fn_retv rl_E_putStay_48 k0
set_option maxRecDepth 100000 in
set_option maxHeartbeats 4000000 in
theorem sg_O_isThere_0 {L : Nat} {xs : Nat → Int32} {A V : Nat → Nat → Int32} {K : Nat → Option Nat} {T : am_H} {v : Option Int32} {h' : am_H} {a1 : Int32} (k0 :
    am_fin [(z_O_between, 0, [.ref 30, .int a1, .int a1, .null], []), (z_O_isThere, 6, [.ref 30, .int a1], [])] (hp L xs A V K T) v h') : am_fin [(z_O_isThere, 0, [.ref 30, .int a1], [])] (hp L xs A V K T) v h' :=
  fn_aload_n rl_O_isThere_0 rfl (fn_iload_n rl_O_isThere_1 rfl (fn_iload_n rl_O_isThere_2 rfl (fn_virt (as := [.ref 30, .int a1, .int a1]) (r := []) (ls' := [.ref 30, .int a1, .int a1, .null]) rl_O_isThere_3 rfl hp_30 rfl rfl pl_O_between rfl rfl (k0))))
set_option maxRecDepth 100000 in
set_option maxHeartbeats 4000000 in
theorem sg_O_isThere_6r {L : Nat} {xs : Nat → Int32} {A V : Nat → Nat → Int32} {K : Nat → Option Nat} {T : am_H} {v : Option Int32} {h' : am_H} {v1 r : Int32} (k0 :
    if r = 1 then (
      v = some 1 ∧ h' = hp L xs A V K T)
    else (
      v = some 0 ∧ h' = hp L xs A V K T)) : am_fin [(z_O_isThere, 6, [.ref 30, .int v1], [.int r])] (hp L xs A V K T) v h' :=
  fn_iconst rl_O_isThere_6 (fn_icmp_ne rl_O_isThere_7 (fun k3005 => fn_iconst rl_O_isThere_10 (fn_goto rl_O_isThere_11 (fn_reti rl_O_isThere_15 rfl k3005))) (fun k3006 => fn_iconst rl_O_isThere_14 (fn_reti rl_O_isThere_15 rfl k3006)) k0)
set_option maxRecDepth 100000 in
set_option maxHeartbeats 4000000 in
theorem sg_J_weighPlaces_3_0 {L : Nat} {xs : Nat → Int32} {A V : Nat → Nat → Int32} {K : Nat → Option Nat} {T : am_H} {v : Option Int32} {h' : am_H} (k0 :
    am_fin [(z_J_countInto, 0, [.ref 27, .ref 3, .null, .null], []), (z_J_weighPlaces, 8, [.ref 26, .ref 3], [])] (hp L xs A V K T) v h') : am_fin [(z_J_weighPlaces, 0, [.ref 26, .ref 3], [])] (hp L xs A V K T) v h' :=
  fn_aload_n rl_J_weighPlaces_0 rfl (fn_get rl_J_weighPlaces_1 hp_26 rfl (fn_aload_n rl_J_weighPlaces_4 rfl (fn_stat (as := [.ref 27, .ref 3]) (r := []) (ls' := [.ref 27, .ref 3, .null, .null]) rl_J_weighPlaces_5 rfl rfl rfl rfl pl_J_countInto rfl rfl (k0))))
set_option maxRecDepth 100000 in
set_option maxHeartbeats 4000000 in
theorem sg_J_weighPlaces_3_8r {L : Nat} {xs : Nat → Int32} {A V : Nat → Nat → Int32} {K : Nat → Option Nat} {T : am_H} {v : Option Int32} {h' : am_H} (k0 :
    v = none ∧ h' = hp L xs A V K T) : am_fin [(z_J_weighPlaces, 8, [.ref 26, .ref 3], [])] (hp L xs A V K T) v h' :=
  fn_retv rl_J_weighPlaces_8 k0
set_option maxRecDepth 100000 in
set_option maxHeartbeats 4000000 in
theorem sg_J_leaning_0 {L : Nat} {xs : Nat → Int32} {A V : Nat → Nat → Int32} {K : Nat → Option Nat} {T : am_H} {v : Option Int32} {h' : am_H} {a1 a2 a3 a4 : Int32} (k0 :
    if a1 = 0 then (
      ¬ (((a2 * 3) + a4) < 0 ∨ 18 ≤ ((a2 * 3) + a4).toNatClampNeg) ∧ (
      ¬ (((a3 * 3) + a4) < 0 ∨ 18 ≤ ((a3 * 3) + a4).toNatClampNeg) ∧ (
      v = some (((A 28) ((a2 * 3) + a4).toNatClampNeg) - ((A 28) ((a3 * 3) + a4).toNatClampNeg)) ∧ h' = hp L xs A V K T)))
    else (
      if a1 = 1 then (
      ¬ (((a2 * 3) + a4) < 0 ∨ 18 ≤ ((a2 * 3) + a4).toNatClampNeg) ∧ (
      ¬ (((a3 * 3) + a4) < 0 ∨ 18 ≤ ((a3 * 3) + a4).toNatClampNeg) ∧ (
      v = some (((A 29) ((a2 * 3) + a4).toNatClampNeg) - ((A 29) ((a3 * 3) + a4).toNatClampNeg)) ∧ h' = hp L xs A V K T)))
    else (
      if a1 = 2 then (
      ¬ (((a2 * 3) + a4) < 0 ∨ 18 ≤ ((a2 * 3) + a4).toNatClampNeg) ∧ (
      ¬ (((a3 * 3) + a4) < 0 ∨ 18 ≤ ((a3 * 3) + a4).toNatClampNeg) ∧ (
      v = some (((A 27) ((a2 * 3) + a4).toNatClampNeg) - ((A 27) ((a3 * 3) + a4).toNatClampNeg)) ∧ h' = hp L xs A V K T)))
    else (
      v = some (((((V 10 7) : Int32) >>> (a2 &&& 31 : Int32)) &&& 1) - ((((V 10 7) : Int32) >>> (a3 &&& 31 : Int32)) &&& 1)) ∧ h' = hp L xs A V K T)))) : am_fin [(z_J_leaning, 0, [.ref 26, .int a1, .int a2, .int a3, .int a4, .null, .null], [])] (hp L xs A V K T) v h' :=
  fn_iload_n rl_J_leaning_0 rfl (fn_iconst rl_J_leaning_1 (fn_imul rl_J_leaning_2 (fn_iload rl_J_leaning_3 rfl (fn_iadd rl_J_leaning_5 (fn_istore (ls' := [.ref 26, .int a1, .int a2, .int a3, .int a4, .int ((a2 * 3) + a4), .null]) rl_J_leaning_6 rfl rfl (fn_iload_n rl_J_leaning_8 rfl (fn_iconst rl_J_leaning_9 (fn_imul rl_J_leaning_10 (fn_iload rl_J_leaning_11 rfl (fn_iadd rl_J_leaning_13 (fn_istore (ls' := [.ref 26, .int a1, .int a2, .int a3, .int a4, .int ((a2 * 3) + a4), .int ((a3 * 3) + a4)]) rl_J_leaning_14 rfl rfl (fn_iload_n rl_J_leaning_16 rfl (fn_tableP rl_J_leaning_17 (fn_swC (tg := 0) (F := fun t => am_fin ((z_J_leaning, t, [.ref 26, .int a1, .int a2, .int a3, .int a4, .int ((a2 * 3) + a4), .int ((a3 * 3) + a4)], []) :: []) (hp L xs A V K T) v h') (fun k3017 => fn_aload_n rl_J_leaning_44 rfl (fn_get rl_J_leaning_45 hp_26 rfl (fn_iload rl_J_leaning_48 rfl (fn_iald rl_J_leaning_50 hp_28 (fun k3008 => fn_aload_n rl_J_leaning_51 rfl (fn_get rl_J_leaning_52 hp_26 rfl (fn_iload rl_J_leaning_55 rfl (fn_iald rl_J_leaning_57 hp_28 (fun k3007 => fn_isub rl_J_leaning_58 (fn_reti rl_J_leaning_59 rfl k3007)) k3008)))) k3017)))) (fun k3018 => fn_swC (tg := 0) (F := fun t => am_fin ((z_J_leaning, t, [.ref 26, .int a1, .int a2, .int a3, .int a4, .int ((a2 * 3) + a4), .int ((a3 * 3) + a4)], []) :: []) (hp L xs A V K T) v h') (fun k3015 => fn_aload_n rl_J_leaning_60 rfl (fn_get rl_J_leaning_61 hp_26 rfl (fn_iload rl_J_leaning_64 rfl (fn_iald rl_J_leaning_66 hp_29 (fun k3010 => fn_aload_n rl_J_leaning_67 rfl (fn_get rl_J_leaning_68 hp_26 rfl (fn_iload rl_J_leaning_71 rfl (fn_iald rl_J_leaning_73 hp_29 (fun k3009 => fn_isub rl_J_leaning_74 (fn_reti rl_J_leaning_75 rfl k3009)) k3010)))) k3015)))) (fun k3016 => fn_swC (tg := 0) (F := fun t => am_fin ((z_J_leaning, t, [.ref 26, .int a1, .int a2, .int a3, .int a4, .int ((a2 * 3) + a4), .int ((a3 * 3) + a4)], []) :: []) (hp L xs A V K T) v h') (fun k3013 => fn_aload_n rl_J_leaning_76 rfl (fn_get rl_J_leaning_77 hp_26 rfl (fn_iload rl_J_leaning_80 rfl (fn_iald rl_J_leaning_82 hp_27 (fun k3012 => fn_aload_n rl_J_leaning_83 rfl (fn_get rl_J_leaning_84 hp_26 rfl (fn_iload rl_J_leaning_87 rfl (fn_iald rl_J_leaning_89 hp_27 (fun k3011 => fn_isub rl_J_leaning_90 (fn_reti rl_J_leaning_91 rfl k3011)) k3012)))) k3013)))) (fun k3014 => fn_aload_n rl_J_leaning_92 rfl (fn_get rl_J_leaning_93 hp_26 rfl (fn_get rl_J_leaning_96 hp_10 rfl (fn_iload_n rl_J_leaning_99 rfl (fn_ishr rl_J_leaning_100 (fn_iconst rl_J_leaning_101 (fn_iand rl_J_leaning_102 (fn_aload_n rl_J_leaning_103 rfl (fn_get rl_J_leaning_104 hp_26 rfl (fn_get rl_J_leaning_107 hp_10 rfl (fn_iload_n rl_J_leaning_110 rfl (fn_ishr rl_J_leaning_111 (fn_iconst rl_J_leaning_112 (fn_iand rl_J_leaning_113 (fn_isub rl_J_leaning_114 (fn_reti rl_J_leaning_115 rfl k3014)))))))))))))))) k3016) k3018) k0))))))))))))))
set_option maxRecDepth 100000 in
set_option maxHeartbeats 4000000 in
theorem sg_J_isBound_3_0 {L : Nat} {xs : Nat → Int32} {A V : Nat → Nat → Int32} {K : Nat → Option Nat} {T : am_H} {v : Option Int32} {h' : am_H} {a1 a2 : Int32} (k0 :
    am_fin [(z_P_landOn, 0, [.ref 3, .int a2], []), (z_J_isBound, 5, [.ref 26, .int a1, .int a2, .ref 3], [])] (hp L xs A V K T) v h') : am_fin [(z_J_isBound, 0, [.ref 26, .int a1, .int a2, .ref 3], [])] (hp L xs A V K T) v h' :=
  fn_aload_n rl_J_isBound_0 rfl (fn_iload_n rl_J_isBound_1 rfl (fn_virt (as := [.ref 3, .int a2]) (r := []) (ls' := [.ref 3, .int a2]) rl_J_isBound_2 rfl hp_3 rfl rfl pl_P_landOn rfl rfl (k0)))
set_option maxRecDepth 100000 in
set_option maxHeartbeats 4000000 in
theorem sg_J_isBound_3_5r {L : Nat} {xs : Nat → Int32} {A V : Nat → Nat → Int32} {K : Nat → Option Nat} {T : am_H} {v : Option Int32} {h' : am_H} {v1 v2 r : Int32} (k0 :
    if r = v1 then (
      v = some 1 ∧ h' = hp L xs A V K T)
    else (
      ¬ (v2 < 0 ∨ 1080 ≤ v2.toNatClampNeg) ∧ (
      if (((((A 9) v2.toNatClampNeg) : Int32) >>> (v1 &&& 31 : Int32)) &&& 1) = 1 then (
        v = some 1 ∧ h' = hp L xs A V K T)
      else (
        v = some 0 ∧ h' = hp L xs A V K T)))) : am_fin [(z_J_isBound, 5, [.ref 26, .int v1, .int v2, .ref 3], [.int r])] (hp L xs A V K T) v h' :=
  fn_iload_n rl_J_isBound_5 rfl (fn_icmp_eq rl_J_isBound_6 (fun k3022 => fn_iconst rl_J_isBound_21 (fn_goto rl_J_isBound_22 (fn_reti rl_J_isBound_26 rfl k3022))) (fun k3023 => fn_aload_n rl_J_isBound_9 rfl (fn_get rl_J_isBound_10 hp_26 rfl (fn_iload_n rl_J_isBound_13 rfl (fn_iload_n rl_J_isBound_14 rfl (fn_virt (as := [.ref 2, .int v1, .int v2]) (r := []) (ls' := [.ref 2, .int v1, .int v2]) rl_J_isBound_15 rfl hp_2 rfl rfl pl_S_hasHome rfl rfl (fn_aload_n rl_S_hasHome_0 rfl (fn_get rl_S_hasHome_1 hp_2 rfl (fn_iload_n rl_S_hasHome_4 rfl (fn_iald rl_S_hasHome_5 hp_9 (fun k3021 => fn_iload_n rl_S_hasHome_6 rfl (fn_stat (as := [.int ((A 9) v2.toNatClampNeg), .int v1]) (r := []) (ls' := [.int ((A 9) v2.toNatClampNeg), .int v1]) rl_S_hasHome_7 rfl rfl rfl rfl pl_L_hasBit rfl rfl (fn_iload_n rl_L_hasBit_0 rfl (fn_iload_n rl_L_hasBit_1 rfl (fn_ishr rl_L_hasBit_2 (fn_iconst rl_L_hasBit_3 (fn_iand rl_L_hasBit_4 (fn_iconst rl_L_hasBit_5 (fn_icmp_ne rl_L_hasBit_6 (fun k3019 => fn_iconst rl_L_hasBit_9 (fn_goto rl_L_hasBit_10 (fn_retci rl_L_hasBit_14 rfl (fn_retci rl_S_hasHome_10 rfl (fn_if_eq_f rl_J_isBound_18 (by decide +kernel) (fn_iconst rl_J_isBound_21 (fn_goto rl_J_isBound_22 (fn_reti rl_J_isBound_26 rfl k3019)))))))) (fun k3020 => fn_iconst rl_L_hasBit_13 (fn_retci rl_L_hasBit_14 rfl (fn_retci rl_S_hasHome_10 rfl (fn_if_eq_t rl_J_isBound_18 (by decide +kernel) (fn_iconst rl_J_isBound_25 (fn_reti rl_J_isBound_26 rfl k3020)))))) k3021))))))))) k3023))))))))) k0)
set_option maxRecDepth 100000 in
set_option maxHeartbeats 4000000 in
theorem sg_X_fill_33_0 {L : Nat} {xs : Nat → Int32} {A V : Nat → Nat → Int32} {K : Nat → Option Nat} {T : am_H} {v : Option Int32} {h' : am_H} {a1 : Int32} (k0 :
    am_fin [(z_X_fill, 5, [.ref 33, .int a1, .int 0, .int (Int32.ofNat 721)], [])] (hp L xs A V K T) v h') : am_fin [(z_X_fill, 0, [.ref 33, .int a1, .null, .null], [])] (hp L xs A V K T) v h' :=
  fn_iconst rl_X_fill_0 (fn_istore_n (ls' := [.ref 33, .int a1, .int 0, .null]) rl_X_fill_1 rfl rfl (fn_aload_n rl_X_fill_2 rfl (fn_alen rl_X_fill_3 hp_33 (fn_istore_n (ls' := [.ref 33, .int a1, .int 0, .int (Int32.ofNat 721)]) rl_X_fill_4 rfl rfl (k0)))))
set_option maxRecDepth 100000 in
set_option maxHeartbeats 4000000 in
theorem sg_X_fill_33_5 {L : Nat} {xs : Nat → Int32} {A V : Nat → Nat → Int32} {K : Nat → Option Nat} {T : am_H} {v : Option Int32} {h' : am_H} {v1 v2 v3 : Int32} (k0 :
    if v3 ≤ v2 then (
      v = none ∧ h' = hp L xs A V K T)
    else (
      ¬ (v2 < 0 ∨ 721 ≤ v2.toNatClampNeg) ∧ (
      am_fin [(z_X_fill, 5, [.ref 33, .int v1, .int (v2 + 1), .int v3], [])] (hp L xs (upA A 33 (upd (A 33) v2.toNatClampNeg v1)) V K T) v h'))) : am_fin [(z_X_fill, 5, [.ref 33, .int v1, .int v2, .int v3], [])] (hp L xs A V K T) v h' :=
  fn_iload_n rl_X_fill_5 rfl (fn_iload_n rl_X_fill_6 rfl (fn_icmp_ge rl_X_fill_7 (fun k3025 => fn_retv rl_X_fill_20 k3025) (fun k3026 => fn_aload_n rl_X_fill_10 rfl (fn_iload_n rl_X_fill_11 rfl (fn_iload_n rl_X_fill_12 rfl (fn_iast rl_X_fill_13 hp_33 hps_33 (fun k3024 => fn_iinc (ls' := [.ref 33, .int v1, .int (v2 + 1), .int v3]) rl_X_fill_14 rfl rfl rfl (fn_goto rl_X_fill_17 (k3024))) k3026)))) k0))
set_option maxRecDepth 100000 in
set_option maxHeartbeats 4000000 in
theorem sg_O_noteShutter_0 {L : Nat} {xs : Nat → Int32} {A V : Nat → Nat → Int32} {K : Nat → Option Nat} {T : am_H} {v : Option Int32} {h' : am_H} {a1 a2 : Int32} (k0 :
    am_fin [(z_O_between, 0, [.ref 30, .int ((a1 - (V 30 4)) + 1), .int a1, .null], []), (z_O_noteShutter, 17, [.ref 30, .int a1, .int a2, .null, .null], [.int (V 30 5)])] (hp L xs A V K T) v h') : am_fin [(z_O_noteShutter, 0, [.ref 30, .int a1, .int a2, .null, .null], [])] (hp L xs A V K T) v h' :=
  fn_aload_n rl_O_noteShutter_0 rfl (fn_get rl_O_noteShutter_1 hp_30 rfl (fn_aload_n rl_O_noteShutter_4 rfl (fn_iload_n rl_O_noteShutter_5 rfl (fn_aload_n rl_O_noteShutter_6 rfl (fn_get rl_O_noteShutter_7 hp_30 rfl (fn_isub rl_O_noteShutter_10 (fn_iconst rl_O_noteShutter_11 (fn_iadd rl_O_noteShutter_12 (fn_iload_n rl_O_noteShutter_13 rfl (fn_virt (as := [.ref 30, .int ((a1 - (V 30 4)) + 1), .int a1]) (r := [.int (V 30 5)]) (ls' := [.ref 30, .int ((a1 - (V 30 4)) + 1), .int a1, .null]) rl_O_noteShutter_14 rfl hp_30 rfl rfl pl_O_between rfl rfl (k0)))))))))))
set_option maxRecDepth 100000 in
set_option maxHeartbeats 4000000 in
theorem sg_O_noteShutter_17r {L : Nat} {xs : Nat → Int32} {A V : Nat → Nat → Int32} {K : Nat → Option Nat} {T : am_H} {v : Option Int32} {h' : am_H} {v1 v2 s0 r : Int32} (k0 :
    if 1080 ≤ v1 then (
      v = none ∧ h' = hp L xs A V K T)
    else (
      am_fin [(z_O_isThere, 0, [.ref 30, .int v1], []), (z_O_noteShutter, 36, [.ref 30, .int v1, .int v2, .int (s0 - r), .int (v2 + (s0 - r))], [])] (hp L xs A V K T) v h')) : am_fin [(z_O_noteShutter, 17, [.ref 30, .int v1, .int v2, .null, .null], [.int r, .int s0])] (hp L xs A V K T) v h' :=
  fn_isub rl_O_noteShutter_17 (fn_istore_n (ls' := [.ref 30, .int v1, .int v2, .int (s0 - r), .null]) rl_O_noteShutter_18 rfl rfl (fn_iload_n rl_O_noteShutter_19 rfl (fn_iload_n rl_O_noteShutter_20 rfl (fn_iadd rl_O_noteShutter_21 (fn_istore (ls' := [.ref 30, .int v1, .int v2, .int (s0 - r), .int (v2 + (s0 - r))]) rl_O_noteShutter_22 rfl rfl (fn_iload_n rl_O_noteShutter_24 rfl (fn_sipush rl_O_noteShutter_25 (fn_icmp_ge rl_O_noteShutter_28 (fun k3027 => fn_retv rl_O_noteShutter_71 k3027) (fun k3028 => fn_aload_n rl_O_noteShutter_31 rfl (fn_iload_n rl_O_noteShutter_32 rfl (fn_virt (as := [.ref 30, .int v1]) (r := []) (ls' := [.ref 30, .int v1]) rl_O_noteShutter_33 rfl hp_30 rfl rfl pl_O_isThere rfl rfl (k3028)))) k0))))))))
set_option maxRecDepth 100000 in
set_option maxHeartbeats 4000000 in
theorem sg_O_noteShutter_36r {L : Nat} {xs : Nat → Int32} {A V : Nat → Nat → Int32} {K : Nat → Option Nat} {T : am_H} {v : Option Int32} {h' : am_H} {v1 v2 v3 v4 r : Int32} (k0 :
    if r = 0 then (
      v = none ∧ h' = hp L xs A V K T)
    else (
      if v3 < 0 then (
        v = none ∧ h' = hp L xs A V K T)
      else (
        if (Int32.ofNat 721) ≤ v4 then (
          v = none ∧ h' = hp L xs A V K T)
        else (
          ¬ (v4 < 0 ∨ 721 ≤ v4.toNatClampNeg) ∧ (
          ¬ (v4 < 0 ∨ 721 ≤ v4.toNatClampNeg) ∧ (
          v = none ∧ h' = hp L xs (upA A 33 (upd (A 33) v4.toNatClampNeg (if ((A 33) v4.toNatClampNeg) < v1 then v1 else ((A 33) v4.toNatClampNeg) : Int32))) V K T)))))) : am_fin [(z_O_noteShutter, 36, [.ref 30, .int v1, .int v2, .int v3, .int v4], [.int r])] (hp L xs A V K T) v h' :=
  fn_if_eq rl_O_noteShutter_36 (fun k3035 => fn_retv rl_O_noteShutter_71 k3035) (fun k3036 => fn_iload_n rl_O_noteShutter_39 rfl (fn_if_lt rl_O_noteShutter_40 (fun k3033 => fn_retv rl_O_noteShutter_71 k3033) (fun k3034 => fn_iload rl_O_noteShutter_43 rfl (fn_aload_n rl_O_noteShutter_45 rfl (fn_get rl_O_noteShutter_46 hp_30 rfl (fn_alen rl_O_noteShutter_49 hp_33 (fn_icmp_ge rl_O_noteShutter_50 (fun k3031 => fn_retv rl_O_noteShutter_71 k3031) (fun k3032 => fn_aload_n rl_O_noteShutter_53 rfl (fn_get rl_O_noteShutter_54 hp_30 rfl (fn_iload rl_O_noteShutter_57 rfl (fn_aload_n rl_O_noteShutter_59 rfl (fn_get rl_O_noteShutter_60 hp_30 rfl (fn_iload rl_O_noteShutter_63 rfl (fn_iald rl_O_noteShutter_65 hp_33 (fun k3030 => fn_iload_n rl_O_noteShutter_66 rfl (fn_max rl_O_noteShutter_67 rfl (fn_iast rl_O_noteShutter_70 hp_33 hps_33 (fun k3029 => fn_retv rl_O_noteShutter_71 k3029) k3030))) k3032))))))) k3034))))) k3036)) k0
set_option maxRecDepth 100000 in
set_option maxHeartbeats 4000000 in
theorem sg_O_hasRoom_0 {L : Nat} {xs : Nat → Int32} {A V : Nat → Nat → Int32} {K : Nat → Option Nat} {T : am_H} {v : Option Int32} {h' : am_H} {a1 a2 a3 : Int32} (k0 :
    if ((a1 - (V 30 4)) + 1) ≤ a2 then (
      am_fin [(z_O_between, 0, [.ref 30, .int ((a1 - (V 30 4)) + 1), .int a1, .null], []), (z_O_hasRoom, 36, [.ref 30, .int a1, .int a2, .int a3, .int ((a1 - (V 30 4)) + 1), .int 0], [])] (hp L xs A V K T) v h')
    else (
      ¬ (((a1 - (V 30 4)) + 1) < 0 ∨ 1080 ≤ ((a1 - (V 30 4)) + 1).toNatClampNeg) ∧ (
      am_fin [(z_O_between, 0, [.ref 30, .int ((a1 - (V 30 4)) + 1), .int a1, .null], []), (z_O_hasRoom, 36, [.ref 30, .int a1, .int a2, .int a3, .int ((a1 - (V 30 4)) + 1), .int ((A 32) ((a1 - (V 30 4)) + 1).toNatClampNeg)], [])] (hp L xs A V K T) v h'))) : am_fin [(z_O_hasRoom, 0, [.ref 30, .int a1, .int a2, .int a3, .null, .null], [])] (hp L xs A V K T) v h' :=
  fn_iload_n rl_O_hasRoom_0 rfl (fn_aload_n rl_O_hasRoom_1 rfl (fn_get rl_O_hasRoom_2 hp_30 rfl (fn_isub rl_O_hasRoom_5 (fn_iconst rl_O_hasRoom_6 (fn_iadd rl_O_hasRoom_7 (fn_istore (ls' := [.ref 30, .int a1, .int a2, .int a3, .int ((a1 - (V 30 4)) + 1), .null]) rl_O_hasRoom_8 rfl rfl (fn_iload rl_O_hasRoom_10 rfl (fn_iload_n rl_O_hasRoom_12 rfl (fn_icmp_le rl_O_hasRoom_13 (fun k3038 => fn_iconst rl_O_hasRoom_26 (fn_istore (ls' := [.ref 30, .int a1, .int a2, .int a3, .int ((a1 - (V 30 4)) + 1), .int 0]) rl_O_hasRoom_27 rfl rfl (fn_aload_n rl_O_hasRoom_29 rfl (fn_iload rl_O_hasRoom_30 rfl (fn_iload_n rl_O_hasRoom_32 rfl (fn_virt (as := [.ref 30, .int ((a1 - (V 30 4)) + 1), .int a1]) (r := []) (ls' := [.ref 30, .int ((a1 - (V 30 4)) + 1), .int a1, .null]) rl_O_hasRoom_33 rfl hp_30 rfl rfl pl_O_between rfl rfl (k3038))))))) (fun k3039 => fn_aload_n rl_O_hasRoom_16 rfl (fn_get rl_O_hasRoom_17 hp_30 rfl (fn_iload rl_O_hasRoom_20 rfl (fn_iald rl_O_hasRoom_22 hp_32 (fun k3037 => fn_goto rl_O_hasRoom_23 (fn_istore (ls' := [.ref 30, .int a1, .int a2, .int a3, .int ((a1 - (V 30 4)) + 1), .int ((A 32) ((a1 - (V 30 4)) + 1).toNatClampNeg)]) rl_O_hasRoom_27 rfl rfl (fn_aload_n rl_O_hasRoom_29 rfl (fn_iload rl_O_hasRoom_30 rfl (fn_iload_n rl_O_hasRoom_32 rfl (fn_virt (as := [.ref 30, .int ((a1 - (V 30 4)) + 1), .int a1]) (r := []) (ls' := [.ref 30, .int ((a1 - (V 30 4)) + 1), .int a1, .null]) rl_O_hasRoom_33 rfl hp_30 rfl rfl pl_O_between rfl rfl (k3037))))))) k3039)))) k0)))))))))
set_option maxRecDepth 100000 in
set_option maxHeartbeats 4000000 in
theorem sg_O_hasRoom_36r {L : Nat} {xs : Nat → Int32} {A V : Nat → Nat → Int32} {K : Nat → Option Nat} {T : am_H} {v : Option Int32} {h' : am_H} {v1 v2 v3 v4 v5 r : Int32} (k0 :
    if (V 30 5) ≤ ((r + v3) - v5) then (
      v = some 0 ∧ h' = hp L xs A V K T)
    else (
      v = some 1 ∧ h' = hp L xs A V K T)) : am_fin [(z_O_hasRoom, 36, [.ref 30, .int v1, .int v2, .int v3, .int v4, .int v5], [.int r])] (hp L xs A V K T) v h' :=
  fn_iload_n rl_O_hasRoom_36 rfl (fn_iadd rl_O_hasRoom_37 (fn_iload rl_O_hasRoom_38 rfl (fn_isub rl_O_hasRoom_40 (fn_aload_n rl_O_hasRoom_41 rfl (fn_get rl_O_hasRoom_42 hp_30 rfl (fn_icmp_ge rl_O_hasRoom_45 (fun k3040 => fn_iconst rl_O_hasRoom_52 (fn_reti rl_O_hasRoom_53 rfl k3040)) (fun k3041 => fn_iconst rl_O_hasRoom_48 (fn_goto rl_O_hasRoom_49 (fn_reti rl_O_hasRoom_53 rfl k3041))) k0))))))
set_option maxRecDepth 100000 in
set_option maxHeartbeats 4000000 in
theorem sg_L_overstaysInAll_34_0 {L : Nat} {xs : Nat → Int32} {A V : Nat → Nat → Int32} {K : Nat → Option Nat} {T : am_H} {v : Option Int32} {h' : am_H} (k0 :
    am_fin [(z_L_overstaysInAll, 4, [.ref 1, .ref 34, .int 0, .int 0], [])] (hp L xs A V K T) v h') : am_fin [(z_L_overstaysInAll, 0, [.ref 1, .ref 34, .null, .null], [])] (hp L xs A V K T) v h' :=
  fn_iconst rl_L_overstaysInAll_0 (fn_istore_n (ls' := [.ref 1, .ref 34, .int 0, .null]) rl_L_overstaysInAll_1 rfl rfl (fn_iconst rl_L_overstaysInAll_2 (fn_istore_n (ls' := [.ref 1, .ref 34, .int 0, .int 0]) rl_L_overstaysInAll_3 rfl rfl (k0))))
set_option maxRecDepth 100000 in
set_option maxHeartbeats 4000000 in
theorem sg_L_overstaysInAll_34_4 {L : Nat} {xs : Nat → Int32} {A V : Nat → Nat → Int32} {K : Nat → Option Nat} {T : am_H} {v : Option Int32} {h' : am_H} {v2 v3 : Int32} (k0 :
    if 6 ≤ v3 then (
      v = some v2 ∧ h' = hp L xs A V K T)
    else (
      am_fin [(z_O_read, 0, [.ref 30, .ref 34, .int v3, .null], []), (z_L_overstaysInAll, 19, [.ref 1, .ref 34, .int v2, .int v3], [])] (hp L xs A V K T) v h')) : am_fin [(z_L_overstaysInAll, 4, [.ref 1, .ref 34, .int v2, .int v3], [])] (hp L xs A V K T) v h' :=
  fn_iload_n rl_L_overstaysInAll_4 rfl (fn_bipush rl_L_overstaysInAll_5 (fn_icmp_ge rl_L_overstaysInAll_7 (fun k3042 => fn_iload_n rl_L_overstaysInAll_35 rfl (fn_reti rl_L_overstaysInAll_36 rfl k3042)) (fun k3043 => fn_aload_n rl_L_overstaysInAll_10 rfl (fn_get rl_L_overstaysInAll_11 hp_1 rfl (fn_aload_n rl_L_overstaysInAll_14 rfl (fn_iload_n rl_L_overstaysInAll_15 rfl (fn_virt (as := [.ref 30, .ref 34, .int v3]) (r := []) (ls' := [.ref 30, .ref 34, .int v3, .null]) rl_L_overstaysInAll_16 rfl hp_30 rfl rfl pl_O_read rfl rfl (k3043)))))) k0))
set_option maxRecDepth 100000 in
set_option maxHeartbeats 4000000 in
theorem sg_L_overstaysInAll_34_19r {L : Nat} {xs : Nat → Int32} {A V : Nat → Nat → Int32} {K : Nat → Option Nat} {T : am_H} {v : Option Int32} {h' : am_H} {v2 v3 : Int32} (k0 :
    am_fin [(z_O_overstayDays, 0, [.ref 30, .null, .null], []), (z_L_overstaysInAll, 27, [.ref 1, .ref 34, .int v2, .int v3], [.int v2])] (hp L xs A V K T) v h') : am_fin [(z_L_overstaysInAll, 19, [.ref 1, .ref 34, .int v2, .int v3], [])] (hp L xs A V K T) v h' :=
  fn_iload_n rl_L_overstaysInAll_19 rfl (fn_aload_n rl_L_overstaysInAll_20 rfl (fn_get rl_L_overstaysInAll_21 hp_1 rfl (fn_virt (as := [.ref 30]) (r := [.int v2]) (ls' := [.ref 30, .null, .null]) rl_L_overstaysInAll_24 rfl hp_30 rfl rfl pl_O_overstayDays rfl rfl (k0))))
set_option maxRecDepth 100000 in
set_option maxHeartbeats 4000000 in
theorem sg_L_overstaysInAll_34_27r {L : Nat} {xs : Nat → Int32} {A V : Nat → Nat → Int32} {K : Nat → Option Nat} {T : am_H} {v : Option Int32} {h' : am_H} {v2 v3 s0 r : Int32} (k0 :
    am_fin [(z_L_overstaysInAll, 4, [.ref 1, .ref 34, .int (s0 + r), .int (v3 + 1)], [])] (hp L xs A V K T) v h') : am_fin [(z_L_overstaysInAll, 27, [.ref 1, .ref 34, .int v2, .int v3], [.int r, .int s0])] (hp L xs A V K T) v h' :=
  fn_iadd rl_L_overstaysInAll_27 (fn_istore_n (ls' := [.ref 1, .ref 34, .int (s0 + r), .int v3]) rl_L_overstaysInAll_28 rfl rfl (fn_iinc (ls' := [.ref 1, .ref 34, .int (s0 + r), .int (v3 + 1)]) rl_L_overstaysInAll_29 rfl rfl rfl (fn_goto rl_L_overstaysInAll_32 (k0))))
set_option maxRecDepth 100000 in
set_option maxHeartbeats 4000000 in
theorem sg_J_weigh_34_0 {L : Nat} {xs : Nat → Int32} {A V : Nat → Nat → Int32} {K : Nat → Option Nat} {T : am_H} {v : Option Int32} {h' : am_H} (k0 :
    am_fin [(z_J_weighHomes, 0, [.ref 26, .null, .null, .null, .null], []), (z_J_weigh, 4, [.ref 26, .ref 34], [])] (hp L xs A V K T) v h') : am_fin [(z_J_weigh, 0, [.ref 26, .ref 34], [])] (hp L xs A V K T) v h' :=
  fn_aload_n rl_J_weigh_0 rfl (fn_virt (as := [.ref 26]) (r := []) (ls' := [.ref 26, .null, .null, .null, .null]) rl_J_weigh_1 rfl hp_26 rfl rfl pl_J_weighHomes rfl rfl (k0))
set_option maxRecDepth 100000 in
set_option maxHeartbeats 4000000 in
theorem sg_J_weigh_34_4r {L : Nat} {xs : Nat → Int32} {A V : Nat → Nat → Int32} {K : Nat → Option Nat} {T : am_H} {v : Option Int32} {h' : am_H} (k0 :
    am_fin [(z_J_weighPlaces, 0, [.ref 26, .ref 34], []), (z_J_weigh, 9, [.ref 26, .ref 34], [])] (hp L xs A V K T) v h') : am_fin [(z_J_weigh, 4, [.ref 26, .ref 34], [])] (hp L xs A V K T) v h' :=
  fn_aload_n rl_J_weigh_4 rfl (fn_aload_n rl_J_weigh_5 rfl (fn_virt (as := [.ref 26, .ref 34]) (r := []) (ls' := [.ref 26, .ref 34]) rl_J_weigh_6 rfl hp_26 rfl rfl pl_J_weighPlaces rfl rfl (k0)))
set_option maxRecDepth 100000 in
set_option maxHeartbeats 4000000 in
theorem sg_J_weigh_34_9r {L : Nat} {xs : Nat → Int32} {A V : Nat → Nat → Int32} {K : Nat → Option Nat} {T : am_H} {v : Option Int32} {h' : am_H} (k0 :
    v = none ∧ h' = hp L xs A V K T) : am_fin [(z_J_weigh, 9, [.ref 26, .ref 34], [])] (hp L xs A V K T) v h' :=
  fn_retv rl_J_weigh_9 k0
set_option maxRecDepth 100000 in
set_option maxHeartbeats 4000000 in
theorem sg_J_countInto_29_5_0 {L : Nat} {xs : Nat → Int32} {A V : Nat → Nat → Int32} {K : Nat → Option Nat} {T : am_H} {v : Option Int32} {h' : am_H} (k0 :
    am_fin [(z_X_fill, 0, [.ref 29, .int 0, .null, .null], []), (z_J_countInto, 5, [.ref 29, .ref 5, .null, .null], [])] (hp L xs A V K T) v h') : am_fin [(z_J_countInto, 0, [.ref 29, .ref 5, .null, .null], [])] (hp L xs A V K T) v h' :=
  fn_aload_n rl_J_countInto_0 rfl (fn_iconst rl_J_countInto_1 (fn_stat (as := [.ref 29, .int 0]) (r := []) (ls' := [.ref 29, .int 0, .null, .null]) rl_J_countInto_2 rfl rfl rfl rfl pl_X_fill rfl rfl (k0)))
set_option maxRecDepth 100000 in
set_option maxHeartbeats 4000000 in
theorem sg_J_countInto_29_5_5r {L : Nat} {xs : Nat → Int32} {A V : Nat → Nat → Int32} {K : Nat → Option Nat} {T : am_H} {v : Option Int32} {h' : am_H} (k0 :
    am_fin [(z_J_countInto, 7, [.ref 29, .ref 5, .int 0, .null], [])] (hp L xs A V K T) v h') : am_fin [(z_J_countInto, 5, [.ref 29, .ref 5, .null, .null], [])] (hp L xs A V K T) v h' :=
  fn_iconst rl_J_countInto_5 (fn_istore_n (ls' := [.ref 29, .ref 5, .int 0, .null]) rl_J_countInto_6 rfl rfl (k0))
set_option maxRecDepth 100000 in
set_option maxHeartbeats 4000000 in
theorem sg_J_countInto_29_5_7 {L : Nat} {xs : Nat → Int32} {A V : Nat → Nat → Int32} {K : Nat → Option Nat} {T : am_H} {v : Option Int32} {h' : am_H} {v2 : Int32} (k0 :
    if 1080 ≤ v2 then (
      v = none ∧ h' = hp L xs A V K T)
    else (
      ¬ (v2 < 0 ∨ 1080 ≤ v2.toNatClampNeg) ∧ (
      if ((A 6) v2.toNatClampNeg) < 0 then (
        am_fin [(z_J_countInto, 7, [.ref 29, .ref 5, .int (v2 + 1), .int ((A 6) v2.toNatClampNeg)], [])] (hp L xs A V K T) v h')
      else (
        if 6 ≤ ((A 6) v2.toNatClampNeg) then (
          am_fin [(z_J_countInto, 7, [.ref 29, .ref 5, .int (v2 + 1), .int ((A 6) v2.toNatClampNeg)], [])] (hp L xs A V K T) v h')
        else (
          ¬ (((((A 6) v2.toNatClampNeg) * 3) + (v2 / 360)) < 0 ∨ 18 ≤ ((((A 6) v2.toNatClampNeg) * 3) + (v2 / 360)).toNatClampNeg) ∧ (
          ¬ (((((A 6) v2.toNatClampNeg) * 3) + (v2 / 360)) < 0 ∨ 18 ≤ ((((A 6) v2.toNatClampNeg) * 3) + (v2 / 360)).toNatClampNeg) ∧ (
          am_fin [(z_J_countInto, 7, [.ref 29, .ref 5, .int (v2 + 1), .int ((A 6) v2.toNatClampNeg)], [])] (hp L xs (upA A 29 (upd (A 29) ((((A 6) v2.toNatClampNeg) * 3) + (v2 / 360)).toNatClampNeg (((A 29) ((((A 6) v2.toNatClampNeg) * 3) + (v2 / 360)).toNatClampNeg) + 1))) V K T) v h'))))))) : am_fin [(z_J_countInto, 7, [.ref 29, .ref 5, .int v2, .null], [])] (hp L xs A V K T) v h' :=
  fn_iload_n rl_J_countInto_7 rfl (fn_sipush rl_J_countInto_8 (fn_icmp_ge rl_J_countInto_11 (fun k3051 => fn_retv rl_J_countInto_52 k3051) (fun k3052 => fn_aload_n rl_J_countInto_14 rfl (fn_get rl_J_countInto_15 hp_5 rfl (fn_iload_n rl_J_countInto_18 rfl (fn_iald rl_J_countInto_19 hp_6 (fun k3050 => fn_istore_n (ls' := [.ref 29, .ref 5, .int v2, .int ((A 6) v2.toNatClampNeg)]) rl_J_countInto_20 rfl rfl (fn_iload_n rl_J_countInto_21 rfl (fn_if_lt rl_J_countInto_22 (fun k3048 => fn_iinc (ls' := [.ref 29, .ref 5, .int (v2 + 1), .int ((A 6) v2.toNatClampNeg)]) rl_J_countInto_46 rfl rfl rfl (fn_goto rl_J_countInto_49 (k3048))) (fun k3049 => fn_iload_n rl_J_countInto_25 rfl (fn_bipush rl_J_countInto_26 (fn_icmp_ge rl_J_countInto_28 (fun k3046 => fn_iinc (ls' := [.ref 29, .ref 5, .int (v2 + 1), .int ((A 6) v2.toNatClampNeg)]) rl_J_countInto_46 rfl rfl rfl (fn_goto rl_J_countInto_49 (k3046))) (fun k3047 => fn_aload_n rl_J_countInto_31 rfl (fn_iload_n rl_J_countInto_32 rfl (fn_iconst rl_J_countInto_33 (fn_imul rl_J_countInto_34 (fn_iload_n rl_J_countInto_35 rfl (fn_sipush rl_J_countInto_36 (fn_idiv rl_J_countInto_39 (by decide +kernel) (fn_iadd rl_J_countInto_40 (fn_dup2 rl_J_countInto_41 (fn_iald rl_J_countInto_42 hp_29 (fun k3045 => fn_iconst rl_J_countInto_43 (fn_iadd rl_J_countInto_44 (fn_iast rl_J_countInto_45 hp_29 hps_29 (fun k3044 => fn_iinc (ls' := [.ref 29, .ref 5, .int (v2 + 1), .int ((A 6) v2.toNatClampNeg)]) rl_J_countInto_46 rfl rfl rfl (fn_goto rl_J_countInto_49 (k3044))) k3045))) k3047)))))))))) k3049))) k3050))) k3052)))) k0))
set_option maxRecDepth 100000 in
set_option maxHeartbeats 4000000 in
theorem sg_X_fill_28_0 {L : Nat} {xs : Nat → Int32} {A V : Nat → Nat → Int32} {K : Nat → Option Nat} {T : am_H} {v : Option Int32} {h' : am_H} {a1 : Int32} (k0 :
    am_fin [(z_X_fill, 5, [.ref 28, .int a1, .int 0, .int (Int32.ofNat 18)], [])] (hp L xs A V K T) v h') : am_fin [(z_X_fill, 0, [.ref 28, .int a1, .null, .null], [])] (hp L xs A V K T) v h' :=
  fn_iconst rl_X_fill_0 (fn_istore_n (ls' := [.ref 28, .int a1, .int 0, .null]) rl_X_fill_1 rfl rfl (fn_aload_n rl_X_fill_2 rfl (fn_alen rl_X_fill_3 hp_28 (fn_istore_n (ls' := [.ref 28, .int a1, .int 0, .int (Int32.ofNat 18)]) rl_X_fill_4 rfl rfl (k0)))))
set_option maxRecDepth 100000 in
set_option maxHeartbeats 4000000 in
theorem sg_X_fill_28_5 {L : Nat} {xs : Nat → Int32} {A V : Nat → Nat → Int32} {K : Nat → Option Nat} {T : am_H} {v : Option Int32} {h' : am_H} {v1 v2 v3 : Int32} (k0 :
    if v3 ≤ v2 then (
      v = none ∧ h' = hp L xs A V K T)
    else (
      ¬ (v2 < 0 ∨ 18 ≤ v2.toNatClampNeg) ∧ (
      am_fin [(z_X_fill, 5, [.ref 28, .int v1, .int (v2 + 1), .int v3], [])] (hp L xs (upA A 28 (upd (A 28) v2.toNatClampNeg v1)) V K T) v h'))) : am_fin [(z_X_fill, 5, [.ref 28, .int v1, .int v2, .int v3], [])] (hp L xs A V K T) v h' :=
  fn_iload_n rl_X_fill_5 rfl (fn_iload_n rl_X_fill_6 rfl (fn_icmp_ge rl_X_fill_7 (fun k3054 => fn_retv rl_X_fill_20 k3054) (fun k3055 => fn_aload_n rl_X_fill_10 rfl (fn_iload_n rl_X_fill_11 rfl (fn_iload_n rl_X_fill_12 rfl (fn_iast rl_X_fill_13 hp_28 hps_28 (fun k3053 => fn_iinc (ls' := [.ref 28, .int v1, .int (v2 + 1), .int v3]) rl_X_fill_14 rfl rfl rfl (fn_goto rl_X_fill_17 (k3053))) k3055)))) k0))
set_option maxRecDepth 100000 in
set_option maxHeartbeats 4000000 in
theorem sg_J_countInto_27_34_0 {L : Nat} {xs : Nat → Int32} {A V : Nat → Nat → Int32} {K : Nat → Option Nat} {T : am_H} {v : Option Int32} {h' : am_H} (k0 :
    am_fin [(z_X_fill, 0, [.ref 27, .int 0, .null, .null], []), (z_J_countInto, 5, [.ref 27, .ref 34, .null, .null], [])] (hp L xs A V K T) v h') : am_fin [(z_J_countInto, 0, [.ref 27, .ref 34, .null, .null], [])] (hp L xs A V K T) v h' :=
  fn_aload_n rl_J_countInto_0 rfl (fn_iconst rl_J_countInto_1 (fn_stat (as := [.ref 27, .int 0]) (r := []) (ls' := [.ref 27, .int 0, .null, .null]) rl_J_countInto_2 rfl rfl rfl rfl pl_X_fill rfl rfl (k0)))
set_option maxRecDepth 100000 in
set_option maxHeartbeats 4000000 in
theorem sg_J_countInto_27_34_5r {L : Nat} {xs : Nat → Int32} {A V : Nat → Nat → Int32} {K : Nat → Option Nat} {T : am_H} {v : Option Int32} {h' : am_H} (k0 :
    am_fin [(z_J_countInto, 7, [.ref 27, .ref 34, .int 0, .null], [])] (hp L xs A V K T) v h') : am_fin [(z_J_countInto, 5, [.ref 27, .ref 34, .null, .null], [])] (hp L xs A V K T) v h' :=
  fn_iconst rl_J_countInto_5 (fn_istore_n (ls' := [.ref 27, .ref 34, .int 0, .null]) rl_J_countInto_6 rfl rfl (k0))
set_option maxRecDepth 100000 in
set_option maxHeartbeats 4000000 in
theorem sg_J_countInto_27_34_7 {L : Nat} {xs : Nat → Int32} {A V : Nat → Nat → Int32} {K : Nat → Option Nat} {T : am_H} {v : Option Int32} {h' : am_H} {v2 : Int32} (k0 :
    if 1080 ≤ v2 then (
      v = none ∧ h' = hp L xs A V K T)
    else (
      ¬ (v2 < 0 ∨ 1080 ≤ v2.toNatClampNeg) ∧ (
      if ((A 35) v2.toNatClampNeg) < 0 then (
        am_fin [(z_J_countInto, 7, [.ref 27, .ref 34, .int (v2 + 1), .int ((A 35) v2.toNatClampNeg)], [])] (hp L xs A V K T) v h')
      else (
        if 6 ≤ ((A 35) v2.toNatClampNeg) then (
          am_fin [(z_J_countInto, 7, [.ref 27, .ref 34, .int (v2 + 1), .int ((A 35) v2.toNatClampNeg)], [])] (hp L xs A V K T) v h')
        else (
          ¬ (((((A 35) v2.toNatClampNeg) * 3) + (v2 / 360)) < 0 ∨ 18 ≤ ((((A 35) v2.toNatClampNeg) * 3) + (v2 / 360)).toNatClampNeg) ∧ (
          ¬ (((((A 35) v2.toNatClampNeg) * 3) + (v2 / 360)) < 0 ∨ 18 ≤ ((((A 35) v2.toNatClampNeg) * 3) + (v2 / 360)).toNatClampNeg) ∧ (
          am_fin [(z_J_countInto, 7, [.ref 27, .ref 34, .int (v2 + 1), .int ((A 35) v2.toNatClampNeg)], [])] (hp L xs (upA A 27 (upd (A 27) ((((A 35) v2.toNatClampNeg) * 3) + (v2 / 360)).toNatClampNeg (((A 27) ((((A 35) v2.toNatClampNeg) * 3) + (v2 / 360)).toNatClampNeg) + 1))) V K T) v h'))))))) : am_fin [(z_J_countInto, 7, [.ref 27, .ref 34, .int v2, .null], [])] (hp L xs A V K T) v h' :=
  fn_iload_n rl_J_countInto_7 rfl (fn_sipush rl_J_countInto_8 (fn_icmp_ge rl_J_countInto_11 (fun k3063 => fn_retv rl_J_countInto_52 k3063) (fun k3064 => fn_aload_n rl_J_countInto_14 rfl (fn_get rl_J_countInto_15 hp_34 rfl (fn_iload_n rl_J_countInto_18 rfl (fn_iald rl_J_countInto_19 hp_35 (fun k3062 => fn_istore_n (ls' := [.ref 27, .ref 34, .int v2, .int ((A 35) v2.toNatClampNeg)]) rl_J_countInto_20 rfl rfl (fn_iload_n rl_J_countInto_21 rfl (fn_if_lt rl_J_countInto_22 (fun k3060 => fn_iinc (ls' := [.ref 27, .ref 34, .int (v2 + 1), .int ((A 35) v2.toNatClampNeg)]) rl_J_countInto_46 rfl rfl rfl (fn_goto rl_J_countInto_49 (k3060))) (fun k3061 => fn_iload_n rl_J_countInto_25 rfl (fn_bipush rl_J_countInto_26 (fn_icmp_ge rl_J_countInto_28 (fun k3058 => fn_iinc (ls' := [.ref 27, .ref 34, .int (v2 + 1), .int ((A 35) v2.toNatClampNeg)]) rl_J_countInto_46 rfl rfl rfl (fn_goto rl_J_countInto_49 (k3058))) (fun k3059 => fn_aload_n rl_J_countInto_31 rfl (fn_iload_n rl_J_countInto_32 rfl (fn_iconst rl_J_countInto_33 (fn_imul rl_J_countInto_34 (fn_iload_n rl_J_countInto_35 rfl (fn_sipush rl_J_countInto_36 (fn_idiv rl_J_countInto_39 (by decide +kernel) (fn_iadd rl_J_countInto_40 (fn_dup2 rl_J_countInto_41 (fn_iald rl_J_countInto_42 hp_27 (fun k3057 => fn_iconst rl_J_countInto_43 (fn_iadd rl_J_countInto_44 (fn_iast rl_J_countInto_45 hp_27 hps_27 (fun k3056 => fn_iinc (ls' := [.ref 27, .ref 34, .int (v2 + 1), .int ((A 35) v2.toNatClampNeg)]) rl_J_countInto_46 rfl rfl rfl (fn_goto rl_J_countInto_49 (k3056))) k3057))) k3059)))))))))) k3061))) k3062))) k3064)))) k0))
set_option maxRecDepth 100000 in
set_option maxHeartbeats 4000000 in
theorem sg_J_owedIn_34_0 {L : Nat} {xs : Nat → Int32} {A V : Nat → Nat → Int32} {K : Nat → Option Nat} {T : am_H} {v : Option Int32} {h' : am_H} {a1 : Int32} (k0 :
    am_fin [(z_J_livesIn, 0, [.ref 26, .int a1, .null, .null, .null], []), (z_J_owedIn, 5, [.ref 26, .int a1, .ref 34, .null, .null, .null, .null, .null, .null], [])] (hp L xs A V K T) v h') : am_fin [(z_J_owedIn, 0, [.ref 26, .int a1, .ref 34, .null, .null, .null, .null, .null, .null], [])] (hp L xs A V K T) v h' :=
  fn_aload_n rl_J_owedIn_0 rfl (fn_iload_n rl_J_owedIn_1 rfl (fn_virt (as := [.ref 26, .int a1]) (r := []) (ls' := [.ref 26, .int a1, .null, .null, .null]) rl_J_owedIn_2 rfl hp_26 rfl rfl pl_J_livesIn rfl rfl (k0)))
set_option maxRecDepth 100000 in
set_option maxHeartbeats 4000000 in
theorem sg_J_owedIn_34_5r {L : Nat} {xs : Nat → Int32} {A V : Nat → Nat → Int32} {K : Nat → Option Nat} {T : am_H} {v : Option Int32} {h' : am_H} {v1 r : Int32} (k0 :
    if r = (-2) then (
      if r = (-2) then (
        am_fin [(z_J_owedIn, 55, [.ref 26, .int v1, .ref 34, .int r, .int 1080, .int (-1), .int 0, .int (v1 * 360), .null], [])] (hp L xs A V K T) v h')
      else (
        am_fin [(z_J_splitTill, 0, [.ref 26, .int r, .int v1, .ref 34, .null], []), (z_J_owedIn, 44, [.ref 26, .int v1, .ref 34, .int r, .int 1080, .null, .null, .null, .null], [])] (hp L xs A V K T) v h'))
    else (
      am_fin [(z_J_splitFrom, 0, [.ref 26, .int r, .int v1, .ref 34, .null], []), (z_J_owedIn, 25, [.ref 26, .int v1, .ref 34, .int r, .null, .null, .null, .null, .null], [])] (hp L xs A V K T) v h')) : am_fin [(z_J_owedIn, 5, [.ref 26, .int v1, .ref 34, .null, .null, .null, .null, .null, .null], [.int r])] (hp L xs A V K T) v h' :=
  fn_istore_n (ls' := [.ref 26, .int v1, .ref 34, .int r, .null, .null, .null, .null, .null]) rl_J_owedIn_5 rfl rfl (fn_iload_n rl_J_owedIn_6 rfl (fn_bipush rl_J_owedIn_7 (fn_icmp_ne rl_J_owedIn_9 (fun k3067 => fn_sipush rl_J_owedIn_12 (fn_goto rl_J_owedIn_15 (fn_istore (ls' := [.ref 26, .int v1, .ref 34, .int r, .int 1080, .null, .null, .null, .null]) rl_J_owedIn_25 rfl rfl (fn_iload_n rl_J_owedIn_27 rfl (fn_bipush rl_J_owedIn_28 (fn_icmp_ne rl_J_owedIn_30 (fun k3065 => fn_iconst rl_J_owedIn_33 (fn_goto rl_J_owedIn_34 (fn_istore (ls' := [.ref 26, .int v1, .ref 34, .int r, .int 1080, .int (-1), .null, .null, .null]) rl_J_owedIn_44 rfl rfl (fn_iconst rl_J_owedIn_46 (fn_istore (ls' := [.ref 26, .int v1, .ref 34, .int r, .int 1080, .int (-1), .int 0, .null, .null]) rl_J_owedIn_47 rfl rfl (fn_iload_n rl_J_owedIn_49 rfl (fn_stat (as := [.int v1]) (r := []) (ls' := [.int v1]) rl_J_owedIn_50 rfl rfl rfl rfl pl_L_firstOf rfl rfl (fn_iload_n rl_L_firstOf_0 rfl (fn_sipush rl_L_firstOf_1 (fn_imul rl_L_firstOf_4 (fn_retci rl_L_firstOf_5 rfl (fn_istore (ls' := [.ref 26, .int v1, .ref 34, .int r, .int 1080, .int (-1), .int 0, .int (v1 * 360), .null]) rl_J_owedIn_53 rfl rfl (k3065))))))))))))) (fun k3066 => fn_aload_n rl_J_owedIn_37 rfl (fn_iload_n rl_J_owedIn_38 rfl (fn_iload_n rl_J_owedIn_39 rfl (fn_aload_n rl_J_owedIn_40 rfl (fn_virt (as := [.ref 26, .int r, .int v1, .ref 34]) (r := []) (ls' := [.ref 26, .int r, .int v1, .ref 34, .null]) rl_J_owedIn_41 rfl hp_26 rfl rfl pl_J_splitTill rfl rfl (k3066)))))) k3067)))))) (fun k3068 => fn_aload_n rl_J_owedIn_18 rfl (fn_iload_n rl_J_owedIn_19 rfl (fn_iload_n rl_J_owedIn_20 rfl (fn_aload_n rl_J_owedIn_21 rfl (fn_virt (as := [.ref 26, .int r, .int v1, .ref 34]) (r := []) (ls' := [.ref 26, .int r, .int v1, .ref 34, .null]) rl_J_owedIn_22 rfl hp_26 rfl rfl pl_J_splitFrom rfl rfl (k3068)))))) k0)))
set_option maxRecDepth 100000 in
set_option maxHeartbeats 4000000 in
theorem sg_J_owedIn_34_55 {L : Nat} {xs : Nat → Int32} {A V : Nat → Nat → Int32} {K : Nat → Option Nat} {T : am_H} {v : Option Int32} {h' : am_H} {v1 v3 v4 v5 v6 v7 : Int32} (k0 :
    if (((v1 * 360) + 360) - 1) < v7 then (
      v = some v6 ∧ h' = hp L xs A V K T)
    else (
      if v7 < v4 then (
        am_fin [(z_P_landOn, 0, [.ref 34, .int v7], []), (z_J_owedIn, 86, [.ref 26, .int v1, .ref 34, .int v3, .int v4, .int v5, .int v6, .int v7, .null], [])] (hp L xs A V K T) v h')
      else (
        if v5 < v7 then (
          am_fin [(z_P_landOn, 0, [.ref 34, .int v7], []), (z_J_owedIn, 86, [.ref 26, .int v1, .ref 34, .int v3, .int v4, .int v5, .int v6, .int v7, .null], [])] (hp L xs A V K T) v h')
        else (
          if v3 < 0 then (
            am_fin [(z_J_owedIn, 55, [.ref 26, .int v1, .ref 34, .int v3, .int v4, .int v5, .int (v6 + 0), .int (v7 + 1), .int v3], [])] (hp L xs A V K T) v h')
          else (
            if 5 < v3 then (
              am_fin [(z_J_owedIn, 55, [.ref 26, .int v1, .ref 34, .int v3, .int v4, .int v5, .int (v6 + 0), .int (v7 + 1), .int v3], [])] (hp L xs A V K T) v h')
            else (
              ¬ (v3 < 0 ∨ 6 ≤ v3.toNatClampNeg) ∧ (
              am_fin [(z_J_owedIn, 55, [.ref 26, .int v1, .ref 34, .int v3, .int v4, .int v5, .int (v6 + ((A 14) v3.toNatClampNeg)), .int (v7 + 1), .int v3], [])] (hp L xs A V K T) v h'))))))) : am_fin [(z_J_owedIn, 55, [.ref 26, .int v1, .ref 34, .int v3, .int v4, .int v5, .int v6, .int v7, .null], [])] (hp L xs A V K T) v h' :=
  fn_iload rl_J_owedIn_55 rfl (fn_iload_n rl_J_owedIn_57 rfl (fn_stat (as := [.int v1]) (r := [.int v7]) (ls' := [.int v1]) rl_J_owedIn_58 rfl rfl rfl rfl pl_L_lastOf rfl rfl (fn_iload_n rl_L_lastOf_0 rfl (fn_sipush rl_L_lastOf_1 (fn_imul rl_L_lastOf_4 (fn_sipush rl_L_lastOf_5 (fn_iadd rl_L_lastOf_8 (fn_iconst rl_L_lastOf_9 (fn_isub rl_L_lastOf_10 (fn_retci rl_L_lastOf_11 rfl (fn_icmp_gt rl_J_owedIn_61 (fun k3078 => fn_iload rl_J_owedIn_121 rfl (fn_reti rl_J_owedIn_123 rfl k3078)) (fun k3079 => fn_iload rl_J_owedIn_64 rfl (fn_iload rl_J_owedIn_66 rfl (fn_iload rl_J_owedIn_68 rfl (fn_stat (as := [.int v7, .int v4, .int v5]) (r := []) (ls' := [.int v7, .int v4, .int v5]) rl_J_owedIn_70 rfl rfl rfl rfl pl_L_isAmong rfl rfl (fn_iload_n rl_L_isAmong_0 rfl (fn_iload_n rl_L_isAmong_1 rfl (fn_icmp_lt rl_L_isAmong_2 (fun k3076 => fn_iconst rl_L_isAmong_14 (fn_retci rl_L_isAmong_15 rfl (fn_if_eq_t rl_J_owedIn_73 (by decide +kernel) (fn_aload_n rl_J_owedIn_80 rfl (fn_iload rl_J_owedIn_81 rfl (fn_virt (as := [.ref 34, .int v7]) (r := []) (ls' := [.ref 34, .int v7]) rl_J_owedIn_83 rfl hp_34 rfl rfl pl_P_landOn rfl rfl (k3076))))))) (fun k3077 => fn_iload_n rl_L_isAmong_5 rfl (fn_iload_n rl_L_isAmong_6 rfl (fn_icmp_gt rl_L_isAmong_7 (fun k3074 => fn_iconst rl_L_isAmong_14 (fn_retci rl_L_isAmong_15 rfl (fn_if_eq_t rl_J_owedIn_73 (by decide +kernel) (fn_aload_n rl_J_owedIn_80 rfl (fn_iload rl_J_owedIn_81 rfl (fn_virt (as := [.ref 34, .int v7]) (r := []) (ls' := [.ref 34, .int v7]) rl_J_owedIn_83 rfl hp_34 rfl rfl pl_P_landOn rfl rfl (k3074))))))) (fun k3075 => fn_iconst rl_L_isAmong_10 (fn_goto rl_L_isAmong_11 (fn_retci rl_L_isAmong_15 rfl (fn_if_eq_f rl_J_owedIn_73 (by decide +kernel) (fn_iload_n rl_J_owedIn_76 rfl (fn_goto rl_J_owedIn_77 (fn_istore (ls' := [.ref 26, .int v1, .ref 34, .int v3, .int v4, .int v5, .int v6, .int v7, .int v3]) rl_J_owedIn_86 rfl rfl (fn_iload rl_J_owedIn_88 rfl (fn_iload rl_J_owedIn_90 rfl (fn_stat (as := [.int v3]) (r := [.int v6]) (ls' := [.int v3]) rl_J_owedIn_92 rfl rfl rfl rfl pl_L_isLand rfl rfl (fn_iload_n rl_L_isLand_0 rfl (fn_iconst rl_L_isLand_1 (fn_iconst rl_L_isLand_2 (fn_stat (as := [.int v3, .int 0, .int 5]) (r := []) (ls' := [.int v3, .int 0, .int 5]) rl_L_isLand_3 rfl rfl rfl rfl pl_L_isAmong rfl rfl (fn_iload_n rl_L_isAmong_0 rfl (fn_iload_n rl_L_isAmong_1 rfl (fn_icmp_lt rl_L_isAmong_2 (fun k3072 => fn_iconst rl_L_isAmong_14 (fn_retci rl_L_isAmong_15 rfl (fn_retci rl_L_isLand_6 rfl (fn_if_eq_t rl_J_owedIn_95 (by decide +kernel) (fn_iconst rl_J_owedIn_111 (fn_iadd rl_J_owedIn_112 (fn_istore (ls' := [.ref 26, .int v1, .ref 34, .int v3, .int v4, .int v5, .int (v6 + 0), .int v7, .int v3]) rl_J_owedIn_113 rfl rfl (fn_iinc (ls' := [.ref 26, .int v1, .ref 34, .int v3, .int v4, .int v5, .int (v6 + 0), .int (v7 + 1), .int v3]) rl_J_owedIn_115 rfl rfl rfl (fn_goto rl_J_owedIn_118 (k3072)))))))))) (fun k3073 => fn_iload_n rl_L_isAmong_5 rfl (fn_iload_n rl_L_isAmong_6 rfl (fn_icmp_gt rl_L_isAmong_7 (fun k3070 => fn_iconst rl_L_isAmong_14 (fn_retci rl_L_isAmong_15 rfl (fn_retci rl_L_isLand_6 rfl (fn_if_eq_t rl_J_owedIn_95 (by decide +kernel) (fn_iconst rl_J_owedIn_111 (fn_iadd rl_J_owedIn_112 (fn_istore (ls' := [.ref 26, .int v1, .ref 34, .int v3, .int v4, .int v5, .int (v6 + 0), .int v7, .int v3]) rl_J_owedIn_113 rfl rfl (fn_iinc (ls' := [.ref 26, .int v1, .ref 34, .int v3, .int v4, .int v5, .int (v6 + 0), .int (v7 + 1), .int v3]) rl_J_owedIn_115 rfl rfl rfl (fn_goto rl_J_owedIn_118 (k3070)))))))))) (fun k3071 => fn_iconst rl_L_isAmong_10 (fn_goto rl_L_isAmong_11 (fn_retci rl_L_isAmong_15 rfl (fn_retci rl_L_isLand_6 rfl (fn_if_eq_f rl_J_owedIn_95 (by decide +kernel) (fn_aload_n rl_J_owedIn_98 rfl (fn_get rl_J_owedIn_99 hp_26 rfl (fn_get rl_J_owedIn_102 hp_10 rfl (fn_iload rl_J_owedIn_105 rfl (fn_iald rl_J_owedIn_107 hp_14 (fun k3069 => fn_goto rl_J_owedIn_108 (fn_iadd rl_J_owedIn_112 (fn_istore (ls' := [.ref 26, .int v1, .ref 34, .int v3, .int v4, .int v5, .int (v6 + ((A 14) v3.toNatClampNeg)), .int v7, .int v3]) rl_J_owedIn_113 rfl rfl (fn_iinc (ls' := [.ref 26, .int v1, .ref 34, .int v3, .int v4, .int v5, .int (v6 + ((A 14) v3.toNatClampNeg)), .int (v7 + 1), .int v3]) rl_J_owedIn_115 rfl rfl rfl (fn_goto rl_J_owedIn_118 (k3069)))))) k3071)))))))))) k3073))) k3075))))))))))))))))) k3077))) k3079))))))) k0)))))))))))
set_option maxRecDepth 100000 in
set_option maxHeartbeats 4000000 in
theorem sg_J_owedIn_34_86r {L : Nat} {xs : Nat → Int32} {A V : Nat → Nat → Int32} {K : Nat → Option Nat} {T : am_H} {v : Option Int32} {h' : am_H} {v1 v3 v4 v5 v6 v7 r : Int32} (k0 :
    if r < 0 then (
      am_fin [(z_J_owedIn, 55, [.ref 26, .int v1, .ref 34, .int v3, .int v4, .int v5, .int (v6 + 0), .int (v7 + 1), .int r], [])] (hp L xs A V K T) v h')
    else (
      if 5 < r then (
        am_fin [(z_J_owedIn, 55, [.ref 26, .int v1, .ref 34, .int v3, .int v4, .int v5, .int (v6 + 0), .int (v7 + 1), .int r], [])] (hp L xs A V K T) v h')
      else (
        ¬ (r < 0 ∨ 6 ≤ r.toNatClampNeg) ∧ (
        am_fin [(z_J_owedIn, 55, [.ref 26, .int v1, .ref 34, .int v3, .int v4, .int v5, .int (v6 + ((A 14) r.toNatClampNeg)), .int (v7 + 1), .int r], [])] (hp L xs A V K T) v h')))) : am_fin [(z_J_owedIn, 86, [.ref 26, .int v1, .ref 34, .int v3, .int v4, .int v5, .int v6, .int v7, .null], [.int r])] (hp L xs A V K T) v h' :=
  fn_istore (ls' := [.ref 26, .int v1, .ref 34, .int v3, .int v4, .int v5, .int v6, .int v7, .int r]) rl_J_owedIn_86 rfl rfl (fn_iload rl_J_owedIn_88 rfl (fn_iload rl_J_owedIn_90 rfl (fn_stat (as := [.int r]) (r := [.int v6]) (ls' := [.int r]) rl_J_owedIn_92 rfl rfl rfl rfl pl_L_isLand rfl rfl (fn_iload_n rl_L_isLand_0 rfl (fn_iconst rl_L_isLand_1 (fn_iconst rl_L_isLand_2 (fn_stat (as := [.int r, .int 0, .int 5]) (r := []) (ls' := [.int r, .int 0, .int 5]) rl_L_isLand_3 rfl rfl rfl rfl pl_L_isAmong rfl rfl (fn_iload_n rl_L_isAmong_0 rfl (fn_iload_n rl_L_isAmong_1 rfl (fn_icmp_lt rl_L_isAmong_2 (fun k3083 => fn_iconst rl_L_isAmong_14 (fn_retci rl_L_isAmong_15 rfl (fn_retci rl_L_isLand_6 rfl (fn_if_eq_t rl_J_owedIn_95 (by decide +kernel) (fn_iconst rl_J_owedIn_111 (fn_iadd rl_J_owedIn_112 (fn_istore (ls' := [.ref 26, .int v1, .ref 34, .int v3, .int v4, .int v5, .int (v6 + 0), .int v7, .int r]) rl_J_owedIn_113 rfl rfl (fn_iinc (ls' := [.ref 26, .int v1, .ref 34, .int v3, .int v4, .int v5, .int (v6 + 0), .int (v7 + 1), .int r]) rl_J_owedIn_115 rfl rfl rfl (fn_goto rl_J_owedIn_118 (k3083)))))))))) (fun k3084 => fn_iload_n rl_L_isAmong_5 rfl (fn_iload_n rl_L_isAmong_6 rfl (fn_icmp_gt rl_L_isAmong_7 (fun k3081 => fn_iconst rl_L_isAmong_14 (fn_retci rl_L_isAmong_15 rfl (fn_retci rl_L_isLand_6 rfl (fn_if_eq_t rl_J_owedIn_95 (by decide +kernel) (fn_iconst rl_J_owedIn_111 (fn_iadd rl_J_owedIn_112 (fn_istore (ls' := [.ref 26, .int v1, .ref 34, .int v3, .int v4, .int v5, .int (v6 + 0), .int v7, .int r]) rl_J_owedIn_113 rfl rfl (fn_iinc (ls' := [.ref 26, .int v1, .ref 34, .int v3, .int v4, .int v5, .int (v6 + 0), .int (v7 + 1), .int r]) rl_J_owedIn_115 rfl rfl rfl (fn_goto rl_J_owedIn_118 (k3081)))))))))) (fun k3082 => fn_iconst rl_L_isAmong_10 (fn_goto rl_L_isAmong_11 (fn_retci rl_L_isAmong_15 rfl (fn_retci rl_L_isLand_6 rfl (fn_if_eq_f rl_J_owedIn_95 (by decide +kernel) (fn_aload_n rl_J_owedIn_98 rfl (fn_get rl_J_owedIn_99 hp_26 rfl (fn_get rl_J_owedIn_102 hp_10 rfl (fn_iload rl_J_owedIn_105 rfl (fn_iald rl_J_owedIn_107 hp_14 (fun k3080 => fn_goto rl_J_owedIn_108 (fn_iadd rl_J_owedIn_112 (fn_istore (ls' := [.ref 26, .int v1, .ref 34, .int v3, .int v4, .int v5, .int (v6 + ((A 14) r.toNatClampNeg)), .int v7, .int r]) rl_J_owedIn_113 rfl rfl (fn_iinc (ls' := [.ref 26, .int v1, .ref 34, .int v3, .int v4, .int v5, .int (v6 + ((A 14) r.toNatClampNeg)), .int (v7 + 1), .int r]) rl_J_owedIn_115 rfl rfl rfl (fn_goto rl_J_owedIn_118 (k3080)))))) k3082)))))))))) k3084))) k0))))))))))
set_option maxRecDepth 100000 in
set_option maxHeartbeats 4000000 in
theorem sg_J_owedIn_34_44r {L : Nat} {xs : Nat → Int32} {A V : Nat → Nat → Int32} {K : Nat → Option Nat} {T : am_H} {v : Option Int32} {h' : am_H} {v1 v3 v4 r : Int32} (k0 :
    am_fin [(z_J_owedIn, 55, [.ref 26, .int v1, .ref 34, .int v3, .int v4, .int r, .int 0, .int (v1 * 360), .null], [])] (hp L xs A V K T) v h') : am_fin [(z_J_owedIn, 44, [.ref 26, .int v1, .ref 34, .int v3, .int v4, .null, .null, .null, .null], [.int r])] (hp L xs A V K T) v h' :=
  fn_istore (ls' := [.ref 26, .int v1, .ref 34, .int v3, .int v4, .int r, .null, .null, .null]) rl_J_owedIn_44 rfl rfl (fn_iconst rl_J_owedIn_46 (fn_istore (ls' := [.ref 26, .int v1, .ref 34, .int v3, .int v4, .int r, .int 0, .null, .null]) rl_J_owedIn_47 rfl rfl (fn_iload_n rl_J_owedIn_49 rfl (fn_stat (as := [.int v1]) (r := []) (ls' := [.int v1]) rl_J_owedIn_50 rfl rfl rfl rfl pl_L_firstOf rfl rfl (fn_iload_n rl_L_firstOf_0 rfl (fn_sipush rl_L_firstOf_1 (fn_imul rl_L_firstOf_4 (fn_retci rl_L_firstOf_5 rfl (fn_istore (ls' := [.ref 26, .int v1, .ref 34, .int v3, .int v4, .int r, .int 0, .int (v1 * 360), .null]) rl_J_owedIn_53 rfl rfl (k0))))))))))
set_option maxRecDepth 100000 in
set_option maxHeartbeats 4000000 in
theorem sg_J_owedIn_34_25r {L : Nat} {xs : Nat → Int32} {A V : Nat → Nat → Int32} {K : Nat → Option Nat} {T : am_H} {v : Option Int32} {h' : am_H} {v1 v3 r : Int32} (k0 :
    if v3 = (-2) then (
      am_fin [(z_J_owedIn, 55, [.ref 26, .int v1, .ref 34, .int v3, .int r, .int (-1), .int 0, .int (v1 * 360), .null], [])] (hp L xs A V K T) v h')
    else (
      am_fin [(z_J_splitTill, 0, [.ref 26, .int v3, .int v1, .ref 34, .null], []), (z_J_owedIn, 44, [.ref 26, .int v1, .ref 34, .int v3, .int r, .null, .null, .null, .null], [])] (hp L xs A V K T) v h')) : am_fin [(z_J_owedIn, 25, [.ref 26, .int v1, .ref 34, .int v3, .null, .null, .null, .null, .null], [.int r])] (hp L xs A V K T) v h' :=
  fn_istore (ls' := [.ref 26, .int v1, .ref 34, .int v3, .int r, .null, .null, .null, .null]) rl_J_owedIn_25 rfl rfl (fn_iload_n rl_J_owedIn_27 rfl (fn_bipush rl_J_owedIn_28 (fn_icmp_ne rl_J_owedIn_30 (fun k3085 => fn_iconst rl_J_owedIn_33 (fn_goto rl_J_owedIn_34 (fn_istore (ls' := [.ref 26, .int v1, .ref 34, .int v3, .int r, .int (-1), .null, .null, .null]) rl_J_owedIn_44 rfl rfl (fn_iconst rl_J_owedIn_46 (fn_istore (ls' := [.ref 26, .int v1, .ref 34, .int v3, .int r, .int (-1), .int 0, .null, .null]) rl_J_owedIn_47 rfl rfl (fn_iload_n rl_J_owedIn_49 rfl (fn_stat (as := [.int v1]) (r := []) (ls' := [.int v1]) rl_J_owedIn_50 rfl rfl rfl rfl pl_L_firstOf rfl rfl (fn_iload_n rl_L_firstOf_0 rfl (fn_sipush rl_L_firstOf_1 (fn_imul rl_L_firstOf_4 (fn_retci rl_L_firstOf_5 rfl (fn_istore (ls' := [.ref 26, .int v1, .ref 34, .int v3, .int r, .int (-1), .int 0, .int (v1 * 360), .null]) rl_J_owedIn_53 rfl rfl (k3085))))))))))))) (fun k3086 => fn_aload_n rl_J_owedIn_37 rfl (fn_iload_n rl_J_owedIn_38 rfl (fn_iload_n rl_J_owedIn_39 rfl (fn_aload_n rl_J_owedIn_40 rfl (fn_virt (as := [.ref 26, .int v3, .int v1, .ref 34]) (r := []) (ls' := [.ref 26, .int v3, .int v1, .ref 34, .null]) rl_J_owedIn_41 rfl hp_26 rfl rfl pl_J_splitTill rfl rfl (k3086)))))) k0)))
set_option maxRecDepth 100000 in
set_option maxHeartbeats 4000000 in
theorem sg_O_overstayDays_0 {L : Nat} {xs : Nat → Int32} {A V : Nat → Nat → Int32} {K : Nat → Option Nat} {T : am_H} {v : Option Int32} {h' : am_H} (k0 :
    am_fin [(z_O_overstayDays, 4, [.ref 30, .int 0, .int 0], [])] (hp L xs A V K T) v h') : am_fin [(z_O_overstayDays, 0, [.ref 30, .null, .null], [])] (hp L xs A V K T) v h' :=
  fn_iconst rl_O_overstayDays_0 (fn_istore_n (ls' := [.ref 30, .int 0, .null]) rl_O_overstayDays_1 rfl rfl (fn_iconst rl_O_overstayDays_2 (fn_istore_n (ls' := [.ref 30, .int 0, .int 0]) rl_O_overstayDays_3 rfl rfl (k0))))
set_option maxRecDepth 100000 in
set_option maxHeartbeats 4000000 in
theorem sg_O_overstayDays_4 {L : Nat} {xs : Nat → Int32} {A V : Nat → Nat → Int32} {K : Nat → Option Nat} {T : am_H} {v : Option Int32} {h' : am_H} {v1 v2 : Int32} (k0 :
    if 1080 ≤ v2 then (
      v = some v1 ∧ h' = hp L xs A V K T)
    else (
      if (V 30 4) ≤ 0 then (
        v = some v1 ∧ h' = hp L xs A V K T)
      else (
        am_fin [(z_O_beyond, 0, [.ref 30, .int v2], []), (z_O_overstayDays, 23, [.ref 30, .int v1, .int v2], [])] (hp L xs A V K T) v h'))) : am_fin [(z_O_overstayDays, 4, [.ref 30, .int v1, .int v2], [])] (hp L xs A V K T) v h' :=
  fn_iload_n rl_O_overstayDays_4 rfl (fn_sipush rl_O_overstayDays_5 (fn_icmp_ge rl_O_overstayDays_8 (fun k3089 => fn_iload_n rl_O_overstayDays_35 rfl (fn_reti rl_O_overstayDays_36 rfl k3089)) (fun k3090 => fn_aload_n rl_O_overstayDays_11 rfl (fn_get rl_O_overstayDays_12 hp_30 rfl (fn_if_le rl_O_overstayDays_15 (fun k3087 => fn_iload_n rl_O_overstayDays_35 rfl (fn_reti rl_O_overstayDays_36 rfl k3087)) (fun k3088 => fn_aload_n rl_O_overstayDays_18 rfl (fn_iload_n rl_O_overstayDays_19 rfl (fn_virt (as := [.ref 30, .int v2]) (r := []) (ls' := [.ref 30, .int v2]) rl_O_overstayDays_20 rfl hp_30 rfl rfl pl_O_beyond rfl rfl (k3088)))) k3090))) k0))
set_option maxRecDepth 100000 in
set_option maxHeartbeats 4000000 in
theorem sg_O_overstayDays_23r {L : Nat} {xs : Nat → Int32} {A V : Nat → Nat → Int32} {K : Nat → Option Nat} {T : am_H} {v : Option Int32} {h' : am_H} {v1 v2 r : Int32} (k0 :
    if r ≤ 0 then (
      am_fin [(z_O_overstayDays, 4, [.ref 30, .int v1, .int (v2 + 1)], [])] (hp L xs A V K T) v h')
    else (
      am_fin [(z_O_overstayDays, 4, [.ref 30, .int (v1 + 1), .int (v2 + 1)], [])] (hp L xs A V K T) v h')) : am_fin [(z_O_overstayDays, 23, [.ref 30, .int v1, .int v2], [.int r])] (hp L xs A V K T) v h' :=
  fn_if_le rl_O_overstayDays_23 (fun k3091 => fn_iinc (ls' := [.ref 30, .int v1, .int (v2 + 1)]) rl_O_overstayDays_29 rfl rfl rfl (fn_goto rl_O_overstayDays_32 (k3091))) (fun k3092 => fn_iinc (ls' := [.ref 30, .int (v1 + 1), .int v2]) rl_O_overstayDays_26 rfl rfl rfl (fn_iinc (ls' := [.ref 30, .int (v1 + 1), .int (v2 + 1)]) rl_O_overstayDays_29 rfl rfl rfl (fn_goto rl_O_overstayDays_32 (k3092)))) k0
set_option maxRecDepth 100000 in
set_option maxHeartbeats 4000000 in
theorem sg_D_skipBlanks_0 {L : Nat} {xs : Nat → Int32} {A V : Nat → Nat → Int32} {K : Nat → Option Nat} {T : am_H} {v : Option Int32} {h' : am_H} (k0 :
    am_fin [(z_D_skipBlanks, 5, [.ref 21, .int (V 21 6)], [])] (hp L xs A V K T) v h') : am_fin [(z_D_skipBlanks, 0, [.ref 21, .null], [])] (hp L xs A V K T) v h' :=
  fn_aload_n rl_D_skipBlanks_0 rfl (fn_get rl_D_skipBlanks_1 hp_21 rfl (fn_istore_n (ls' := [.ref 21, .int (V 21 6)]) rl_D_skipBlanks_4 rfl rfl (k0)))
set_option maxRecDepth 100000 in
set_option maxHeartbeats 4000000 in
theorem sg_D_skipBlanks_5 {L : Nat} {xs : Nat → Int32} {A V : Nat → Nat → Int32} {K : Nat → Option Nat} {T : am_H} {v : Option Int32} {h' : am_H} {v1 : Int32} (k0 :
    if (V 21 4) ≤ v1 then (
      v = none ∧ h' = hp L xs A V K T)
    else (
      ¬ (v1 < 0 ∨ 320 ≤ v1.toNatClampNeg) ∧ (
      if ((A 20) v1.toNatClampNeg) = 32 then (
        am_fin [(z_D_skipBlanks, 5, [.ref 21, .int (v1 + 1)], [])] (hp L xs A (upV V 21 6 (v1 + 1)) K T) v h')
      else (
        v = none ∧ h' = hp L xs A V K T)))) : am_fin [(z_D_skipBlanks, 5, [.ref 21, .int v1], [])] (hp L xs A V K T) v h' :=
  fn_iload_n rl_D_skipBlanks_5 rfl (fn_aload_n rl_D_skipBlanks_6 rfl (fn_get rl_D_skipBlanks_7 hp_21 rfl (fn_icmp_ge rl_D_skipBlanks_10 (fun k3287 => fn_retv rl_D_skipBlanks_37 k3287) (fun k3288 => fn_aload_n rl_D_skipBlanks_13 rfl (fn_get rl_D_skipBlanks_14 hp_21 rfl (fn_iload_n rl_D_skipBlanks_17 rfl (fn_iald rl_D_skipBlanks_18 hp_20 (fun k3286 => fn_bipush rl_D_skipBlanks_19 (fn_icmp_ne rl_D_skipBlanks_21 (fun k3284 => fn_aload_n rl_D_skipBlanks_24 rfl (fn_iload_n rl_D_skipBlanks_25 rfl (fn_iconst rl_D_skipBlanks_26 (fn_iadd rl_D_skipBlanks_27 (fn_put rl_D_skipBlanks_28 hp_21 rfl hpv_21_6 (fn_iinc (ls' := [.ref 21, .int (v1 + 1)]) rl_D_skipBlanks_31 rfl rfl rfl (fn_goto rl_D_skipBlanks_34 (k3284)))))))) (fun k3285 => fn_retv rl_D_skipBlanks_37 k3285) k3286)) k3288)))) k0)))
set_option maxRecDepth 100000 in
set_option maxHeartbeats 4000000 in
theorem sg_D_readDay_0 {L : Nat} {xs : Nat → Int32} {A V : Nat → Nat → Int32} {K : Nat → Option Nat} {T : am_H} {v : Option Int32} {h' : am_H} {a1 : Int32} (k0 :
    am_fin [(z_D_readDay, 10, [.ref 21, .int a1, .int (V 21 6), .int 0, .int 0], [])] (hp L xs A V K T) v h') : am_fin [(z_D_readDay, 0, [.ref 21, .int a1, .null, .null, .null], [])] (hp L xs A V K T) v h' :=
  fn_aload_n rl_D_readDay_0 rfl (fn_get rl_D_readDay_1 hp_21 rfl (fn_istore_n (ls' := [.ref 21, .int a1, .int (V 21 6), .null, .null]) rl_D_readDay_4 rfl rfl (fn_iconst rl_D_readDay_5 (fn_istore_n (ls' := [.ref 21, .int a1, .int (V 21 6), .int 0, .null]) rl_D_readDay_6 rfl rfl (fn_iconst rl_D_readDay_7 (fn_istore (ls' := [.ref 21, .int a1, .int (V 21 6), .int 0, .int 0]) rl_D_readDay_8 rfl rfl (k0)))))))
