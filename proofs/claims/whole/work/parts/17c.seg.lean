set_option maxRecDepth 100000 in
set_option maxHeartbeats 4000000 in
theorem sg_M_most_32r {L : Nat} {xs : Nat → Int32} {A V : Nat → Nat → Int32} {K : Nat → Option Nat} {T : am_H} {v : Option Int32} {h' : am_H} {v1 v2 v3 : Int32} (k0 :
    am_fin [(z_M_mostBy, 0, [.ref 36, .int v1, .int v2, .int v3, .null], []), (z_M_most, 39, [.ref 36, .int v1, .int v2, .int v3], [])] (hp L xs A V K T) v h') : am_fin [(z_M_most, 32, [.ref 36, .int v1, .int v2, .int v3], [])] (hp L xs A V K T) v h' :=
  fn_aload_n rl_M_most_32 rfl (fn_iload_n rl_M_most_33 rfl (fn_iload_n rl_M_most_34 rfl (fn_iload_n rl_M_most_35 rfl (fn_virt (as := [.ref 36, .int v1, .int v2, .int v3]) (r := []) (ls' := [.ref 36, .int v1, .int v2, .int v3, .null]) rl_M_most_36 rfl hp_36 rfl rfl pl_M_mostBy rfl rfl (k0)))))
set_option maxRecDepth 100000 in
set_option maxHeartbeats 4000000 in
theorem sg_M_most_39r {L : Nat} {xs : Nat → Int32} {A V : Nat → Nat → Int32} {K : Nat → Option Nat} {T : am_H} {v : Option Int32} {h' : am_H} {v1 v2 v3 r : Int32} (k0 :
    v = some r ∧ h' = hp L xs A V K T) : am_fin [(z_M_most, 39, [.ref 36, .int v1, .int v2, .int v3], [.int r])] (hp L xs A V K T) v h' :=
  fn_reti rl_M_most_39 rfl k0
set_option maxRecDepth 100000 in
set_option maxHeartbeats 4000000 in
theorem sg_M_claims_0 {L : Nat} {xs : Nat → Int32} {A V : Nat → Nat → Int32} {K : Nat → Option Nat} {T : am_H} {v : Option Int32} {h' : am_H} {a1 : Int32} (k0 :
    if (lg_cmp ((a1 : Int32).toInt64) ((0 : Int32).toInt64)) < 0 then (
      v = some (-1) ∧ h' = hp L xs A V K T)
    else (
      if 0 < (lg_cmp ((a1 : Int32).toInt64) ((2 : Int32).toInt64)) then (
        v = some (-1) ∧ h' = hp L xs A V K T)
      else (
        am_fin [(z_M_laysCounts, 0, [.ref 36, .null, .null, .null], []), (z_M_claims, 13, [.ref 36, .int a1], [])] (hp L xs A V K T) v h'))) : am_fin [(z_M_claims, 0, [.ref 36, .int a1], [])] (hp L xs A V K T) v h' :=
  fn_iload_n rl_M_claims_0 rfl (fn_stat (as := [.int a1]) (r := []) (ls' := [.int a1]) rl_M_claims_1 rfl rfl rfl rfl pl_M_isYear rfl rfl (fn_iload_n rl_M_isYear_0 rfl (fn_i2l rl_M_isYear_1 (fn_lconst rl_M_isYear_2 (fn_ldc2_w rl_M_isYear_3 (fn_stat (as := [.long ((a1 : Int32).toInt64), .long ((0 : Int32).toInt64), .long ((2 : Int32).toInt64)]) (r := []) (ls' := [.long ((a1 : Int32).toInt64), .null, .long ((0 : Int32).toInt64), .null, .long ((2 : Int32).toInt64), .null]) rl_M_isYear_6 rfl rfl rfl rfl pl_M_in rfl rfl (fn_lload_n rl_M_in_0 rfl (fn_lload_n rl_M_in_1 rfl (fn_lcmp rl_M_in_2 (fn_if_lt rl_M_in_3 (fun k1564 => fn_iconst rl_M_in_17 (fn_retci rl_M_in_18 rfl (fn_retci rl_M_isYear_9 rfl (fn_if_ne_t rl_M_claims_4 (by decide +kernel) (fn_iconst rl_M_claims_7 (fn_reti rl_M_claims_8 rfl k1564)))))) (fun k1565 => fn_lload_n rl_M_in_6 rfl (fn_lload rl_M_in_7 rfl (fn_lcmp rl_M_in_9 (fn_if_gt rl_M_in_10 (fun k1562 => fn_iconst rl_M_in_17 (fn_retci rl_M_in_18 rfl (fn_retci rl_M_isYear_9 rfl (fn_if_ne_t rl_M_claims_4 (by decide +kernel) (fn_iconst rl_M_claims_7 (fn_reti rl_M_claims_8 rfl k1562)))))) (fun k1563 => fn_iconst rl_M_in_13 (fn_goto rl_M_in_14 (fn_retci rl_M_in_18 rfl (fn_retci rl_M_isYear_9 rfl (fn_if_ne_f rl_M_claims_4 (by decide +kernel) (fn_aload_n rl_M_claims_9 rfl (fn_virt (as := [.ref 36]) (r := []) (ls' := [.ref 36, .null, .null, .null]) rl_M_claims_10 rfl hp_36 rfl rfl pl_M_laysCounts rfl rfl (k1563)))))))) k1565)))) k0))))))))))
set_option maxRecDepth 100000 in
set_option maxHeartbeats 4000000 in
theorem sg_M_claims_13r {L : Nat} {xs : Nat → Int32} {A V : Nat → Nat → Int32} {K : Nat → Option Nat} {T : am_H} {v : Option Int32} {h' : am_H} {v1 : Int32} (k0 :
    am_fin [(z_M_claiming, 0, [.ref 36, .int v1, .null, .null], []), (z_M_claims, 18, [.ref 36, .int v1], [])] (hp L xs A V K T) v h') : am_fin [(z_M_claims, 13, [.ref 36, .int v1], [])] (hp L xs A V K T) v h' :=
  fn_aload_n rl_M_claims_13 rfl (fn_iload_n rl_M_claims_14 rfl (fn_virt (as := [.ref 36, .int v1]) (r := []) (ls' := [.ref 36, .int v1, .null, .null]) rl_M_claims_15 rfl hp_36 rfl rfl pl_M_claiming rfl rfl (k0)))
set_option maxRecDepth 100000 in
set_option maxHeartbeats 4000000 in
theorem sg_M_claims_18r {L : Nat} {xs : Nat → Int32} {A V : Nat → Nat → Int32} {K : Nat → Option Nat} {T : am_H} {v : Option Int32} {h' : am_H} {v1 r : Int32} (k0 :
    v = some r ∧ h' = hp L xs A V K T) : am_fin [(z_M_claims, 18, [.ref 36, .int v1], [.int r])] (hp L xs A V K T) v h' :=
  fn_reti rl_M_claims_18 rfl k0
set_option maxRecDepth 100000 in
set_option maxHeartbeats 4000000 in
theorem sg_M_holds_0 {L : Nat} {xs : Nat → Int32} {A V : Nat → Nat → Int32} {K : Nat → Option Nat} {T : am_H} {v : Option Int32} {h' : am_H} {a1 a2 : Int32} (k0 :
    if (lg_cmp ((a1 : Int32).toInt64) ((0 : Int32).toInt64)) < 0 then (
      v = some (-1) ∧ h' = hp L xs A V K T)
    else (
      if 0 < (lg_cmp ((a1 : Int32).toInt64) ((5 : Int32).toInt64)) then (
        v = some (-1) ∧ h' = hp L xs A V K T)
      else (
        if (lg_cmp ((a2 : Int32).toInt64) ((0 : Int32).toInt64)) < 0 then (
          v = some (-1) ∧ h' = hp L xs A V K T)
        else (
          if 0 < (lg_cmp ((a2 : Int32).toInt64) ((2 : Int32).toInt64)) then (
            v = some (-1) ∧ h' = hp L xs A V K T)
          else (
            am_fin [(z_M_laysCounts, 0, [.ref 36, .null, .null, .null], []), (z_M_holds, 20, [.ref 36, .int a1, .int a2], [])] (hp L xs A V K T) v h'))))) : am_fin [(z_M_holds, 0, [.ref 36, .int a1, .int a2], [])] (hp L xs A V K T) v h' :=
  fn_iload_n rl_M_holds_0 rfl (fn_stat (as := [.int a1]) (r := []) (ls' := [.int a1]) rl_M_holds_1 rfl rfl rfl rfl pl_M_isLand rfl rfl (fn_iload_n rl_M_isLand_0 rfl (fn_i2l rl_M_isLand_1 (fn_lconst rl_M_isLand_2 (fn_ldc2_w rl_M_isLand_3 (fn_stat (as := [.long ((a1 : Int32).toInt64), .long ((0 : Int32).toInt64), .long ((5 : Int32).toInt64)]) (r := []) (ls' := [.long ((a1 : Int32).toInt64), .null, .long ((0 : Int32).toInt64), .null, .long ((5 : Int32).toInt64), .null]) rl_M_isLand_6 rfl rfl rfl rfl pl_M_in rfl rfl (fn_lload_n rl_M_in_0 rfl (fn_lload_n rl_M_in_1 rfl (fn_lcmp rl_M_in_2 (fn_if_lt rl_M_in_3 (fun k1572 => fn_iconst rl_M_in_17 (fn_retci rl_M_in_18 rfl (fn_retci rl_M_isLand_9 rfl (fn_if_eq_t rl_M_holds_4 (by decide +kernel) (fn_iconst rl_M_holds_14 (fn_reti rl_M_holds_15 rfl k1572)))))) (fun k1573 => fn_lload_n rl_M_in_6 rfl (fn_lload rl_M_in_7 rfl (fn_lcmp rl_M_in_9 (fn_if_gt rl_M_in_10 (fun k1570 => fn_iconst rl_M_in_17 (fn_retci rl_M_in_18 rfl (fn_retci rl_M_isLand_9 rfl (fn_if_eq_t rl_M_holds_4 (by decide +kernel) (fn_iconst rl_M_holds_14 (fn_reti rl_M_holds_15 rfl k1570)))))) (fun k1571 => fn_iconst rl_M_in_13 (fn_goto rl_M_in_14 (fn_retci rl_M_in_18 rfl (fn_retci rl_M_isLand_9 rfl (fn_if_eq_f rl_M_holds_4 (by decide +kernel) (fn_iload_n rl_M_holds_7 rfl (fn_stat (as := [.int a2]) (r := []) (ls' := [.int a2]) rl_M_holds_8 rfl rfl rfl rfl pl_M_isYear rfl rfl (fn_iload_n rl_M_isYear_0 rfl (fn_i2l rl_M_isYear_1 (fn_lconst rl_M_isYear_2 (fn_ldc2_w rl_M_isYear_3 (fn_stat (as := [.long ((a2 : Int32).toInt64), .long ((0 : Int32).toInt64), .long ((2 : Int32).toInt64)]) (r := []) (ls' := [.long ((a2 : Int32).toInt64), .null, .long ((0 : Int32).toInt64), .null, .long ((2 : Int32).toInt64), .null]) rl_M_isYear_6 rfl rfl rfl rfl pl_M_in rfl rfl (fn_lload_n rl_M_in_0 rfl (fn_lload_n rl_M_in_1 rfl (fn_lcmp rl_M_in_2 (fn_if_lt rl_M_in_3 (fun k1568 => fn_iconst rl_M_in_17 (fn_retci rl_M_in_18 rfl (fn_retci rl_M_isYear_9 rfl (fn_if_ne_t rl_M_holds_11 (by decide +kernel) (fn_iconst rl_M_holds_14 (fn_reti rl_M_holds_15 rfl k1568)))))) (fun k1569 => fn_lload_n rl_M_in_6 rfl (fn_lload rl_M_in_7 rfl (fn_lcmp rl_M_in_9 (fn_if_gt rl_M_in_10 (fun k1566 => fn_iconst rl_M_in_17 (fn_retci rl_M_in_18 rfl (fn_retci rl_M_isYear_9 rfl (fn_if_ne_t rl_M_holds_11 (by decide +kernel) (fn_iconst rl_M_holds_14 (fn_reti rl_M_holds_15 rfl k1566)))))) (fun k1567 => fn_iconst rl_M_in_13 (fn_goto rl_M_in_14 (fn_retci rl_M_in_18 rfl (fn_retci rl_M_isYear_9 rfl (fn_if_ne_f rl_M_holds_11 (by decide +kernel) (fn_aload_n rl_M_holds_16 rfl (fn_virt (as := [.ref 36]) (r := []) (ls' := [.ref 36, .null, .null, .null]) rl_M_holds_17 rfl hp_36 rfl rfl pl_M_laysCounts rfl rfl (k1567)))))))) k1569)))) k1571)))))))))))))))) k1573)))) k0))))))))))
set_option maxRecDepth 100000 in
set_option maxHeartbeats 4000000 in
theorem sg_M_holds_20r {L : Nat} {xs : Nat → Int32} {A V : Nat → Nat → Int32} {K : Nat → Option Nat} {T : am_H} {v : Option Int32} {h' : am_H} {v1 v2 : Int32} (k0 :
    am_fin [(z_M_holding, 0, [.ref 36, .int v1, .int v2, .null, .null, .null, .null], []), (z_M_holds, 26, [.ref 36, .int v1, .int v2], [])] (hp L xs A V K T) v h') : am_fin [(z_M_holds, 20, [.ref 36, .int v1, .int v2], [])] (hp L xs A V K T) v h' :=
  fn_aload_n rl_M_holds_20 rfl (fn_iload_n rl_M_holds_21 rfl (fn_iload_n rl_M_holds_22 rfl (fn_virt (as := [.ref 36, .int v1, .int v2]) (r := []) (ls' := [.ref 36, .int v1, .int v2, .null, .null, .null, .null]) rl_M_holds_23 rfl hp_36 rfl rfl pl_M_holding rfl rfl (k0))))
set_option maxRecDepth 100000 in
set_option maxHeartbeats 4000000 in
theorem sg_M_holds_26r {L : Nat} {xs : Nat → Int32} {A V : Nat → Nat → Int32} {K : Nat → Option Nat} {T : am_H} {v : Option Int32} {h' : am_H} {v1 v2 r : Int32} (k0 :
    v = some r ∧ h' = hp L xs A V K T) : am_fin [(z_M_holds, 26, [.ref 36, .int v1, .int v2], [.int r])] (hp L xs A V K T) v h' :=
  fn_reti rl_M_holds_26 rfl k0
set_option maxRecDepth 100000 in
set_option maxHeartbeats 4000000 in
theorem sg_M_answers_0 {L : Nat} {xs : Nat → Int32} {A V : Nat → Nat → Int32} {K : Nat → Option Nat} {T : am_H} {v : Option Int32} {h' : am_H} {a1 a2 a3 : Int32} (k0 :
    if (lg_cmp ((a1 : Int32).toInt64) ((0 : Int32).toInt64)) < 0 then (
      v = some (-1) ∧ h' = hp L xs A V K T)
    else (
      if 0 < (lg_cmp ((a1 : Int32).toInt64) ((5 : Int32).toInt64)) then (
        v = some (-1) ∧ h' = hp L xs A V K T)
      else (
        if (lg_cmp ((a2 : Int32).toInt64) ((0 : Int32).toInt64)) < 0 then (
          v = some (-1) ∧ h' = hp L xs A V K T)
        else (
          if 0 < (lg_cmp ((a2 : Int32).toInt64) ((5 : Int32).toInt64)) then (
            v = some (-1) ∧ h' = hp L xs A V K T)
          else (
            if a1 = a2 then (
              v = some (-1) ∧ h' = hp L xs A V K T)
            else (
              if (lg_cmp ((a3 : Int32).toInt64) ((0 : Int32).toInt64)) < 0 then (
                v = some (-1) ∧ h' = hp L xs A V K T)
              else (
                if 0 < (lg_cmp ((a3 : Int32).toInt64) ((2 : Int32).toInt64)) then (
                  v = some (-1) ∧ h' = hp L xs A V K T)
                else (
                  am_fin [(z_M_laysCounts, 0, [.ref 36, .null, .null, .null], []), (z_M_answers, 21, [.ref 36, .int a1, .int a2, .int a3], [])] (hp L xs A V K T) v h')))))))) : am_fin [(z_M_answers, 0, [.ref 36, .int a1, .int a2, .int a3], [])] (hp L xs A V K T) v h' :=
  fn_iload_n rl_M_answers_0 rfl (fn_iload_n rl_M_answers_1 rfl (fn_stat (as := [.int a1, .int a2]) (r := []) (ls' := [.int a1, .int a2]) rl_M_answers_2 rfl rfl rfl rfl pl_M_areTwo rfl rfl (fn_iload_n rl_M_areTwo_0 rfl (fn_stat (as := [.int a1]) (r := []) (ls' := [.int a1]) rl_M_areTwo_1 rfl rfl rfl rfl pl_M_isLand rfl rfl (fn_iload_n rl_M_isLand_0 rfl (fn_i2l rl_M_isLand_1 (fn_lconst rl_M_isLand_2 (fn_ldc2_w rl_M_isLand_3 (fn_stat (as := [.long ((a1 : Int32).toInt64), .long ((0 : Int32).toInt64), .long ((5 : Int32).toInt64)]) (r := []) (ls' := [.long ((a1 : Int32).toInt64), .null, .long ((0 : Int32).toInt64), .null, .long ((5 : Int32).toInt64), .null]) rl_M_isLand_6 rfl rfl rfl rfl pl_M_in rfl rfl (fn_lload_n rl_M_in_0 rfl (fn_lload_n rl_M_in_1 rfl (fn_lcmp rl_M_in_2 (fn_if_lt rl_M_in_3 (fun k1586 => fn_iconst rl_M_in_17 (fn_retci rl_M_in_18 rfl (fn_retci rl_M_isLand_9 rfl (fn_if_eq_t rl_M_areTwo_4 (by decide +kernel) (fn_iconst rl_M_areTwo_23 (fn_retci rl_M_areTwo_24 rfl (fn_if_eq_t rl_M_answers_5 (by decide +kernel) (fn_iconst rl_M_answers_15 (fn_reti rl_M_answers_16 rfl k1586))))))))) (fun k1587 => fn_lload_n rl_M_in_6 rfl (fn_lload rl_M_in_7 rfl (fn_lcmp rl_M_in_9 (fn_if_gt rl_M_in_10 (fun k1584 => fn_iconst rl_M_in_17 (fn_retci rl_M_in_18 rfl (fn_retci rl_M_isLand_9 rfl (fn_if_eq_t rl_M_areTwo_4 (by decide +kernel) (fn_iconst rl_M_areTwo_23 (fn_retci rl_M_areTwo_24 rfl (fn_if_eq_t rl_M_answers_5 (by decide +kernel) (fn_iconst rl_M_answers_15 (fn_reti rl_M_answers_16 rfl k1584))))))))) (fun k1585 => fn_iconst rl_M_in_13 (fn_goto rl_M_in_14 (fn_retci rl_M_in_18 rfl (fn_retci rl_M_isLand_9 rfl (fn_if_eq_f rl_M_areTwo_4 (by decide +kernel) (fn_iload_n rl_M_areTwo_7 rfl (fn_stat (as := [.int a2]) (r := []) (ls' := [.int a2]) rl_M_areTwo_8 rfl rfl rfl rfl pl_M_isLand rfl rfl (fn_iload_n rl_M_isLand_0 rfl (fn_i2l rl_M_isLand_1 (fn_lconst rl_M_isLand_2 (fn_ldc2_w rl_M_isLand_3 (fn_stat (as := [.long ((a2 : Int32).toInt64), .long ((0 : Int32).toInt64), .long ((5 : Int32).toInt64)]) (r := []) (ls' := [.long ((a2 : Int32).toInt64), .null, .long ((0 : Int32).toInt64), .null, .long ((5 : Int32).toInt64), .null]) rl_M_isLand_6 rfl rfl rfl rfl pl_M_in rfl rfl (fn_lload_n rl_M_in_0 rfl (fn_lload_n rl_M_in_1 rfl (fn_lcmp rl_M_in_2 (fn_if_lt rl_M_in_3 (fun k1582 => fn_iconst rl_M_in_17 (fn_retci rl_M_in_18 rfl (fn_retci rl_M_isLand_9 rfl (fn_if_eq_t rl_M_areTwo_11 (by decide +kernel) (fn_iconst rl_M_areTwo_23 (fn_retci rl_M_areTwo_24 rfl (fn_if_eq_t rl_M_answers_5 (by decide +kernel) (fn_iconst rl_M_answers_15 (fn_reti rl_M_answers_16 rfl k1582))))))))) (fun k1583 => fn_lload_n rl_M_in_6 rfl (fn_lload rl_M_in_7 rfl (fn_lcmp rl_M_in_9 (fn_if_gt rl_M_in_10 (fun k1580 => fn_iconst rl_M_in_17 (fn_retci rl_M_in_18 rfl (fn_retci rl_M_isLand_9 rfl (fn_if_eq_t rl_M_areTwo_11 (by decide +kernel) (fn_iconst rl_M_areTwo_23 (fn_retci rl_M_areTwo_24 rfl (fn_if_eq_t rl_M_answers_5 (by decide +kernel) (fn_iconst rl_M_answers_15 (fn_reti rl_M_answers_16 rfl k1580))))))))) (fun k1581 => fn_iconst rl_M_in_13 (fn_goto rl_M_in_14 (fn_retci rl_M_in_18 rfl (fn_retci rl_M_isLand_9 rfl (fn_if_eq_f rl_M_areTwo_11 (by decide +kernel) (fn_iload_n rl_M_areTwo_14 rfl (fn_iload_n rl_M_areTwo_15 rfl (fn_icmp_eq rl_M_areTwo_16 (fun k1578 => fn_iconst rl_M_areTwo_23 (fn_retci rl_M_areTwo_24 rfl (fn_if_eq_t rl_M_answers_5 (by decide +kernel) (fn_iconst rl_M_answers_15 (fn_reti rl_M_answers_16 rfl k1578))))) (fun k1579 => fn_iconst rl_M_areTwo_19 (fn_goto rl_M_areTwo_20 (fn_retci rl_M_areTwo_24 rfl (fn_if_eq_f rl_M_answers_5 (by decide +kernel) (fn_iload_n rl_M_answers_8 rfl (fn_stat (as := [.int a3]) (r := []) (ls' := [.int a3]) rl_M_answers_9 rfl rfl rfl rfl pl_M_isYear rfl rfl (fn_iload_n rl_M_isYear_0 rfl (fn_i2l rl_M_isYear_1 (fn_lconst rl_M_isYear_2 (fn_ldc2_w rl_M_isYear_3 (fn_stat (as := [.long ((a3 : Int32).toInt64), .long ((0 : Int32).toInt64), .long ((2 : Int32).toInt64)]) (r := []) (ls' := [.long ((a3 : Int32).toInt64), .null, .long ((0 : Int32).toInt64), .null, .long ((2 : Int32).toInt64), .null]) rl_M_isYear_6 rfl rfl rfl rfl pl_M_in rfl rfl (fn_lload_n rl_M_in_0 rfl (fn_lload_n rl_M_in_1 rfl (fn_lcmp rl_M_in_2 (fn_if_lt rl_M_in_3 (fun k1576 => fn_iconst rl_M_in_17 (fn_retci rl_M_in_18 rfl (fn_retci rl_M_isYear_9 rfl (fn_if_ne_t rl_M_answers_12 (by decide +kernel) (fn_iconst rl_M_answers_15 (fn_reti rl_M_answers_16 rfl k1576)))))) (fun k1577 => fn_lload_n rl_M_in_6 rfl (fn_lload rl_M_in_7 rfl (fn_lcmp rl_M_in_9 (fn_if_gt rl_M_in_10 (fun k1574 => fn_iconst rl_M_in_17 (fn_retci rl_M_in_18 rfl (fn_retci rl_M_isYear_9 rfl (fn_if_ne_t rl_M_answers_12 (by decide +kernel) (fn_iconst rl_M_answers_15 (fn_reti rl_M_answers_16 rfl k1574)))))) (fun k1575 => fn_iconst rl_M_in_13 (fn_goto rl_M_in_14 (fn_retci rl_M_in_18 rfl (fn_retci rl_M_isYear_9 rfl (fn_if_ne_f rl_M_answers_12 (by decide +kernel) (fn_aload_n rl_M_answers_17 rfl (fn_virt (as := [.ref 36]) (r := []) (ls' := [.ref 36, .null, .null, .null]) rl_M_answers_18 rfl hp_36 rfl rfl pl_M_laysCounts rfl rfl (k1575)))))))) k1577)))) k1579))))))))))))))) k1581)))))))) k1583)))) k1585)))))))))))))))) k1587)))) k0)))))))))))))
set_option maxRecDepth 100000 in
set_option maxHeartbeats 4000000 in
theorem sg_M_answers_21r {L : Nat} {xs : Nat → Int32} {A V : Nat → Nat → Int32} {K : Nat → Option Nat} {T : am_H} {v : Option Int32} {h' : am_H} {v1 v2 v3 : Int32} (k0 :
    am_fin [(z_M_answer, 0, [.ref 36, .int v1, .int v2, .int v3, .null, .null], []), (z_M_answers, 28, [.ref 36, .int v1, .int v2, .int v3], [])] (hp L xs A V K T) v h') : am_fin [(z_M_answers, 21, [.ref 36, .int v1, .int v2, .int v3], [])] (hp L xs A V K T) v h' :=
  fn_aload_n rl_M_answers_21 rfl (fn_iload_n rl_M_answers_22 rfl (fn_iload_n rl_M_answers_23 rfl (fn_iload_n rl_M_answers_24 rfl (fn_virt (as := [.ref 36, .int v1, .int v2, .int v3]) (r := []) (ls' := [.ref 36, .int v1, .int v2, .int v3, .null, .null]) rl_M_answers_25 rfl hp_36 rfl rfl pl_M_answer rfl rfl (k0)))))
set_option maxRecDepth 100000 in
set_option maxHeartbeats 4000000 in
theorem sg_M_answers_28r {L : Nat} {xs : Nat → Int32} {A V : Nat → Nat → Int32} {K : Nat → Option Nat} {T : am_H} {v : Option Int32} {h' : am_H} {v1 v2 v3 r : Int32} (k0 :
    v = some r ∧ h' = hp L xs A V K T) : am_fin [(z_M_answers, 28, [.ref 36, .int v1, .int v2, .int v3], [.int r])] (hp L xs A V K T) v h' :=
  fn_reti rl_M_answers_28 rfl k0
set_option maxRecDepth 100000 in
set_option maxHeartbeats 4000000 in
theorem sg_M_by_0 {L : Nat} {xs : Nat → Int32} {A V : Nat → Nat → Int32} {K : Nat → Option Nat} {T : am_H} {v : Option Int32} {h' : am_H} {a1 a2 a3 : Int32} (k0 :
    if (lg_cmp ((a1 : Int32).toInt64) ((0 : Int32).toInt64)) < 0 then (
      v = some (-1) ∧ h' = hp L xs A V K T)
    else (
      if 0 < (lg_cmp ((a1 : Int32).toInt64) ((5 : Int32).toInt64)) then (
        v = some (-1) ∧ h' = hp L xs A V K T)
      else (
        if (lg_cmp ((a2 : Int32).toInt64) ((0 : Int32).toInt64)) < 0 then (
          v = some (-1) ∧ h' = hp L xs A V K T)
        else (
          if 0 < (lg_cmp ((a2 : Int32).toInt64) ((5 : Int32).toInt64)) then (
            v = some (-1) ∧ h' = hp L xs A V K T)
          else (
            if a1 = a2 then (
              v = some (-1) ∧ h' = hp L xs A V K T)
            else (
              if (lg_cmp ((a3 : Int32).toInt64) ((0 : Int32).toInt64)) < 0 then (
                v = some (-1) ∧ h' = hp L xs A V K T)
              else (
                if 0 < (lg_cmp ((a3 : Int32).toInt64) ((2 : Int32).toInt64)) then (
                  v = some (-1) ∧ h' = hp L xs A V K T)
                else (
                  am_fin [(z_M_laysCounts, 0, [.ref 36, .null, .null, .null], []), (z_M_by, 21, [.ref 36, .int a1, .int a2, .int a3, .null], [])] (hp L xs A V K T) v h')))))))) : am_fin [(z_M_by, 0, [.ref 36, .int a1, .int a2, .int a3, .null], [])] (hp L xs A V K T) v h' :=
  fn_iload_n rl_M_by_0 rfl (fn_iload_n rl_M_by_1 rfl (fn_stat (as := [.int a1, .int a2]) (r := []) (ls' := [.int a1, .int a2]) rl_M_by_2 rfl rfl rfl rfl pl_M_areTwo rfl rfl (fn_iload_n rl_M_areTwo_0 rfl (fn_stat (as := [.int a1]) (r := []) (ls' := [.int a1]) rl_M_areTwo_1 rfl rfl rfl rfl pl_M_isLand rfl rfl (fn_iload_n rl_M_isLand_0 rfl (fn_i2l rl_M_isLand_1 (fn_lconst rl_M_isLand_2 (fn_ldc2_w rl_M_isLand_3 (fn_stat (as := [.long ((a1 : Int32).toInt64), .long ((0 : Int32).toInt64), .long ((5 : Int32).toInt64)]) (r := []) (ls' := [.long ((a1 : Int32).toInt64), .null, .long ((0 : Int32).toInt64), .null, .long ((5 : Int32).toInt64), .null]) rl_M_isLand_6 rfl rfl rfl rfl pl_M_in rfl rfl (fn_lload_n rl_M_in_0 rfl (fn_lload_n rl_M_in_1 rfl (fn_lcmp rl_M_in_2 (fn_if_lt rl_M_in_3 (fun k1600 => fn_iconst rl_M_in_17 (fn_retci rl_M_in_18 rfl (fn_retci rl_M_isLand_9 rfl (fn_if_eq_t rl_M_areTwo_4 (by decide +kernel) (fn_iconst rl_M_areTwo_23 (fn_retci rl_M_areTwo_24 rfl (fn_if_eq_t rl_M_by_5 (by decide +kernel) (fn_iconst rl_M_by_15 (fn_reti rl_M_by_16 rfl k1600))))))))) (fun k1601 => fn_lload_n rl_M_in_6 rfl (fn_lload rl_M_in_7 rfl (fn_lcmp rl_M_in_9 (fn_if_gt rl_M_in_10 (fun k1598 => fn_iconst rl_M_in_17 (fn_retci rl_M_in_18 rfl (fn_retci rl_M_isLand_9 rfl (fn_if_eq_t rl_M_areTwo_4 (by decide +kernel) (fn_iconst rl_M_areTwo_23 (fn_retci rl_M_areTwo_24 rfl (fn_if_eq_t rl_M_by_5 (by decide +kernel) (fn_iconst rl_M_by_15 (fn_reti rl_M_by_16 rfl k1598))))))))) (fun k1599 => fn_iconst rl_M_in_13 (fn_goto rl_M_in_14 (fn_retci rl_M_in_18 rfl (fn_retci rl_M_isLand_9 rfl (fn_if_eq_f rl_M_areTwo_4 (by decide +kernel) (fn_iload_n rl_M_areTwo_7 rfl (fn_stat (as := [.int a2]) (r := []) (ls' := [.int a2]) rl_M_areTwo_8 rfl rfl rfl rfl pl_M_isLand rfl rfl (fn_iload_n rl_M_isLand_0 rfl (fn_i2l rl_M_isLand_1 (fn_lconst rl_M_isLand_2 (fn_ldc2_w rl_M_isLand_3 (fn_stat (as := [.long ((a2 : Int32).toInt64), .long ((0 : Int32).toInt64), .long ((5 : Int32).toInt64)]) (r := []) (ls' := [.long ((a2 : Int32).toInt64), .null, .long ((0 : Int32).toInt64), .null, .long ((5 : Int32).toInt64), .null]) rl_M_isLand_6 rfl rfl rfl rfl pl_M_in rfl rfl (fn_lload_n rl_M_in_0 rfl (fn_lload_n rl_M_in_1 rfl (fn_lcmp rl_M_in_2 (fn_if_lt rl_M_in_3 (fun k1596 => fn_iconst rl_M_in_17 (fn_retci rl_M_in_18 rfl (fn_retci rl_M_isLand_9 rfl (fn_if_eq_t rl_M_areTwo_11 (by decide +kernel) (fn_iconst rl_M_areTwo_23 (fn_retci rl_M_areTwo_24 rfl (fn_if_eq_t rl_M_by_5 (by decide +kernel) (fn_iconst rl_M_by_15 (fn_reti rl_M_by_16 rfl k1596))))))))) (fun k1597 => fn_lload_n rl_M_in_6 rfl (fn_lload rl_M_in_7 rfl (fn_lcmp rl_M_in_9 (fn_if_gt rl_M_in_10 (fun k1594 => fn_iconst rl_M_in_17 (fn_retci rl_M_in_18 rfl (fn_retci rl_M_isLand_9 rfl (fn_if_eq_t rl_M_areTwo_11 (by decide +kernel) (fn_iconst rl_M_areTwo_23 (fn_retci rl_M_areTwo_24 rfl (fn_if_eq_t rl_M_by_5 (by decide +kernel) (fn_iconst rl_M_by_15 (fn_reti rl_M_by_16 rfl k1594))))))))) (fun k1595 => fn_iconst rl_M_in_13 (fn_goto rl_M_in_14 (fn_retci rl_M_in_18 rfl (fn_retci rl_M_isLand_9 rfl (fn_if_eq_f rl_M_areTwo_11 (by decide +kernel) (fn_iload_n rl_M_areTwo_14 rfl (fn_iload_n rl_M_areTwo_15 rfl (fn_icmp_eq rl_M_areTwo_16 (fun k1592 => fn_iconst rl_M_areTwo_23 (fn_retci rl_M_areTwo_24 rfl (fn_if_eq_t rl_M_by_5 (by decide +kernel) (fn_iconst rl_M_by_15 (fn_reti rl_M_by_16 rfl k1592))))) (fun k1593 => fn_iconst rl_M_areTwo_19 (fn_goto rl_M_areTwo_20 (fn_retci rl_M_areTwo_24 rfl (fn_if_eq_f rl_M_by_5 (by decide +kernel) (fn_iload_n rl_M_by_8 rfl (fn_stat (as := [.int a3]) (r := []) (ls' := [.int a3]) rl_M_by_9 rfl rfl rfl rfl pl_M_isYear rfl rfl (fn_iload_n rl_M_isYear_0 rfl (fn_i2l rl_M_isYear_1 (fn_lconst rl_M_isYear_2 (fn_ldc2_w rl_M_isYear_3 (fn_stat (as := [.long ((a3 : Int32).toInt64), .long ((0 : Int32).toInt64), .long ((2 : Int32).toInt64)]) (r := []) (ls' := [.long ((a3 : Int32).toInt64), .null, .long ((0 : Int32).toInt64), .null, .long ((2 : Int32).toInt64), .null]) rl_M_isYear_6 rfl rfl rfl rfl pl_M_in rfl rfl (fn_lload_n rl_M_in_0 rfl (fn_lload_n rl_M_in_1 rfl (fn_lcmp rl_M_in_2 (fn_if_lt rl_M_in_3 (fun k1590 => fn_iconst rl_M_in_17 (fn_retci rl_M_in_18 rfl (fn_retci rl_M_isYear_9 rfl (fn_if_ne_t rl_M_by_12 (by decide +kernel) (fn_iconst rl_M_by_15 (fn_reti rl_M_by_16 rfl k1590)))))) (fun k1591 => fn_lload_n rl_M_in_6 rfl (fn_lload rl_M_in_7 rfl (fn_lcmp rl_M_in_9 (fn_if_gt rl_M_in_10 (fun k1588 => fn_iconst rl_M_in_17 (fn_retci rl_M_in_18 rfl (fn_retci rl_M_isYear_9 rfl (fn_if_ne_t rl_M_by_12 (by decide +kernel) (fn_iconst rl_M_by_15 (fn_reti rl_M_by_16 rfl k1588)))))) (fun k1589 => fn_iconst rl_M_in_13 (fn_goto rl_M_in_14 (fn_retci rl_M_in_18 rfl (fn_retci rl_M_isYear_9 rfl (fn_if_ne_f rl_M_by_12 (by decide +kernel) (fn_aload_n rl_M_by_17 rfl (fn_virt (as := [.ref 36]) (r := []) (ls' := [.ref 36, .null, .null, .null]) rl_M_by_18 rfl hp_36 rfl rfl pl_M_laysCounts rfl rfl (k1589)))))))) k1591)))) k1593))))))))))))))) k1595)))))))) k1597)))) k1599)))))))))))))))) k1601)))) k0)))))))))))))
set_option maxRecDepth 100000 in
set_option maxHeartbeats 4000000 in
theorem sg_M_by_21r {L : Nat} {xs : Nat → Int32} {A V : Nat → Nat → Int32} {K : Nat → Option Nat} {T : am_H} {v : Option Int32} {h' : am_H} {v1 v2 v3 : Int32} (k0 :
    am_fin [(z_M_letterBy, 0, [.ref 36, .int v1, .int v2, .int v3, .null, .null, .null, .null], []), (z_M_by, 28, [.ref 36, .int v1, .int v2, .int v3, .null], [])] (hp L xs A V K T) v h') : am_fin [(z_M_by, 21, [.ref 36, .int v1, .int v2, .int v3, .null], [])] (hp L xs A V K T) v h' :=
  fn_aload_n rl_M_by_21 rfl (fn_iload_n rl_M_by_22 rfl (fn_iload_n rl_M_by_23 rfl (fn_iload_n rl_M_by_24 rfl (fn_virt (as := [.ref 36, .int v1, .int v2, .int v3]) (r := []) (ls' := [.ref 36, .int v1, .int v2, .int v3, .null, .null, .null, .null]) rl_M_by_25 rfl hp_36 rfl rfl pl_M_letterBy rfl rfl (k0)))))
set_option maxRecDepth 100000 in
set_option maxHeartbeats 4000000 in
theorem sg_M_by_28r {L : Nat} {xs : Nat → Int32} {A V : Nat → Nat → Int32} {K : Nat → Option Nat} {T : am_H} {v : Option Int32} {h' : am_H} {v1 v2 v3 r : Int32} (k0 :
    if r = (-1) then (
      v = some (-2) ∧ h' = hp L xs A V K T)
    else (
      v = some r ∧ h' = hp L xs A V K T)) : am_fin [(z_M_by, 28, [.ref 36, .int v1, .int v2, .int v3, .null], [.int r])] (hp L xs A V K T) v h' :=
  fn_istore (ls' := [.ref 36, .int v1, .int v2, .int v3, .int r]) rl_M_by_28 rfl rfl (fn_iload rl_M_by_30 rfl (fn_iconst rl_M_by_32 (fn_icmp_ne rl_M_by_33 (fun k1602 => fn_bipush rl_M_by_36 (fn_goto rl_M_by_38 (fn_reti rl_M_by_43 rfl k1602))) (fun k1603 => fn_iload rl_M_by_41 rfl (fn_reti rl_M_by_43 rfl k1603)) k0)))
set_option maxRecDepth 100000 in
set_option maxHeartbeats 4000000 in
theorem sg_M_lives_0 {L : Nat} {xs : Nat → Int32} {A V : Nat → Nat → Int32} {K : Nat → Option Nat} {T : am_H} {v : Option Int32} {h' : am_H} {a1 : Int32} (k0 :
    if (lg_cmp ((a1 : Int32).toInt64) ((0 : Int32).toInt64)) < 0 then (
      v = some (-1) ∧ h' = hp L xs A V K T)
    else (
      if 0 < (lg_cmp ((a1 : Int32).toInt64) ((2 : Int32).toInt64)) then (
        v = some (-1) ∧ h' = hp L xs A V K T)
      else (
        am_fin [(z_M_laysCounts, 0, [.ref 36, .null, .null, .null], []), (z_M_lives, 13, [.ref 36, .int a1], [])] (hp L xs A V K T) v h'))) : am_fin [(z_M_lives, 0, [.ref 36, .int a1], [])] (hp L xs A V K T) v h' :=
  fn_iload_n rl_M_lives_0 rfl (fn_stat (as := [.int a1]) (r := []) (ls' := [.int a1]) rl_M_lives_1 rfl rfl rfl rfl pl_M_isYear rfl rfl (fn_iload_n rl_M_isYear_0 rfl (fn_i2l rl_M_isYear_1 (fn_lconst rl_M_isYear_2 (fn_ldc2_w rl_M_isYear_3 (fn_stat (as := [.long ((a1 : Int32).toInt64), .long ((0 : Int32).toInt64), .long ((2 : Int32).toInt64)]) (r := []) (ls' := [.long ((a1 : Int32).toInt64), .null, .long ((0 : Int32).toInt64), .null, .long ((2 : Int32).toInt64), .null]) rl_M_isYear_6 rfl rfl rfl rfl pl_M_in rfl rfl (fn_lload_n rl_M_in_0 rfl (fn_lload_n rl_M_in_1 rfl (fn_lcmp rl_M_in_2 (fn_if_lt rl_M_in_3 (fun k1606 => fn_iconst rl_M_in_17 (fn_retci rl_M_in_18 rfl (fn_retci rl_M_isYear_9 rfl (fn_if_ne_t rl_M_lives_4 (by decide +kernel) (fn_iconst rl_M_lives_7 (fn_reti rl_M_lives_8 rfl k1606)))))) (fun k1607 => fn_lload_n rl_M_in_6 rfl (fn_lload rl_M_in_7 rfl (fn_lcmp rl_M_in_9 (fn_if_gt rl_M_in_10 (fun k1604 => fn_iconst rl_M_in_17 (fn_retci rl_M_in_18 rfl (fn_retci rl_M_isYear_9 rfl (fn_if_ne_t rl_M_lives_4 (by decide +kernel) (fn_iconst rl_M_lives_7 (fn_reti rl_M_lives_8 rfl k1604)))))) (fun k1605 => fn_iconst rl_M_in_13 (fn_goto rl_M_in_14 (fn_retci rl_M_in_18 rfl (fn_retci rl_M_isYear_9 rfl (fn_if_ne_f rl_M_lives_4 (by decide +kernel) (fn_aload_n rl_M_lives_9 rfl (fn_virt (as := [.ref 36]) (r := []) (ls' := [.ref 36, .null, .null, .null]) rl_M_lives_10 rfl hp_36 rfl rfl pl_M_laysCounts rfl rfl (k1605)))))))) k1607)))) k0))))))))))
set_option maxRecDepth 100000 in
set_option maxHeartbeats 4000000 in
theorem sg_M_lives_13r {L : Nat} {xs : Nat → Int32} {A V : Nat → Nat → Int32} {K : Nat → Option Nat} {T : am_H} {v : Option Int32} {h' : am_H} {v1 : Int32} (k0 :
    am_fin [(z_M_livesNow, 0, [.ref 36, .int v1, .null, .null, .null, .null], []), (z_M_lives, 18, [.ref 36, .int v1], [])] (hp L xs A V K T) v h') : am_fin [(z_M_lives, 13, [.ref 36, .int v1], [])] (hp L xs A V K T) v h' :=
  fn_aload_n rl_M_lives_13 rfl (fn_iload_n rl_M_lives_14 rfl (fn_virt (as := [.ref 36, .int v1]) (r := []) (ls' := [.ref 36, .int v1, .null, .null, .null, .null]) rl_M_lives_15 rfl hp_36 rfl rfl pl_M_livesNow rfl rfl (k0)))
set_option maxRecDepth 100000 in
set_option maxHeartbeats 4000000 in
theorem sg_M_lives_18r {L : Nat} {xs : Nat → Int32} {A V : Nat → Nat → Int32} {K : Nat → Option Nat} {T : am_H} {v : Option Int32} {h' : am_H} {v1 r : Int32} (k0 :
    v = some r ∧ h' = hp L xs A V K T) : am_fin [(z_M_lives, 18, [.ref 36, .int v1], [.int r])] (hp L xs A V K T) v h' :=
  fn_reti rl_M_lives_18 rfl k0
set_option maxRecDepth 100000 in
set_option maxHeartbeats 4000000 in
theorem sg_M_pairs_0 {L : Nat} {xs : Nat → Int32} {A V : Nat → Nat → Int32} {K : Nat → Option Nat} {T : am_H} {v : Option Int32} {h' : am_H} {a1 a2 : Int32} (k0 :
    if (lg_cmp ((a1 : Int32).toInt64) ((0 : Int32).toInt64)) < 0 then (
      v = some (-1) ∧ h' = hp L xs A V K T)
    else (
      if 0 < (lg_cmp ((a1 : Int32).toInt64) ((2 : Int32).toInt64)) then (
        v = some (-1) ∧ h' = hp L xs A V K T)
      else (
        if (lg_cmp ((a2 : Int32).toInt64) ((0 : Int32).toInt64)) < 0 then (
          v = some (-1) ∧ h' = hp L xs A V K T)
        else (
          if 0 < (lg_cmp ((a2 : Int32).toInt64) ((2 : Int32).toInt64)) then (
            v = some (-1) ∧ h' = hp L xs A V K T)
          else (
            am_fin [(z_M_laysCounts, 0, [.ref 36, .null, .null, .null], []), (z_M_pairs, 25, [.ref 36, .int a1, .int a2, .null, .null, .null, .null, .null, .null], [])] (hp L xs A V K T) v h'))))) : am_fin [(z_M_pairs, 0, [.ref 36, .int a1, .int a2, .null, .null, .null, .null, .null, .null], [])] (hp L xs A V K T) v h' :=
  fn_iload_n rl_M_pairs_0 rfl (fn_stat (as := [.int a1]) (r := []) (ls' := [.int a1]) rl_M_pairs_1 rfl rfl rfl rfl pl_M_isYear rfl rfl (fn_iload_n rl_M_isYear_0 rfl (fn_i2l rl_M_isYear_1 (fn_lconst rl_M_isYear_2 (fn_ldc2_w rl_M_isYear_3 (fn_stat (as := [.long ((a1 : Int32).toInt64), .long ((0 : Int32).toInt64), .long ((2 : Int32).toInt64)]) (r := []) (ls' := [.long ((a1 : Int32).toInt64), .null, .long ((0 : Int32).toInt64), .null, .long ((2 : Int32).toInt64), .null]) rl_M_isYear_6 rfl rfl rfl rfl pl_M_in rfl rfl (fn_lload_n rl_M_in_0 rfl (fn_lload_n rl_M_in_1 rfl (fn_lcmp rl_M_in_2 (fn_if_lt rl_M_in_3 (fun k1614 => fn_iconst rl_M_in_17 (fn_retci rl_M_in_18 rfl (fn_retci rl_M_isYear_9 rfl (fn_if_eq_t rl_M_pairs_4 (by decide +kernel) (fn_iconst rl_M_pairs_19 (fn_reti rl_M_pairs_20 rfl k1614)))))) (fun k1615 => fn_lload_n rl_M_in_6 rfl (fn_lload rl_M_in_7 rfl (fn_lcmp rl_M_in_9 (fn_if_gt rl_M_in_10 (fun k1612 => fn_iconst rl_M_in_17 (fn_retci rl_M_in_18 rfl (fn_retci rl_M_isYear_9 rfl (fn_if_eq_t rl_M_pairs_4 (by decide +kernel) (fn_iconst rl_M_pairs_19 (fn_reti rl_M_pairs_20 rfl k1612)))))) (fun k1613 => fn_iconst rl_M_in_13 (fn_goto rl_M_in_14 (fn_retci rl_M_in_18 rfl (fn_retci rl_M_isYear_9 rfl (fn_if_eq_f rl_M_pairs_4 (by decide +kernel) (fn_iload_n rl_M_pairs_7 rfl (fn_i2l rl_M_pairs_8 (fn_lconst rl_M_pairs_9 (fn_ldc2_w rl_M_pairs_10 (fn_stat (as := [.long ((a2 : Int32).toInt64), .long ((0 : Int32).toInt64), .long ((2 : Int32).toInt64)]) (r := []) (ls' := [.long ((a2 : Int32).toInt64), .null, .long ((0 : Int32).toInt64), .null, .long ((2 : Int32).toInt64), .null]) rl_M_pairs_13 rfl rfl rfl rfl pl_M_in rfl rfl (fn_lload_n rl_M_in_0 rfl (fn_lload_n rl_M_in_1 rfl (fn_lcmp rl_M_in_2 (fn_if_lt rl_M_in_3 (fun k1610 => fn_iconst rl_M_in_17 (fn_retci rl_M_in_18 rfl (fn_if_ne_t rl_M_pairs_16 (by decide +kernel) (fn_iconst rl_M_pairs_19 (fn_reti rl_M_pairs_20 rfl k1610))))) (fun k1611 => fn_lload_n rl_M_in_6 rfl (fn_lload rl_M_in_7 rfl (fn_lcmp rl_M_in_9 (fn_if_gt rl_M_in_10 (fun k1608 => fn_iconst rl_M_in_17 (fn_retci rl_M_in_18 rfl (fn_if_ne_t rl_M_pairs_16 (by decide +kernel) (fn_iconst rl_M_pairs_19 (fn_reti rl_M_pairs_20 rfl k1608))))) (fun k1609 => fn_iconst rl_M_in_13 (fn_goto rl_M_in_14 (fn_retci rl_M_in_18 rfl (fn_if_ne_f rl_M_pairs_16 (by decide +kernel) (fn_aload_n rl_M_pairs_21 rfl (fn_virt (as := [.ref 36]) (r := []) (ls' := [.ref 36, .null, .null, .null]) rl_M_pairs_22 rfl hp_36 rfl rfl pl_M_laysCounts rfl rfl (k1609))))))) k1611)))) k1613)))))))))))))) k1615)))) k0))))))))))
set_option maxRecDepth 100000 in
set_option maxHeartbeats 4000000 in
theorem sg_M_pairs_25r {L : Nat} {xs : Nat → Int32} {A V : Nat → Nat → Int32} {K : Nat → Option Nat} {T : am_H} {v : Option Int32} {h' : am_H} {v1 v2 : Int32} (k0 :
    am_fin [(z_M_claiming, 0, [.ref 36, .int v1, .null, .null], []), (z_M_pairs, 30, [.ref 36, .int v1, .int v2, .null, .null, .null, .null, .null, .null], [])] (hp L xs A V K T) v h') : am_fin [(z_M_pairs, 25, [.ref 36, .int v1, .int v2, .null, .null, .null, .null, .null, .null], [])] (hp L xs A V K T) v h' :=
  fn_aload_n rl_M_pairs_25 rfl (fn_iload_n rl_M_pairs_26 rfl (fn_virt (as := [.ref 36, .int v1]) (r := []) (ls' := [.ref 36, .int v1, .null, .null]) rl_M_pairs_27 rfl hp_36 rfl rfl pl_M_claiming rfl rfl (k0)))
set_option maxRecDepth 100000 in
set_option maxHeartbeats 4000000 in
theorem sg_M_pairs_30r {L : Nat} {xs : Nat → Int32} {A V : Nat → Nat → Int32} {K : Nat → Option Nat} {T : am_H} {v : Option Int32} {h' : am_H} {v1 v2 r : Int32} (k0 :
    am_fin [(z_M_pairs, 37, [.ref 36, .int v1, .int v2, .int r, .int 0, .int 0, .null, .null, .null], [])] (hp L xs A V K T) v h') : am_fin [(z_M_pairs, 30, [.ref 36, .int v1, .int v2, .null, .null, .null, .null, .null, .null], [.int r])] (hp L xs A V K T) v h' :=
  fn_istore_n (ls' := [.ref 36, .int v1, .int v2, .int r, .null, .null, .null, .null, .null]) rl_M_pairs_30 rfl rfl (fn_iconst rl_M_pairs_31 (fn_istore (ls' := [.ref 36, .int v1, .int v2, .int r, .int 0, .null, .null, .null, .null]) rl_M_pairs_32 rfl rfl (fn_iconst rl_M_pairs_34 (fn_istore (ls' := [.ref 36, .int v1, .int v2, .int r, .int 0, .int 0, .null, .null, .null]) rl_M_pairs_35 rfl rfl (k0)))))
set_option maxRecDepth 100000 in
set_option maxHeartbeats 4000000 in
theorem sg_M_pairs_37 {L : Nat} {xs : Nat → Int32} {A V : Nat → Nat → Int32} {K : Nat → Option Nat} {T : am_H} {v : Option Int32} {h' : am_H} {v1 v2 v3 v4 v5 : Int32} (k0 :
    if 6 ≤ v5 then (
      v = some v4 ∧ h' = hp L xs A V K T)
    else (
      am_fin [(z_M_pairs, 50, [.ref 36, .int v1, .int v2, .int v3, .int v4, .int v5, .int (v5 + 1), .null, .null], [])] (hp L xs A V K T) v h')) : am_fin [(z_M_pairs, 37, [.ref 36, .int v1, .int v2, .int v3, .int v4, .int v5, .null, .null, .null], [])] (hp L xs A V K T) v h' :=
  fn_iload rl_M_pairs_37 rfl (fn_bipush rl_M_pairs_39 (fn_icmp_ge rl_M_pairs_41 (fun k1616 => fn_iload rl_M_pairs_155 rfl (fn_reti rl_M_pairs_157 rfl k1616)) (fun k1617 => fn_iload rl_M_pairs_44 rfl (fn_iconst rl_M_pairs_46 (fn_iadd rl_M_pairs_47 (fn_istore (ls' := [.ref 36, .int v1, .int v2, .int v3, .int v4, .int v5, .int (v5 + 1), .null, .null]) rl_M_pairs_48 rfl rfl (k1617))))) k0))
set_option maxRecDepth 100000 in
set_option maxHeartbeats 4000000 in
theorem sg_M_pairs_50 {L : Nat} {xs : Nat → Int32} {A V : Nat → Nat → Int32} {K : Nat → Option Nat} {T : am_H} {v : Option Int32} {h' : am_H} {v1 v2 v3 v4 v5 v6 : Int32} (k0 :
    if 6 ≤ v6 then (
      am_fin [(z_M_pairs, 37, [.ref 36, .int v1, .int v2, .int v3, .int v4, .int (v5 + 1), .int v6, .null, .null], [])] (hp L xs A V K T) v h')
    else (
      if (((v3 : Int32) >>> (v5 &&& 31 : Int32)) &&& 1) = 0 then (
        am_fin [(z_M_pairs, 50, [.ref 36, .int v1, .int v2, .int v3, .int v4, .int v5, .int (v6 + 1), .null, .null], [])] (hp L xs A V K T) v h')
      else (
        if (((v3 : Int32) >>> (v6 &&& 31 : Int32)) &&& 1) = 0 then (
          am_fin [(z_M_pairs, 50, [.ref 36, .int v1, .int v2, .int v3, .int v4, .int v5, .int (v6 + 1), .null, .null], [])] (hp L xs A V K T) v h')
        else (
          am_fin [(z_M_answer, 0, [.ref 36, .int v5, .int v6, .int v1, .null, .null], []), (z_M_pairs, 87, [.ref 36, .int v1, .int v2, .int v3, .int v4, .int v5, .int v6, .null, .null], [])] (hp L xs A V K T) v h')))) : am_fin [(z_M_pairs, 50, [.ref 36, .int v1, .int v2, .int v3, .int v4, .int v5, .int v6, .null, .null], [])] (hp L xs A V K T) v h' :=
  fn_iload rl_M_pairs_50 rfl (fn_bipush rl_M_pairs_52 (fn_icmp_ge rl_M_pairs_54 (fun k1622 => fn_iinc (ls' := [.ref 36, .int v1, .int v2, .int v3, .int v4, .int (v5 + 1), .int v6, .null, .null]) rl_M_pairs_149 rfl rfl rfl (fn_goto rl_M_pairs_152 (k1622))) (fun k1623 => fn_iload_n rl_M_pairs_57 rfl (fn_iload rl_M_pairs_58 rfl (fn_ishr rl_M_pairs_60 (fn_iconst rl_M_pairs_61 (fn_iand rl_M_pairs_62 (fn_if_eq rl_M_pairs_63 (fun k1620 => fn_iinc (ls' := [.ref 36, .int v1, .int v2, .int v3, .int v4, .int v5, .int (v6 + 1), .null, .null]) rl_M_pairs_143 rfl rfl rfl (fn_goto rl_M_pairs_146 (k1620))) (fun k1621 => fn_iload_n rl_M_pairs_66 rfl (fn_iload rl_M_pairs_67 rfl (fn_ishr rl_M_pairs_69 (fn_iconst rl_M_pairs_70 (fn_iand rl_M_pairs_71 (fn_if_ne rl_M_pairs_72 (fun k1618 => fn_goto rl_M_pairs_75 (fn_iinc (ls' := [.ref 36, .int v1, .int v2, .int v3, .int v4, .int v5, .int (v6 + 1), .null, .null]) rl_M_pairs_143 rfl rfl rfl (fn_goto rl_M_pairs_146 (k1618)))) (fun k1619 => fn_aload_n rl_M_pairs_78 rfl (fn_iload rl_M_pairs_79 rfl (fn_iload rl_M_pairs_81 rfl (fn_iload_n rl_M_pairs_83 rfl (fn_virt (as := [.ref 36, .int v5, .int v6, .int v1]) (r := []) (ls' := [.ref 36, .int v5, .int v6, .int v1, .null, .null]) rl_M_pairs_84 rfl hp_36 rfl rfl pl_M_answer rfl rfl (k1619)))))) k1621)))))) k1623)))))) k0))
set_option maxRecDepth 100000 in
set_option maxHeartbeats 4000000 in
theorem sg_M_pairs_87r {L : Nat} {xs : Nat → Int32} {A V : Nat → Nat → Int32} {K : Nat → Option Nat} {T : am_H} {v : Option Int32} {h' : am_H} {v1 v2 v3 v4 v5 v6 r : Int32} (k0 :
    am_fin [(z_M_answer, 0, [.ref 36, .int v6, .int v5, .int v1, .null, .null], []), (z_M_pairs, 98, [.ref 36, .int v1, .int v2, .int v3, .int v4, .int v5, .int v6, .int r, .null], [])] (hp L xs A V K T) v h') : am_fin [(z_M_pairs, 87, [.ref 36, .int v1, .int v2, .int v3, .int v4, .int v5, .int v6, .null, .null], [.int r])] (hp L xs A V K T) v h' :=
  fn_istore (ls' := [.ref 36, .int v1, .int v2, .int v3, .int v4, .int v5, .int v6, .int r, .null]) rl_M_pairs_87 rfl rfl (fn_aload_n rl_M_pairs_89 rfl (fn_iload rl_M_pairs_90 rfl (fn_iload rl_M_pairs_92 rfl (fn_iload_n rl_M_pairs_94 rfl (fn_virt (as := [.ref 36, .int v6, .int v5, .int v1]) (r := []) (ls' := [.ref 36, .int v6, .int v5, .int v1, .null, .null]) rl_M_pairs_95 rfl hp_36 rfl rfl pl_M_answer rfl rfl (k0))))))
set_option maxRecDepth 100000 in
set_option maxHeartbeats 4000000 in
theorem sg_M_pairs_98r {L : Nat} {xs : Nat → Int32} {A V : Nat → Nat → Int32} {K : Nat → Option Nat} {T : am_H} {v : Option Int32} {h' : am_H} {v1 v2 v3 v4 v5 v6 v7 r : Int32} (k0 :
    if v2 = 0 then (
      am_fin [(z_M_pairs, 50, [.ref 36, .int v1, .int v2, .int v3, .int (v4 + 1), .int v5, .int (v6 + 1), .int v7, .int r], [])] (hp L xs A V K T) v h')
    else (
      if v2 = 1 then (
        if v7 = r then (
          am_fin [(z_M_pairs, 50, [.ref 36, .int v1, .int v2, .int v3, .int (v4 + 0), .int v5, .int (v6 + 1), .int v7, .int r], [])] (hp L xs A V K T) v h')
        else (
          am_fin [(z_M_pairs, 50, [.ref 36, .int v1, .int v2, .int v3, .int (v4 + 1), .int v5, .int (v6 + 1), .int v7, .int r], [])] (hp L xs A V K T) v h'))
      else (
        if v7 = (-2) then (
          if r = (-2) then (
            am_fin [(z_M_pairs, 50, [.ref 36, .int v1, .int v2, .int v3, .int (v4 + 1), .int v5, .int (v6 + 1), .int v7, .int r], [])] (hp L xs A V K T) v h')
          else (
            am_fin [(z_M_pairs, 50, [.ref 36, .int v1, .int v2, .int v3, .int (v4 + 0), .int v5, .int (v6 + 1), .int v7, .int r], [])] (hp L xs A V K T) v h'))
        else (
          am_fin [(z_M_pairs, 50, [.ref 36, .int v1, .int v2, .int v3, .int (v4 + 0), .int v5, .int (v6 + 1), .int v7, .int r], [])] (hp L xs A V K T) v h')))) : am_fin [(z_M_pairs, 98, [.ref 36, .int v1, .int v2, .int v3, .int v4, .int v5, .int v6, .int v7, .null], [.int r])] (hp L xs A V K T) v h' :=
  fn_istore (ls' := [.ref 36, .int v1, .int v2, .int v3, .int v4, .int v5, .int v6, .int v7, .int r]) rl_M_pairs_98 rfl rfl (fn_iload rl_M_pairs_100 rfl (fn_iload_n rl_M_pairs_102 rfl (fn_if_eq rl_M_pairs_103 (fun k1632 => fn_iconst rl_M_pairs_135 (fn_goto rl_M_pairs_136 (fn_iadd rl_M_pairs_140 (fn_istore (ls' := [.ref 36, .int v1, .int v2, .int v3, .int (v4 + 1), .int v5, .int v6, .int v7, .int r]) rl_M_pairs_141 rfl rfl (fn_iinc (ls' := [.ref 36, .int v1, .int v2, .int v3, .int (v4 + 1), .int v5, .int (v6 + 1), .int v7, .int r]) rl_M_pairs_143 rfl rfl rfl (fn_goto rl_M_pairs_146 (k1632))))))) (fun k1633 => fn_iload_n rl_M_pairs_106 rfl (fn_iconst rl_M_pairs_107 (fn_icmp_ne rl_M_pairs_108 (fun k1630 => fn_iload rl_M_pairs_111 rfl (fn_iload rl_M_pairs_113 rfl (fn_icmp_eq rl_M_pairs_115 (fun k1624 => fn_iconst rl_M_pairs_139 (fn_iadd rl_M_pairs_140 (fn_istore (ls' := [.ref 36, .int v1, .int v2, .int v3, .int (v4 + 0), .int v5, .int v6, .int v7, .int r]) rl_M_pairs_141 rfl rfl (fn_iinc (ls' := [.ref 36, .int v1, .int v2, .int v3, .int (v4 + 0), .int v5, .int (v6 + 1), .int v7, .int r]) rl_M_pairs_143 rfl rfl rfl (fn_goto rl_M_pairs_146 (k1624)))))) (fun k1625 => fn_goto rl_M_pairs_118 (fn_iconst rl_M_pairs_135 (fn_goto rl_M_pairs_136 (fn_iadd rl_M_pairs_140 (fn_istore (ls' := [.ref 36, .int v1, .int v2, .int v3, .int (v4 + 1), .int v5, .int v6, .int v7, .int r]) rl_M_pairs_141 rfl rfl (fn_iinc (ls' := [.ref 36, .int v1, .int v2, .int v3, .int (v4 + 1), .int v5, .int (v6 + 1), .int v7, .int r]) rl_M_pairs_143 rfl rfl rfl (fn_goto rl_M_pairs_146 (k1625)))))))) k1630))) (fun k1631 => fn_iload rl_M_pairs_121 rfl (fn_bipush rl_M_pairs_123 (fn_icmp_ne rl_M_pairs_125 (fun k1628 => fn_iload rl_M_pairs_128 rfl (fn_bipush rl_M_pairs_130 (fn_icmp_ne rl_M_pairs_132 (fun k1626 => fn_iconst rl_M_pairs_135 (fn_goto rl_M_pairs_136 (fn_iadd rl_M_pairs_140 (fn_istore (ls' := [.ref 36, .int v1, .int v2, .int v3, .int (v4 + 1), .int v5, .int v6, .int v7, .int r]) rl_M_pairs_141 rfl rfl (fn_iinc (ls' := [.ref 36, .int v1, .int v2, .int v3, .int (v4 + 1), .int v5, .int (v6 + 1), .int v7, .int r]) rl_M_pairs_143 rfl rfl rfl (fn_goto rl_M_pairs_146 (k1626))))))) (fun k1627 => fn_iconst rl_M_pairs_139 (fn_iadd rl_M_pairs_140 (fn_istore (ls' := [.ref 36, .int v1, .int v2, .int v3, .int (v4 + 0), .int v5, .int v6, .int v7, .int r]) rl_M_pairs_141 rfl rfl (fn_iinc (ls' := [.ref 36, .int v1, .int v2, .int v3, .int (v4 + 0), .int v5, .int (v6 + 1), .int v7, .int r]) rl_M_pairs_143 rfl rfl rfl (fn_goto rl_M_pairs_146 (k1627)))))) k1628))) (fun k1629 => fn_iconst rl_M_pairs_139 (fn_iadd rl_M_pairs_140 (fn_istore (ls' := [.ref 36, .int v1, .int v2, .int v3, .int (v4 + 0), .int v5, .int v6, .int v7, .int r]) rl_M_pairs_141 rfl rfl (fn_iinc (ls' := [.ref 36, .int v1, .int v2, .int v3, .int (v4 + 0), .int v5, .int (v6 + 1), .int v7, .int r]) rl_M_pairs_143 rfl rfl rfl (fn_goto rl_M_pairs_146 (k1629)))))) k1631))) k1633))) k0)))
set_option maxRecDepth 100000 in
set_option maxHeartbeats 4000000 in
theorem sg_M_split_0 {L : Nat} {xs : Nat → Int32} {A V : Nat → Nat → Int32} {K : Nat → Option Nat} {T : am_H} {v : Option Int32} {h' : am_H} {a1 a2 a3 : Int32} (k0 :
    if (lg_cmp ((a1 : Int32).toInt64) ((0 : Int32).toInt64)) < 0 then (
      v = some (-1) ∧ h' = hp L xs A V K T)
    else (
      if 0 < (lg_cmp ((a1 : Int32).toInt64) ((5 : Int32).toInt64)) then (
        v = some (-1) ∧ h' = hp L xs A V K T)
      else (
        if (lg_cmp ((a2 : Int32).toInt64) ((0 : Int32).toInt64)) < 0 then (
          v = some (-1) ∧ h' = hp L xs A V K T)
        else (
          if 0 < (lg_cmp ((a2 : Int32).toInt64) ((2 : Int32).toInt64)) then (
            v = some (-1) ∧ h' = hp L xs A V K T)
          else (
            if (lg_cmp ((a3 : Int32).toInt64) ((0 : Int32).toInt64)) < 0 then (
              v = some (-1) ∧ h' = hp L xs A V K T)
            else (
              if 0 < (lg_cmp ((a3 : Int32).toInt64) ((2 : Int32).toInt64)) then (
                v = some (-1) ∧ h' = hp L xs A V K T)
              else (
                am_fin [(z_M_laysCounts, 0, [.ref 36, .null, .null, .null], []), (z_M_split, 32, [.ref 36, .int a1, .int a2, .int a3], [])] (hp L xs A V K T) v h'))))))) : am_fin [(z_M_split, 0, [.ref 36, .int a1, .int a2, .int a3], [])] (hp L xs A V K T) v h' :=
  fn_iload_n rl_M_split_0 rfl (fn_stat (as := [.int a1]) (r := []) (ls' := [.int a1]) rl_M_split_1 rfl rfl rfl rfl pl_M_isLand rfl rfl (fn_iload_n rl_M_isLand_0 rfl (fn_i2l rl_M_isLand_1 (fn_lconst rl_M_isLand_2 (fn_ldc2_w rl_M_isLand_3 (fn_stat (as := [.long ((a1 : Int32).toInt64), .long ((0 : Int32).toInt64), .long ((5 : Int32).toInt64)]) (r := []) (ls' := [.long ((a1 : Int32).toInt64), .null, .long ((0 : Int32).toInt64), .null, .long ((5 : Int32).toInt64), .null]) rl_M_isLand_6 rfl rfl rfl rfl pl_M_in rfl rfl (fn_lload_n rl_M_in_0 rfl (fn_lload_n rl_M_in_1 rfl (fn_lcmp rl_M_in_2 (fn_if_lt rl_M_in_3 (fun k1644 => fn_iconst rl_M_in_17 (fn_retci rl_M_in_18 rfl (fn_retci rl_M_isLand_9 rfl (fn_if_eq_t rl_M_split_4 (by decide +kernel) (fn_iconst rl_M_split_26 (fn_reti rl_M_split_27 rfl k1644)))))) (fun k1645 => fn_lload_n rl_M_in_6 rfl (fn_lload rl_M_in_7 rfl (fn_lcmp rl_M_in_9 (fn_if_gt rl_M_in_10 (fun k1642 => fn_iconst rl_M_in_17 (fn_retci rl_M_in_18 rfl (fn_retci rl_M_isLand_9 rfl (fn_if_eq_t rl_M_split_4 (by decide +kernel) (fn_iconst rl_M_split_26 (fn_reti rl_M_split_27 rfl k1642)))))) (fun k1643 => fn_iconst rl_M_in_13 (fn_goto rl_M_in_14 (fn_retci rl_M_in_18 rfl (fn_retci rl_M_isLand_9 rfl (fn_if_eq_f rl_M_split_4 (by decide +kernel) (fn_iload_n rl_M_split_7 rfl (fn_stat (as := [.int a2]) (r := []) (ls' := [.int a2]) rl_M_split_8 rfl rfl rfl rfl pl_M_isYear rfl rfl (fn_iload_n rl_M_isYear_0 rfl (fn_i2l rl_M_isYear_1 (fn_lconst rl_M_isYear_2 (fn_ldc2_w rl_M_isYear_3 (fn_stat (as := [.long ((a2 : Int32).toInt64), .long ((0 : Int32).toInt64), .long ((2 : Int32).toInt64)]) (r := []) (ls' := [.long ((a2 : Int32).toInt64), .null, .long ((0 : Int32).toInt64), .null, .long ((2 : Int32).toInt64), .null]) rl_M_isYear_6 rfl rfl rfl rfl pl_M_in rfl rfl (fn_lload_n rl_M_in_0 rfl (fn_lload_n rl_M_in_1 rfl (fn_lcmp rl_M_in_2 (fn_if_lt rl_M_in_3 (fun k1640 => fn_iconst rl_M_in_17 (fn_retci rl_M_in_18 rfl (fn_retci rl_M_isYear_9 rfl (fn_if_eq_t rl_M_split_11 (by decide +kernel) (fn_iconst rl_M_split_26 (fn_reti rl_M_split_27 rfl k1640)))))) (fun k1641 => fn_lload_n rl_M_in_6 rfl (fn_lload rl_M_in_7 rfl (fn_lcmp rl_M_in_9 (fn_if_gt rl_M_in_10 (fun k1638 => fn_iconst rl_M_in_17 (fn_retci rl_M_in_18 rfl (fn_retci rl_M_isYear_9 rfl (fn_if_eq_t rl_M_split_11 (by decide +kernel) (fn_iconst rl_M_split_26 (fn_reti rl_M_split_27 rfl k1638)))))) (fun k1639 => fn_iconst rl_M_in_13 (fn_goto rl_M_in_14 (fn_retci rl_M_in_18 rfl (fn_retci rl_M_isYear_9 rfl (fn_if_eq_f rl_M_split_11 (by decide +kernel) (fn_iload_n rl_M_split_14 rfl (fn_i2l rl_M_split_15 (fn_lconst rl_M_split_16 (fn_ldc2_w rl_M_split_17 (fn_stat (as := [.long ((a3 : Int32).toInt64), .long ((0 : Int32).toInt64), .long ((2 : Int32).toInt64)]) (r := []) (ls' := [.long ((a3 : Int32).toInt64), .null, .long ((0 : Int32).toInt64), .null, .long ((2 : Int32).toInt64), .null]) rl_M_split_20 rfl rfl rfl rfl pl_M_in rfl rfl (fn_lload_n rl_M_in_0 rfl (fn_lload_n rl_M_in_1 rfl (fn_lcmp rl_M_in_2 (fn_if_lt rl_M_in_3 (fun k1636 => fn_iconst rl_M_in_17 (fn_retci rl_M_in_18 rfl (fn_if_ne_t rl_M_split_23 (by decide +kernel) (fn_iconst rl_M_split_26 (fn_reti rl_M_split_27 rfl k1636))))) (fun k1637 => fn_lload_n rl_M_in_6 rfl (fn_lload rl_M_in_7 rfl (fn_lcmp rl_M_in_9 (fn_if_gt rl_M_in_10 (fun k1634 => fn_iconst rl_M_in_17 (fn_retci rl_M_in_18 rfl (fn_if_ne_t rl_M_split_23 (by decide +kernel) (fn_iconst rl_M_split_26 (fn_reti rl_M_split_27 rfl k1634))))) (fun k1635 => fn_iconst rl_M_in_13 (fn_goto rl_M_in_14 (fn_retci rl_M_in_18 rfl (fn_if_ne_f rl_M_split_23 (by decide +kernel) (fn_aload_n rl_M_split_28 rfl (fn_virt (as := [.ref 36]) (r := []) (ls' := [.ref 36, .null, .null, .null]) rl_M_split_29 rfl hp_36 rfl rfl pl_M_laysCounts rfl rfl (k1635))))))) k1637)))) k1639)))))))))))))) k1641)))) k1643)))))))))))))))) k1645)))) k0))))))))))
set_option maxRecDepth 100000 in
set_option maxHeartbeats 4000000 in
theorem sg_M_split_32r {L : Nat} {xs : Nat → Int32} {A V : Nat → Nat → Int32} {K : Nat → Option Nat} {T : am_H} {v : Option Int32} {h' : am_H} {v1 v2 v3 : Int32} (k0 :
    am_fin [(z_M_isClaimed, 0, [.ref 36, .int v1, .int v2], []), (z_M_split, 38, [.ref 36, .int v1, .int v2, .int v3], [])] (hp L xs A V K T) v h') : am_fin [(z_M_split, 32, [.ref 36, .int v1, .int v2, .int v3], [])] (hp L xs A V K T) v h' :=
  fn_aload_n rl_M_split_32 rfl (fn_iload_n rl_M_split_33 rfl (fn_iload_n rl_M_split_34 rfl (fn_virt (as := [.ref 36, .int v1, .int v2]) (r := []) (ls' := [.ref 36, .int v1, .int v2]) rl_M_split_35 rfl hp_36 rfl rfl pl_M_isClaimed rfl rfl (k0))))
set_option maxRecDepth 100000 in
set_option maxHeartbeats 4000000 in
theorem sg_M_split_38r {L : Nat} {xs : Nat → Int32} {A V : Nat → Nat → Int32} {K : Nat → Option Nat} {T : am_H} {v : Option Int32} {h' : am_H} {v1 v2 v3 r : Int32} (k0 :
    if r = 0 then (
      v = some (-2) ∧ h' = hp L xs A V K T)
    else (
      if v3 = 0 then (
        am_fin [(z_M_fromOf, 0, [.ref 36, .int v1, .int v2, .null], []), (z_M_split, 54, [.ref 36, .int v1, .int v2, .int v3], [])] (hp L xs A V K T) v h')
      else (
        if v3 = 1 then (
          am_fin [(z_M_tillOf, 0, [.ref 36, .int v1, .int v2, .null], []), (z_M_split, 68, [.ref 36, .int v1, .int v2, .int v3], [])] (hp L xs A V K T) v h')
        else (
          am_fin [(z_M_fromOf, 0, [.ref 36, .int v1, .int v2, .null], []), (z_M_split, 79, [.ref 36, .int v1, .int v2, .int v3], [.int v1, .ref 36])] (hp L xs A V K T) v h')))) : am_fin [(z_M_split, 38, [.ref 36, .int v1, .int v2, .int v3], [.int r])] (hp L xs A V K T) v h' :=
  fn_if_ne rl_M_split_38 (fun k1650 => fn_bipush rl_M_split_41 (fn_reti rl_M_split_43 rfl k1650)) (fun k1651 => fn_iload_n rl_M_split_44 rfl (fn_if_ne rl_M_split_45 (fun k1648 => fn_aload_n rl_M_split_48 rfl (fn_iload_n rl_M_split_49 rfl (fn_iload_n rl_M_split_50 rfl (fn_virt (as := [.ref 36, .int v1, .int v2]) (r := []) (ls' := [.ref 36, .int v1, .int v2, .null]) rl_M_split_51 rfl hp_36 rfl rfl pl_M_fromOf rfl rfl (k1648))))) (fun k1649 => fn_iload_n rl_M_split_57 rfl (fn_iconst rl_M_split_58 (fn_icmp_ne rl_M_split_59 (fun k1646 => fn_aload_n rl_M_split_62 rfl (fn_iload_n rl_M_split_63 rfl (fn_iload_n rl_M_split_64 rfl (fn_virt (as := [.ref 36, .int v1, .int v2]) (r := []) (ls' := [.ref 36, .int v1, .int v2, .null]) rl_M_split_65 rfl hp_36 rfl rfl pl_M_tillOf rfl rfl (k1646))))) (fun k1647 => fn_aload_n rl_M_split_71 rfl (fn_iload_n rl_M_split_72 rfl (fn_aload_n rl_M_split_73 rfl (fn_iload_n rl_M_split_74 rfl (fn_iload_n rl_M_split_75 rfl (fn_virt (as := [.ref 36, .int v1, .int v2]) (r := [.int v1, .ref 36]) (ls' := [.ref 36, .int v1, .int v2, .null]) rl_M_split_76 rfl hp_36 rfl rfl pl_M_fromOf rfl rfl (k1647))))))) k1649))) k1651)) k0
set_option maxRecDepth 100000 in
set_option maxHeartbeats 4000000 in
theorem sg_M_split_54r {L : Nat} {xs : Nat → Int32} {A V : Nat → Nat → Int32} {K : Nat → Option Nat} {T : am_H} {v : Option Int32} {h' : am_H} {v1 v2 v3 r : Int32} (k0 :
    v = some r ∧ h' = hp L xs A V K T) : am_fin [(z_M_split, 54, [.ref 36, .int v1, .int v2, .int v3], [.int r])] (hp L xs A V K T) v h' :=
  fn_goto rl_M_split_54 (fn_reti rl_M_split_88 rfl k0)
set_option maxRecDepth 100000 in
set_option maxHeartbeats 4000000 in
theorem sg_M_split_68r {L : Nat} {xs : Nat → Int32} {A V : Nat → Nat → Int32} {K : Nat → Option Nat} {T : am_H} {v : Option Int32} {h' : am_H} {v1 v2 v3 r : Int32} (k0 :
    v = some r ∧ h' = hp L xs A V K T) : am_fin [(z_M_split, 68, [.ref 36, .int v1, .int v2, .int v3], [.int r])] (hp L xs A V K T) v h' :=
  fn_goto rl_M_split_68 (fn_reti rl_M_split_88 rfl k0)
set_option maxRecDepth 100000 in
set_option maxHeartbeats 4000000 in
theorem sg_M_split_79r {L : Nat} {xs : Nat → Int32} {A V : Nat → Nat → Int32} {K : Nat → Option Nat} {T : am_H} {v : Option Int32} {h' : am_H} {v1 v2 v3 s1 r : Int32} (k0 :
    am_fin [(z_M_tillOf, 0, [.ref 36, .int v1, .int v2, .null], []), (z_M_split, 85, [.ref 36, .int v1, .int v2, .int v3], [.int r, .int s1, .ref 36])] (hp L xs A V K T) v h') : am_fin [(z_M_split, 79, [.ref 36, .int v1, .int v2, .int v3], [.int r, .int s1, .ref 36])] (hp L xs A V K T) v h' :=
  fn_aload_n rl_M_split_79 rfl (fn_iload_n rl_M_split_80 rfl (fn_iload_n rl_M_split_81 rfl (fn_virt (as := [.ref 36, .int v1, .int v2]) (r := [.int r, .int s1, .ref 36]) (ls' := [.ref 36, .int v1, .int v2, .null]) rl_M_split_82 rfl hp_36 rfl rfl pl_M_tillOf rfl rfl (k0))))
set_option maxRecDepth 100000 in
set_option maxHeartbeats 4000000 in
theorem sg_M_split_85r {L : Nat} {xs : Nat → Int32} {A V : Nat → Nat → Int32} {K : Nat → Option Nat} {T : am_H} {v : Option Int32} {h' : am_H} {v1 v2 v3 s1 s2 r : Int32} (k0 :
    am_fin [(z_M_between, 0, [.ref 36, .int s1, .int s2, .int r, .null, .null], []), (z_M_split, 88, [.ref 36, .int v1, .int v2, .int v3], [])] (hp L xs A V K T) v h') : am_fin [(z_M_split, 85, [.ref 36, .int v1, .int v2, .int v3], [.int r, .int s2, .int s1, .ref 36])] (hp L xs A V K T) v h' :=
  fn_virt (as := [.ref 36, .int s1, .int s2, .int r]) (r := []) (ls' := [.ref 36, .int s1, .int s2, .int r, .null, .null]) rl_M_split_85 rfl hp_36 rfl rfl pl_M_between rfl rfl (k0)
set_option maxRecDepth 100000 in
set_option maxHeartbeats 4000000 in
theorem sg_M_split_88r {L : Nat} {xs : Nat → Int32} {A V : Nat → Nat → Int32} {K : Nat → Option Nat} {T : am_H} {v : Option Int32} {h' : am_H} {v1 v2 v3 r : Int32} (k0 :
    v = some r ∧ h' = hp L xs A V K T) : am_fin [(z_M_split, 88, [.ref 36, .int v1, .int v2, .int v3], [.int r])] (hp L xs A V K T) v h' :=
  fn_reti rl_M_split_88 rfl k0
set_option maxRecDepth 100000 in
set_option maxHeartbeats 4000000 in
theorem sg_M_owed_0 {L : Nat} {xs : Nat → Int32} {A V : Nat → Nat → Int32} {K : Nat → Option Nat} {T : am_H} {v : Option Int32} {h' : am_H} {a1 : Int32} (k0 :
    if (lg_cmp ((a1 : Int32).toInt64) ((0 : Int32).toInt64)) < 0 then (
      v = some (-1) ∧ h' = hp L xs A V K T)
    else (
      if 0 < (lg_cmp ((a1 : Int32).toInt64) ((2 : Int32).toInt64)) then (
        v = some (-1) ∧ h' = hp L xs A V K T)
      else (
        am_fin [(z_M_laysCounts, 0, [.ref 36, .null, .null, .null], []), (z_M_owed, 13, [.ref 36, .int a1], [])] (hp L xs A V K T) v h'))) : am_fin [(z_M_owed, 0, [.ref 36, .int a1], [])] (hp L xs A V K T) v h' :=
  fn_iload_n rl_M_owed_0 rfl (fn_stat (as := [.int a1]) (r := []) (ls' := [.int a1]) rl_M_owed_1 rfl rfl rfl rfl pl_M_isYear rfl rfl (fn_iload_n rl_M_isYear_0 rfl (fn_i2l rl_M_isYear_1 (fn_lconst rl_M_isYear_2 (fn_ldc2_w rl_M_isYear_3 (fn_stat (as := [.long ((a1 : Int32).toInt64), .long ((0 : Int32).toInt64), .long ((2 : Int32).toInt64)]) (r := []) (ls' := [.long ((a1 : Int32).toInt64), .null, .long ((0 : Int32).toInt64), .null, .long ((2 : Int32).toInt64), .null]) rl_M_isYear_6 rfl rfl rfl rfl pl_M_in rfl rfl (fn_lload_n rl_M_in_0 rfl (fn_lload_n rl_M_in_1 rfl (fn_lcmp rl_M_in_2 (fn_if_lt rl_M_in_3 (fun k1654 => fn_iconst rl_M_in_17 (fn_retci rl_M_in_18 rfl (fn_retci rl_M_isYear_9 rfl (fn_if_ne_t rl_M_owed_4 (by decide +kernel) (fn_iconst rl_M_owed_7 (fn_reti rl_M_owed_8 rfl k1654)))))) (fun k1655 => fn_lload_n rl_M_in_6 rfl (fn_lload rl_M_in_7 rfl (fn_lcmp rl_M_in_9 (fn_if_gt rl_M_in_10 (fun k1652 => fn_iconst rl_M_in_17 (fn_retci rl_M_in_18 rfl (fn_retci rl_M_isYear_9 rfl (fn_if_ne_t rl_M_owed_4 (by decide +kernel) (fn_iconst rl_M_owed_7 (fn_reti rl_M_owed_8 rfl k1652)))))) (fun k1653 => fn_iconst rl_M_in_13 (fn_goto rl_M_in_14 (fn_retci rl_M_in_18 rfl (fn_retci rl_M_isYear_9 rfl (fn_if_ne_f rl_M_owed_4 (by decide +kernel) (fn_aload_n rl_M_owed_9 rfl (fn_virt (as := [.ref 36]) (r := []) (ls' := [.ref 36, .null, .null, .null]) rl_M_owed_10 rfl hp_36 rfl rfl pl_M_laysCounts rfl rfl (k1653)))))))) k1655)))) k0))))))))))
set_option maxRecDepth 100000 in
set_option maxHeartbeats 4000000 in
theorem sg_M_owed_13r {L : Nat} {xs : Nat → Int32} {A V : Nat → Nat → Int32} {K : Nat → Option Nat} {T : am_H} {v : Option Int32} {h' : am_H} {v1 : Int32} (k0 :
    am_fin [(z_M_owes, 0, [.ref 36, .int v1, .null, .null, .null, .null, .null, .null], []), (z_M_owed, 18, [.ref 36, .int v1], [])] (hp L xs A V K T) v h') : am_fin [(z_M_owed, 13, [.ref 36, .int v1], [])] (hp L xs A V K T) v h' :=
  fn_aload_n rl_M_owed_13 rfl (fn_iload_n rl_M_owed_14 rfl (fn_virt (as := [.ref 36, .int v1]) (r := []) (ls' := [.ref 36, .int v1, .null, .null, .null, .null, .null, .null]) rl_M_owed_15 rfl hp_36 rfl rfl pl_M_owes rfl rfl (k0)))
set_option maxRecDepth 100000 in
set_option maxHeartbeats 4000000 in
theorem sg_M_owed_18r {L : Nat} {xs : Nat → Int32} {A V : Nat → Nat → Int32} {K : Nat → Option Nat} {T : am_H} {v : Option Int32} {h' : am_H} {v1 r : Int32} (k0 :
    v = some r ∧ h' = hp L xs A V K T) : am_fin [(z_M_owed, 18, [.ref 36, .int v1], [.int r])] (hp L xs A V K T) v h' :=
  fn_reti rl_M_owed_18 rfl k0
set_option maxRecDepth 100000 in
set_option maxHeartbeats 4000000 in
theorem sg_M_free_0 {L : Nat} {xs : Nat → Int32} {A V : Nat → Nat → Int32} {K : Nat → Option Nat} {T : am_H} {v : Option Int32} {h' : am_H} {a1 a2 a3 : Int32} (k0 :
    if (lg_cmp ((a1 : Int32).toInt64) ((0 : Int32).toInt64)) < 0 then (
      v = some (-1) ∧ h' = hp L xs A V K T)
    else (
      if 0 < (lg_cmp ((a1 : Int32).toInt64) ((5 : Int32).toInt64)) then (
        v = some (-1) ∧ h' = hp L xs A V K T)
      else (
        if (lg_cmp ((a2 : Int32).toInt64) ((0 : Int32).toInt64)) < 0 then (
          v = some (-1) ∧ h' = hp L xs A V K T)
        else (
          if 0 < (lg_cmp ((a2 : Int32).toInt64) ((1079 : Int32).toInt64)) then (
            v = some (-1) ∧ h' = hp L xs A V K T)
          else (
            if (lg_cmp ((a3 : Int32).toInt64) ((1 : Int32).toInt64)) < 0 then (
              v = some (-1) ∧ h' = hp L xs A V K T)
            else (
              if 0 < (lg_cmp ((a3 : Int32).toInt64) ((360 : Int32).toInt64)) then (
                v = some (-1) ∧ h' = hp L xs A V K T)
              else (
                am_fin [(z_M_freeOf, 0, [.ref 36, .int a1, .int a2, .int a3, .null, .null, .null, .null, .null], []), (z_M_free, 28, [.ref 36, .int a1, .int a2, .int a3], [])] (hp L xs A V K T) v h'))))))) : am_fin [(z_M_free, 0, [.ref 36, .int a1, .int a2, .int a3], [])] (hp L xs A V K T) v h' :=
  fn_iload_n rl_M_free_0 rfl (fn_stat (as := [.int a1]) (r := []) (ls' := [.int a1]) rl_M_free_1 rfl rfl rfl rfl pl_M_isLand rfl rfl (fn_iload_n rl_M_isLand_0 rfl (fn_i2l rl_M_isLand_1 (fn_lconst rl_M_isLand_2 (fn_ldc2_w rl_M_isLand_3 (fn_stat (as := [.long ((a1 : Int32).toInt64), .long ((0 : Int32).toInt64), .long ((5 : Int32).toInt64)]) (r := []) (ls' := [.long ((a1 : Int32).toInt64), .null, .long ((0 : Int32).toInt64), .null, .long ((5 : Int32).toInt64), .null]) rl_M_isLand_6 rfl rfl rfl rfl pl_M_in rfl rfl (fn_lload_n rl_M_in_0 rfl (fn_lload_n rl_M_in_1 rfl (fn_lcmp rl_M_in_2 (fn_if_lt rl_M_in_3 (fun k1666 => fn_iconst rl_M_in_17 (fn_retci rl_M_in_18 rfl (fn_retci rl_M_isLand_9 rfl (fn_if_eq_t rl_M_free_4 (by decide +kernel) (fn_iconst rl_M_free_31 (fn_reti rl_M_free_32 rfl k1666)))))) (fun k1667 => fn_lload_n rl_M_in_6 rfl (fn_lload rl_M_in_7 rfl (fn_lcmp rl_M_in_9 (fn_if_gt rl_M_in_10 (fun k1664 => fn_iconst rl_M_in_17 (fn_retci rl_M_in_18 rfl (fn_retci rl_M_isLand_9 rfl (fn_if_eq_t rl_M_free_4 (by decide +kernel) (fn_iconst rl_M_free_31 (fn_reti rl_M_free_32 rfl k1664)))))) (fun k1665 => fn_iconst rl_M_in_13 (fn_goto rl_M_in_14 (fn_retci rl_M_in_18 rfl (fn_retci rl_M_isLand_9 rfl (fn_if_eq_f rl_M_free_4 (by decide +kernel) (fn_iload_n rl_M_free_7 rfl (fn_stat (as := [.int a2]) (r := []) (ls' := [.int a2]) rl_M_free_8 rfl rfl rfl rfl pl_M_isDay rfl rfl (fn_iload_n rl_M_isDay_0 rfl (fn_i2l rl_M_isDay_1 (fn_lconst rl_M_isDay_2 (fn_ldc2_w rl_M_isDay_3 (fn_stat (as := [.long ((a2 : Int32).toInt64), .long ((0 : Int32).toInt64), .long ((1079 : Int32).toInt64)]) (r := []) (ls' := [.long ((a2 : Int32).toInt64), .null, .long ((0 : Int32).toInt64), .null, .long ((1079 : Int32).toInt64), .null]) rl_M_isDay_6 rfl rfl rfl rfl pl_M_in rfl rfl (fn_lload_n rl_M_in_0 rfl (fn_lload_n rl_M_in_1 rfl (fn_lcmp rl_M_in_2 (fn_if_lt rl_M_in_3 (fun k1662 => fn_iconst rl_M_in_17 (fn_retci rl_M_in_18 rfl (fn_retci rl_M_isDay_9 rfl (fn_if_eq_t rl_M_free_11 (by decide +kernel) (fn_iconst rl_M_free_31 (fn_reti rl_M_free_32 rfl k1662)))))) (fun k1663 => fn_lload_n rl_M_in_6 rfl (fn_lload rl_M_in_7 rfl (fn_lcmp rl_M_in_9 (fn_if_gt rl_M_in_10 (fun k1660 => fn_iconst rl_M_in_17 (fn_retci rl_M_in_18 rfl (fn_retci rl_M_isDay_9 rfl (fn_if_eq_t rl_M_free_11 (by decide +kernel) (fn_iconst rl_M_free_31 (fn_reti rl_M_free_32 rfl k1660)))))) (fun k1661 => fn_iconst rl_M_in_13 (fn_goto rl_M_in_14 (fn_retci rl_M_in_18 rfl (fn_retci rl_M_isDay_9 rfl (fn_if_eq_f rl_M_free_11 (by decide +kernel) (fn_iload_n rl_M_free_14 rfl (fn_stat (as := [.int a3]) (r := []) (ls' := [.int a3]) rl_M_free_15 rfl rfl rfl rfl pl_M_isSpan rfl rfl (fn_iload_n rl_M_isSpan_0 rfl (fn_i2l rl_M_isSpan_1 (fn_lconst rl_M_isSpan_2 (fn_ldc2_w rl_M_isSpan_3 (fn_stat (as := [.long ((a3 : Int32).toInt64), .long ((1 : Int32).toInt64), .long ((360 : Int32).toInt64)]) (r := []) (ls' := [.long ((a3 : Int32).toInt64), .null, .long ((1 : Int32).toInt64), .null, .long ((360 : Int32).toInt64), .null]) rl_M_isSpan_6 rfl rfl rfl rfl pl_M_in rfl rfl (fn_lload_n rl_M_in_0 rfl (fn_lload_n rl_M_in_1 rfl (fn_lcmp rl_M_in_2 (fn_if_lt rl_M_in_3 (fun k1658 => fn_iconst rl_M_in_17 (fn_retci rl_M_in_18 rfl (fn_retci rl_M_isSpan_9 rfl (fn_if_eq_t rl_M_free_18 (by decide +kernel) (fn_iconst rl_M_free_31 (fn_reti rl_M_free_32 rfl k1658)))))) (fun k1659 => fn_lload_n rl_M_in_6 rfl (fn_lload rl_M_in_7 rfl (fn_lcmp rl_M_in_9 (fn_if_gt rl_M_in_10 (fun k1656 => fn_iconst rl_M_in_17 (fn_retci rl_M_in_18 rfl (fn_retci rl_M_isSpan_9 rfl (fn_if_eq_t rl_M_free_18 (by decide +kernel) (fn_iconst rl_M_free_31 (fn_reti rl_M_free_32 rfl k1656)))))) (fun k1657 => fn_iconst rl_M_in_13 (fn_goto rl_M_in_14 (fn_retci rl_M_in_18 rfl (fn_retci rl_M_isSpan_9 rfl (fn_if_eq_f rl_M_free_18 (by decide +kernel) (fn_aload_n rl_M_free_21 rfl (fn_iload_n rl_M_free_22 rfl (fn_iload_n rl_M_free_23 rfl (fn_iload_n rl_M_free_24 rfl (fn_virt (as := [.ref 36, .int a1, .int a2, .int a3]) (r := []) (ls' := [.ref 36, .int a1, .int a2, .int a3, .null, .null, .null, .null, .null]) rl_M_free_25 rfl hp_36 rfl rfl pl_M_freeOf rfl rfl (k1657))))))))))) k1659)))) k1661)))))))))))))))) k1663)))) k1665)))))))))))))))) k1667)))) k0))))))))))
set_option maxRecDepth 100000 in
set_option maxHeartbeats 4000000 in
theorem sg_M_free_28r {L : Nat} {xs : Nat → Int32} {A V : Nat → Nat → Int32} {K : Nat → Option Nat} {T : am_H} {v : Option Int32} {h' : am_H} {v1 v2 v3 r : Int32} (k0 :
    v = some r ∧ h' = hp L xs A V K T) : am_fin [(z_M_free, 28, [.ref 36, .int v1, .int v2, .int v3], [.int r])] (hp L xs A V K T) v h' :=
  fn_goto rl_M_free_28 (fn_reti rl_M_free_32 rfl k0)
set_option maxRecDepth 100000 in
set_option maxHeartbeats 4000000 in
theorem sg_M_mustLeave_0 {L : Nat} {xs : Nat → Int32} {A V : Nat → Nat → Int32} {K : Nat → Option Nat} {T : am_H} {v : Option Int32} {h' : am_H} {a1 a2 : Int32} (k0 :
    if (lg_cmp ((a1 : Int32).toInt64) ((0 : Int32).toInt64)) < 0 then (
      v = some (-1) ∧ h' = hp L xs A V K T)
    else (
      if 0 < (lg_cmp ((a1 : Int32).toInt64) ((5 : Int32).toInt64)) then (
        v = some (-1) ∧ h' = hp L xs A V K T)
      else (
        if (lg_cmp ((a2 : Int32).toInt64) ((0 : Int32).toInt64)) < 0 then (
          v = some (-1) ∧ h' = hp L xs A V K T)
        else (
          if 0 < (lg_cmp ((a2 : Int32).toInt64) ((1079 : Int32).toInt64)) then (
            v = some (-1) ∧ h' = hp L xs A V K T)
          else (
            am_fin [(z_M_laysAside, 0, [.ref 36, .null], []), (z_M_mustLeave, 20, [.ref 36, .int a1, .int a2, .null], [])] (hp L xs A V K T) v h'))))) : am_fin [(z_M_mustLeave, 0, [.ref 36, .int a1, .int a2, .null], [])] (hp L xs A V K T) v h' :=
  fn_iload_n rl_M_mustLeave_0 rfl (fn_stat (as := [.int a1]) (r := []) (ls' := [.int a1]) rl_M_mustLeave_1 rfl rfl rfl rfl pl_M_isLand rfl rfl (fn_iload_n rl_M_isLand_0 rfl (fn_i2l rl_M_isLand_1 (fn_lconst rl_M_isLand_2 (fn_ldc2_w rl_M_isLand_3 (fn_stat (as := [.long ((a1 : Int32).toInt64), .long ((0 : Int32).toInt64), .long ((5 : Int32).toInt64)]) (r := []) (ls' := [.long ((a1 : Int32).toInt64), .null, .long ((0 : Int32).toInt64), .null, .long ((5 : Int32).toInt64), .null]) rl_M_isLand_6 rfl rfl rfl rfl pl_M_in rfl rfl (fn_lload_n rl_M_in_0 rfl (fn_lload_n rl_M_in_1 rfl (fn_lcmp rl_M_in_2 (fn_if_lt rl_M_in_3 (fun k1674 => fn_iconst rl_M_in_17 (fn_retci rl_M_in_18 rfl (fn_retci rl_M_isLand_9 rfl (fn_if_eq_t rl_M_mustLeave_4 (by decide +kernel) (fn_iconst rl_M_mustLeave_14 (fn_reti rl_M_mustLeave_15 rfl k1674)))))) (fun k1675 => fn_lload_n rl_M_in_6 rfl (fn_lload rl_M_in_7 rfl (fn_lcmp rl_M_in_9 (fn_if_gt rl_M_in_10 (fun k1672 => fn_iconst rl_M_in_17 (fn_retci rl_M_in_18 rfl (fn_retci rl_M_isLand_9 rfl (fn_if_eq_t rl_M_mustLeave_4 (by decide +kernel) (fn_iconst rl_M_mustLeave_14 (fn_reti rl_M_mustLeave_15 rfl k1672)))))) (fun k1673 => fn_iconst rl_M_in_13 (fn_goto rl_M_in_14 (fn_retci rl_M_in_18 rfl (fn_retci rl_M_isLand_9 rfl (fn_if_eq_f rl_M_mustLeave_4 (by decide +kernel) (fn_iload_n rl_M_mustLeave_7 rfl (fn_stat (as := [.int a2]) (r := []) (ls' := [.int a2]) rl_M_mustLeave_8 rfl rfl rfl rfl pl_M_isDay rfl rfl (fn_iload_n rl_M_isDay_0 rfl (fn_i2l rl_M_isDay_1 (fn_lconst rl_M_isDay_2 (fn_ldc2_w rl_M_isDay_3 (fn_stat (as := [.long ((a2 : Int32).toInt64), .long ((0 : Int32).toInt64), .long ((1079 : Int32).toInt64)]) (r := []) (ls' := [.long ((a2 : Int32).toInt64), .null, .long ((0 : Int32).toInt64), .null, .long ((1079 : Int32).toInt64), .null]) rl_M_isDay_6 rfl rfl rfl rfl pl_M_in rfl rfl (fn_lload_n rl_M_in_0 rfl (fn_lload_n rl_M_in_1 rfl (fn_lcmp rl_M_in_2 (fn_if_lt rl_M_in_3 (fun k1670 => fn_iconst rl_M_in_17 (fn_retci rl_M_in_18 rfl (fn_retci rl_M_isDay_9 rfl (fn_if_ne_t rl_M_mustLeave_11 (by decide +kernel) (fn_iconst rl_M_mustLeave_14 (fn_reti rl_M_mustLeave_15 rfl k1670)))))) (fun k1671 => fn_lload_n rl_M_in_6 rfl (fn_lload rl_M_in_7 rfl (fn_lcmp rl_M_in_9 (fn_if_gt rl_M_in_10 (fun k1668 => fn_iconst rl_M_in_17 (fn_retci rl_M_in_18 rfl (fn_retci rl_M_isDay_9 rfl (fn_if_ne_t rl_M_mustLeave_11 (by decide +kernel) (fn_iconst rl_M_mustLeave_14 (fn_reti rl_M_mustLeave_15 rfl k1668)))))) (fun k1669 => fn_iconst rl_M_in_13 (fn_goto rl_M_in_14 (fn_retci rl_M_in_18 rfl (fn_retci rl_M_isDay_9 rfl (fn_if_ne_f rl_M_mustLeave_11 (by decide +kernel) (fn_aload_n rl_M_mustLeave_16 rfl (fn_virt (as := [.ref 36]) (r := []) (ls' := [.ref 36, .null]) rl_M_mustLeave_17 rfl hp_36 rfl rfl pl_M_laysAside rfl rfl (k1669)))))))) k1671)))) k1673)))))))))))))))) k1675)))) k0))))))))))
set_option maxRecDepth 100000 in
set_option maxHeartbeats 4000000 in
theorem sg_M_mustLeave_20r {L : Nat} {xs : Nat → Int32} {A V : Nat → Nat → Int32} {K : Nat → Option Nat} {T : am_H} {v : Option Int32} {h' : am_H} {v1 v2 : Int32} (k0 :
    am_fin [(z_M_goes, 0, [.ref 36, .int v1, .int v2, .int 1079, .null], []), (z_M_mustLeave, 29, [.ref 36, .int v1, .int v2, .null], [])] (hp L xs A V K T) v h') : am_fin [(z_M_mustLeave, 20, [.ref 36, .int v1, .int v2, .null], [])] (hp L xs A V K T) v h' :=
  fn_aload_n rl_M_mustLeave_20 rfl (fn_iload_n rl_M_mustLeave_21 rfl (fn_iload_n rl_M_mustLeave_22 rfl (fn_sipush rl_M_mustLeave_23 (fn_virt (as := [.ref 36, .int v1, .int v2, .int 1079]) (r := []) (ls' := [.ref 36, .int v1, .int v2, .int 1079, .null]) rl_M_mustLeave_26 rfl hp_36 rfl rfl pl_M_goes rfl rfl (k0)))))
set_option maxRecDepth 100000 in
set_option maxHeartbeats 4000000 in
theorem sg_M_mustLeave_29r {L : Nat} {xs : Nat → Int32} {A V : Nat → Nat → Int32} {K : Nat → Option Nat} {T : am_H} {v : Option Int32} {h' : am_H} {v1 v2 : Int32} (k0 :
    am_fin [(z_M_overstayed, 0, [.ref 36, .int v1, .int v2, .int 1079, .int 1, .null, .null, .null, .null], []), (z_M_mustLeave, 39, [.ref 36, .int v1, .int v2, .null], [])] (hp L xs A V K T) v h') : am_fin [(z_M_mustLeave, 29, [.ref 36, .int v1, .int v2, .null], [])] (hp L xs A V K T) v h' :=
  fn_aload_n rl_M_mustLeave_29 rfl (fn_iload_n rl_M_mustLeave_30 rfl (fn_iload_n rl_M_mustLeave_31 rfl (fn_sipush rl_M_mustLeave_32 (fn_iconst rl_M_mustLeave_35 (fn_virt (as := [.ref 36, .int v1, .int v2, .int 1079, .int 1]) (r := []) (ls' := [.ref 36, .int v1, .int v2, .int 1079, .int 1, .null, .null, .null, .null]) rl_M_mustLeave_36 rfl hp_36 rfl rfl pl_M_overstayed rfl rfl (k0))))))
set_option maxRecDepth 100000 in
set_option maxHeartbeats 4000000 in
theorem sg_M_mustLeave_39r {L : Nat} {xs : Nat → Int32} {A V : Nat → Nat → Int32} {K : Nat → Option Nat} {T : am_H} {v : Option Int32} {h' : am_H} {v1 v2 r : Int32} (k0 :
    am_fin [(z_M_takesAside, 0, [.ref 36, .null], []), (z_M_mustLeave, 44, [.ref 36, .int v1, .int v2, .int r], [])] (hp L xs A V K T) v h') : am_fin [(z_M_mustLeave, 39, [.ref 36, .int v1, .int v2, .null], [.int r])] (hp L xs A V K T) v h' :=
  fn_istore_n (ls' := [.ref 36, .int v1, .int v2, .int r]) rl_M_mustLeave_39 rfl rfl (fn_aload_n rl_M_mustLeave_40 rfl (fn_virt (as := [.ref 36]) (r := []) (ls' := [.ref 36, .null]) rl_M_mustLeave_41 rfl hp_36 rfl rfl pl_M_takesAside rfl rfl (k0)))
set_option maxRecDepth 100000 in
set_option maxHeartbeats 4000000 in
theorem sg_M_mustLeave_44r {L : Nat} {xs : Nat → Int32} {A V : Nat → Nat → Int32} {K : Nat → Option Nat} {T : am_H} {v : Option Int32} {h' : am_H} {v1 v2 v3 : Int32} (k0 :
    v = some v3 ∧ h' = hp L xs A V K T) : am_fin [(z_M_mustLeave, 44, [.ref 36, .int v1, .int v2, .int v3], [])] (hp L xs A V K T) v h' :=
  fn_iload_n rl_M_mustLeave_44 rfl (fn_reti rl_M_mustLeave_45 rfl k0)
set_option maxRecDepth 100000 in
set_option maxHeartbeats 4000000 in
theorem sg_M_mayCome_0 {L : Nat} {xs : Nat → Int32} {A V : Nat → Nat → Int32} {K : Nat → Option Nat} {T : am_H} {v : Option Int32} {h' : am_H} {a1 a2 a3 : Int32} (k0 :
    if (lg_cmp ((a1 : Int32).toInt64) ((0 : Int32).toInt64)) < 0 then (
      v = some (-1) ∧ h' = hp L xs A V K T)
    else (
      if 0 < (lg_cmp ((a1 : Int32).toInt64) ((5 : Int32).toInt64)) then (
        v = some (-1) ∧ h' = hp L xs A V K T)
      else (
        if (lg_cmp ((a2 : Int32).toInt64) ((0 : Int32).toInt64)) < 0 then (
          v = some (-1) ∧ h' = hp L xs A V K T)
        else (
          if 0 < (lg_cmp ((a2 : Int32).toInt64) ((1079 : Int32).toInt64)) then (
            v = some (-1) ∧ h' = hp L xs A V K T)
          else (
            if (lg_cmp ((a3 : Int32).toInt64) ((1 : Int32).toInt64)) < 0 then (
              v = some (-1) ∧ h' = hp L xs A V K T)
            else (
              if 0 < (lg_cmp ((a3 : Int32).toInt64) ((360 : Int32).toInt64)) then (
                v = some (-1) ∧ h' = hp L xs A V K T)
              else (
                ¬ (((13 * a1) + 0) < 0 ∨ 258 ≤ ((13 * a1) + 0).toNatClampNeg) ∧ (
                if ((A 41) ((13 * a1) + 0).toNatClampNeg) = 0 then (
                  v = some a2 ∧ h' = hp L xs A V K T)
                else (
                  am_fin [(z_M_mayCome, 41, [.ref 36, .int a1, .int a2, .int a3, .int ((A 41) ((13 * a1) + 0).toNatClampNeg), .int 0, .null, .null], [])] (hp L xs A V K T) v h'))))))))) : am_fin [(z_M_mayCome, 0, [.ref 36, .int a1, .int a2, .int a3, .null, .null, .null, .null], [])] (hp L xs A V K T) v h' :=
  fn_iload_n rl_M_mayCome_0 rfl (fn_stat (as := [.int a1]) (r := []) (ls' := [.int a1]) rl_M_mayCome_1 rfl rfl rfl rfl pl_M_isLand rfl rfl (fn_iload_n rl_M_isLand_0 rfl (fn_i2l rl_M_isLand_1 (fn_lconst rl_M_isLand_2 (fn_ldc2_w rl_M_isLand_3 (fn_stat (as := [.long ((a1 : Int32).toInt64), .long ((0 : Int32).toInt64), .long ((5 : Int32).toInt64)]) (r := []) (ls' := [.long ((a1 : Int32).toInt64), .null, .long ((0 : Int32).toInt64), .null, .long ((5 : Int32).toInt64), .null]) rl_M_isLand_6 rfl rfl rfl rfl pl_M_in rfl rfl (fn_lload_n rl_M_in_0 rfl (fn_lload_n rl_M_in_1 rfl (fn_lcmp rl_M_in_2 (fn_if_lt rl_M_in_3 (fun k1689 => fn_iconst rl_M_in_17 (fn_retci rl_M_in_18 rfl (fn_retci rl_M_isLand_9 rfl (fn_if_eq_t rl_M_mayCome_4 (by decide +kernel) (fn_iconst rl_M_mayCome_21 (fn_reti rl_M_mayCome_22 rfl k1689)))))) (fun k1690 => fn_lload_n rl_M_in_6 rfl (fn_lload rl_M_in_7 rfl (fn_lcmp rl_M_in_9 (fn_if_gt rl_M_in_10 (fun k1687 => fn_iconst rl_M_in_17 (fn_retci rl_M_in_18 rfl (fn_retci rl_M_isLand_9 rfl (fn_if_eq_t rl_M_mayCome_4 (by decide +kernel) (fn_iconst rl_M_mayCome_21 (fn_reti rl_M_mayCome_22 rfl k1687)))))) (fun k1688 => fn_iconst rl_M_in_13 (fn_goto rl_M_in_14 (fn_retci rl_M_in_18 rfl (fn_retci rl_M_isLand_9 rfl (fn_if_eq_f rl_M_mayCome_4 (by decide +kernel) (fn_iload_n rl_M_mayCome_7 rfl (fn_stat (as := [.int a2]) (r := []) (ls' := [.int a2]) rl_M_mayCome_8 rfl rfl rfl rfl pl_M_isDay rfl rfl (fn_iload_n rl_M_isDay_0 rfl (fn_i2l rl_M_isDay_1 (fn_lconst rl_M_isDay_2 (fn_ldc2_w rl_M_isDay_3 (fn_stat (as := [.long ((a2 : Int32).toInt64), .long ((0 : Int32).toInt64), .long ((1079 : Int32).toInt64)]) (r := []) (ls' := [.long ((a2 : Int32).toInt64), .null, .long ((0 : Int32).toInt64), .null, .long ((1079 : Int32).toInt64), .null]) rl_M_isDay_6 rfl rfl rfl rfl pl_M_in rfl rfl (fn_lload_n rl_M_in_0 rfl (fn_lload_n rl_M_in_1 rfl (fn_lcmp rl_M_in_2 (fn_if_lt rl_M_in_3 (fun k1685 => fn_iconst rl_M_in_17 (fn_retci rl_M_in_18 rfl (fn_retci rl_M_isDay_9 rfl (fn_if_eq_t rl_M_mayCome_11 (by decide +kernel) (fn_iconst rl_M_mayCome_21 (fn_reti rl_M_mayCome_22 rfl k1685)))))) (fun k1686 => fn_lload_n rl_M_in_6 rfl (fn_lload rl_M_in_7 rfl (fn_lcmp rl_M_in_9 (fn_if_gt rl_M_in_10 (fun k1683 => fn_iconst rl_M_in_17 (fn_retci rl_M_in_18 rfl (fn_retci rl_M_isDay_9 rfl (fn_if_eq_t rl_M_mayCome_11 (by decide +kernel) (fn_iconst rl_M_mayCome_21 (fn_reti rl_M_mayCome_22 rfl k1683)))))) (fun k1684 => fn_iconst rl_M_in_13 (fn_goto rl_M_in_14 (fn_retci rl_M_in_18 rfl (fn_retci rl_M_isDay_9 rfl (fn_if_eq_f rl_M_mayCome_11 (by decide +kernel) (fn_iload_n rl_M_mayCome_14 rfl (fn_stat (as := [.int a3]) (r := []) (ls' := [.int a3]) rl_M_mayCome_15 rfl rfl rfl rfl pl_M_isSpan rfl rfl (fn_iload_n rl_M_isSpan_0 rfl (fn_i2l rl_M_isSpan_1 (fn_lconst rl_M_isSpan_2 (fn_ldc2_w rl_M_isSpan_3 (fn_stat (as := [.long ((a3 : Int32).toInt64), .long ((1 : Int32).toInt64), .long ((360 : Int32).toInt64)]) (r := []) (ls' := [.long ((a3 : Int32).toInt64), .null, .long ((1 : Int32).toInt64), .null, .long ((360 : Int32).toInt64), .null]) rl_M_isSpan_6 rfl rfl rfl rfl pl_M_in rfl rfl (fn_lload_n rl_M_in_0 rfl (fn_lload_n rl_M_in_1 rfl (fn_lcmp rl_M_in_2 (fn_if_lt rl_M_in_3 (fun k1681 => fn_iconst rl_M_in_17 (fn_retci rl_M_in_18 rfl (fn_retci rl_M_isSpan_9 rfl (fn_if_ne_t rl_M_mayCome_18 (by decide +kernel) (fn_iconst rl_M_mayCome_21 (fn_reti rl_M_mayCome_22 rfl k1681)))))) (fun k1682 => fn_lload_n rl_M_in_6 rfl (fn_lload rl_M_in_7 rfl (fn_lcmp rl_M_in_9 (fn_if_gt rl_M_in_10 (fun k1679 => fn_iconst rl_M_in_17 (fn_retci rl_M_in_18 rfl (fn_retci rl_M_isSpan_9 rfl (fn_if_ne_t rl_M_mayCome_18 (by decide +kernel) (fn_iconst rl_M_mayCome_21 (fn_reti rl_M_mayCome_22 rfl k1679)))))) (fun k1680 => fn_iconst rl_M_in_13 (fn_goto rl_M_in_14 (fn_retci rl_M_in_18 rfl (fn_retci rl_M_isSpan_9 rfl (fn_if_ne_f rl_M_mayCome_18 (by decide +kernel) (fn_aload_n rl_M_mayCome_23 rfl (fn_iload_n rl_M_mayCome_24 rfl (fn_iconst rl_M_mayCome_25 (fn_virt (as := [.ref 36, .int a1, .int 0]) (r := []) (ls' := [.ref 36, .int a1, .int 0]) rl_M_mayCome_26 rfl hp_36 rfl rfl pl_M_of rfl rfl (fn_aload_n rl_M_of_0 rfl (fn_get rl_M_of_1 hp_36 rfl (fn_bipush rl_M_of_4 (fn_iload_n rl_M_of_6 rfl (fn_imul rl_M_of_7 (fn_iload_n rl_M_of_8 rfl (fn_iadd rl_M_of_9 (fn_iald rl_M_of_10 hp_41 (fun k1678 => fn_retci rl_M_of_11 rfl (fn_istore (ls' := [.ref 36, .int a1, .int a2, .int a3, .int ((A 41) ((13 * a1) + 0).toNatClampNeg), .null, .null, .null]) rl_M_mayCome_29 rfl rfl (fn_iload rl_M_mayCome_31 rfl (fn_if_ne rl_M_mayCome_33 (fun k1676 => fn_iload_n rl_M_mayCome_36 rfl (fn_reti rl_M_mayCome_37 rfl k1676)) (fun k1677 => fn_iconst rl_M_mayCome_38 (fn_istore (ls' := [.ref 36, .int a1, .int a2, .int a3, .int ((A 41) ((13 * a1) + 0).toNatClampNeg), .int 0, .null, .null]) rl_M_mayCome_39 rfl rfl (k1677))) k1678)))) k1680))))))))))))))))) k1682)))) k1684)))))))))))))))) k1686)))) k1688)))))))))))))))) k1690)))) k0))))))))))
set_option maxRecDepth 100000 in
set_option maxHeartbeats 4000000 in
theorem sg_M_mayCome_41 {L : Nat} {xs : Nat → Int32} {A V : Nat → Nat → Int32} {K : Nat → Option Nat} {T : am_H} {v : Option Int32} {h' : am_H} {v1 v2 v3 v4 v5 : Int32} (k0 :
    if 1080 ≤ v5 then (
      am_fin [(z_M_mayCome, 91, [.ref 36, .int v1, .int v2, .int v3, .int v4, .int v2, .null, .null], [])] (hp L xs A V K T) v h')
    else (
      ¬ (v5 < 0 ∨ 1081 ≤ v5.toNatClampNeg) ∧ (
      ¬ (v5 < 0 ∨ 1080 ≤ v5.toNatClampNeg) ∧ (
      if ((A 37) v5.toNatClampNeg) = v1 then (
        ¬ ((v5 + 1) < 0 ∨ 1081 ≤ (v5 + 1).toNatClampNeg) ∧ (
        am_fin [(z_M_mayCome, 41, [.ref 36, .int v1, .int v2, .int v3, .int v4, .int (v5 + 1), .null, .null], [])] (hp L xs (upA A 48 (upd (A 48) (v5 + 1).toNatClampNeg (((A 48) v5.toNatClampNeg) + 1))) V K T) v h'))
      else (
        ¬ ((v5 + 1) < 0 ∨ 1081 ≤ (v5 + 1).toNatClampNeg) ∧ (
        am_fin [(z_M_mayCome, 41, [.ref 36, .int v1, .int v2, .int v3, .int v4, .int (v5 + 1), .null, .null], [])] (hp L xs (upA A 48 (upd (A 48) (v5 + 1).toNatClampNeg (((A 48) v5.toNatClampNeg) + 0))) V K T) v h')))))) : am_fin [(z_M_mayCome, 41, [.ref 36, .int v1, .int v2, .int v3, .int v4, .int v5, .null, .null], [])] (hp L xs A V K T) v h' :=
  fn_iload rl_M_mayCome_41 rfl (fn_sipush rl_M_mayCome_43 (fn_icmp_ge rl_M_mayCome_46 (fun k1697 => fn_iload_n rl_M_mayCome_88 rfl (fn_istore (ls' := [.ref 36, .int v1, .int v2, .int v3, .int v4, .int v2, .null, .null]) rl_M_mayCome_89 rfl rfl (k1697))) (fun k1698 => fn_aload_n rl_M_mayCome_49 rfl (fn_get rl_M_mayCome_50 hp_36 rfl (fn_iload rl_M_mayCome_53 rfl (fn_iconst rl_M_mayCome_55 (fn_iadd rl_M_mayCome_56 (fn_aload_n rl_M_mayCome_57 rfl (fn_get rl_M_mayCome_58 hp_36 rfl (fn_iload rl_M_mayCome_61 rfl (fn_iald rl_M_mayCome_63 hp_48 (fun k1696 => fn_aload_n rl_M_mayCome_64 rfl (fn_get rl_M_mayCome_65 hp_36 rfl (fn_iload rl_M_mayCome_68 rfl (fn_iald rl_M_mayCome_70 hp_37 (fun k1695 => fn_iload_n rl_M_mayCome_71 rfl (fn_icmp_ne rl_M_mayCome_72 (fun k1693 => fn_iconst rl_M_mayCome_75 (fn_goto rl_M_mayCome_76 (fn_iadd rl_M_mayCome_80 (fn_iast rl_M_mayCome_81 hp_48 hps_48 (fun k1691 => fn_iinc (ls' := [.ref 36, .int v1, .int v2, .int v3, .int v4, .int (v5 + 1), .null, .null]) rl_M_mayCome_82 rfl rfl rfl (fn_goto rl_M_mayCome_85 (k1691))) k1693)))) (fun k1694 => fn_iconst rl_M_mayCome_79 (fn_iadd rl_M_mayCome_80 (fn_iast rl_M_mayCome_81 hp_48 hps_48 (fun k1692 => fn_iinc (ls' := [.ref 36, .int v1, .int v2, .int v3, .int v4, .int (v5 + 1), .null, .null]) rl_M_mayCome_82 rfl rfl rfl (fn_goto rl_M_mayCome_85 (k1692))) k1694))) k1695)) k1696)))) k1698))))))))) k0))
set_option maxRecDepth 100000 in
set_option maxHeartbeats 4000000 in
theorem sg_M_mayCome_91 {L : Nat} {xs : Nat → Int32} {A V : Nat → Nat → Int32} {K : Nat → Option Nat} {T : am_H} {v : Option Int32} {h' : am_H} {v1 v2 v3 v4 v5 : Int32} (k0 :
    if 1080 ≤ v5 then (
      v = some (-2) ∧ h' = hp L xs A V K T)
    else (
      am_fin [(z_M_mayCome, 106, [.ref 36, .int v1, .int v2, .int v3, .int v4, .int v5, .int 1, .int v5], [])] (hp L xs A V K T) v h')) : am_fin [(z_M_mayCome, 91, [.ref 36, .int v1, .int v2, .int v3, .int v4, .int v5, .null, .null], [])] (hp L xs A V K T) v h' :=
  fn_iload rl_M_mayCome_91 rfl (fn_sipush rl_M_mayCome_93 (fn_icmp_ge rl_M_mayCome_96 (fun k1699 => fn_bipush rl_M_mayCome_174 (fn_reti rl_M_mayCome_176 rfl k1699)) (fun k1700 => fn_iconst rl_M_mayCome_99 (fn_istore (ls' := [.ref 36, .int v1, .int v2, .int v3, .int v4, .int v5, .int 1, .null]) rl_M_mayCome_100 rfl rfl (fn_iload rl_M_mayCome_102 rfl (fn_istore (ls' := [.ref 36, .int v1, .int v2, .int v3, .int v4, .int v5, .int 1, .int v5]) rl_M_mayCome_104 rfl rfl (k1700))))) k0))
set_option maxRecDepth 100000 in
set_option maxHeartbeats 4000000 in
theorem sg_M_mayCome_106 {L : Nat} {xs : Nat → Int32} {A V : Nat → Nat → Int32} {K : Nat → Option Nat} {T : am_H} {v : Option Int32} {h' : am_H} {v1 v2 v3 v4 v5 v6 v7 : Int32} (k0 :
    if 1080 ≤ v7 then (
      if v6 = 0 then (
        am_fin [(z_M_mayCome, 91, [.ref 36, .int v1, .int v2, .int v3, .int v4, .int (v5 + 1), .int v6, .int v7], [])] (hp L xs A V K T) v h')
      else (
        v = some v5 ∧ h' = hp L xs A V K T))
    else (
      if (v5 + v3) ≤ v7 then (
        if v6 = 0 then (
          am_fin [(z_M_mayCome, 91, [.ref 36, .int v1, .int v2, .int v3, .int v4, .int (v5 + 1), .int v6, .int v7], [])] (hp L xs A V K T) v h')
        else (
          v = some v5 ∧ h' = hp L xs A V K T))
      else (
        if v6 = 0 then (
          if v6 = 0 then (
            am_fin [(z_M_mayCome, 91, [.ref 36, .int v1, .int v2, .int v3, .int v4, .int (v5 + 1), .int v6, .int v7], [])] (hp L xs A V K T) v h')
          else (
            v = some v5 ∧ h' = hp L xs A V K T))
        else (
          am_fin [(z_M_wouldBe, 0, [.ref 36, .int v7, .int v5, .int v4, .null], []), (z_M_mayCome, 138, [.ref 36, .int v1, .int v2, .int v3, .int v4, .int v5, .int v6, .int v7], [])] (hp L xs A V K T) v h')))) : am_fin [(z_M_mayCome, 106, [.ref 36, .int v1, .int v2, .int v3, .int v4, .int v5, .int v6, .int v7], [])] (hp L xs A V K T) v h' :=
  fn_iload rl_M_mayCome_106 rfl (fn_sipush rl_M_mayCome_108 (fn_icmp_ge rl_M_mayCome_111 (fun k1711 => fn_iload rl_M_mayCome_160 rfl (fn_if_eq rl_M_mayCome_162 (fun k1701 => fn_iinc (ls' := [.ref 36, .int v1, .int v2, .int v3, .int v4, .int (v5 + 1), .int v6, .int v7]) rl_M_mayCome_168 rfl rfl rfl (fn_goto rl_M_mayCome_171 (k1701))) (fun k1702 => fn_iload rl_M_mayCome_165 rfl (fn_reti rl_M_mayCome_167 rfl k1702)) k1711)) (fun k1712 => fn_iload rl_M_mayCome_114 rfl (fn_iload rl_M_mayCome_116 rfl (fn_iload_n rl_M_mayCome_118 rfl (fn_iadd rl_M_mayCome_119 (fn_icmp_ge rl_M_mayCome_120 (fun k1709 => fn_iload rl_M_mayCome_160 rfl (fn_if_eq rl_M_mayCome_162 (fun k1703 => fn_iinc (ls' := [.ref 36, .int v1, .int v2, .int v3, .int v4, .int (v5 + 1), .int v6, .int v7]) rl_M_mayCome_168 rfl rfl rfl (fn_goto rl_M_mayCome_171 (k1703))) (fun k1704 => fn_iload rl_M_mayCome_165 rfl (fn_reti rl_M_mayCome_167 rfl k1704)) k1709)) (fun k1710 => fn_iload rl_M_mayCome_123 rfl (fn_if_eq rl_M_mayCome_125 (fun k1707 => fn_iload rl_M_mayCome_160 rfl (fn_if_eq rl_M_mayCome_162 (fun k1705 => fn_iinc (ls' := [.ref 36, .int v1, .int v2, .int v3, .int v4, .int (v5 + 1), .int v6, .int v7]) rl_M_mayCome_168 rfl rfl rfl (fn_goto rl_M_mayCome_171 (k1705))) (fun k1706 => fn_iload rl_M_mayCome_165 rfl (fn_reti rl_M_mayCome_167 rfl k1706)) k1707)) (fun k1708 => fn_aload_n rl_M_mayCome_128 rfl (fn_iload rl_M_mayCome_129 rfl (fn_iload rl_M_mayCome_131 rfl (fn_iload rl_M_mayCome_133 rfl (fn_virt (as := [.ref 36, .int v7, .int v5, .int v4]) (r := []) (ls' := [.ref 36, .int v7, .int v5, .int v4, .null]) rl_M_mayCome_135 rfl hp_36 rfl rfl pl_M_wouldBe rfl rfl (k1708)))))) k1710)) k1712))))) k0))
set_option maxRecDepth 100000 in
set_option maxHeartbeats 4000000 in
theorem sg_M_mayCome_138r {L : Nat} {xs : Nat → Int32} {A V : Nat → Nat → Int32} {K : Nat → Option Nat} {T : am_H} {v : Option Int32} {h' : am_H} {v1 v2 v3 v4 v5 v6 v7 r : Int32} (k0 :
    ¬ (((13 * v1) + 1) < 0 ∨ 258 ≤ ((13 * v1) + 1).toNatClampNeg) ∧ (
    if ((A 41) ((13 * v1) + 1).toNatClampNeg) < r then (
      am_fin [(z_M_mayCome, 106, [.ref 36, .int v1, .int v2, .int v3, .int v4, .int v5, .int 0, .int (v7 + 1)], [])] (hp L xs A V K T) v h')
    else (
      am_fin [(z_M_mayCome, 106, [.ref 36, .int v1, .int v2, .int v3, .int v4, .int v5, .int 1, .int (v7 + 1)], [])] (hp L xs A V K T) v h'))) : am_fin [(z_M_mayCome, 138, [.ref 36, .int v1, .int v2, .int v3, .int v4, .int v5, .int v6, .int v7], [.int r])] (hp L xs A V K T) v h' :=
  fn_aload_n rl_M_mayCome_138 rfl (fn_iload_n rl_M_mayCome_139 rfl (fn_iconst rl_M_mayCome_140 (fn_virt (as := [.ref 36, .int v1, .int 1]) (r := [.int r]) (ls' := [.ref 36, .int v1, .int 1]) rl_M_mayCome_141 rfl hp_36 rfl rfl pl_M_of rfl rfl (fn_aload_n rl_M_of_0 rfl (fn_get rl_M_of_1 hp_36 rfl (fn_bipush rl_M_of_4 (fn_iload_n rl_M_of_6 rfl (fn_imul rl_M_of_7 (fn_iload_n rl_M_of_8 rfl (fn_iadd rl_M_of_9 (fn_iald rl_M_of_10 hp_41 (fun k1715 => fn_retci rl_M_of_11 rfl (fn_icmp_gt rl_M_mayCome_144 (fun k1713 => fn_iconst rl_M_mayCome_151 (fn_istore (ls' := [.ref 36, .int v1, .int v2, .int v3, .int v4, .int v5, .int 0, .int v7]) rl_M_mayCome_152 rfl rfl (fn_iinc (ls' := [.ref 36, .int v1, .int v2, .int v3, .int v4, .int v5, .int 0, .int (v7 + 1)]) rl_M_mayCome_154 rfl rfl rfl (fn_goto rl_M_mayCome_157 (k1713))))) (fun k1714 => fn_iconst rl_M_mayCome_147 (fn_goto rl_M_mayCome_148 (fn_istore (ls' := [.ref 36, .int v1, .int v2, .int v3, .int v4, .int v5, .int 1, .int v7]) rl_M_mayCome_152 rfl rfl (fn_iinc (ls' := [.ref 36, .int v1, .int v2, .int v3, .int v4, .int v5, .int 1, .int (v7 + 1)]) rl_M_mayCome_154 rfl rfl rfl (fn_goto rl_M_mayCome_157 (k1714)))))) k1715)) k0)))))))))))
set_option maxRecDepth 100000 in
set_option maxHeartbeats 4000000 in
theorem sg_M_claimBy_0 {L : Nat} {xs : Nat → Int32} {A V : Nat → Nat → Int32} {K : Nat → Option Nat} {T : am_H} {v : Option Int32} {h' : am_H} {a1 a2 : Int32} (k0 :
    if (lg_cmp ((a1 : Int32).toInt64) ((0 : Int32).toInt64)) < 0 then (
      v = some (-1) ∧ h' = hp L xs A V K T)
    else (
      if 0 < (lg_cmp ((a1 : Int32).toInt64) ((5 : Int32).toInt64)) then (
        v = some (-1) ∧ h' = hp L xs A V K T)
      else (
        if (lg_cmp ((a2 : Int32).toInt64) ((0 : Int32).toInt64)) < 0 then (
          v = some (-1) ∧ h' = hp L xs A V K T)
        else (
          if 0 < (lg_cmp ((a2 : Int32).toInt64) ((1079 : Int32).toInt64)) then (
            v = some (-1) ∧ h' = hp L xs A V K T)
          else (
            am_fin [(z_M_laysCounts, 0, [.ref 36, .null, .null, .null], []), (z_M_claimBy, 20, [.ref 36, .int a1, .int a2, .null], [])] (hp L xs A V K T) v h'))))) : am_fin [(z_M_claimBy, 0, [.ref 36, .int a1, .int a2, .null], [])] (hp L xs A V K T) v h' :=
  fn_iload_n rl_M_claimBy_0 rfl (fn_stat (as := [.int a1]) (r := []) (ls' := [.int a1]) rl_M_claimBy_1 rfl rfl rfl rfl pl_M_isLand rfl rfl (fn_iload_n rl_M_isLand_0 rfl (fn_i2l rl_M_isLand_1 (fn_lconst rl_M_isLand_2 (fn_ldc2_w rl_M_isLand_3 (fn_stat (as := [.long ((a1 : Int32).toInt64), .long ((0 : Int32).toInt64), .long ((5 : Int32).toInt64)]) (r := []) (ls' := [.long ((a1 : Int32).toInt64), .null, .long ((0 : Int32).toInt64), .null, .long ((5 : Int32).toInt64), .null]) rl_M_isLand_6 rfl rfl rfl rfl pl_M_in rfl rfl (fn_lload_n rl_M_in_0 rfl (fn_lload_n rl_M_in_1 rfl (fn_lcmp rl_M_in_2 (fn_if_lt rl_M_in_3 (fun k1722 => fn_iconst rl_M_in_17 (fn_retci rl_M_in_18 rfl (fn_retci rl_M_isLand_9 rfl (fn_if_eq_t rl_M_claimBy_4 (by decide +kernel) (fn_iconst rl_M_claimBy_14 (fn_reti rl_M_claimBy_15 rfl k1722)))))) (fun k1723 => fn_lload_n rl_M_in_6 rfl (fn_lload rl_M_in_7 rfl (fn_lcmp rl_M_in_9 (fn_if_gt rl_M_in_10 (fun k1720 => fn_iconst rl_M_in_17 (fn_retci rl_M_in_18 rfl (fn_retci rl_M_isLand_9 rfl (fn_if_eq_t rl_M_claimBy_4 (by decide +kernel) (fn_iconst rl_M_claimBy_14 (fn_reti rl_M_claimBy_15 rfl k1720)))))) (fun k1721 => fn_iconst rl_M_in_13 (fn_goto rl_M_in_14 (fn_retci rl_M_in_18 rfl (fn_retci rl_M_isLand_9 rfl (fn_if_eq_f rl_M_claimBy_4 (by decide +kernel) (fn_iload_n rl_M_claimBy_7 rfl (fn_stat (as := [.int a2]) (r := []) (ls' := [.int a2]) rl_M_claimBy_8 rfl rfl rfl rfl pl_M_isDay rfl rfl (fn_iload_n rl_M_isDay_0 rfl (fn_i2l rl_M_isDay_1 (fn_lconst rl_M_isDay_2 (fn_ldc2_w rl_M_isDay_3 (fn_stat (as := [.long ((a2 : Int32).toInt64), .long ((0 : Int32).toInt64), .long ((1079 : Int32).toInt64)]) (r := []) (ls' := [.long ((a2 : Int32).toInt64), .null, .long ((0 : Int32).toInt64), .null, .long ((1079 : Int32).toInt64), .null]) rl_M_isDay_6 rfl rfl rfl rfl pl_M_in rfl rfl (fn_lload_n rl_M_in_0 rfl (fn_lload_n rl_M_in_1 rfl (fn_lcmp rl_M_in_2 (fn_if_lt rl_M_in_3 (fun k1718 => fn_iconst rl_M_in_17 (fn_retci rl_M_in_18 rfl (fn_retci rl_M_isDay_9 rfl (fn_if_ne_t rl_M_claimBy_11 (by decide +kernel) (fn_iconst rl_M_claimBy_14 (fn_reti rl_M_claimBy_15 rfl k1718)))))) (fun k1719 => fn_lload_n rl_M_in_6 rfl (fn_lload rl_M_in_7 rfl (fn_lcmp rl_M_in_9 (fn_if_gt rl_M_in_10 (fun k1716 => fn_iconst rl_M_in_17 (fn_retci rl_M_in_18 rfl (fn_retci rl_M_isDay_9 rfl (fn_if_ne_t rl_M_claimBy_11 (by decide +kernel) (fn_iconst rl_M_claimBy_14 (fn_reti rl_M_claimBy_15 rfl k1716)))))) (fun k1717 => fn_iconst rl_M_in_13 (fn_goto rl_M_in_14 (fn_retci rl_M_in_18 rfl (fn_retci rl_M_isDay_9 rfl (fn_if_ne_f rl_M_claimBy_11 (by decide +kernel) (fn_aload_n rl_M_claimBy_16 rfl (fn_virt (as := [.ref 36]) (r := []) (ls' := [.ref 36, .null, .null, .null]) rl_M_claimBy_17 rfl hp_36 rfl rfl pl_M_laysCounts rfl rfl (k1717)))))))) k1719)))) k1721)))))))))))))))) k1723)))) k0))))))))))
set_option maxRecDepth 100000 in
set_option maxHeartbeats 4000000 in
theorem sg_M_claimBy_20r {L : Nat} {xs : Nat → Int32} {A V : Nat → Nat → Int32} {K : Nat → Option Nat} {T : am_H} {v : Option Int32} {h' : am_H} {v1 v2 : Int32} (k0 :
    am_fin [(z_M_claimBy, 22, [.ref 36, .int v1, .int v2, .int v2], [])] (hp L xs A V K T) v h') : am_fin [(z_M_claimBy, 20, [.ref 36, .int v1, .int v2, .null], [])] (hp L xs A V K T) v h' :=
  fn_iload_n rl_M_claimBy_20 rfl (fn_istore_n (ls' := [.ref 36, .int v1, .int v2, .int v2]) rl_M_claimBy_21 rfl rfl (k0))
set_option maxRecDepth 100000 in
set_option maxHeartbeats 4000000 in
theorem sg_M_claimBy_22 {L : Nat} {xs : Nat → Int32} {A V : Nat → Nat → Int32} {K : Nat → Option Nat} {T : am_H} {v : Option Int32} {h' : am_H} {v1 v2 v3 : Int32} (k0 :
    if 1080 ≤ v3 then (
      v = some (-2) ∧ h' = hp L xs A V K T)
    else (
      ¬ (v3 < 0 ∨ 1080 ≤ v3.toNatClampNeg) ∧ (
      if ((A 37) v3.toNatClampNeg) = v1 then (
        am_fin [(z_M_isClaimed, 0, [.ref 36, .int v1, .int (v3 / 360)], []), (z_M_claimBy, 58, [.ref 36, .int v1, .int v2, .int v3], [])] (hp L xs A V K T) v h')
      else (
        if v1 = (-1) then (
          am_fin [(z_M_isClaimed, 0, [.ref 36, .int v1, .int (v3 / 360)], []), (z_M_claimBy, 58, [.ref 36, .int v1, .int v2, .int v3], [])] (hp L xs A V K T) v h')
        else (
          ¬ ((((18 * 0) + (3 * v1)) + (v3 / 360)) < 0 ∨ 54 ≤ (((18 * 0) + (3 * v1)) + (v3 / 360)).toNatClampNeg) ∧ (
          ¬ ((((18 * 0) + (3 * v1)) + (v3 / 360)) < 0 ∨ 54 ≤ (((18 * 0) + (3 * v1)) + (v3 / 360)).toNatClampNeg) ∧ (
          am_fin [(z_M_isClaimed, 0, [.ref 36, .int v1, .int (v3 / 360)], []), (z_M_claimBy, 58, [.ref 36, .int v1, .int v2, .int v3], [])] (hp L xs (upA A 47 (upd (A 47) (((18 * 0) + (3 * v1)) + (v3 / 360)).toNatClampNeg (((A 47) (((18 * 0) + (3 * v1)) + (v3 / 360)).toNatClampNeg) + 1))) V K T) v h'))))))) : am_fin [(z_M_claimBy, 22, [.ref 36, .int v1, .int v2, .int v3], [])] (hp L xs A V K T) v h' :=
  fn_iload_n rl_M_claimBy_22 rfl (fn_sipush rl_M_claimBy_23 (fn_icmp_ge rl_M_claimBy_26 (fun k1731 => fn_bipush rl_M_claimBy_69 (fn_reti rl_M_claimBy_71 rfl k1731)) (fun k1732 => fn_aload_n rl_M_claimBy_29 rfl (fn_get rl_M_claimBy_30 hp_36 rfl (fn_iload_n rl_M_claimBy_33 rfl (fn_iald rl_M_claimBy_34 hp_37 (fun k1730 => fn_iload_n rl_M_claimBy_35 rfl (fn_icmp_eq rl_M_claimBy_36 (fun k1728 => fn_aload_n rl_M_claimBy_49 rfl (fn_iload_n rl_M_claimBy_50 rfl (fn_iload_n rl_M_claimBy_51 rfl (fn_stat (as := [.int v3]) (r := [.int v1, .ref 36]) (ls' := [.int v3]) rl_M_claimBy_52 rfl rfl rfl rfl pl_M_yearOf rfl rfl (fn_iload_n rl_M_yearOf_0 rfl (fn_sipush rl_M_yearOf_1 (fn_idiv rl_M_yearOf_4 (by decide +kernel) (fn_retci rl_M_yearOf_5 rfl (fn_virt (as := [.ref 36, .int v1, .int (v3 / 360)]) (r := []) (ls' := [.ref 36, .int v1, .int (v3 / 360)]) rl_M_claimBy_55 rfl hp_36 rfl rfl pl_M_isClaimed rfl rfl (k1728)))))))))) (fun k1729 => fn_aload_n rl_M_claimBy_39 rfl (fn_iload_n rl_M_claimBy_40 rfl (fn_iload_n rl_M_claimBy_41 rfl (fn_stat (as := [.int v3]) (r := [.int v1, .ref 36]) (ls' := [.int v3]) rl_M_claimBy_42 rfl rfl rfl rfl pl_M_yearOf rfl rfl (fn_iload_n rl_M_yearOf_0 rfl (fn_sipush rl_M_yearOf_1 (fn_idiv rl_M_yearOf_4 (by decide +kernel) (fn_retci rl_M_yearOf_5 rfl (fn_iconst rl_M_claimBy_45 (fn_virt (as := [.ref 36, .int v1, .int (v3 / 360), .int 1]) (r := []) (ls' := [.ref 36, .int v1, .int (v3 / 360), .int 1]) rl_M_claimBy_46 rfl hp_36 rfl rfl pl_M_adds rfl rfl (fn_iload_n rl_M_adds_0 rfl (fn_iconst rl_M_adds_1 (fn_icmp_eq rl_M_adds_2 (fun k1726 => fn_retcv rl_M_adds_29 (fn_aload_n rl_M_claimBy_49 rfl (fn_iload_n rl_M_claimBy_50 rfl (fn_iload_n rl_M_claimBy_51 rfl (fn_stat (as := [.int v3]) (r := [.int v1, .ref 36]) (ls' := [.int v3]) rl_M_claimBy_52 rfl rfl rfl rfl pl_M_yearOf rfl rfl (fn_iload_n rl_M_yearOf_0 rfl (fn_sipush rl_M_yearOf_1 (fn_idiv rl_M_yearOf_4 (by decide +kernel) (fn_retci rl_M_yearOf_5 rfl (fn_virt (as := [.ref 36, .int v1, .int (v3 / 360)]) (r := []) (ls' := [.ref 36, .int v1, .int (v3 / 360)]) rl_M_claimBy_55 rfl hp_36 rfl rfl pl_M_isClaimed rfl rfl (k1726))))))))))) (fun k1727 => fn_aload_n rl_M_adds_5 rfl (fn_get rl_M_adds_6 hp_36 rfl (fn_iconst rl_M_adds_9 (fn_iload_n rl_M_adds_10 rfl (fn_iload_n rl_M_adds_11 rfl (fn_stat (as := [.int 0, .int v1, .int (v3 / 360)]) (r := [.ref 47]) (ls' := [.int 0, .int v1, .int (v3 / 360)]) rl_M_adds_12 rfl rfl rfl rfl pl_M_countAt rfl rfl (fn_bipush rl_M_countAt_0 (fn_iload_n rl_M_countAt_2 rfl (fn_imul rl_M_countAt_3 (fn_iconst rl_M_countAt_4 (fn_iload_n rl_M_countAt_5 rfl (fn_imul rl_M_countAt_6 (fn_iadd rl_M_countAt_7 (fn_iload_n rl_M_countAt_8 rfl (fn_iadd rl_M_countAt_9 (fn_retci rl_M_countAt_10 rfl (fn_aload_n rl_M_adds_15 rfl (fn_get rl_M_adds_16 hp_36 rfl (fn_iconst rl_M_adds_19 (fn_iload_n rl_M_adds_20 rfl (fn_iload_n rl_M_adds_21 rfl (fn_stat (as := [.int 0, .int v1, .int (v3 / 360)]) (r := [.ref 47, .int (((18 * 0) + (3 * v1)) + (v3 / 360)), .ref 47]) (ls' := [.int 0, .int v1, .int (v3 / 360)]) rl_M_adds_22 rfl rfl rfl rfl pl_M_countAt rfl rfl (fn_bipush rl_M_countAt_0 (fn_iload_n rl_M_countAt_2 rfl (fn_imul rl_M_countAt_3 (fn_iconst rl_M_countAt_4 (fn_iload_n rl_M_countAt_5 rfl (fn_imul rl_M_countAt_6 (fn_iadd rl_M_countAt_7 (fn_iload_n rl_M_countAt_8 rfl (fn_iadd rl_M_countAt_9 (fn_retci rl_M_countAt_10 rfl (fn_iald rl_M_adds_25 hp_47 (fun k1725 => fn_iload_n rl_M_adds_26 rfl (fn_iadd rl_M_adds_27 (fn_iast rl_M_adds_28 hp_47 hps_47 (fun k1724 => fn_retcv rl_M_adds_29 (fn_aload_n rl_M_claimBy_49 rfl (fn_iload_n rl_M_claimBy_50 rfl (fn_iload_n rl_M_claimBy_51 rfl (fn_stat (as := [.int v3]) (r := [.int v1, .ref 36]) (ls' := [.int v3]) rl_M_claimBy_52 rfl rfl rfl rfl pl_M_yearOf rfl rfl (fn_iload_n rl_M_yearOf_0 rfl (fn_sipush rl_M_yearOf_1 (fn_idiv rl_M_yearOf_4 (by decide +kernel) (fn_retci rl_M_yearOf_5 rfl (fn_virt (as := [.ref 36, .int v1, .int (v3 / 360)]) (r := []) (ls' := [.ref 36, .int v1, .int (v3 / 360)]) rl_M_claimBy_55 rfl hp_36 rfl rfl pl_M_isClaimed rfl rfl (k1724))))))))))) k1725))) k1727))))))))))))))))))))))))))))))))) k1729))))))))))))) k1730)) k1732)))) k0))
set_option maxRecDepth 100000 in
set_option maxHeartbeats 4000000 in
theorem sg_M_claimBy_58r {L : Nat} {xs : Nat → Int32} {A V : Nat → Nat → Int32} {K : Nat → Option Nat} {T : am_H} {v : Option Int32} {h' : am_H} {v1 v2 v3 r : Int32} (k0 :
    if r = 0 then (
      am_fin [(z_M_claimBy, 22, [.ref 36, .int v1, .int v2, .int (v3 + 1)], [])] (hp L xs A V K T) v h')
    else (
      v = some v3 ∧ h' = hp L xs A V K T)) : am_fin [(z_M_claimBy, 58, [.ref 36, .int v1, .int v2, .int v3], [.int r])] (hp L xs A V K T) v h' :=
  fn_if_eq rl_M_claimBy_58 (fun k1733 => fn_iinc (ls' := [.ref 36, .int v1, .int v2, .int (v3 + 1)]) rl_M_claimBy_63 rfl rfl rfl (fn_goto rl_M_claimBy_66 (k1733))) (fun k1734 => fn_iload_n rl_M_claimBy_61 rfl (fn_reti rl_M_claimBy_62 rfl k1734)) k0
set_option maxRecDepth 100000 in
set_option maxHeartbeats 4000000 in
theorem sg_M_freest_0 {L : Nat} {xs : Nat → Int32} {A V : Nat → Nat → Int32} {K : Nat → Option Nat} {T : am_H} {v : Option Int32} {h' : am_H} {a1 a2 a3 : Int32} (k0 :
    if (lg_cmp ((a1 : Int32).toInt64) ((0 : Int32).toInt64)) < 0 then (
      v = some (-1) ∧ h' = hp L xs A V K T)
    else (
      if 0 < (lg_cmp ((a1 : Int32).toInt64) ((1079 : Int32).toInt64)) then (
        v = some (-1) ∧ h' = hp L xs A V K T)
      else (
        if (lg_cmp ((a2 : Int32).toInt64) ((1 : Int32).toInt64)) < 0 then (
          v = some (-1) ∧ h' = hp L xs A V K T)
        else (
          if 0 < (lg_cmp ((a2 : Int32).toInt64) ((360 : Int32).toInt64)) then (
            v = some (-1) ∧ h' = hp L xs A V K T)
          else (
            if (lg_cmp ((a3 : Int32).toInt64) ((0 : Int32).toInt64)) < 0 then (
              v = some (-1) ∧ h' = hp L xs A V K T)
            else (
              if 0 < (lg_cmp ((a3 : Int32).toInt64) ((1 : Int32).toInt64)) then (
                v = some (-1) ∧ h' = hp L xs A V K T)
              else (
                am_fin [(z_M_freest, 35, [.ref 36, .int a1, .int a2, .int a3, .int (-1), .int (-1), .int 0, .null], [])] (hp L xs A V K T) v h'))))))) : am_fin [(z_M_freest, 0, [.ref 36, .int a1, .int a2, .int a3, .null, .null, .null, .null], [])] (hp L xs A V K T) v h' :=
  fn_iload_n rl_M_freest_0 rfl (fn_stat (as := [.int a1]) (r := []) (ls' := [.int a1]) rl_M_freest_1 rfl rfl rfl rfl pl_M_isDay rfl rfl (fn_iload_n rl_M_isDay_0 rfl (fn_i2l rl_M_isDay_1 (fn_lconst rl_M_isDay_2 (fn_ldc2_w rl_M_isDay_3 (fn_stat (as := [.long ((a1 : Int32).toInt64), .long ((0 : Int32).toInt64), .long ((1079 : Int32).toInt64)]) (r := []) (ls' := [.long ((a1 : Int32).toInt64), .null, .long ((0 : Int32).toInt64), .null, .long ((1079 : Int32).toInt64), .null]) rl_M_isDay_6 rfl rfl rfl rfl pl_M_in rfl rfl (fn_lload_n rl_M_in_0 rfl (fn_lload_n rl_M_in_1 rfl (fn_lcmp rl_M_in_2 (fn_if_lt rl_M_in_3 (fun k1745 => fn_iconst rl_M_in_17 (fn_retci rl_M_in_18 rfl (fn_retci rl_M_isDay_9 rfl (fn_if_eq_t rl_M_freest_4 (by decide +kernel) (fn_iconst rl_M_freest_24 (fn_reti rl_M_freest_25 rfl k1745)))))) (fun k1746 => fn_lload_n rl_M_in_6 rfl (fn_lload rl_M_in_7 rfl (fn_lcmp rl_M_in_9 (fn_if_gt rl_M_in_10 (fun k1743 => fn_iconst rl_M_in_17 (fn_retci rl_M_in_18 rfl (fn_retci rl_M_isDay_9 rfl (fn_if_eq_t rl_M_freest_4 (by decide +kernel) (fn_iconst rl_M_freest_24 (fn_reti rl_M_freest_25 rfl k1743)))))) (fun k1744 => fn_iconst rl_M_in_13 (fn_goto rl_M_in_14 (fn_retci rl_M_in_18 rfl (fn_retci rl_M_isDay_9 rfl (fn_if_eq_f rl_M_freest_4 (by decide +kernel) (fn_iload_n rl_M_freest_7 rfl (fn_stat (as := [.int a2]) (r := []) (ls' := [.int a2]) rl_M_freest_8 rfl rfl rfl rfl pl_M_isSpan rfl rfl (fn_iload_n rl_M_isSpan_0 rfl (fn_i2l rl_M_isSpan_1 (fn_lconst rl_M_isSpan_2 (fn_ldc2_w rl_M_isSpan_3 (fn_stat (as := [.long ((a2 : Int32).toInt64), .long ((1 : Int32).toInt64), .long ((360 : Int32).toInt64)]) (r := []) (ls' := [.long ((a2 : Int32).toInt64), .null, .long ((1 : Int32).toInt64), .null, .long ((360 : Int32).toInt64), .null]) rl_M_isSpan_6 rfl rfl rfl rfl pl_M_in rfl rfl (fn_lload_n rl_M_in_0 rfl (fn_lload_n rl_M_in_1 rfl (fn_lcmp rl_M_in_2 (fn_if_lt rl_M_in_3 (fun k1741 => fn_iconst rl_M_in_17 (fn_retci rl_M_in_18 rfl (fn_retci rl_M_isSpan_9 rfl (fn_if_eq_t rl_M_freest_11 (by decide +kernel) (fn_iconst rl_M_freest_24 (fn_reti rl_M_freest_25 rfl k1741)))))) (fun k1742 => fn_lload_n rl_M_in_6 rfl (fn_lload rl_M_in_7 rfl (fn_lcmp rl_M_in_9 (fn_if_gt rl_M_in_10 (fun k1739 => fn_iconst rl_M_in_17 (fn_retci rl_M_in_18 rfl (fn_retci rl_M_isSpan_9 rfl (fn_if_eq_t rl_M_freest_11 (by decide +kernel) (fn_iconst rl_M_freest_24 (fn_reti rl_M_freest_25 rfl k1739)))))) (fun k1740 => fn_iconst rl_M_in_13 (fn_goto rl_M_in_14 (fn_retci rl_M_in_18 rfl (fn_retci rl_M_isSpan_9 rfl (fn_if_eq_f rl_M_freest_11 (by decide +kernel) (fn_iload_n rl_M_freest_14 rfl (fn_i2l rl_M_freest_15 (fn_lconst rl_M_freest_16 (fn_lconst rl_M_freest_17 (fn_stat (as := [.long ((a3 : Int32).toInt64), .long ((0 : Int32).toInt64), .long ((1 : Int32).toInt64)]) (r := []) (ls' := [.long ((a3 : Int32).toInt64), .null, .long ((0 : Int32).toInt64), .null, .long ((1 : Int32).toInt64), .null]) rl_M_freest_18 rfl rfl rfl rfl pl_M_in rfl rfl (fn_lload_n rl_M_in_0 rfl (fn_lload_n rl_M_in_1 rfl (fn_lcmp rl_M_in_2 (fn_if_lt rl_M_in_3 (fun k1737 => fn_iconst rl_M_in_17 (fn_retci rl_M_in_18 rfl (fn_if_ne_t rl_M_freest_21 (by decide +kernel) (fn_iconst rl_M_freest_24 (fn_reti rl_M_freest_25 rfl k1737))))) (fun k1738 => fn_lload_n rl_M_in_6 rfl (fn_lload rl_M_in_7 rfl (fn_lcmp rl_M_in_9 (fn_if_gt rl_M_in_10 (fun k1735 => fn_iconst rl_M_in_17 (fn_retci rl_M_in_18 rfl (fn_if_ne_t rl_M_freest_21 (by decide +kernel) (fn_iconst rl_M_freest_24 (fn_reti rl_M_freest_25 rfl k1735))))) (fun k1736 => fn_iconst rl_M_in_13 (fn_goto rl_M_in_14 (fn_retci rl_M_in_18 rfl (fn_if_ne_f rl_M_freest_21 (by decide +kernel) (fn_iconst rl_M_freest_26 (fn_istore (ls' := [.ref 36, .int a1, .int a2, .int a3, .int (-1), .null, .null, .null]) rl_M_freest_27 rfl rfl (fn_iconst rl_M_freest_29 (fn_istore (ls' := [.ref 36, .int a1, .int a2, .int a3, .int (-1), .int (-1), .null, .null]) rl_M_freest_30 rfl rfl (fn_iconst rl_M_freest_32 (fn_istore (ls' := [.ref 36, .int a1, .int a2, .int a3, .int (-1), .int (-1), .int 0, .null]) rl_M_freest_33 rfl rfl (k1736))))))))))) k1738)))) k1740)))))))))))))) k1742)))) k1744)))))))))))))))) k1746)))) k0))))))))))
set_option maxRecDepth 100000 in
set_option maxHeartbeats 4000000 in
theorem sg_M_freest_35 {L : Nat} {xs : Nat → Int32} {A V : Nat → Nat → Int32} {K : Nat → Option Nat} {T : am_H} {v : Option Int32} {h' : am_H} {v1 v2 v3 v4 v5 v6 : Int32} (k0 :
    if 6 ≤ v6 then (
      if v3 = 0 then (
        v = some v4 ∧ h' = hp L xs A V K T)
      else (
        v = some v5 ∧ h' = hp L xs A V K T))
    else (
      am_fin [(z_M_freeOf, 0, [.ref 36, .int v6, .int v1, .int v2, .null, .null, .null, .null, .null], []), (z_M_freest, 50, [.ref 36, .int v1, .int v2, .int v3, .int v4, .int v5, .int v6, .null], [])] (hp L xs A V K T) v h')) : am_fin [(z_M_freest, 35, [.ref 36, .int v1, .int v2, .int v3, .int v4, .int v5, .int v6, .null], [])] (hp L xs A V K T) v h' :=
  fn_iload rl_M_freest_35 rfl (fn_bipush rl_M_freest_37 (fn_icmp_ge rl_M_freest_39 (fun k1749 => fn_iload_n rl_M_freest_76 rfl (fn_if_ne rl_M_freest_77 (fun k1747 => fn_iload rl_M_freest_80 rfl (fn_goto rl_M_freest_82 (fn_reti rl_M_freest_87 rfl k1747))) (fun k1748 => fn_iload rl_M_freest_85 rfl (fn_reti rl_M_freest_87 rfl k1748)) k1749)) (fun k1750 => fn_aload_n rl_M_freest_42 rfl (fn_iload rl_M_freest_43 rfl (fn_iload_n rl_M_freest_45 rfl (fn_iload_n rl_M_freest_46 rfl (fn_virt (as := [.ref 36, .int v6, .int v1, .int v2]) (r := []) (ls' := [.ref 36, .int v6, .int v1, .int v2, .null, .null, .null, .null, .null]) rl_M_freest_47 rfl hp_36 rfl rfl pl_M_freeOf rfl rfl (k1750)))))) k0))
set_option maxRecDepth 100000 in
set_option maxHeartbeats 4000000 in
theorem sg_M_freest_50r {L : Nat} {xs : Nat → Int32} {A V : Nat → Nat → Int32} {K : Nat → Option Nat} {T : am_H} {v : Option Int32} {h' : am_H} {v1 v2 v3 v4 v5 v6 r : Int32} (k0 :
    if v5 < r then (
      am_fin [(z_M_freest, 35, [.ref 36, .int v1, .int v2, .int v3, .int v6, .int r, .int (v6 + 1), .int r], [])] (hp L xs A V K T) v h')
    else (
      am_fin [(z_M_freest, 35, [.ref 36, .int v1, .int v2, .int v3, .int v4, .int v5, .int (v6 + 1), .int r], [])] (hp L xs A V K T) v h')) : am_fin [(z_M_freest, 50, [.ref 36, .int v1, .int v2, .int v3, .int v4, .int v5, .int v6, .null], [.int r])] (hp L xs A V K T) v h' :=
  fn_istore (ls' := [.ref 36, .int v1, .int v2, .int v3, .int v4, .int v5, .int v6, .int r]) rl_M_freest_50 rfl rfl (fn_iload rl_M_freest_52 rfl (fn_iload rl_M_freest_54 rfl (fn_icmp_gt rl_M_freest_56 (fun k1751 => fn_iload rl_M_freest_62 rfl (fn_istore (ls' := [.ref 36, .int v1, .int v2, .int v3, .int v6, .int v5, .int v6, .int r]) rl_M_freest_64 rfl rfl (fn_iload rl_M_freest_66 rfl (fn_istore (ls' := [.ref 36, .int v1, .int v2, .int v3, .int v6, .int r, .int v6, .int r]) rl_M_freest_68 rfl rfl (fn_iinc (ls' := [.ref 36, .int v1, .int v2, .int v3, .int v6, .int r, .int (v6 + 1), .int r]) rl_M_freest_70 rfl rfl rfl (fn_goto rl_M_freest_73 (k1751))))))) (fun k1752 => fn_goto rl_M_freest_59 (fn_iinc (ls' := [.ref 36, .int v1, .int v2, .int v3, .int v4, .int v5, .int (v6 + 1), .int r]) rl_M_freest_70 rfl rfl rfl (fn_goto rl_M_freest_73 (k1752)))) k0)))
set_option maxRecDepth 100000 in
set_option maxHeartbeats 4000000 in
theorem sg_M_need_0 {L : Nat} {xs : Nat → Int32} {A V : Nat → Nat → Int32} {K : Nat → Option Nat} {T : am_H} {v : Option Int32} {h' : am_H} {a1 a2 : Int32} (k0 :
    if (lg_cmp ((a1 : Int32).toInt64) ((0 : Int32).toInt64)) < 0 then (
      v = some (-1) ∧ h' = hp L xs A V K T)
    else (
      if 0 < (lg_cmp ((a1 : Int32).toInt64) ((5 : Int32).toInt64)) then (
        v = some (-1) ∧ h' = hp L xs A V K T)
      else (
        if (lg_cmp ((a2 : Int32).toInt64) ((0 : Int32).toInt64)) < 0 then (
          v = some (-1) ∧ h' = hp L xs A V K T)
        else (
          if 0 < (lg_cmp ((a2 : Int32).toInt64) ((2 : Int32).toInt64)) then (
            v = some (-1) ∧ h' = hp L xs A V K T)
          else (
            am_fin [(z_M_laysCounts, 0, [.ref 36, .null, .null, .null], []), (z_M_need, 20, [.ref 36, .int a1, .int a2], [])] (hp L xs A V K T) v h'))))) : am_fin [(z_M_need, 0, [.ref 36, .int a1, .int a2], [])] (hp L xs A V K T) v h' :=
  fn_iload_n rl_M_need_0 rfl (fn_stat (as := [.int a1]) (r := []) (ls' := [.int a1]) rl_M_need_1 rfl rfl rfl rfl pl_M_isLand rfl rfl (fn_iload_n rl_M_isLand_0 rfl (fn_i2l rl_M_isLand_1 (fn_lconst rl_M_isLand_2 (fn_ldc2_w rl_M_isLand_3 (fn_stat (as := [.long ((a1 : Int32).toInt64), .long ((0 : Int32).toInt64), .long ((5 : Int32).toInt64)]) (r := []) (ls' := [.long ((a1 : Int32).toInt64), .null, .long ((0 : Int32).toInt64), .null, .long ((5 : Int32).toInt64), .null]) rl_M_isLand_6 rfl rfl rfl rfl pl_M_in rfl rfl (fn_lload_n rl_M_in_0 rfl (fn_lload_n rl_M_in_1 rfl (fn_lcmp rl_M_in_2 (fn_if_lt rl_M_in_3 (fun k1759 => fn_iconst rl_M_in_17 (fn_retci rl_M_in_18 rfl (fn_retci rl_M_isLand_9 rfl (fn_if_eq_t rl_M_need_4 (by decide +kernel) (fn_iconst rl_M_need_14 (fn_reti rl_M_need_15 rfl k1759)))))) (fun k1760 => fn_lload_n rl_M_in_6 rfl (fn_lload rl_M_in_7 rfl (fn_lcmp rl_M_in_9 (fn_if_gt rl_M_in_10 (fun k1757 => fn_iconst rl_M_in_17 (fn_retci rl_M_in_18 rfl (fn_retci rl_M_isLand_9 rfl (fn_if_eq_t rl_M_need_4 (by decide +kernel) (fn_iconst rl_M_need_14 (fn_reti rl_M_need_15 rfl k1757)))))) (fun k1758 => fn_iconst rl_M_in_13 (fn_goto rl_M_in_14 (fn_retci rl_M_in_18 rfl (fn_retci rl_M_isLand_9 rfl (fn_if_eq_f rl_M_need_4 (by decide +kernel) (fn_iload_n rl_M_need_7 rfl (fn_stat (as := [.int a2]) (r := []) (ls' := [.int a2]) rl_M_need_8 rfl rfl rfl rfl pl_M_isYear rfl rfl (fn_iload_n rl_M_isYear_0 rfl (fn_i2l rl_M_isYear_1 (fn_lconst rl_M_isYear_2 (fn_ldc2_w rl_M_isYear_3 (fn_stat (as := [.long ((a2 : Int32).toInt64), .long ((0 : Int32).toInt64), .long ((2 : Int32).toInt64)]) (r := []) (ls' := [.long ((a2 : Int32).toInt64), .null, .long ((0 : Int32).toInt64), .null, .long ((2 : Int32).toInt64), .null]) rl_M_isYear_6 rfl rfl rfl rfl pl_M_in rfl rfl (fn_lload_n rl_M_in_0 rfl (fn_lload_n rl_M_in_1 rfl (fn_lcmp rl_M_in_2 (fn_if_lt rl_M_in_3 (fun k1755 => fn_iconst rl_M_in_17 (fn_retci rl_M_in_18 rfl (fn_retci rl_M_isYear_9 rfl (fn_if_ne_t rl_M_need_11 (by decide +kernel) (fn_iconst rl_M_need_14 (fn_reti rl_M_need_15 rfl k1755)))))) (fun k1756 => fn_lload_n rl_M_in_6 rfl (fn_lload rl_M_in_7 rfl (fn_lcmp rl_M_in_9 (fn_if_gt rl_M_in_10 (fun k1753 => fn_iconst rl_M_in_17 (fn_retci rl_M_in_18 rfl (fn_retci rl_M_isYear_9 rfl (fn_if_ne_t rl_M_need_11 (by decide +kernel) (fn_iconst rl_M_need_14 (fn_reti rl_M_need_15 rfl k1753)))))) (fun k1754 => fn_iconst rl_M_in_13 (fn_goto rl_M_in_14 (fn_retci rl_M_in_18 rfl (fn_retci rl_M_isYear_9 rfl (fn_if_ne_f rl_M_need_11 (by decide +kernel) (fn_aload_n rl_M_need_16 rfl (fn_virt (as := [.ref 36]) (r := []) (ls' := [.ref 36, .null, .null, .null]) rl_M_need_17 rfl hp_36 rfl rfl pl_M_laysCounts rfl rfl (k1754)))))))) k1756)))) k1758)))))))))))))))) k1760)))) k0))))))))))
set_option maxRecDepth 100000 in
set_option maxHeartbeats 4000000 in
theorem sg_M_need_20r {L : Nat} {xs : Nat → Int32} {A V : Nat → Nat → Int32} {K : Nat → Option Nat} {T : am_H} {v : Option Int32} {h' : am_H} {v1 v2 : Int32} (k0 :
    am_fin [(z_M_needs, 0, [.ref 36, .int v1, .int v2, .null, .null, .null], []), (z_M_need, 26, [.ref 36, .int v1, .int v2], [])] (hp L xs A V K T) v h') : am_fin [(z_M_need, 20, [.ref 36, .int v1, .int v2], [])] (hp L xs A V K T) v h' :=
  fn_aload_n rl_M_need_20 rfl (fn_iload_n rl_M_need_21 rfl (fn_iload_n rl_M_need_22 rfl (fn_virt (as := [.ref 36, .int v1, .int v2]) (r := []) (ls' := [.ref 36, .int v1, .int v2, .null, .null, .null]) rl_M_need_23 rfl hp_36 rfl rfl pl_M_needs rfl rfl (k0))))
set_option maxRecDepth 100000 in
set_option maxHeartbeats 4000000 in
theorem sg_M_need_26r {L : Nat} {xs : Nat → Int32} {A V : Nat → Nat → Int32} {K : Nat → Option Nat} {T : am_H} {v : Option Int32} {h' : am_H} {v1 v2 r : Int32} (k0 :
    v = some r ∧ h' = hp L xs A V K T) : am_fin [(z_M_need, 26, [.ref 36, .int v1, .int v2], [.int r])] (hp L xs A V K T) v h' :=
  fn_reti rl_M_need_26 rfl k0
set_option maxRecDepth 100000 in
set_option maxHeartbeats 4000000 in
theorem sg_M_moved_0 {L : Nat} {xs : Nat → Int32} {A V : Nat → Nat → Int32} {K : Nat → Option Nat} {T : am_H} {v : Option Int32} {h' : am_H} {a1 a2 : Int32} (k0 :
    if (lg_cmp ((a1 : Int32).toInt64) ((0 : Int32).toInt64)) < 0 then (
      v = some (-1) ∧ h' = hp L xs A V K T)
    else (
      if 0 < (lg_cmp ((a1 : Int32).toInt64) ((1079 : Int32).toInt64)) then (
        v = some (-1) ∧ h' = hp L xs A V K T)
      else (
        if (lg_cmp ((a2 : Int32).toInt64) (((-1) : Int32).toInt64)) < 0 then (
          v = some (-1) ∧ h' = hp L xs A V K T)
        else (
          if 0 < (lg_cmp ((a2 : Int32).toInt64) ((5 : Int32).toInt64)) then (
            v = some (-1) ∧ h' = hp L xs A V K T)
          else (
            am_fin [(z_M_laysCounts, 0, [.ref 36, .null, .null, .null], []), (z_M_moved, 20, [.ref 36, .int a1, .int a2], [])] (hp L xs A V K T) v h'))))) : am_fin [(z_M_moved, 0, [.ref 36, .int a1, .int a2], [])] (hp L xs A V K T) v h' :=
  fn_iload_n rl_M_moved_0 rfl (fn_stat (as := [.int a1]) (r := []) (ls' := [.int a1]) rl_M_moved_1 rfl rfl rfl rfl pl_M_isDay rfl rfl (fn_iload_n rl_M_isDay_0 rfl (fn_i2l rl_M_isDay_1 (fn_lconst rl_M_isDay_2 (fn_ldc2_w rl_M_isDay_3 (fn_stat (as := [.long ((a1 : Int32).toInt64), .long ((0 : Int32).toInt64), .long ((1079 : Int32).toInt64)]) (r := []) (ls' := [.long ((a1 : Int32).toInt64), .null, .long ((0 : Int32).toInt64), .null, .long ((1079 : Int32).toInt64), .null]) rl_M_isDay_6 rfl rfl rfl rfl pl_M_in rfl rfl (fn_lload_n rl_M_in_0 rfl (fn_lload_n rl_M_in_1 rfl (fn_lcmp rl_M_in_2 (fn_if_lt rl_M_in_3 (fun k1767 => fn_iconst rl_M_in_17 (fn_retci rl_M_in_18 rfl (fn_retci rl_M_isDay_9 rfl (fn_if_eq_t rl_M_moved_4 (by decide +kernel) (fn_iconst rl_M_moved_14 (fn_reti rl_M_moved_15 rfl k1767)))))) (fun k1768 => fn_lload_n rl_M_in_6 rfl (fn_lload rl_M_in_7 rfl (fn_lcmp rl_M_in_9 (fn_if_gt rl_M_in_10 (fun k1765 => fn_iconst rl_M_in_17 (fn_retci rl_M_in_18 rfl (fn_retci rl_M_isDay_9 rfl (fn_if_eq_t rl_M_moved_4 (by decide +kernel) (fn_iconst rl_M_moved_14 (fn_reti rl_M_moved_15 rfl k1765)))))) (fun k1766 => fn_iconst rl_M_in_13 (fn_goto rl_M_in_14 (fn_retci rl_M_in_18 rfl (fn_retci rl_M_isDay_9 rfl (fn_if_eq_f rl_M_moved_4 (by decide +kernel) (fn_iload_n rl_M_moved_7 rfl (fn_stat (as := [.int a2]) (r := []) (ls' := [.int a2]) rl_M_moved_8 rfl rfl rfl rfl pl_M_isPlace rfl rfl (fn_iload_n rl_M_isPlace_0 rfl (fn_i2l rl_M_isPlace_1 (fn_ldc2_w rl_M_isPlace_2 (fn_ldc2_w rl_M_isPlace_5 (fn_stat (as := [.long ((a2 : Int32).toInt64), .long (((-1) : Int32).toInt64), .long ((5 : Int32).toInt64)]) (r := []) (ls' := [.long ((a2 : Int32).toInt64), .null, .long (((-1) : Int32).toInt64), .null, .long ((5 : Int32).toInt64), .null]) rl_M_isPlace_8 rfl rfl rfl rfl pl_M_in rfl rfl (fn_lload_n rl_M_in_0 rfl (fn_lload_n rl_M_in_1 rfl (fn_lcmp rl_M_in_2 (fn_if_lt rl_M_in_3 (fun k1763 => fn_iconst rl_M_in_17 (fn_retci rl_M_in_18 rfl (fn_retci rl_M_isPlace_11 rfl (fn_if_ne_t rl_M_moved_11 (by decide +kernel) (fn_iconst rl_M_moved_14 (fn_reti rl_M_moved_15 rfl k1763)))))) (fun k1764 => fn_lload_n rl_M_in_6 rfl (fn_lload rl_M_in_7 rfl (fn_lcmp rl_M_in_9 (fn_if_gt rl_M_in_10 (fun k1761 => fn_iconst rl_M_in_17 (fn_retci rl_M_in_18 rfl (fn_retci rl_M_isPlace_11 rfl (fn_if_ne_t rl_M_moved_11 (by decide +kernel) (fn_iconst rl_M_moved_14 (fn_reti rl_M_moved_15 rfl k1761)))))) (fun k1762 => fn_iconst rl_M_in_13 (fn_goto rl_M_in_14 (fn_retci rl_M_in_18 rfl (fn_retci rl_M_isPlace_11 rfl (fn_if_ne_f rl_M_moved_11 (by decide +kernel) (fn_aload_n rl_M_moved_16 rfl (fn_virt (as := [.ref 36]) (r := []) (ls' := [.ref 36, .null, .null, .null]) rl_M_moved_17 rfl hp_36 rfl rfl pl_M_laysCounts rfl rfl (k1762)))))))) k1764)))) k1766)))))))))))))))) k1768)))) k0))))))))))
set_option maxRecDepth 100000 in
set_option maxHeartbeats 4000000 in
theorem sg_M_moved_20r {L : Nat} {xs : Nat → Int32} {A V : Nat → Nat → Int32} {K : Nat → Option Nat} {T : am_H} {v : Option Int32} {h' : am_H} {v1 v2 : Int32} (k0 :
    am_fin [(z_M_livesBy, 0, [.ref 36, .int v1, .int v2, .null, .null], []), (z_M_moved, 26, [.ref 36, .int v1, .int v2], [])] (hp L xs A V K T) v h') : am_fin [(z_M_moved, 20, [.ref 36, .int v1, .int v2], [])] (hp L xs A V K T) v h' :=
  fn_aload_n rl_M_moved_20 rfl (fn_iload_n rl_M_moved_21 rfl (fn_iload_n rl_M_moved_22 rfl (fn_virt (as := [.ref 36, .int v1, .int v2]) (r := []) (ls' := [.ref 36, .int v1, .int v2, .null, .null]) rl_M_moved_23 rfl hp_36 rfl rfl pl_M_livesBy rfl rfl (k0))))
set_option maxRecDepth 100000 in
set_option maxHeartbeats 4000000 in
theorem sg_M_moved_26r {L : Nat} {xs : Nat → Int32} {A V : Nat → Nat → Int32} {K : Nat → Option Nat} {T : am_H} {v : Option Int32} {h' : am_H} {v1 v2 r : Int32} (k0 :
    v = some r ∧ h' = hp L xs A V K T) : am_fin [(z_M_moved, 26, [.ref 36, .int v1, .int v2], [.int r])] (hp L xs A V K T) v h' :=
  fn_reti rl_M_moved_26 rfl k0
set_option maxRecDepth 100000 in
set_option maxHeartbeats 4000000 in
theorem sg_M_loose_0 {L : Nat} {xs : Nat → Int32} {A V : Nat → Nat → Int32} {K : Nat → Option Nat} {T : am_H} {v : Option Int32} {h' : am_H} {a1 a2 : Int32} (k0 :
    if (lg_cmp ((a1 : Int32).toInt64) ((0 : Int32).toInt64)) < 0 then (
      v = some (-1) ∧ h' = hp L xs A V K T)
    else (
      if 0 < (lg_cmp ((a1 : Int32).toInt64) ((2 : Int32).toInt64)) then (
        v = some (-1) ∧ h' = hp L xs A V K T)
      else (
        if (lg_cmp ((a2 : Int32).toInt64) ((0 : Int32).toInt64)) < 0 then (
          v = some (-1) ∧ h' = hp L xs A V K T)
        else (
          if 0 < (lg_cmp ((a2 : Int32).toInt64) ((1 : Int32).toInt64)) then (
            v = some (-1) ∧ h' = hp L xs A V K T)
          else (
            am_fin [(z_M_laysCounts, 0, [.ref 36, .null, .null, .null], []), (z_M_loose, 23, [.ref 36, .int a1, .int a2, .null, .null, .null, .null, .null], [])] (hp L xs A V K T) v h'))))) : am_fin [(z_M_loose, 0, [.ref 36, .int a1, .int a2, .null, .null, .null, .null, .null], [])] (hp L xs A V K T) v h' :=
  fn_iload_n rl_M_loose_0 rfl (fn_stat (as := [.int a1]) (r := []) (ls' := [.int a1]) rl_M_loose_1 rfl rfl rfl rfl pl_M_isYear rfl rfl (fn_iload_n rl_M_isYear_0 rfl (fn_i2l rl_M_isYear_1 (fn_lconst rl_M_isYear_2 (fn_ldc2_w rl_M_isYear_3 (fn_stat (as := [.long ((a1 : Int32).toInt64), .long ((0 : Int32).toInt64), .long ((2 : Int32).toInt64)]) (r := []) (ls' := [.long ((a1 : Int32).toInt64), .null, .long ((0 : Int32).toInt64), .null, .long ((2 : Int32).toInt64), .null]) rl_M_isYear_6 rfl rfl rfl rfl pl_M_in rfl rfl (fn_lload_n rl_M_in_0 rfl (fn_lload_n rl_M_in_1 rfl (fn_lcmp rl_M_in_2 (fn_if_lt rl_M_in_3 (fun k1775 => fn_iconst rl_M_in_17 (fn_retci rl_M_in_18 rfl (fn_retci rl_M_isYear_9 rfl (fn_if_eq_t rl_M_loose_4 (by decide +kernel) (fn_iconst rl_M_loose_17 (fn_reti rl_M_loose_18 rfl k1775)))))) (fun k1776 => fn_lload_n rl_M_in_6 rfl (fn_lload rl_M_in_7 rfl (fn_lcmp rl_M_in_9 (fn_if_gt rl_M_in_10 (fun k1773 => fn_iconst rl_M_in_17 (fn_retci rl_M_in_18 rfl (fn_retci rl_M_isYear_9 rfl (fn_if_eq_t rl_M_loose_4 (by decide +kernel) (fn_iconst rl_M_loose_17 (fn_reti rl_M_loose_18 rfl k1773)))))) (fun k1774 => fn_iconst rl_M_in_13 (fn_goto rl_M_in_14 (fn_retci rl_M_in_18 rfl (fn_retci rl_M_isYear_9 rfl (fn_if_eq_f rl_M_loose_4 (by decide +kernel) (fn_iload_n rl_M_loose_7 rfl (fn_i2l rl_M_loose_8 (fn_lconst rl_M_loose_9 (fn_lconst rl_M_loose_10 (fn_stat (as := [.long ((a2 : Int32).toInt64), .long ((0 : Int32).toInt64), .long ((1 : Int32).toInt64)]) (r := []) (ls' := [.long ((a2 : Int32).toInt64), .null, .long ((0 : Int32).toInt64), .null, .long ((1 : Int32).toInt64), .null]) rl_M_loose_11 rfl rfl rfl rfl pl_M_in rfl rfl (fn_lload_n rl_M_in_0 rfl (fn_lload_n rl_M_in_1 rfl (fn_lcmp rl_M_in_2 (fn_if_lt rl_M_in_3 (fun k1771 => fn_iconst rl_M_in_17 (fn_retci rl_M_in_18 rfl (fn_if_ne_t rl_M_loose_14 (by decide +kernel) (fn_iconst rl_M_loose_17 (fn_reti rl_M_loose_18 rfl k1771))))) (fun k1772 => fn_lload_n rl_M_in_6 rfl (fn_lload rl_M_in_7 rfl (fn_lcmp rl_M_in_9 (fn_if_gt rl_M_in_10 (fun k1769 => fn_iconst rl_M_in_17 (fn_retci rl_M_in_18 rfl (fn_if_ne_t rl_M_loose_14 (by decide +kernel) (fn_iconst rl_M_loose_17 (fn_reti rl_M_loose_18 rfl k1769))))) (fun k1770 => fn_iconst rl_M_in_13 (fn_goto rl_M_in_14 (fn_retci rl_M_in_18 rfl (fn_if_ne_f rl_M_loose_14 (by decide +kernel) (fn_aload_n rl_M_loose_19 rfl (fn_virt (as := [.ref 36]) (r := []) (ls' := [.ref 36, .null, .null, .null]) rl_M_loose_20 rfl hp_36 rfl rfl pl_M_laysCounts rfl rfl (k1770))))))) k1772)))) k1774)))))))))))))) k1776)))) k0))))))))))
set_option maxRecDepth 100000 in
set_option maxHeartbeats 4000000 in
theorem sg_M_loose_23r {L : Nat} {xs : Nat → Int32} {A V : Nat → Nat → Int32} {K : Nat → Option Nat} {T : am_H} {v : Option Int32} {h' : am_H} {v1 v2 : Int32} (k0 :
    am_fin [(z_M_livesNow, 0, [.ref 36, .int v1, .null, .null, .null, .null], []), (z_M_loose, 28, [.ref 36, .int v1, .int v2, .null, .null, .null, .null, .null], [])] (hp L xs A V K T) v h') : am_fin [(z_M_loose, 23, [.ref 36, .int v1, .int v2, .null, .null, .null, .null, .null], [])] (hp L xs A V K T) v h' :=
  fn_aload_n rl_M_loose_23 rfl (fn_iload_n rl_M_loose_24 rfl (fn_virt (as := [.ref 36, .int v1]) (r := []) (ls' := [.ref 36, .int v1, .null, .null, .null, .null]) rl_M_loose_25 rfl hp_36 rfl rfl pl_M_livesNow rfl rfl (k0)))
set_option maxRecDepth 100000 in
set_option maxHeartbeats 4000000 in
theorem sg_M_loose_28r {L : Nat} {xs : Nat → Int32} {A V : Nat → Nat → Int32} {K : Nat → Option Nat} {T : am_H} {v : Option Int32} {h' : am_H} {v1 v2 r : Int32} (k0 :
    am_fin [(z_M_loose, 32, [.ref 36, .int v1, .int v2, .int r, .int 0, .null, .null, .null], [])] (hp L xs A V K T) v h') : am_fin [(z_M_loose, 28, [.ref 36, .int v1, .int v2, .null, .null, .null, .null, .null], [.int r])] (hp L xs A V K T) v h' :=
  fn_istore_n (ls' := [.ref 36, .int v1, .int v2, .int r, .null, .null, .null, .null]) rl_M_loose_28 rfl rfl (fn_iconst rl_M_loose_29 (fn_istore (ls' := [.ref 36, .int v1, .int v2, .int r, .int 0, .null, .null, .null]) rl_M_loose_30 rfl rfl (k0)))
set_option maxRecDepth 100000 in
set_option maxHeartbeats 4000000 in
theorem sg_M_loose_32 {L : Nat} {xs : Nat → Int32} {A V : Nat → Nat → Int32} {K : Nat → Option Nat} {T : am_H} {v : Option Int32} {h' : am_H} {v1 v2 v3 v4 : Int32} (k0 :
    if 7 ≤ v4 then (
      am_fin [(z_M_loose, 67, [.ref 36, .int v1, .int v2, .int v3, .int 0, .int (-2), .int (360 * v1), .null], [])] (hp L xs A V K T) v h')
    else (
      ¬ (v4 < 0 ∨ 7 ≤ v4.toNatClampNeg) ∧ (
      am_fin [(z_M_loose, 32, [.ref 36, .int v1, .int v2, .int v3, .int (v4 + 1), .null, .null, .null], [])] (hp L xs (upA A 49 (upd (A 49) v4.toNatClampNeg 0)) V K T) v h'))) : am_fin [(z_M_loose, 32, [.ref 36, .int v1, .int v2, .int v3, .int v4, .null, .null, .null], [])] (hp L xs A V K T) v h' :=
  fn_iload rl_M_loose_32 rfl (fn_bipush rl_M_loose_34 (fn_icmp_ge rl_M_loose_36 (fun k1778 => fn_iconst rl_M_loose_53 (fn_istore (ls' := [.ref 36, .int v1, .int v2, .int v3, .int 0, .null, .null, .null]) rl_M_loose_54 rfl rfl (fn_bipush rl_M_loose_56 (fn_istore (ls' := [.ref 36, .int v1, .int v2, .int v3, .int 0, .int (-2), .null, .null]) rl_M_loose_58 rfl rfl (fn_sipush rl_M_loose_60 (fn_iload_n rl_M_loose_63 rfl (fn_imul rl_M_loose_64 (fn_istore (ls' := [.ref 36, .int v1, .int v2, .int v3, .int 0, .int (-2), .int (360 * v1), .null]) rl_M_loose_65 rfl rfl (k1778))))))))) (fun k1779 => fn_aload_n rl_M_loose_39 rfl (fn_get rl_M_loose_40 hp_36 rfl (fn_iload rl_M_loose_43 rfl (fn_iconst rl_M_loose_45 (fn_iast rl_M_loose_46 hp_49 hps_49 (fun k1777 => fn_iinc (ls' := [.ref 36, .int v1, .int v2, .int v3, .int (v4 + 1), .null, .null, .null]) rl_M_loose_47 rfl rfl rfl (fn_goto rl_M_loose_50 (k1777))) k1779))))) k0))
set_option maxRecDepth 100000 in
set_option maxHeartbeats 4000000 in
theorem sg_M_loose_67 {L : Nat} {xs : Nat → Int32} {A V : Nat → Nat → Int32} {K : Nat → Option Nat} {T : am_H} {v : Option Int32} {h' : am_H} {v1 v2 v3 v4 v5 v6 : Int32} (k0 :
    if ((360 * v1) + 360) ≤ v6 then (
      if v2 = 0 then (
        v = some v4 ∧ h' = hp L xs A V K T)
      else (
        v = some v5 ∧ h' = hp L xs A V K T))
    else (
      ¬ (v6 < 0 ∨ 1080 ≤ v6.toNatClampNeg) ∧ (
      ¬ ((((A 37) v6.toNatClampNeg) + 1) < 0 ∨ 7 ≤ (((A 37) v6.toNatClampNeg) + 1).toNatClampNeg) ∧ (
      if ((A 49) (((A 37) v6.toNatClampNeg) + 1).toNatClampNeg) = 0 then (
        am_fin [(z_M_loosens, 0, [.ref 36, .int v6, .int v3, .null], []), (z_M_loose, 115, [.ref 36, .int v1, .int v2, .int v3, .int v4, .int v5, .int v6, .int (((A 37) v6.toNatClampNeg) + 1)], [.int (((A 37) v6.toNatClampNeg) + 1), .ref 49])] (hp L xs A V K T) v h')
      else (
        ¬ ((((A 37) v6.toNatClampNeg) + 1) < 0 ∨ 7 ≤ (((A 37) v6.toNatClampNeg) + 1).toNatClampNeg) ∧ (
        if ((A 49) (((A 37) v6.toNatClampNeg) + 1).toNatClampNeg) = 1 then (
          am_fin [(z_M_loose, 67, [.ref 36, .int v1, .int v2, .int v3, .int v4, .int v5, .int (v6 + 1), .int (((A 37) v6.toNatClampNeg) + 1)], [])] (hp L xs A V K T) v h')
        else (
          if v4 = 0 then (
            am_fin [(z_M_loose, 67, [.ref 36, .int v1, .int v2, .int v3, .int (v4 + 1), .int v6, .int (v6 + 1), .int (((A 37) v6.toNatClampNeg) + 1)], [])] (hp L xs A V K T) v h')
          else (
            am_fin [(z_M_loose, 67, [.ref 36, .int v1, .int v2, .int v3, .int (v4 + 1), .int v5, .int (v6 + 1), .int (((A 37) v6.toNatClampNeg) + 1)], [])] (hp L xs A V K T) v h')))))))) : am_fin [(z_M_loose, 67, [.ref 36, .int v1, .int v2, .int v3, .int v4, .int v5, .int v6, .null], [])] (hp L xs A V K T) v h' :=
  fn_iload rl_M_loose_67 rfl (fn_sipush rl_M_loose_69 (fn_iload_n rl_M_loose_72 rfl (fn_imul rl_M_loose_73 (fn_sipush rl_M_loose_74 (fn_iadd rl_M_loose_77 (fn_icmp_ge rl_M_loose_78 (fun k1791 => fn_iload_n rl_M_loose_164 rfl (fn_if_ne rl_M_loose_165 (fun k1780 => fn_iload rl_M_loose_168 rfl (fn_goto rl_M_loose_170 (fn_reti rl_M_loose_175 rfl k1780))) (fun k1781 => fn_iload rl_M_loose_173 rfl (fn_reti rl_M_loose_175 rfl k1781)) k1791)) (fun k1792 => fn_aload_n rl_M_loose_81 rfl (fn_get rl_M_loose_82 hp_36 rfl (fn_iload rl_M_loose_85 rfl (fn_iald rl_M_loose_87 hp_37 (fun k1790 => fn_iconst rl_M_loose_88 (fn_iadd rl_M_loose_89 (fn_istore (ls' := [.ref 36, .int v1, .int v2, .int v3, .int v4, .int v5, .int v6, .int (((A 37) v6.toNatClampNeg) + 1)]) rl_M_loose_90 rfl rfl (fn_aload_n rl_M_loose_92 rfl (fn_get rl_M_loose_93 hp_36 rfl (fn_iload rl_M_loose_96 rfl (fn_iald rl_M_loose_98 hp_49 (fun k1789 => fn_if_ne rl_M_loose_99 (fun k1787 => fn_aload_n rl_M_loose_102 rfl (fn_get rl_M_loose_103 hp_36 rfl (fn_iload rl_M_loose_106 rfl (fn_aload_n rl_M_loose_108 rfl (fn_iload rl_M_loose_109 rfl (fn_iload_n rl_M_loose_111 rfl (fn_virt (as := [.ref 36, .int v6, .int v3]) (r := [.int (((A 37) v6.toNatClampNeg) + 1), .ref 49]) (ls' := [.ref 36, .int v6, .int v3, .null]) rl_M_loose_112 rfl hp_36 rfl rfl pl_M_loosens rfl rfl (k1787)))))))) (fun k1788 => fn_aload_n rl_M_loose_124 rfl (fn_get rl_M_loose_125 hp_36 rfl (fn_iload rl_M_loose_128 rfl (fn_iald rl_M_loose_130 hp_49 (fun k1786 => fn_iconst rl_M_loose_131 (fn_icmp_ne rl_M_loose_132 (fun k1784 => fn_goto rl_M_loose_135 (fn_iinc (ls' := [.ref 36, .int v1, .int v2, .int v3, .int v4, .int v5, .int (v6 + 1), .int (((A 37) v6.toNatClampNeg) + 1)]) rl_M_loose_158 rfl rfl rfl (fn_goto rl_M_loose_161 (k1784)))) (fun k1785 => fn_iload rl_M_loose_138 rfl (fn_if_ne rl_M_loose_140 (fun k1782 => fn_iload rl_M_loose_143 rfl (fn_goto rl_M_loose_145 (fn_istore (ls' := [.ref 36, .int v1, .int v2, .int v3, .int v4, .int v6, .int v6, .int (((A 37) v6.toNatClampNeg) + 1)]) rl_M_loose_150 rfl rfl (fn_iload rl_M_loose_152 rfl (fn_iconst rl_M_loose_154 (fn_iadd rl_M_loose_155 (fn_istore (ls' := [.ref 36, .int v1, .int v2, .int v3, .int (v4 + 1), .int v6, .int v6, .int (((A 37) v6.toNatClampNeg) + 1)]) rl_M_loose_156 rfl rfl (fn_iinc (ls' := [.ref 36, .int v1, .int v2, .int v3, .int (v4 + 1), .int v6, .int (v6 + 1), .int (((A 37) v6.toNatClampNeg) + 1)]) rl_M_loose_158 rfl rfl rfl (fn_goto rl_M_loose_161 (k1782)))))))))) (fun k1783 => fn_iload rl_M_loose_148 rfl (fn_istore (ls' := [.ref 36, .int v1, .int v2, .int v3, .int v4, .int v5, .int v6, .int (((A 37) v6.toNatClampNeg) + 1)]) rl_M_loose_150 rfl rfl (fn_iload rl_M_loose_152 rfl (fn_iconst rl_M_loose_154 (fn_iadd rl_M_loose_155 (fn_istore (ls' := [.ref 36, .int v1, .int v2, .int v3, .int (v4 + 1), .int v5, .int v6, .int (((A 37) v6.toNatClampNeg) + 1)]) rl_M_loose_156 rfl rfl (fn_iinc (ls' := [.ref 36, .int v1, .int v2, .int v3, .int (v4 + 1), .int v5, .int (v6 + 1), .int (((A 37) v6.toNatClampNeg) + 1)]) rl_M_loose_158 rfl rfl rfl (fn_goto rl_M_loose_161 (k1783))))))))) k1785)) k1786)) k1788)))) k1789) k1790))))))) k1792)))) k0))))))
set_option maxRecDepth 100000 in
set_option maxHeartbeats 4000000 in
theorem sg_M_loose_115r {L : Nat} {xs : Nat → Int32} {A V : Nat → Nat → Int32} {K : Nat → Option Nat} {T : am_H} {v : Option Int32} {h' : am_H} {v1 v2 v3 v4 v5 v6 v7 s1 r : Int32} (k0 :
    if r = 0 then (
      ¬ (s1 < 0 ∨ 7 ≤ s1.toNatClampNeg) ∧ (
      ¬ (v7 < 0 ∨ 7 ≤ v7.toNatClampNeg) ∧ (
      if (((upA A 49 (upd (A 49) s1.toNatClampNeg 1)) 49) v7.toNatClampNeg) = 1 then (
        am_fin [(z_M_loose, 67, [.ref 36, .int v1, .int v2, .int v3, .int v4, .int v5, .int (v6 + 1), .int v7], [])] (hp L xs (upA A 49 (upd (A 49) s1.toNatClampNeg 1)) V K T) v h')
      else (
        if v4 = 0 then (
          am_fin [(z_M_loose, 67, [.ref 36, .int v1, .int v2, .int v3, .int (v4 + 1), .int v6, .int (v6 + 1), .int v7], [])] (hp L xs (upA A 49 (upd (A 49) s1.toNatClampNeg 1)) V K T) v h')
        else (
          am_fin [(z_M_loose, 67, [.ref 36, .int v1, .int v2, .int v3, .int (v4 + 1), .int v5, .int (v6 + 1), .int v7], [])] (hp L xs (upA A 49 (upd (A 49) s1.toNatClampNeg 1)) V K T) v h')))))
    else (
      ¬ (s1 < 0 ∨ 7 ≤ s1.toNatClampNeg) ∧ (
      ¬ (v7 < 0 ∨ 7 ≤ v7.toNatClampNeg) ∧ (
      if (((upA A 49 (upd (A 49) s1.toNatClampNeg 2)) 49) v7.toNatClampNeg) = 1 then (
        am_fin [(z_M_loose, 67, [.ref 36, .int v1, .int v2, .int v3, .int v4, .int v5, .int (v6 + 1), .int v7], [])] (hp L xs (upA A 49 (upd (A 49) s1.toNatClampNeg 2)) V K T) v h')
      else (
        if v4 = 0 then (
          am_fin [(z_M_loose, 67, [.ref 36, .int v1, .int v2, .int v3, .int (v4 + 1), .int v6, .int (v6 + 1), .int v7], [])] (hp L xs (upA A 49 (upd (A 49) s1.toNatClampNeg 2)) V K T) v h')
        else (
          am_fin [(z_M_loose, 67, [.ref 36, .int v1, .int v2, .int v3, .int (v4 + 1), .int v5, .int (v6 + 1), .int v7], [])] (hp L xs (upA A 49 (upd (A 49) s1.toNatClampNeg 2)) V K T) v h')))))) : am_fin [(z_M_loose, 115, [.ref 36, .int v1, .int v2, .int v3, .int v4, .int v5, .int v6, .int v7], [.int r, .int s1, .ref 49])] (hp L xs A V K T) v h' :=
  fn_if_eq rl_M_loose_115 (fun k1805 => fn_iconst rl_M_loose_122 (fn_iast rl_M_loose_123 hp_49 hps_49 (fun k1798 => fn_aload_n rl_M_loose_124 rfl (fn_get rl_M_loose_125 hp_36 rfl (fn_iload rl_M_loose_128 rfl (fn_iald rl_M_loose_130 hp_49 (fun k1797 => fn_iconst rl_M_loose_131 (fn_icmp_ne rl_M_loose_132 (fun k1795 => fn_goto rl_M_loose_135 (fn_iinc (ls' := [.ref 36, .int v1, .int v2, .int v3, .int v4, .int v5, .int (v6 + 1), .int v7]) rl_M_loose_158 rfl rfl rfl (fn_goto rl_M_loose_161 (k1795)))) (fun k1796 => fn_iload rl_M_loose_138 rfl (fn_if_ne rl_M_loose_140 (fun k1793 => fn_iload rl_M_loose_143 rfl (fn_goto rl_M_loose_145 (fn_istore (ls' := [.ref 36, .int v1, .int v2, .int v3, .int v4, .int v6, .int v6, .int v7]) rl_M_loose_150 rfl rfl (fn_iload rl_M_loose_152 rfl (fn_iconst rl_M_loose_154 (fn_iadd rl_M_loose_155 (fn_istore (ls' := [.ref 36, .int v1, .int v2, .int v3, .int (v4 + 1), .int v6, .int v6, .int v7]) rl_M_loose_156 rfl rfl (fn_iinc (ls' := [.ref 36, .int v1, .int v2, .int v3, .int (v4 + 1), .int v6, .int (v6 + 1), .int v7]) rl_M_loose_158 rfl rfl rfl (fn_goto rl_M_loose_161 (k1793)))))))))) (fun k1794 => fn_iload rl_M_loose_148 rfl (fn_istore (ls' := [.ref 36, .int v1, .int v2, .int v3, .int v4, .int v5, .int v6, .int v7]) rl_M_loose_150 rfl rfl (fn_iload rl_M_loose_152 rfl (fn_iconst rl_M_loose_154 (fn_iadd rl_M_loose_155 (fn_istore (ls' := [.ref 36, .int v1, .int v2, .int v3, .int (v4 + 1), .int v5, .int v6, .int v7]) rl_M_loose_156 rfl rfl (fn_iinc (ls' := [.ref 36, .int v1, .int v2, .int v3, .int (v4 + 1), .int v5, .int (v6 + 1), .int v7]) rl_M_loose_158 rfl rfl rfl (fn_goto rl_M_loose_161 (k1794))))))))) k1796)) k1797)) k1798)))) k1805)) (fun k1806 => fn_iconst rl_M_loose_118 (fn_goto rl_M_loose_119 (fn_iast rl_M_loose_123 hp_49 hps_49 (fun k1804 => fn_aload_n rl_M_loose_124 rfl (fn_get rl_M_loose_125 hp_36 rfl (fn_iload rl_M_loose_128 rfl (fn_iald rl_M_loose_130 hp_49 (fun k1803 => fn_iconst rl_M_loose_131 (fn_icmp_ne rl_M_loose_132 (fun k1801 => fn_goto rl_M_loose_135 (fn_iinc (ls' := [.ref 36, .int v1, .int v2, .int v3, .int v4, .int v5, .int (v6 + 1), .int v7]) rl_M_loose_158 rfl rfl rfl (fn_goto rl_M_loose_161 (k1801)))) (fun k1802 => fn_iload rl_M_loose_138 rfl (fn_if_ne rl_M_loose_140 (fun k1799 => fn_iload rl_M_loose_143 rfl (fn_goto rl_M_loose_145 (fn_istore (ls' := [.ref 36, .int v1, .int v2, .int v3, .int v4, .int v6, .int v6, .int v7]) rl_M_loose_150 rfl rfl (fn_iload rl_M_loose_152 rfl (fn_iconst rl_M_loose_154 (fn_iadd rl_M_loose_155 (fn_istore (ls' := [.ref 36, .int v1, .int v2, .int v3, .int (v4 + 1), .int v6, .int v6, .int v7]) rl_M_loose_156 rfl rfl (fn_iinc (ls' := [.ref 36, .int v1, .int v2, .int v3, .int (v4 + 1), .int v6, .int (v6 + 1), .int v7]) rl_M_loose_158 rfl rfl rfl (fn_goto rl_M_loose_161 (k1799)))))))))) (fun k1800 => fn_iload rl_M_loose_148 rfl (fn_istore (ls' := [.ref 36, .int v1, .int v2, .int v3, .int v4, .int v5, .int v6, .int v7]) rl_M_loose_150 rfl rfl (fn_iload rl_M_loose_152 rfl (fn_iconst rl_M_loose_154 (fn_iadd rl_M_loose_155 (fn_istore (ls' := [.ref 36, .int v1, .int v2, .int v3, .int (v4 + 1), .int v5, .int v6, .int v7]) rl_M_loose_156 rfl rfl (fn_iinc (ls' := [.ref 36, .int v1, .int v2, .int v3, .int (v4 + 1), .int v5, .int (v6 + 1), .int v7]) rl_M_loose_158 rfl rfl rfl (fn_goto rl_M_loose_161 (k1800))))))))) k1802)) k1803)) k1804)))) k1806))) k0
set_option maxRecDepth 100000 in
set_option maxHeartbeats 4000000 in
theorem sg_M_nearest_0 {L : Nat} {xs : Nat → Int32} {A V : Nat → Nat → Int32} {K : Nat → Option Nat} {T : am_H} {v : Option Int32} {h' : am_H} {a1 a2 : Int32} (k0 :
    if (lg_cmp ((a1 : Int32).toInt64) ((0 : Int32).toInt64)) < 0 then (
      v = some (-1) ∧ h' = hp L xs A V K T)
    else (
      if 0 < (lg_cmp ((a1 : Int32).toInt64) ((2 : Int32).toInt64)) then (
        v = some (-1) ∧ h' = hp L xs A V K T)
      else (
        if (lg_cmp ((a2 : Int32).toInt64) ((0 : Int32).toInt64)) < 0 then (
          v = some (-1) ∧ h' = hp L xs A V K T)
        else (
          if 0 < (lg_cmp ((a2 : Int32).toInt64) ((1 : Int32).toInt64)) then (
            v = some (-1) ∧ h' = hp L xs A V K T)
          else (
            am_fin [(z_M_laysCounts, 0, [.ref 36, .null, .null, .null], []), (z_M_nearest, 23, [.ref 36, .int a1, .int a2, .null, .null, .null, .null], [])] (hp L xs A V K T) v h'))))) : am_fin [(z_M_nearest, 0, [.ref 36, .int a1, .int a2, .null, .null, .null, .null], [])] (hp L xs A V K T) v h' :=
  fn_iload_n rl_M_nearest_0 rfl (fn_stat (as := [.int a1]) (r := []) (ls' := [.int a1]) rl_M_nearest_1 rfl rfl rfl rfl pl_M_isYear rfl rfl (fn_iload_n rl_M_isYear_0 rfl (fn_i2l rl_M_isYear_1 (fn_lconst rl_M_isYear_2 (fn_ldc2_w rl_M_isYear_3 (fn_stat (as := [.long ((a1 : Int32).toInt64), .long ((0 : Int32).toInt64), .long ((2 : Int32).toInt64)]) (r := []) (ls' := [.long ((a1 : Int32).toInt64), .null, .long ((0 : Int32).toInt64), .null, .long ((2 : Int32).toInt64), .null]) rl_M_isYear_6 rfl rfl rfl rfl pl_M_in rfl rfl (fn_lload_n rl_M_in_0 rfl (fn_lload_n rl_M_in_1 rfl (fn_lcmp rl_M_in_2 (fn_if_lt rl_M_in_3 (fun k1813 => fn_iconst rl_M_in_17 (fn_retci rl_M_in_18 rfl (fn_retci rl_M_isYear_9 rfl (fn_if_eq_t rl_M_nearest_4 (by decide +kernel) (fn_iconst rl_M_nearest_17 (fn_reti rl_M_nearest_18 rfl k1813)))))) (fun k1814 => fn_lload_n rl_M_in_6 rfl (fn_lload rl_M_in_7 rfl (fn_lcmp rl_M_in_9 (fn_if_gt rl_M_in_10 (fun k1811 => fn_iconst rl_M_in_17 (fn_retci rl_M_in_18 rfl (fn_retci rl_M_isYear_9 rfl (fn_if_eq_t rl_M_nearest_4 (by decide +kernel) (fn_iconst rl_M_nearest_17 (fn_reti rl_M_nearest_18 rfl k1811)))))) (fun k1812 => fn_iconst rl_M_in_13 (fn_goto rl_M_in_14 (fn_retci rl_M_in_18 rfl (fn_retci rl_M_isYear_9 rfl (fn_if_eq_f rl_M_nearest_4 (by decide +kernel) (fn_iload_n rl_M_nearest_7 rfl (fn_i2l rl_M_nearest_8 (fn_lconst rl_M_nearest_9 (fn_lconst rl_M_nearest_10 (fn_stat (as := [.long ((a2 : Int32).toInt64), .long ((0 : Int32).toInt64), .long ((1 : Int32).toInt64)]) (r := []) (ls' := [.long ((a2 : Int32).toInt64), .null, .long ((0 : Int32).toInt64), .null, .long ((1 : Int32).toInt64), .null]) rl_M_nearest_11 rfl rfl rfl rfl pl_M_in rfl rfl (fn_lload_n rl_M_in_0 rfl (fn_lload_n rl_M_in_1 rfl (fn_lcmp rl_M_in_2 (fn_if_lt rl_M_in_3 (fun k1809 => fn_iconst rl_M_in_17 (fn_retci rl_M_in_18 rfl (fn_if_ne_t rl_M_nearest_14 (by decide +kernel) (fn_iconst rl_M_nearest_17 (fn_reti rl_M_nearest_18 rfl k1809))))) (fun k1810 => fn_lload_n rl_M_in_6 rfl (fn_lload rl_M_in_7 rfl (fn_lcmp rl_M_in_9 (fn_if_gt rl_M_in_10 (fun k1807 => fn_iconst rl_M_in_17 (fn_retci rl_M_in_18 rfl (fn_if_ne_t rl_M_nearest_14 (by decide +kernel) (fn_iconst rl_M_nearest_17 (fn_reti rl_M_nearest_18 rfl k1807))))) (fun k1808 => fn_iconst rl_M_in_13 (fn_goto rl_M_in_14 (fn_retci rl_M_in_18 rfl (fn_if_ne_f rl_M_nearest_14 (by decide +kernel) (fn_aload_n rl_M_nearest_19 rfl (fn_virt (as := [.ref 36]) (r := []) (ls' := [.ref 36, .null, .null, .null]) rl_M_nearest_20 rfl hp_36 rfl rfl pl_M_laysCounts rfl rfl (k1808))))))) k1810)))) k1812)))))))))))))) k1814)))) k0))))))))))
set_option maxRecDepth 100000 in
set_option maxHeartbeats 4000000 in
theorem sg_M_nearest_23r {L : Nat} {xs : Nat → Int32} {A V : Nat → Nat → Int32} {K : Nat → Option Nat} {T : am_H} {v : Option Int32} {h' : am_H} {v1 v2 : Int32} (k0 :
    am_fin [(z_M_nearest, 32, [.ref 36, .int v1, .int v2, .int (-2), .int 0, .int 0, .null], [])] (hp L xs A V K T) v h') : am_fin [(z_M_nearest, 23, [.ref 36, .int v1, .int v2, .null, .null, .null, .null], [])] (hp L xs A V K T) v h' :=
  fn_bipush rl_M_nearest_23 (fn_istore_n (ls' := [.ref 36, .int v1, .int v2, .int (-2), .null, .null, .null]) rl_M_nearest_25 rfl rfl (fn_iconst rl_M_nearest_26 (fn_istore (ls' := [.ref 36, .int v1, .int v2, .int (-2), .int 0, .null, .null]) rl_M_nearest_27 rfl rfl (fn_iconst rl_M_nearest_29 (fn_istore (ls' := [.ref 36, .int v1, .int v2, .int (-2), .int 0, .int 0, .null]) rl_M_nearest_30 rfl rfl (k0))))))
set_option maxRecDepth 100000 in
set_option maxHeartbeats 4000000 in
theorem sg_M_nearest_32 {L : Nat} {xs : Nat → Int32} {A V : Nat → Nat → Int32} {K : Nat → Option Nat} {T : am_H} {v : Option Int32} {h' : am_H} {v1 v2 v3 v4 v5 : Int32} (k0 :
    if 6 ≤ v5 then (
      if v2 = 0 then (
        v = some v3 ∧ h' = hp L xs A V K T)
      else (
        if v3 = (-2) then (
          v = some v3 ∧ h' = hp L xs A V K T)
        else (
          v = some v4 ∧ h' = hp L xs A V K T)))
    else (
      am_fin [(z_M_needs, 0, [.ref 36, .int v5, .int v1, .null, .null, .null], []), (z_M_nearest, 46, [.ref 36, .int v1, .int v2, .int v3, .int v4, .int v5, .null], [])] (hp L xs A V K T) v h')) : am_fin [(z_M_nearest, 32, [.ref 36, .int v1, .int v2, .int v3, .int v4, .int v5, .null], [])] (hp L xs A V K T) v h' :=
  fn_iload rl_M_nearest_32 rfl (fn_bipush rl_M_nearest_34 (fn_icmp_ge rl_M_nearest_36 (fun k1819 => fn_iload_n rl_M_nearest_83 rfl (fn_if_eq rl_M_nearest_84 (fun k1817 => fn_iload_n rl_M_nearest_93 rfl (fn_goto rl_M_nearest_94 (fn_reti rl_M_nearest_99 rfl k1817))) (fun k1818 => fn_iload_n rl_M_nearest_87 rfl (fn_bipush rl_M_nearest_88 (fn_icmp_ne rl_M_nearest_90 (fun k1815 => fn_iload_n rl_M_nearest_93 rfl (fn_goto rl_M_nearest_94 (fn_reti rl_M_nearest_99 rfl k1815))) (fun k1816 => fn_iload rl_M_nearest_97 rfl (fn_reti rl_M_nearest_99 rfl k1816)) k1818))) k1819)) (fun k1820 => fn_aload_n rl_M_nearest_39 rfl (fn_iload rl_M_nearest_40 rfl (fn_iload_n rl_M_nearest_42 rfl (fn_virt (as := [.ref 36, .int v5, .int v1]) (r := []) (ls' := [.ref 36, .int v5, .int v1, .null, .null, .null]) rl_M_nearest_43 rfl hp_36 rfl rfl pl_M_needs rfl rfl (k1820))))) k0))
set_option maxRecDepth 100000 in
set_option maxHeartbeats 4000000 in
theorem sg_M_nearest_46r {L : Nat} {xs : Nat → Int32} {A V : Nat → Nat → Int32} {K : Nat → Option Nat} {T : am_H} {v : Option Int32} {h' : am_H} {v1 v2 v3 v4 v5 r : Int32} (k0 :
    if r < 1 then (
      am_fin [(z_M_nearest, 32, [.ref 36, .int v1, .int v2, .int v3, .int v4, .int (v5 + 1), .int r], [])] (hp L xs A V K T) v h')
    else (
      if v3 = (-2) then (
        am_fin [(z_M_nearest, 32, [.ref 36, .int v1, .int v2, .int v5, .int r, .int (v5 + 1), .int r], [])] (hp L xs A V K T) v h')
      else (
        if r < v4 then (
          am_fin [(z_M_nearest, 32, [.ref 36, .int v1, .int v2, .int v5, .int r, .int (v5 + 1), .int r], [])] (hp L xs A V K T) v h')
        else (
          am_fin [(z_M_nearest, 32, [.ref 36, .int v1, .int v2, .int v3, .int v4, .int (v5 + 1), .int r], [])] (hp L xs A V K T) v h')))) : am_fin [(z_M_nearest, 46, [.ref 36, .int v1, .int v2, .int v3, .int v4, .int v5, .null], [.int r])] (hp L xs A V K T) v h' :=
  fn_istore (ls' := [.ref 36, .int v1, .int v2, .int v3, .int v4, .int v5, .int r]) rl_M_nearest_46 rfl rfl (fn_iload rl_M_nearest_48 rfl (fn_iconst rl_M_nearest_50 (fn_icmp_lt rl_M_nearest_51 (fun k1825 => fn_iinc (ls' := [.ref 36, .int v1, .int v2, .int v3, .int v4, .int (v5 + 1), .int r]) rl_M_nearest_77 rfl rfl rfl (fn_goto rl_M_nearest_80 (k1825))) (fun k1826 => fn_iload_n rl_M_nearest_54 rfl (fn_bipush rl_M_nearest_55 (fn_icmp_eq rl_M_nearest_57 (fun k1823 => fn_iload rl_M_nearest_70 rfl (fn_istore_n (ls' := [.ref 36, .int v1, .int v2, .int v5, .int v4, .int v5, .int r]) rl_M_nearest_72 rfl rfl (fn_iload rl_M_nearest_73 rfl (fn_istore (ls' := [.ref 36, .int v1, .int v2, .int v5, .int r, .int v5, .int r]) rl_M_nearest_75 rfl rfl (fn_iinc (ls' := [.ref 36, .int v1, .int v2, .int v5, .int r, .int (v5 + 1), .int r]) rl_M_nearest_77 rfl rfl rfl (fn_goto rl_M_nearest_80 (k1823))))))) (fun k1824 => fn_iload rl_M_nearest_60 rfl (fn_iload rl_M_nearest_62 rfl (fn_icmp_lt rl_M_nearest_64 (fun k1821 => fn_iload rl_M_nearest_70 rfl (fn_istore_n (ls' := [.ref 36, .int v1, .int v2, .int v5, .int v4, .int v5, .int r]) rl_M_nearest_72 rfl rfl (fn_iload rl_M_nearest_73 rfl (fn_istore (ls' := [.ref 36, .int v1, .int v2, .int v5, .int r, .int v5, .int r]) rl_M_nearest_75 rfl rfl (fn_iinc (ls' := [.ref 36, .int v1, .int v2, .int v5, .int r, .int (v5 + 1), .int r]) rl_M_nearest_77 rfl rfl rfl (fn_goto rl_M_nearest_80 (k1821))))))) (fun k1822 => fn_goto rl_M_nearest_67 (fn_iinc (ls' := [.ref 36, .int v1, .int v2, .int v3, .int v4, .int (v5 + 1), .int r]) rl_M_nearest_77 rfl rfl rfl (fn_goto rl_M_nearest_80 (k1822)))) k1824))) k1826))) k0)))
set_option maxRecDepth 100000 in
set_option maxHeartbeats 4000000 in
theorem sg_M_instead_0 {L : Nat} {xs : Nat → Int32} {A V : Nat → Nat → Int32} {K : Nat → Option Nat} {T : am_H} {v : Option Int32} {h' : am_H} {a1 a2 a3 a4 a5 : Int32} (k0 :
    if (lg_cmp ((a1 : Int32).toInt64) ((0 : Int32).toInt64)) < 0 then (
      v = some (-1) ∧ h' = hp L xs A V K T)
    else (
      if 0 < (lg_cmp ((a1 : Int32).toInt64) ((5 : Int32).toInt64)) then (
        v = some (-1) ∧ h' = hp L xs A V K T)
      else (
        if (lg_cmp ((a2 : Int32).toInt64) (((-1) : Int32).toInt64)) < 0 then (
          v = some (-1) ∧ h' = hp L xs A V K T)
        else (
          if 0 < (lg_cmp ((a2 : Int32).toInt64) ((5 : Int32).toInt64)) then (
            v = some (-1) ∧ h' = hp L xs A V K T)
          else (
            if a1 = a2 then (
              v = some (-1) ∧ h' = hp L xs A V K T)
            else (
              if (lg_cmp ((a3 : Int32).toInt64) ((0 : Int32).toInt64)) < 0 then (
                v = some (-1) ∧ h' = hp L xs A V K T)
              else (
                if 0 < (lg_cmp ((a3 : Int32).toInt64) ((1079 : Int32).toInt64)) then (
                  v = some (-1) ∧ h' = hp L xs A V K T)
                else (
                  if (lg_cmp ((a4 : Int32).toInt64) ((a3 : Int32).toInt64)) < 0 then (
                    v = some (-1) ∧ h' = hp L xs A V K T)
                  else (
                    if 0 < (lg_cmp ((a4 : Int32).toInt64) ((1079 : Int32).toInt64)) then (
                      v = some (-1) ∧ h' = hp L xs A V K T)
                    else (
                      if (lg_cmp ((a5 : Int32).toInt64) ((0 : Int32).toInt64)) < 0 then (
                        v = some (-1) ∧ h' = hp L xs A V K T)
                      else (
                        if 0 < (lg_cmp ((a5 : Int32).toInt64) ((4 : Int32).toInt64)) then (
                          v = some (-1) ∧ h' = hp L xs A V K T)
                        else (
                          am_fin [(z_M_laysAside, 0, [.ref 36, .null], []), (z_M_instead, 47, [.ref 36, .int a1, .int a2, .int a3, .int a4, .int a5, .null], [])] (hp L xs A V K T) v h')))))))))))) : am_fin [(z_M_instead, 0, [.ref 36, .int a1, .int a2, .int a3, .int a4, .int a5, .null], [])] (hp L xs A V K T) v h' :=
  fn_iload_n rl_M_instead_0 rfl (fn_stat (as := [.int a1]) (r := []) (ls' := [.int a1]) rl_M_instead_1 rfl rfl rfl rfl pl_M_isLand rfl rfl (fn_iload_n rl_M_isLand_0 rfl (fn_i2l rl_M_isLand_1 (fn_lconst rl_M_isLand_2 (fn_ldc2_w rl_M_isLand_3 (fn_stat (as := [.long ((a1 : Int32).toInt64), .long ((0 : Int32).toInt64), .long ((5 : Int32).toInt64)]) (r := []) (ls' := [.long ((a1 : Int32).toInt64), .null, .long ((0 : Int32).toInt64), .null, .long ((5 : Int32).toInt64), .null]) rl_M_isLand_6 rfl rfl rfl rfl pl_M_in rfl rfl (fn_lload_n rl_M_in_0 rfl (fn_lload_n rl_M_in_1 rfl (fn_lcmp rl_M_in_2 (fn_if_lt rl_M_in_3 (fun k1847 => fn_iconst rl_M_in_17 (fn_retci rl_M_in_18 rfl (fn_retci rl_M_isLand_9 rfl (fn_if_eq_t rl_M_instead_4 (by decide +kernel) (fn_iconst rl_M_instead_41 (fn_reti rl_M_instead_42 rfl k1847)))))) (fun k1848 => fn_lload_n rl_M_in_6 rfl (fn_lload rl_M_in_7 rfl (fn_lcmp rl_M_in_9 (fn_if_gt rl_M_in_10 (fun k1845 => fn_iconst rl_M_in_17 (fn_retci rl_M_in_18 rfl (fn_retci rl_M_isLand_9 rfl (fn_if_eq_t rl_M_instead_4 (by decide +kernel) (fn_iconst rl_M_instead_41 (fn_reti rl_M_instead_42 rfl k1845)))))) (fun k1846 => fn_iconst rl_M_in_13 (fn_goto rl_M_in_14 (fn_retci rl_M_in_18 rfl (fn_retci rl_M_isLand_9 rfl (fn_if_eq_f rl_M_instead_4 (by decide +kernel) (fn_iload_n rl_M_instead_7 rfl (fn_stat (as := [.int a2]) (r := []) (ls' := [.int a2]) rl_M_instead_8 rfl rfl rfl rfl pl_M_isPlace rfl rfl (fn_iload_n rl_M_isPlace_0 rfl (fn_i2l rl_M_isPlace_1 (fn_ldc2_w rl_M_isPlace_2 (fn_ldc2_w rl_M_isPlace_5 (fn_stat (as := [.long ((a2 : Int32).toInt64), .long (((-1) : Int32).toInt64), .long ((5 : Int32).toInt64)]) (r := []) (ls' := [.long ((a2 : Int32).toInt64), .null, .long (((-1) : Int32).toInt64), .null, .long ((5 : Int32).toInt64), .null]) rl_M_isPlace_8 rfl rfl rfl rfl pl_M_in rfl rfl (fn_lload_n rl_M_in_0 rfl (fn_lload_n rl_M_in_1 rfl (fn_lcmp rl_M_in_2 (fn_if_lt rl_M_in_3 (fun k1843 => fn_iconst rl_M_in_17 (fn_retci rl_M_in_18 rfl (fn_retci rl_M_isPlace_11 rfl (fn_if_eq_t rl_M_instead_11 (by decide +kernel) (fn_iconst rl_M_instead_41 (fn_reti rl_M_instead_42 rfl k1843)))))) (fun k1844 => fn_lload_n rl_M_in_6 rfl (fn_lload rl_M_in_7 rfl (fn_lcmp rl_M_in_9 (fn_if_gt rl_M_in_10 (fun k1841 => fn_iconst rl_M_in_17 (fn_retci rl_M_in_18 rfl (fn_retci rl_M_isPlace_11 rfl (fn_if_eq_t rl_M_instead_11 (by decide +kernel) (fn_iconst rl_M_instead_41 (fn_reti rl_M_instead_42 rfl k1841)))))) (fun k1842 => fn_iconst rl_M_in_13 (fn_goto rl_M_in_14 (fn_retci rl_M_in_18 rfl (fn_retci rl_M_isPlace_11 rfl (fn_if_eq_f rl_M_instead_11 (by decide +kernel) (fn_iload_n rl_M_instead_14 rfl (fn_iload_n rl_M_instead_15 rfl (fn_icmp_eq rl_M_instead_16 (fun k1839 => fn_iconst rl_M_instead_41 (fn_reti rl_M_instead_42 rfl k1839)) (fun k1840 => fn_iload_n rl_M_instead_19 rfl (fn_iload rl_M_instead_20 rfl (fn_stat (as := [.int a3, .int a4]) (r := []) (ls' := [.int a3, .int a4]) rl_M_instead_22 rfl rfl rfl rfl pl_M_areDays rfl rfl (fn_iload_n rl_M_areDays_0 rfl (fn_stat (as := [.int a3]) (r := []) (ls' := [.int a3]) rl_M_areDays_1 rfl rfl rfl rfl pl_M_isDay rfl rfl (fn_iload_n rl_M_isDay_0 rfl (fn_i2l rl_M_isDay_1 (fn_lconst rl_M_isDay_2 (fn_ldc2_w rl_M_isDay_3 (fn_stat (as := [.long ((a3 : Int32).toInt64), .long ((0 : Int32).toInt64), .long ((1079 : Int32).toInt64)]) (r := []) (ls' := [.long ((a3 : Int32).toInt64), .null, .long ((0 : Int32).toInt64), .null, .long ((1079 : Int32).toInt64), .null]) rl_M_isDay_6 rfl rfl rfl rfl pl_M_in rfl rfl (fn_lload_n rl_M_in_0 rfl (fn_lload_n rl_M_in_1 rfl (fn_lcmp rl_M_in_2 (fn_if_lt rl_M_in_3 (fun k1837 => fn_iconst rl_M_in_17 (fn_retci rl_M_in_18 rfl (fn_retci rl_M_isDay_9 rfl (fn_if_eq_t rl_M_areDays_4 (by decide +kernel) (fn_iconst rl_M_areDays_24 (fn_retci rl_M_areDays_25 rfl (fn_if_eq_t rl_M_instead_25 (by decide +kernel) (fn_iconst rl_M_instead_41 (fn_reti rl_M_instead_42 rfl k1837))))))))) (fun k1838 => fn_lload_n rl_M_in_6 rfl (fn_lload rl_M_in_7 rfl (fn_lcmp rl_M_in_9 (fn_if_gt rl_M_in_10 (fun k1835 => fn_iconst rl_M_in_17 (fn_retci rl_M_in_18 rfl (fn_retci rl_M_isDay_9 rfl (fn_if_eq_t rl_M_areDays_4 (by decide +kernel) (fn_iconst rl_M_areDays_24 (fn_retci rl_M_areDays_25 rfl (fn_if_eq_t rl_M_instead_25 (by decide +kernel) (fn_iconst rl_M_instead_41 (fn_reti rl_M_instead_42 rfl k1835))))))))) (fun k1836 => fn_iconst rl_M_in_13 (fn_goto rl_M_in_14 (fn_retci rl_M_in_18 rfl (fn_retci rl_M_isDay_9 rfl (fn_if_eq_f rl_M_areDays_4 (by decide +kernel) (fn_iload_n rl_M_areDays_7 rfl (fn_i2l rl_M_areDays_8 (fn_iload_n rl_M_areDays_9 rfl (fn_i2l rl_M_areDays_10 (fn_ldc2_w rl_M_areDays_11 (fn_stat (as := [.long ((a4 : Int32).toInt64), .long ((a3 : Int32).toInt64), .long ((1079 : Int32).toInt64)]) (r := []) (ls' := [.long ((a4 : Int32).toInt64), .null, .long ((a3 : Int32).toInt64), .null, .long ((1079 : Int32).toInt64), .null]) rl_M_areDays_14 rfl rfl rfl rfl pl_M_in rfl rfl (fn_lload_n rl_M_in_0 rfl (fn_lload_n rl_M_in_1 rfl (fn_lcmp rl_M_in_2 (fn_if_lt rl_M_in_3 (fun k1833 => fn_iconst rl_M_in_17 (fn_retci rl_M_in_18 rfl (fn_if_eq_t rl_M_areDays_17 (by decide +kernel) (fn_iconst rl_M_areDays_24 (fn_retci rl_M_areDays_25 rfl (fn_if_eq_t rl_M_instead_25 (by decide +kernel) (fn_iconst rl_M_instead_41 (fn_reti rl_M_instead_42 rfl k1833)))))))) (fun k1834 => fn_lload_n rl_M_in_6 rfl (fn_lload rl_M_in_7 rfl (fn_lcmp rl_M_in_9 (fn_if_gt rl_M_in_10 (fun k1831 => fn_iconst rl_M_in_17 (fn_retci rl_M_in_18 rfl (fn_if_eq_t rl_M_areDays_17 (by decide +kernel) (fn_iconst rl_M_areDays_24 (fn_retci rl_M_areDays_25 rfl (fn_if_eq_t rl_M_instead_25 (by decide +kernel) (fn_iconst rl_M_instead_41 (fn_reti rl_M_instead_42 rfl k1831)))))))) (fun k1832 => fn_iconst rl_M_in_13 (fn_goto rl_M_in_14 (fn_retci rl_M_in_18 rfl (fn_if_eq_f rl_M_areDays_17 (by decide +kernel) (fn_iconst rl_M_areDays_20 (fn_goto rl_M_areDays_21 (fn_retci rl_M_areDays_25 rfl (fn_if_eq_f rl_M_instead_25 (by decide +kernel) (fn_iload rl_M_instead_28 rfl (fn_i2l rl_M_instead_30 (fn_lconst rl_M_instead_31 (fn_ldc2_w rl_M_instead_32 (fn_stat (as := [.long ((a5 : Int32).toInt64), .long ((0 : Int32).toInt64), .long ((4 : Int32).toInt64)]) (r := []) (ls' := [.long ((a5 : Int32).toInt64), .null, .long ((0 : Int32).toInt64), .null, .long ((4 : Int32).toInt64), .null]) rl_M_instead_35 rfl rfl rfl rfl pl_M_in rfl rfl (fn_lload_n rl_M_in_0 rfl (fn_lload_n rl_M_in_1 rfl (fn_lcmp rl_M_in_2 (fn_if_lt rl_M_in_3 (fun k1829 => fn_iconst rl_M_in_17 (fn_retci rl_M_in_18 rfl (fn_if_ne_t rl_M_instead_38 (by decide +kernel) (fn_iconst rl_M_instead_41 (fn_reti rl_M_instead_42 rfl k1829))))) (fun k1830 => fn_lload_n rl_M_in_6 rfl (fn_lload rl_M_in_7 rfl (fn_lcmp rl_M_in_9 (fn_if_gt rl_M_in_10 (fun k1827 => fn_iconst rl_M_in_17 (fn_retci rl_M_in_18 rfl (fn_if_ne_t rl_M_instead_38 (by decide +kernel) (fn_iconst rl_M_instead_41 (fn_reti rl_M_instead_42 rfl k1827))))) (fun k1828 => fn_iconst rl_M_in_13 (fn_goto rl_M_in_14 (fn_retci rl_M_in_18 rfl (fn_if_ne_f rl_M_instead_38 (by decide +kernel) (fn_aload_n rl_M_instead_43 rfl (fn_virt (as := [.ref 36]) (r := []) (ls' := [.ref 36, .null]) rl_M_instead_44 rfl hp_36 rfl rfl pl_M_laysAside rfl rfl (k1828))))))) k1830)))) k1832))))))))))))))))) k1834)))) k1836))))))))))))))) k1838)))) k1840)))))))))))))) k1842)))))))) k1844)))) k1846)))))))))))))))) k1848)))) k0))))))))))
set_option maxRecDepth 100000 in
set_option maxHeartbeats 4000000 in
theorem sg_M_instead_47r {L : Nat} {xs : Nat → Int32} {A V : Nat → Nat → Int32} {K : Nat → Option Nat} {T : am_H} {v : Option Int32} {h' : am_H} {v1 v2 v3 v4 v5 : Int32} (k0 :
    am_fin [(z_M_instead, 50, [.ref 36, .int v1, .int v2, .int v3, .int v4, .int v5, .int v3], [])] (hp L xs A V K T) v h') : am_fin [(z_M_instead, 47, [.ref 36, .int v1, .int v2, .int v3, .int v4, .int v5, .null], [])] (hp L xs A V K T) v h' :=
  fn_iload_n rl_M_instead_47 rfl (fn_istore (ls' := [.ref 36, .int v1, .int v2, .int v3, .int v4, .int v5, .int v3]) rl_M_instead_48 rfl rfl (k0))
set_option maxRecDepth 100000 in
set_option maxHeartbeats 4000000 in
theorem sg_M_instead_50 {L : Nat} {xs : Nat → Int32} {A V : Nat → Nat → Int32} {K : Nat → Option Nat} {T : am_H} {v : Option Int32} {h' : am_H} {v1 v2 v3 v4 v5 v6 : Int32} (k0 :
    if v4 < v6 then (
      am_fin [(z_M_asked, 0, [.ref 36, .int v5], []), (z_M_instead, 98, [.ref 36, .int v1, .int v2, .int v3, .int v4, .int v5, .int v6], [])] (hp L xs A V K T) v h')
    else (
      ¬ (v6 < 0 ∨ 1080 ≤ v6.toNatClampNeg) ∧ (
      if ((A 37) v6.toNatClampNeg) = v1 then (
        ¬ (v6 < 0 ∨ 1080 ≤ v6.toNatClampNeg) ∧ (
        am_fin [(z_M_instead, 50, [.ref 36, .int v1, .int v2, .int v3, .int v4, .int v5, .int (v6 + 1)], [])] (hp L xs (upA A 37 (upd (A 37) v6.toNatClampNeg v2)) V K T) v h'))
      else (
        ¬ (v6 < 0 ∨ 1080 ≤ v6.toNatClampNeg) ∧ (
        ¬ (v6 < 0 ∨ 1080 ≤ v6.toNatClampNeg) ∧ (
        am_fin [(z_M_instead, 50, [.ref 36, .int v1, .int v2, .int v3, .int v4, .int v5, .int (v6 + 1)], [])] (hp L xs (upA A 37 (upd (A 37) v6.toNatClampNeg ((A 37) v6.toNatClampNeg))) V K T) v h')))))) : am_fin [(z_M_instead, 50, [.ref 36, .int v1, .int v2, .int v3, .int v4, .int v5, .int v6], [])] (hp L xs A V K T) v h' :=
  fn_iload rl_M_instead_50 rfl (fn_iload rl_M_instead_52 rfl (fn_icmp_gt rl_M_instead_54 (fun k1855 => fn_aload_n rl_M_instead_92 rfl (fn_iload rl_M_instead_93 rfl (fn_virt (as := [.ref 36, .int v5]) (r := []) (ls' := [.ref 36, .int v5]) rl_M_instead_95 rfl hp_36 rfl rfl pl_M_asked rfl rfl (k1855)))) (fun k1856 => fn_aload_n rl_M_instead_57 rfl (fn_get rl_M_instead_58 hp_36 rfl (fn_iload rl_M_instead_61 rfl (fn_aload_n rl_M_instead_63 rfl (fn_get rl_M_instead_64 hp_36 rfl (fn_iload rl_M_instead_67 rfl (fn_iald rl_M_instead_69 hp_37 (fun k1854 => fn_iload_n rl_M_instead_70 rfl (fn_icmp_ne rl_M_instead_71 (fun k1852 => fn_iload_n rl_M_instead_74 rfl (fn_goto rl_M_instead_75 (fn_iast rl_M_instead_85 hp_37 hps_37 (fun k1849 => fn_iinc (ls' := [.ref 36, .int v1, .int v2, .int v3, .int v4, .int v5, .int (v6 + 1)]) rl_M_instead_86 rfl rfl rfl (fn_goto rl_M_instead_89 (k1849))) k1852))) (fun k1853 => fn_aload_n rl_M_instead_78 rfl (fn_get rl_M_instead_79 hp_36 rfl (fn_iload rl_M_instead_82 rfl (fn_iald rl_M_instead_84 hp_37 (fun k1851 => fn_iast rl_M_instead_85 hp_37 hps_37 (fun k1850 => fn_iinc (ls' := [.ref 36, .int v1, .int v2, .int v3, .int v4, .int v5, .int (v6 + 1)]) rl_M_instead_86 rfl rfl rfl (fn_goto rl_M_instead_89 (k1850))) k1851) k1853)))) k1854)) k1856))))))) k0))
set_option maxRecDepth 100000 in
set_option maxHeartbeats 4000000 in
theorem sg_M_instead_98r {L : Nat} {xs : Nat → Int32} {A V : Nat → Nat → Int32} {K : Nat → Option Nat} {T : am_H} {v : Option Int32} {h' : am_H} {v1 v2 v3 v4 v5 v6 r : Int32} (k0 :
    am_fin [(z_M_takesAside, 0, [.ref 36, .null], []), (z_M_instead, 104, [.ref 36, .int v1, .int v2, .int v3, .int v4, .int v5, .int r], [])] (hp L xs A V K T) v h') : am_fin [(z_M_instead, 98, [.ref 36, .int v1, .int v2, .int v3, .int v4, .int v5, .int v6], [.int r])] (hp L xs A V K T) v h' :=
  fn_istore (ls' := [.ref 36, .int v1, .int v2, .int v3, .int v4, .int v5, .int r]) rl_M_instead_98 rfl rfl (fn_aload_n rl_M_instead_100 rfl (fn_virt (as := [.ref 36]) (r := []) (ls' := [.ref 36, .null]) rl_M_instead_101 rfl hp_36 rfl rfl pl_M_takesAside rfl rfl (k0)))
set_option maxRecDepth 100000 in
set_option maxHeartbeats 4000000 in
theorem sg_M_instead_104r {L : Nat} {xs : Nat → Int32} {A V : Nat → Nat → Int32} {K : Nat → Option Nat} {T : am_H} {v : Option Int32} {h' : am_H} {v1 v2 v3 v4 v5 v6 : Int32} (k0 :
    v = some v6 ∧ h' = hp L xs A V K T) : am_fin [(z_M_instead, 104, [.ref 36, .int v1, .int v2, .int v3, .int v4, .int v5, .int v6], [])] (hp L xs A V K T) v h' :=
  fn_iload rl_M_instead_104 rfl (fn_reti rl_M_instead_106 rfl k0)
set_option maxRecDepth 100000 in
set_option maxHeartbeats 4000000 in
theorem sg_M_trip_0 {L : Nat} {xs : Nat → Int32} {A V : Nat → Nat → Int32} {K : Nat → Option Nat} {T : am_H} {v : Option Int32} {h' : am_H} {a1 a2 : Int32} (k0 :
    if (lg_cmp ((a2 : Int32).toInt64) ((0 : Int32).toInt64)) < 0 then (
      v = some (-1) ∧ h' = hp L xs A V K T)
    else (
      if 0 < (lg_cmp ((a2 : Int32).toInt64) ((4 : Int32).toInt64)) then (
        v = some (-1) ∧ h' = hp L xs A V K T)
      else (
        if (lg_cmp ((a1 : Int32).toInt64) ((1 : Int32).toInt64)) < 0 then (
          v = some (-1) ∧ h' = hp L xs A V K T)
        else (
          if 0 < (lg_cmp ((a1 : Int32).toInt64) ((160 : Int32).toInt64)) then (
            v = some (-1) ∧ h' = hp L xs A V K T)
          else (
            if (V 36 7) < a1 then (
              v = some (-1) ∧ h' = hp L xs A V K T)
            else (
              am_fin [(z_M_readsAll, 0, [.ref 36, .int a1, .null, .null], []), (z_M_trip, 27, [.ref 36, .int a1, .int a2, .null, .null], [])] (hp L xs A V K T) v h')))))) : am_fin [(z_M_trip, 0, [.ref 36, .int a1, .int a2, .null, .null], [])] (hp L xs A V K T) v h' :=
  fn_iload_n rl_M_trip_0 rfl (fn_i2l rl_M_trip_1 (fn_lconst rl_M_trip_2 (fn_ldc2_w rl_M_trip_3 (fn_stat (as := [.long ((a2 : Int32).toInt64), .long ((0 : Int32).toInt64), .long ((4 : Int32).toInt64)]) (r := []) (ls' := [.long ((a2 : Int32).toInt64), .null, .long ((0 : Int32).toInt64), .null, .long ((4 : Int32).toInt64), .null]) rl_M_trip_6 rfl rfl rfl rfl pl_M_in rfl rfl (fn_lload_n rl_M_in_0 rfl (fn_lload_n rl_M_in_1 rfl (fn_lcmp rl_M_in_2 (fn_if_lt rl_M_in_3 (fun k1865 => fn_iconst rl_M_in_17 (fn_retci rl_M_in_18 rfl (fn_if_eq_t rl_M_trip_9 (by decide +kernel) (fn_iconst rl_M_trip_20 (fn_reti rl_M_trip_21 rfl k1865))))) (fun k1866 => fn_lload_n rl_M_in_6 rfl (fn_lload rl_M_in_7 rfl (fn_lcmp rl_M_in_9 (fn_if_gt rl_M_in_10 (fun k1863 => fn_iconst rl_M_in_17 (fn_retci rl_M_in_18 rfl (fn_if_eq_t rl_M_trip_9 (by decide +kernel) (fn_iconst rl_M_trip_20 (fn_reti rl_M_trip_21 rfl k1863))))) (fun k1864 => fn_iconst rl_M_in_13 (fn_goto rl_M_in_14 (fn_retci rl_M_in_18 rfl (fn_if_eq_f rl_M_trip_9 (by decide +kernel) (fn_aload_n rl_M_trip_12 rfl (fn_iload_n rl_M_trip_13 rfl (fn_virt (as := [.ref 36, .int a1]) (r := []) (ls' := [.ref 36, .int a1]) rl_M_trip_14 rfl hp_36 rfl rfl pl_M_hasText rfl rfl (fn_iload_n rl_M_hasText_0 rfl (fn_i2l rl_M_hasText_1 (fn_lconst rl_M_hasText_2 (fn_ldc2_w rl_M_hasText_3 (fn_stat (as := [.long ((a1 : Int32).toInt64), .long ((1 : Int32).toInt64), .long ((160 : Int32).toInt64)]) (r := []) (ls' := [.long ((a1 : Int32).toInt64), .null, .long ((1 : Int32).toInt64), .null, .long ((160 : Int32).toInt64), .null]) rl_M_hasText_6 rfl rfl rfl rfl pl_M_in rfl rfl (fn_lload_n rl_M_in_0 rfl (fn_lload_n rl_M_in_1 rfl (fn_lcmp rl_M_in_2 (fn_if_lt rl_M_in_3 (fun k1861 => fn_iconst rl_M_in_17 (fn_retci rl_M_in_18 rfl (fn_if_eq_t rl_M_hasText_9 (by decide +kernel) (fn_iconst rl_M_hasText_24 (fn_retci rl_M_hasText_25 rfl (fn_if_ne_t rl_M_trip_17 (by decide +kernel) (fn_iconst rl_M_trip_20 (fn_reti rl_M_trip_21 rfl k1861)))))))) (fun k1862 => fn_lload_n rl_M_in_6 rfl (fn_lload rl_M_in_7 rfl (fn_lcmp rl_M_in_9 (fn_if_gt rl_M_in_10 (fun k1859 => fn_iconst rl_M_in_17 (fn_retci rl_M_in_18 rfl (fn_if_eq_t rl_M_hasText_9 (by decide +kernel) (fn_iconst rl_M_hasText_24 (fn_retci rl_M_hasText_25 rfl (fn_if_ne_t rl_M_trip_17 (by decide +kernel) (fn_iconst rl_M_trip_20 (fn_reti rl_M_trip_21 rfl k1859)))))))) (fun k1860 => fn_iconst rl_M_in_13 (fn_goto rl_M_in_14 (fn_retci rl_M_in_18 rfl (fn_if_eq_f rl_M_hasText_9 (by decide +kernel) (fn_iload_n rl_M_hasText_12 rfl (fn_aload_n rl_M_hasText_13 rfl (fn_get rl_M_hasText_14 hp_36 rfl (fn_icmp_gt rl_M_hasText_17 (fun k1857 => fn_iconst rl_M_hasText_24 (fn_retci rl_M_hasText_25 rfl (fn_if_ne_t rl_M_trip_17 (by decide +kernel) (fn_iconst rl_M_trip_20 (fn_reti rl_M_trip_21 rfl k1857))))) (fun k1858 => fn_iconst rl_M_hasText_20 (fn_goto rl_M_hasText_21 (fn_retci rl_M_hasText_25 rfl (fn_if_ne_f rl_M_trip_17 (by decide +kernel) (fn_aload_n rl_M_trip_22 rfl (fn_iload_n rl_M_trip_23 rfl (fn_virt (as := [.ref 36, .int a1]) (r := []) (ls' := [.ref 36, .int a1, .null, .null]) rl_M_trip_24 rfl hp_36 rfl rfl pl_M_readsAll rfl rfl (k1858)))))))) k1860)))))))) k1862)))) k1864)))))))))))))))) k1866)))) k0))))))))
set_option maxRecDepth 100000 in
set_option maxHeartbeats 4000000 in
theorem sg_M_trip_27r {L : Nat} {xs : Nat → Int32} {A V : Nat → Nat → Int32} {K : Nat → Option Nat} {T : am_H} {v : Option Int32} {h' : am_H} {v1 v2 r : Int32} (k0 :
    if 0 ≤ r then (
      am_fin [(z_M_laysAside, 0, [.ref 36, .null], []), (z_M_trip, 38, [.ref 36, .int v1, .int v2, .int r, .null], [])] (hp L xs A V K T) v h')
    else (
      v = some r ∧ h' = hp L xs A V K T)) : am_fin [(z_M_trip, 27, [.ref 36, .int v1, .int v2, .null, .null], [.int r])] (hp L xs A V K T) v h' :=
  fn_istore_n (ls' := [.ref 36, .int v1, .int v2, .int r, .null]) rl_M_trip_27 rfl rfl (fn_iload_n rl_M_trip_28 rfl (fn_if_ge rl_M_trip_29 (fun k1867 => fn_aload_n rl_M_trip_34 rfl (fn_virt (as := [.ref 36]) (r := []) (ls' := [.ref 36, .null]) rl_M_trip_35 rfl hp_36 rfl rfl pl_M_laysAside rfl rfl (k1867))) (fun k1868 => fn_iload_n rl_M_trip_32 rfl (fn_reti rl_M_trip_33 rfl k1868)) k0))
set_option maxRecDepth 100000 in
set_option maxHeartbeats 4000000 in
theorem sg_M_trip_38r {L : Nat} {xs : Nat → Int32} {A V : Nat → Nat → Int32} {K : Nat → Option Nat} {T : am_H} {v : Option Int32} {h' : am_H} {v1 v2 v3 : Int32} (k0 :
    am_fin [(z_M_laysStays, 0, [.ref 36, .int v3, .null, .null], []), (z_M_trip, 43, [.ref 36, .int v1, .int v2, .int v3, .null], [])] (hp L xs A V K T) v h') : am_fin [(z_M_trip, 38, [.ref 36, .int v1, .int v2, .int v3, .null], [])] (hp L xs A V K T) v h' :=
  fn_aload_n rl_M_trip_38 rfl (fn_iload_n rl_M_trip_39 rfl (fn_virt (as := [.ref 36, .int v3]) (r := []) (ls' := [.ref 36, .int v3, .null, .null]) rl_M_trip_40 rfl hp_36 rfl rfl pl_M_laysStays rfl rfl (k0)))
