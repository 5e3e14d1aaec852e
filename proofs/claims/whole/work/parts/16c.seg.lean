set_option maxRecDepth 100000 in
set_option maxHeartbeats 4000000 in
theorem sg_L_claims_0 {L : Nat} {xs : Nat → Int32} {A V : Nat → Nat → Int32} {K : Nat → Option Nat} {T : am_H} {v : Option Int32} {h' : am_H} {a1 : Int32} (k0 :
    if a1 < 0 then (
      v = some (-1) ∧ h' = hp L xs A V K T)
    else (
      if 2 < a1 then (
        v = some (-1) ∧ h' = hp L xs A V K T)
      else (
        am_fin [(z_J_weigh, 0, [.ref 26, .ref 3], []), (z_L_claims, 23, [.ref 1, .int a1], [])] (hp L xs A V K T) v h'))) : am_fin [(z_L_claims, 0, [.ref 1, .int a1], [])] (hp L xs A V K T) v h' :=
  fn_iload_n rl_L_claims_0 rfl (fn_stat (as := [.int a1]) (r := []) (ls' := [.int a1]) rl_L_claims_1 rfl rfl rfl rfl pl_L_isYear rfl rfl (fn_iload_n rl_L_isYear_0 rfl (fn_iconst rl_L_isYear_1 (fn_iconst rl_L_isYear_2 (fn_stat (as := [.int a1, .int 0, .int 2]) (r := []) (ls' := [.int a1, .int 0, .int 2]) rl_L_isYear_3 rfl rfl rfl rfl pl_L_isAmong rfl rfl (fn_iload_n rl_L_isAmong_0 rfl (fn_iload_n rl_L_isAmong_1 rfl (fn_icmp_lt rl_L_isAmong_2 (fun k657 => fn_iconst rl_L_isAmong_14 (fn_retci rl_L_isAmong_15 rfl (fn_retci rl_L_isYear_6 rfl (fn_if_ne_t rl_L_claims_4 (by decide +kernel) (fn_iconst rl_L_claims_7 (fn_reti rl_L_claims_8 rfl k657)))))) (fun k658 => fn_iload_n rl_L_isAmong_5 rfl (fn_iload_n rl_L_isAmong_6 rfl (fn_icmp_gt rl_L_isAmong_7 (fun k655 => fn_iconst rl_L_isAmong_14 (fn_retci rl_L_isAmong_15 rfl (fn_retci rl_L_isYear_6 rfl (fn_if_ne_t rl_L_claims_4 (by decide +kernel) (fn_iconst rl_L_claims_7 (fn_reti rl_L_claims_8 rfl k655)))))) (fun k656 => fn_iconst rl_L_isAmong_10 (fn_goto rl_L_isAmong_11 (fn_retci rl_L_isAmong_15 rfl (fn_retci rl_L_isYear_6 rfl (fn_if_ne_f rl_L_claims_4 (by decide +kernel) (fn_aload_n rl_L_claims_9 rfl (fn_get rl_L_claims_10 hp_1 rfl (fn_aload_n rl_L_claims_13 rfl (fn_get rl_L_claims_14 hp_1 rfl (fn_get rl_L_claims_17 hp_2 rfl (fn_virt (as := [.ref 26, .ref 3]) (r := []) (ls' := [.ref 26, .ref 3]) rl_L_claims_20 rfl hp_26 rfl rfl pl_J_weigh rfl rfl (k656)))))))))))) k658))) k0))))))))
set_option maxRecDepth 100000 in
set_option maxHeartbeats 4000000 in
theorem sg_L_claims_23r {L : Nat} {xs : Nat → Int32} {A V : Nat → Nat → Int32} {K : Nat → Option Nat} {T : am_H} {v : Option Int32} {h' : am_H} {v1 : Int32} (k0 :
    am_fin [(z_J_claimBits, 0, [.ref 26, .int v1, .null, .null], []), (z_L_claims, 31, [.ref 1, .int v1], [])] (hp L xs A V K T) v h') : am_fin [(z_L_claims, 23, [.ref 1, .int v1], [])] (hp L xs A V K T) v h' :=
  fn_aload_n rl_L_claims_23 rfl (fn_get rl_L_claims_24 hp_1 rfl (fn_iload_n rl_L_claims_27 rfl (fn_virt (as := [.ref 26, .int v1]) (r := []) (ls' := [.ref 26, .int v1, .null, .null]) rl_L_claims_28 rfl hp_26 rfl rfl pl_J_claimBits rfl rfl (k0))))
set_option maxRecDepth 100000 in
set_option maxHeartbeats 4000000 in
theorem sg_L_claims_31r {L : Nat} {xs : Nat → Int32} {A V : Nat → Nat → Int32} {K : Nat → Option Nat} {T : am_H} {v : Option Int32} {h' : am_H} {v1 r : Int32} (k0 :
    v = some r ∧ h' = hp L xs A V K T) : am_fin [(z_L_claims, 31, [.ref 1, .int v1], [.int r])] (hp L xs A V K T) v h' :=
  fn_reti rl_L_claims_31 rfl k0
set_option maxRecDepth 100000 in
set_option maxHeartbeats 4000000 in
theorem sg_L_holds_0 {L : Nat} {xs : Nat → Int32} {A V : Nat → Nat → Int32} {K : Nat → Option Nat} {T : am_H} {v : Option Int32} {h' : am_H} {a1 a2 : Int32} (k0 :
    if a1 < 0 then (
      v = some (-1) ∧ h' = hp L xs A V K T)
    else (
      if 5 < a1 then (
        v = some (-1) ∧ h' = hp L xs A V K T)
      else (
        if a2 < 0 then (
          v = some (-1) ∧ h' = hp L xs A V K T)
        else (
          if 2 < a2 then (
            v = some (-1) ∧ h' = hp L xs A V K T)
          else (
            am_fin [(z_J_weigh, 0, [.ref 26, .ref 3], []), (z_L_holds, 30, [.ref 1, .int a1, .int a2], [])] (hp L xs A V K T) v h'))))) : am_fin [(z_L_holds, 0, [.ref 1, .int a1, .int a2], [])] (hp L xs A V K T) v h' :=
  fn_iload_n rl_L_holds_0 rfl (fn_stat (as := [.int a1]) (r := []) (ls' := [.int a1]) rl_L_holds_1 rfl rfl rfl rfl pl_L_isLand rfl rfl (fn_iload_n rl_L_isLand_0 rfl (fn_iconst rl_L_isLand_1 (fn_iconst rl_L_isLand_2 (fn_stat (as := [.int a1, .int 0, .int 5]) (r := []) (ls' := [.int a1, .int 0, .int 5]) rl_L_isLand_3 rfl rfl rfl rfl pl_L_isAmong rfl rfl (fn_iload_n rl_L_isAmong_0 rfl (fn_iload_n rl_L_isAmong_1 rfl (fn_icmp_lt rl_L_isAmong_2 (fun k665 => fn_iconst rl_L_isAmong_14 (fn_retci rl_L_isAmong_15 rfl (fn_retci rl_L_isLand_6 rfl (fn_if_eq_t rl_L_holds_4 (by decide +kernel) (fn_iconst rl_L_holds_14 (fn_reti rl_L_holds_15 rfl k665)))))) (fun k666 => fn_iload_n rl_L_isAmong_5 rfl (fn_iload_n rl_L_isAmong_6 rfl (fn_icmp_gt rl_L_isAmong_7 (fun k663 => fn_iconst rl_L_isAmong_14 (fn_retci rl_L_isAmong_15 rfl (fn_retci rl_L_isLand_6 rfl (fn_if_eq_t rl_L_holds_4 (by decide +kernel) (fn_iconst rl_L_holds_14 (fn_reti rl_L_holds_15 rfl k663)))))) (fun k664 => fn_iconst rl_L_isAmong_10 (fn_goto rl_L_isAmong_11 (fn_retci rl_L_isAmong_15 rfl (fn_retci rl_L_isLand_6 rfl (fn_if_eq_f rl_L_holds_4 (by decide +kernel) (fn_iload_n rl_L_holds_7 rfl (fn_stat (as := [.int a2]) (r := []) (ls' := [.int a2]) rl_L_holds_8 rfl rfl rfl rfl pl_L_isYear rfl rfl (fn_iload_n rl_L_isYear_0 rfl (fn_iconst rl_L_isYear_1 (fn_iconst rl_L_isYear_2 (fn_stat (as := [.int a2, .int 0, .int 2]) (r := []) (ls' := [.int a2, .int 0, .int 2]) rl_L_isYear_3 rfl rfl rfl rfl pl_L_isAmong rfl rfl (fn_iload_n rl_L_isAmong_0 rfl (fn_iload_n rl_L_isAmong_1 rfl (fn_icmp_lt rl_L_isAmong_2 (fun k661 => fn_iconst rl_L_isAmong_14 (fn_retci rl_L_isAmong_15 rfl (fn_retci rl_L_isYear_6 rfl (fn_if_ne_t rl_L_holds_11 (by decide +kernel) (fn_iconst rl_L_holds_14 (fn_reti rl_L_holds_15 rfl k661)))))) (fun k662 => fn_iload_n rl_L_isAmong_5 rfl (fn_iload_n rl_L_isAmong_6 rfl (fn_icmp_gt rl_L_isAmong_7 (fun k659 => fn_iconst rl_L_isAmong_14 (fn_retci rl_L_isAmong_15 rfl (fn_retci rl_L_isYear_6 rfl (fn_if_ne_t rl_L_holds_11 (by decide +kernel) (fn_iconst rl_L_holds_14 (fn_reti rl_L_holds_15 rfl k659)))))) (fun k660 => fn_iconst rl_L_isAmong_10 (fn_goto rl_L_isAmong_11 (fn_retci rl_L_isAmong_15 rfl (fn_retci rl_L_isYear_6 rfl (fn_if_ne_f rl_L_holds_11 (by decide +kernel) (fn_aload_n rl_L_holds_16 rfl (fn_get rl_L_holds_17 hp_1 rfl (fn_aload_n rl_L_holds_20 rfl (fn_get rl_L_holds_21 hp_1 rfl (fn_get rl_L_holds_24 hp_2 rfl (fn_virt (as := [.ref 26, .ref 3]) (r := []) (ls' := [.ref 26, .ref 3]) rl_L_holds_27 rfl hp_26 rfl rfl pl_J_weigh rfl rfl (k660)))))))))))) k662))) k664)))))))))))))) k666))) k0))))))))
set_option maxRecDepth 100000 in
set_option maxHeartbeats 4000000 in
theorem sg_L_holds_30r {L : Nat} {xs : Nat → Int32} {A V : Nat → Nat → Int32} {K : Nat → Option Nat} {T : am_H} {v : Option Int32} {h' : am_H} {v1 v2 : Int32} (k0 :
    am_fin [(z_J_holdingBits, 0, [.ref 26, .int v1, .int v2, .null, .null, .null], []), (z_L_holds, 39, [.ref 1, .int v1, .int v2], [])] (hp L xs A V K T) v h') : am_fin [(z_L_holds, 30, [.ref 1, .int v1, .int v2], [])] (hp L xs A V K T) v h' :=
  fn_aload_n rl_L_holds_30 rfl (fn_get rl_L_holds_31 hp_1 rfl (fn_iload_n rl_L_holds_34 rfl (fn_iload_n rl_L_holds_35 rfl (fn_virt (as := [.ref 26, .int v1, .int v2]) (r := []) (ls' := [.ref 26, .int v1, .int v2, .null, .null, .null]) rl_L_holds_36 rfl hp_26 rfl rfl pl_J_holdingBits rfl rfl (k0)))))
set_option maxRecDepth 100000 in
set_option maxHeartbeats 4000000 in
theorem sg_L_holds_39r {L : Nat} {xs : Nat → Int32} {A V : Nat → Nat → Int32} {K : Nat → Option Nat} {T : am_H} {v : Option Int32} {h' : am_H} {v1 v2 r : Int32} (k0 :
    v = some r ∧ h' = hp L xs A V K T) : am_fin [(z_L_holds, 39, [.ref 1, .int v1, .int v2], [.int r])] (hp L xs A V K T) v h' :=
  fn_reti rl_L_holds_39 rfl k0
set_option maxRecDepth 100000 in
set_option maxHeartbeats 4000000 in
theorem sg_L_answers_0 {L : Nat} {xs : Nat → Int32} {A V : Nat → Nat → Int32} {K : Nat → Option Nat} {T : am_H} {v : Option Int32} {h' : am_H} {a1 a2 a3 : Int32} (k0 :
    if a1 < 0 then (
      v = some (-1) ∧ h' = hp L xs A V K T)
    else (
      if 5 < a1 then (
        v = some (-1) ∧ h' = hp L xs A V K T)
      else (
        if a2 < 0 then (
          v = some (-1) ∧ h' = hp L xs A V K T)
        else (
          if 5 < a2 then (
            v = some (-1) ∧ h' = hp L xs A V K T)
          else (
            if a1 = a2 then (
              v = some (-1) ∧ h' = hp L xs A V K T)
            else (
              if a3 < 0 then (
                v = some (-1) ∧ h' = hp L xs A V K T)
              else (
                if 2 < a3 then (
                  v = some (-1) ∧ h' = hp L xs A V K T)
                else (
                  am_fin [(z_J_weigh, 0, [.ref 26, .ref 3], []), (z_L_answers, 31, [.ref 1, .int a1, .int a2, .int a3], [])] (hp L xs A V K T) v h')))))))) : am_fin [(z_L_answers, 0, [.ref 1, .int a1, .int a2, .int a3], [])] (hp L xs A V K T) v h' :=
  fn_iload_n rl_L_answers_0 rfl (fn_iload_n rl_L_answers_1 rfl (fn_stat (as := [.int a1, .int a2]) (r := []) (ls' := [.int a1, .int a2]) rl_L_answers_2 rfl rfl rfl rfl pl_L_isPair rfl rfl (fn_iload_n rl_L_isPair_0 rfl (fn_stat (as := [.int a1]) (r := []) (ls' := [.int a1]) rl_L_isPair_1 rfl rfl rfl rfl pl_L_isLand rfl rfl (fn_iload_n rl_L_isLand_0 rfl (fn_iconst rl_L_isLand_1 (fn_iconst rl_L_isLand_2 (fn_stat (as := [.int a1, .int 0, .int 5]) (r := []) (ls' := [.int a1, .int 0, .int 5]) rl_L_isLand_3 rfl rfl rfl rfl pl_L_isAmong rfl rfl (fn_iload_n rl_L_isAmong_0 rfl (fn_iload_n rl_L_isAmong_1 rfl (fn_icmp_lt rl_L_isAmong_2 (fun k679 => fn_iconst rl_L_isAmong_14 (fn_retci rl_L_isAmong_15 rfl (fn_retci rl_L_isLand_6 rfl (fn_if_eq_t rl_L_isPair_4 (by decide +kernel) (fn_iconst rl_L_isPair_23 (fn_retci rl_L_isPair_24 rfl (fn_if_eq_t rl_L_answers_5 (by decide +kernel) (fn_iconst rl_L_answers_15 (fn_reti rl_L_answers_16 rfl k679))))))))) (fun k680 => fn_iload_n rl_L_isAmong_5 rfl (fn_iload_n rl_L_isAmong_6 rfl (fn_icmp_gt rl_L_isAmong_7 (fun k677 => fn_iconst rl_L_isAmong_14 (fn_retci rl_L_isAmong_15 rfl (fn_retci rl_L_isLand_6 rfl (fn_if_eq_t rl_L_isPair_4 (by decide +kernel) (fn_iconst rl_L_isPair_23 (fn_retci rl_L_isPair_24 rfl (fn_if_eq_t rl_L_answers_5 (by decide +kernel) (fn_iconst rl_L_answers_15 (fn_reti rl_L_answers_16 rfl k677))))))))) (fun k678 => fn_iconst rl_L_isAmong_10 (fn_goto rl_L_isAmong_11 (fn_retci rl_L_isAmong_15 rfl (fn_retci rl_L_isLand_6 rfl (fn_if_eq_f rl_L_isPair_4 (by decide +kernel) (fn_iload_n rl_L_isPair_7 rfl (fn_stat (as := [.int a2]) (r := []) (ls' := [.int a2]) rl_L_isPair_8 rfl rfl rfl rfl pl_L_isLand rfl rfl (fn_iload_n rl_L_isLand_0 rfl (fn_iconst rl_L_isLand_1 (fn_iconst rl_L_isLand_2 (fn_stat (as := [.int a2, .int 0, .int 5]) (r := []) (ls' := [.int a2, .int 0, .int 5]) rl_L_isLand_3 rfl rfl rfl rfl pl_L_isAmong rfl rfl (fn_iload_n rl_L_isAmong_0 rfl (fn_iload_n rl_L_isAmong_1 rfl (fn_icmp_lt rl_L_isAmong_2 (fun k675 => fn_iconst rl_L_isAmong_14 (fn_retci rl_L_isAmong_15 rfl (fn_retci rl_L_isLand_6 rfl (fn_if_eq_t rl_L_isPair_11 (by decide +kernel) (fn_iconst rl_L_isPair_23 (fn_retci rl_L_isPair_24 rfl (fn_if_eq_t rl_L_answers_5 (by decide +kernel) (fn_iconst rl_L_answers_15 (fn_reti rl_L_answers_16 rfl k675))))))))) (fun k676 => fn_iload_n rl_L_isAmong_5 rfl (fn_iload_n rl_L_isAmong_6 rfl (fn_icmp_gt rl_L_isAmong_7 (fun k673 => fn_iconst rl_L_isAmong_14 (fn_retci rl_L_isAmong_15 rfl (fn_retci rl_L_isLand_6 rfl (fn_if_eq_t rl_L_isPair_11 (by decide +kernel) (fn_iconst rl_L_isPair_23 (fn_retci rl_L_isPair_24 rfl (fn_if_eq_t rl_L_answers_5 (by decide +kernel) (fn_iconst rl_L_answers_15 (fn_reti rl_L_answers_16 rfl k673))))))))) (fun k674 => fn_iconst rl_L_isAmong_10 (fn_goto rl_L_isAmong_11 (fn_retci rl_L_isAmong_15 rfl (fn_retci rl_L_isLand_6 rfl (fn_if_eq_f rl_L_isPair_11 (by decide +kernel) (fn_iload_n rl_L_isPair_14 rfl (fn_iload_n rl_L_isPair_15 rfl (fn_icmp_eq rl_L_isPair_16 (fun k671 => fn_iconst rl_L_isPair_23 (fn_retci rl_L_isPair_24 rfl (fn_if_eq_t rl_L_answers_5 (by decide +kernel) (fn_iconst rl_L_answers_15 (fn_reti rl_L_answers_16 rfl k671))))) (fun k672 => fn_iconst rl_L_isPair_19 (fn_goto rl_L_isPair_20 (fn_retci rl_L_isPair_24 rfl (fn_if_eq_f rl_L_answers_5 (by decide +kernel) (fn_iload_n rl_L_answers_8 rfl (fn_stat (as := [.int a3]) (r := []) (ls' := [.int a3]) rl_L_answers_9 rfl rfl rfl rfl pl_L_isYear rfl rfl (fn_iload_n rl_L_isYear_0 rfl (fn_iconst rl_L_isYear_1 (fn_iconst rl_L_isYear_2 (fn_stat (as := [.int a3, .int 0, .int 2]) (r := []) (ls' := [.int a3, .int 0, .int 2]) rl_L_isYear_3 rfl rfl rfl rfl pl_L_isAmong rfl rfl (fn_iload_n rl_L_isAmong_0 rfl (fn_iload_n rl_L_isAmong_1 rfl (fn_icmp_lt rl_L_isAmong_2 (fun k669 => fn_iconst rl_L_isAmong_14 (fn_retci rl_L_isAmong_15 rfl (fn_retci rl_L_isYear_6 rfl (fn_if_ne_t rl_L_answers_12 (by decide +kernel) (fn_iconst rl_L_answers_15 (fn_reti rl_L_answers_16 rfl k669)))))) (fun k670 => fn_iload_n rl_L_isAmong_5 rfl (fn_iload_n rl_L_isAmong_6 rfl (fn_icmp_gt rl_L_isAmong_7 (fun k667 => fn_iconst rl_L_isAmong_14 (fn_retci rl_L_isAmong_15 rfl (fn_retci rl_L_isYear_6 rfl (fn_if_ne_t rl_L_answers_12 (by decide +kernel) (fn_iconst rl_L_answers_15 (fn_reti rl_L_answers_16 rfl k667)))))) (fun k668 => fn_iconst rl_L_isAmong_10 (fn_goto rl_L_isAmong_11 (fn_retci rl_L_isAmong_15 rfl (fn_retci rl_L_isYear_6 rfl (fn_if_ne_f rl_L_answers_12 (by decide +kernel) (fn_aload_n rl_L_answers_17 rfl (fn_get rl_L_answers_18 hp_1 rfl (fn_aload_n rl_L_answers_21 rfl (fn_get rl_L_answers_22 hp_1 rfl (fn_get rl_L_answers_25 hp_2 rfl (fn_virt (as := [.ref 26, .ref 3]) (r := []) (ls' := [.ref 26, .ref 3]) rl_L_answers_28 rfl hp_26 rfl rfl pl_J_weigh rfl rfl (k668)))))))))))) k670))) k672))))))))))))) k674)))))))) k676))) k678)))))))))))))) k680))) k0)))))))))))
set_option maxRecDepth 100000 in
set_option maxHeartbeats 4000000 in
theorem sg_L_answers_31r {L : Nat} {xs : Nat → Int32} {A V : Nat → Nat → Int32} {K : Nat → Option Nat} {T : am_H} {v : Option Int32} {h' : am_H} {v1 v2 v3 : Int32} (k0 :
    am_fin [(z_J_answerOf, 0, [.ref 26, .int v1, .int v2, .int v3, .null, .null, .null], []), (z_L_answers, 41, [.ref 1, .int v1, .int v2, .int v3], [])] (hp L xs A V K T) v h') : am_fin [(z_L_answers, 31, [.ref 1, .int v1, .int v2, .int v3], [])] (hp L xs A V K T) v h' :=
  fn_aload_n rl_L_answers_31 rfl (fn_get rl_L_answers_32 hp_1 rfl (fn_iload_n rl_L_answers_35 rfl (fn_iload_n rl_L_answers_36 rfl (fn_iload_n rl_L_answers_37 rfl (fn_virt (as := [.ref 26, .int v1, .int v2, .int v3]) (r := []) (ls' := [.ref 26, .int v1, .int v2, .int v3, .null, .null, .null]) rl_L_answers_38 rfl hp_26 rfl rfl pl_J_answerOf rfl rfl (k0))))))
set_option maxRecDepth 100000 in
set_option maxHeartbeats 4000000 in
theorem sg_L_answers_41r {L : Nat} {xs : Nat → Int32} {A V : Nat → Nat → Int32} {K : Nat → Option Nat} {T : am_H} {v : Option Int32} {h' : am_H} {v1 v2 v3 r : Int32} (k0 :
    v = some r ∧ h' = hp L xs A V K T) : am_fin [(z_L_answers, 41, [.ref 1, .int v1, .int v2, .int v3], [.int r])] (hp L xs A V K T) v h' :=
  fn_reti rl_L_answers_41 rfl k0
set_option maxRecDepth 100000 in
set_option maxHeartbeats 4000000 in
theorem sg_L_by_0 {L : Nat} {xs : Nat → Int32} {A V : Nat → Nat → Int32} {K : Nat → Option Nat} {T : am_H} {v : Option Int32} {h' : am_H} {a1 a2 a3 : Int32} (k0 :
    if a1 < 0 then (
      v = some (-1) ∧ h' = hp L xs A V K T)
    else (
      if 5 < a1 then (
        v = some (-1) ∧ h' = hp L xs A V K T)
      else (
        if a2 < 0 then (
          v = some (-1) ∧ h' = hp L xs A V K T)
        else (
          if 5 < a2 then (
            v = some (-1) ∧ h' = hp L xs A V K T)
          else (
            if a1 = a2 then (
              v = some (-1) ∧ h' = hp L xs A V K T)
            else (
              if a3 < 0 then (
                v = some (-1) ∧ h' = hp L xs A V K T)
              else (
                if 2 < a3 then (
                  v = some (-1) ∧ h' = hp L xs A V K T)
                else (
                  am_fin [(z_J_weigh, 0, [.ref 26, .ref 3], []), (z_L_by, 31, [.ref 1, .int a1, .int a2, .int a3], [])] (hp L xs A V K T) v h')))))))) : am_fin [(z_L_by, 0, [.ref 1, .int a1, .int a2, .int a3], [])] (hp L xs A V K T) v h' :=
  fn_iload_n rl_L_by_0 rfl (fn_iload_n rl_L_by_1 rfl (fn_stat (as := [.int a1, .int a2]) (r := []) (ls' := [.int a1, .int a2]) rl_L_by_2 rfl rfl rfl rfl pl_L_isPair rfl rfl (fn_iload_n rl_L_isPair_0 rfl (fn_stat (as := [.int a1]) (r := []) (ls' := [.int a1]) rl_L_isPair_1 rfl rfl rfl rfl pl_L_isLand rfl rfl (fn_iload_n rl_L_isLand_0 rfl (fn_iconst rl_L_isLand_1 (fn_iconst rl_L_isLand_2 (fn_stat (as := [.int a1, .int 0, .int 5]) (r := []) (ls' := [.int a1, .int 0, .int 5]) rl_L_isLand_3 rfl rfl rfl rfl pl_L_isAmong rfl rfl (fn_iload_n rl_L_isAmong_0 rfl (fn_iload_n rl_L_isAmong_1 rfl (fn_icmp_lt rl_L_isAmong_2 (fun k693 => fn_iconst rl_L_isAmong_14 (fn_retci rl_L_isAmong_15 rfl (fn_retci rl_L_isLand_6 rfl (fn_if_eq_t rl_L_isPair_4 (by decide +kernel) (fn_iconst rl_L_isPair_23 (fn_retci rl_L_isPair_24 rfl (fn_if_eq_t rl_L_by_5 (by decide +kernel) (fn_iconst rl_L_by_15 (fn_reti rl_L_by_16 rfl k693))))))))) (fun k694 => fn_iload_n rl_L_isAmong_5 rfl (fn_iload_n rl_L_isAmong_6 rfl (fn_icmp_gt rl_L_isAmong_7 (fun k691 => fn_iconst rl_L_isAmong_14 (fn_retci rl_L_isAmong_15 rfl (fn_retci rl_L_isLand_6 rfl (fn_if_eq_t rl_L_isPair_4 (by decide +kernel) (fn_iconst rl_L_isPair_23 (fn_retci rl_L_isPair_24 rfl (fn_if_eq_t rl_L_by_5 (by decide +kernel) (fn_iconst rl_L_by_15 (fn_reti rl_L_by_16 rfl k691))))))))) (fun k692 => fn_iconst rl_L_isAmong_10 (fn_goto rl_L_isAmong_11 (fn_retci rl_L_isAmong_15 rfl (fn_retci rl_L_isLand_6 rfl (fn_if_eq_f rl_L_isPair_4 (by decide +kernel) (fn_iload_n rl_L_isPair_7 rfl (fn_stat (as := [.int a2]) (r := []) (ls' := [.int a2]) rl_L_isPair_8 rfl rfl rfl rfl pl_L_isLand rfl rfl (fn_iload_n rl_L_isLand_0 rfl (fn_iconst rl_L_isLand_1 (fn_iconst rl_L_isLand_2 (fn_stat (as := [.int a2, .int 0, .int 5]) (r := []) (ls' := [.int a2, .int 0, .int 5]) rl_L_isLand_3 rfl rfl rfl rfl pl_L_isAmong rfl rfl (fn_iload_n rl_L_isAmong_0 rfl (fn_iload_n rl_L_isAmong_1 rfl (fn_icmp_lt rl_L_isAmong_2 (fun k689 => fn_iconst rl_L_isAmong_14 (fn_retci rl_L_isAmong_15 rfl (fn_retci rl_L_isLand_6 rfl (fn_if_eq_t rl_L_isPair_11 (by decide +kernel) (fn_iconst rl_L_isPair_23 (fn_retci rl_L_isPair_24 rfl (fn_if_eq_t rl_L_by_5 (by decide +kernel) (fn_iconst rl_L_by_15 (fn_reti rl_L_by_16 rfl k689))))))))) (fun k690 => fn_iload_n rl_L_isAmong_5 rfl (fn_iload_n rl_L_isAmong_6 rfl (fn_icmp_gt rl_L_isAmong_7 (fun k687 => fn_iconst rl_L_isAmong_14 (fn_retci rl_L_isAmong_15 rfl (fn_retci rl_L_isLand_6 rfl (fn_if_eq_t rl_L_isPair_11 (by decide +kernel) (fn_iconst rl_L_isPair_23 (fn_retci rl_L_isPair_24 rfl (fn_if_eq_t rl_L_by_5 (by decide +kernel) (fn_iconst rl_L_by_15 (fn_reti rl_L_by_16 rfl k687))))))))) (fun k688 => fn_iconst rl_L_isAmong_10 (fn_goto rl_L_isAmong_11 (fn_retci rl_L_isAmong_15 rfl (fn_retci rl_L_isLand_6 rfl (fn_if_eq_f rl_L_isPair_11 (by decide +kernel) (fn_iload_n rl_L_isPair_14 rfl (fn_iload_n rl_L_isPair_15 rfl (fn_icmp_eq rl_L_isPair_16 (fun k685 => fn_iconst rl_L_isPair_23 (fn_retci rl_L_isPair_24 rfl (fn_if_eq_t rl_L_by_5 (by decide +kernel) (fn_iconst rl_L_by_15 (fn_reti rl_L_by_16 rfl k685))))) (fun k686 => fn_iconst rl_L_isPair_19 (fn_goto rl_L_isPair_20 (fn_retci rl_L_isPair_24 rfl (fn_if_eq_f rl_L_by_5 (by decide +kernel) (fn_iload_n rl_L_by_8 rfl (fn_stat (as := [.int a3]) (r := []) (ls' := [.int a3]) rl_L_by_9 rfl rfl rfl rfl pl_L_isYear rfl rfl (fn_iload_n rl_L_isYear_0 rfl (fn_iconst rl_L_isYear_1 (fn_iconst rl_L_isYear_2 (fn_stat (as := [.int a3, .int 0, .int 2]) (r := []) (ls' := [.int a3, .int 0, .int 2]) rl_L_isYear_3 rfl rfl rfl rfl pl_L_isAmong rfl rfl (fn_iload_n rl_L_isAmong_0 rfl (fn_iload_n rl_L_isAmong_1 rfl (fn_icmp_lt rl_L_isAmong_2 (fun k683 => fn_iconst rl_L_isAmong_14 (fn_retci rl_L_isAmong_15 rfl (fn_retci rl_L_isYear_6 rfl (fn_if_ne_t rl_L_by_12 (by decide +kernel) (fn_iconst rl_L_by_15 (fn_reti rl_L_by_16 rfl k683)))))) (fun k684 => fn_iload_n rl_L_isAmong_5 rfl (fn_iload_n rl_L_isAmong_6 rfl (fn_icmp_gt rl_L_isAmong_7 (fun k681 => fn_iconst rl_L_isAmong_14 (fn_retci rl_L_isAmong_15 rfl (fn_retci rl_L_isYear_6 rfl (fn_if_ne_t rl_L_by_12 (by decide +kernel) (fn_iconst rl_L_by_15 (fn_reti rl_L_by_16 rfl k681)))))) (fun k682 => fn_iconst rl_L_isAmong_10 (fn_goto rl_L_isAmong_11 (fn_retci rl_L_isAmong_15 rfl (fn_retci rl_L_isYear_6 rfl (fn_if_ne_f rl_L_by_12 (by decide +kernel) (fn_aload_n rl_L_by_17 rfl (fn_get rl_L_by_18 hp_1 rfl (fn_aload_n rl_L_by_21 rfl (fn_get rl_L_by_22 hp_1 rfl (fn_get rl_L_by_25 hp_2 rfl (fn_virt (as := [.ref 26, .ref 3]) (r := []) (ls' := [.ref 26, .ref 3]) rl_L_by_28 rfl hp_26 rfl rfl pl_J_weigh rfl rfl (k682)))))))))))) k684))) k686))))))))))))) k688)))))))) k690))) k692)))))))))))))) k694))) k0)))))))))))
set_option maxRecDepth 100000 in
set_option maxHeartbeats 4000000 in
theorem sg_L_by_31r {L : Nat} {xs : Nat → Int32} {A V : Nat → Nat → Int32} {K : Nat → Option Nat} {T : am_H} {v : Option Int32} {h' : am_H} {v1 v2 v3 : Int32} (k0 :
    am_fin [(z_J_tellingPlace, 0, [.ref 26, .int v1, .int v2, .int v3, .null, .null], []), (z_L_by, 41, [.ref 1, .int v1, .int v2, .int v3], [])] (hp L xs A V K T) v h') : am_fin [(z_L_by, 31, [.ref 1, .int v1, .int v2, .int v3], [])] (hp L xs A V K T) v h' :=
  fn_aload_n rl_L_by_31 rfl (fn_get rl_L_by_32 hp_1 rfl (fn_iload_n rl_L_by_35 rfl (fn_iload_n rl_L_by_36 rfl (fn_iload_n rl_L_by_37 rfl (fn_virt (as := [.ref 26, .int v1, .int v2, .int v3]) (r := []) (ls' := [.ref 26, .int v1, .int v2, .int v3, .null, .null]) rl_L_by_38 rfl hp_26 rfl rfl pl_J_tellingPlace rfl rfl (k0))))))
set_option maxRecDepth 100000 in
set_option maxHeartbeats 4000000 in
theorem sg_L_by_41r {L : Nat} {xs : Nat → Int32} {A V : Nat → Nat → Int32} {K : Nat → Option Nat} {T : am_H} {v : Option Int32} {h' : am_H} {v1 v2 v3 r : Int32} (k0 :
    v = some r ∧ h' = hp L xs A V K T) : am_fin [(z_L_by, 41, [.ref 1, .int v1, .int v2, .int v3], [.int r])] (hp L xs A V K T) v h' :=
  fn_reti rl_L_by_41 rfl k0
set_option maxRecDepth 100000 in
set_option maxHeartbeats 4000000 in
theorem sg_L_lives_0 {L : Nat} {xs : Nat → Int32} {A V : Nat → Nat → Int32} {K : Nat → Option Nat} {T : am_H} {v : Option Int32} {h' : am_H} {a1 : Int32} (k0 :
    if a1 < 0 then (
      v = some (-1) ∧ h' = hp L xs A V K T)
    else (
      if 2 < a1 then (
        v = some (-1) ∧ h' = hp L xs A V K T)
      else (
        am_fin [(z_J_weigh, 0, [.ref 26, .ref 3], []), (z_L_lives, 23, [.ref 1, .int a1], [])] (hp L xs A V K T) v h'))) : am_fin [(z_L_lives, 0, [.ref 1, .int a1], [])] (hp L xs A V K T) v h' :=
  fn_iload_n rl_L_lives_0 rfl (fn_stat (as := [.int a1]) (r := []) (ls' := [.int a1]) rl_L_lives_1 rfl rfl rfl rfl pl_L_isYear rfl rfl (fn_iload_n rl_L_isYear_0 rfl (fn_iconst rl_L_isYear_1 (fn_iconst rl_L_isYear_2 (fn_stat (as := [.int a1, .int 0, .int 2]) (r := []) (ls' := [.int a1, .int 0, .int 2]) rl_L_isYear_3 rfl rfl rfl rfl pl_L_isAmong rfl rfl (fn_iload_n rl_L_isAmong_0 rfl (fn_iload_n rl_L_isAmong_1 rfl (fn_icmp_lt rl_L_isAmong_2 (fun k697 => fn_iconst rl_L_isAmong_14 (fn_retci rl_L_isAmong_15 rfl (fn_retci rl_L_isYear_6 rfl (fn_if_ne_t rl_L_lives_4 (by decide +kernel) (fn_iconst rl_L_lives_7 (fn_reti rl_L_lives_8 rfl k697)))))) (fun k698 => fn_iload_n rl_L_isAmong_5 rfl (fn_iload_n rl_L_isAmong_6 rfl (fn_icmp_gt rl_L_isAmong_7 (fun k695 => fn_iconst rl_L_isAmong_14 (fn_retci rl_L_isAmong_15 rfl (fn_retci rl_L_isYear_6 rfl (fn_if_ne_t rl_L_lives_4 (by decide +kernel) (fn_iconst rl_L_lives_7 (fn_reti rl_L_lives_8 rfl k695)))))) (fun k696 => fn_iconst rl_L_isAmong_10 (fn_goto rl_L_isAmong_11 (fn_retci rl_L_isAmong_15 rfl (fn_retci rl_L_isYear_6 rfl (fn_if_ne_f rl_L_lives_4 (by decide +kernel) (fn_aload_n rl_L_lives_9 rfl (fn_get rl_L_lives_10 hp_1 rfl (fn_aload_n rl_L_lives_13 rfl (fn_get rl_L_lives_14 hp_1 rfl (fn_get rl_L_lives_17 hp_2 rfl (fn_virt (as := [.ref 26, .ref 3]) (r := []) (ls' := [.ref 26, .ref 3]) rl_L_lives_20 rfl hp_26 rfl rfl pl_J_weigh rfl rfl (k696)))))))))))) k698))) k0))))))))
set_option maxRecDepth 100000 in
set_option maxHeartbeats 4000000 in
theorem sg_L_lives_23r {L : Nat} {xs : Nat → Int32} {A V : Nat → Nat → Int32} {K : Nat → Option Nat} {T : am_H} {v : Option Int32} {h' : am_H} {v1 : Int32} (k0 :
    am_fin [(z_J_livesIn, 0, [.ref 26, .int v1, .null, .null, .null], []), (z_L_lives, 31, [.ref 1, .int v1], [])] (hp L xs A V K T) v h') : am_fin [(z_L_lives, 23, [.ref 1, .int v1], [])] (hp L xs A V K T) v h' :=
  fn_aload_n rl_L_lives_23 rfl (fn_get rl_L_lives_24 hp_1 rfl (fn_iload_n rl_L_lives_27 rfl (fn_virt (as := [.ref 26, .int v1]) (r := []) (ls' := [.ref 26, .int v1, .null, .null, .null]) rl_L_lives_28 rfl hp_26 rfl rfl pl_J_livesIn rfl rfl (k0))))
set_option maxRecDepth 100000 in
set_option maxHeartbeats 4000000 in
theorem sg_L_lives_31r {L : Nat} {xs : Nat → Int32} {A V : Nat → Nat → Int32} {K : Nat → Option Nat} {T : am_H} {v : Option Int32} {h' : am_H} {v1 r : Int32} (k0 :
    v = some r ∧ h' = hp L xs A V K T) : am_fin [(z_L_lives, 31, [.ref 1, .int v1], [.int r])] (hp L xs A V K T) v h' :=
  fn_reti rl_L_lives_31 rfl k0
set_option maxRecDepth 100000 in
set_option maxHeartbeats 4000000 in
theorem sg_L_pairs_0 {L : Nat} {xs : Nat → Int32} {A V : Nat → Nat → Int32} {K : Nat → Option Nat} {T : am_H} {v : Option Int32} {h' : am_H} {a1 a2 : Int32} (k0 :
    if a1 < 0 then (
      v = some (-1) ∧ h' = hp L xs A V K T)
    else (
      if 2 < a1 then (
        v = some (-1) ∧ h' = hp L xs A V K T)
      else (
        if a2 < 0 then (
          v = some (-1) ∧ h' = hp L xs A V K T)
        else (
          if 2 < a2 then (
            v = some (-1) ∧ h' = hp L xs A V K T)
          else (
            am_fin [(z_J_weigh, 0, [.ref 26, .ref 3], []), (z_L_pairs, 32, [.ref 1, .int a1, .int a2, .null, .null, .null, .null], [])] (hp L xs A V K T) v h'))))) : am_fin [(z_L_pairs, 0, [.ref 1, .int a1, .int a2, .null, .null, .null, .null], [])] (hp L xs A V K T) v h' :=
  fn_iload_n rl_L_pairs_0 rfl (fn_stat (as := [.int a1]) (r := []) (ls' := [.int a1]) rl_L_pairs_1 rfl rfl rfl rfl pl_L_isYear rfl rfl (fn_iload_n rl_L_isYear_0 rfl (fn_iconst rl_L_isYear_1 (fn_iconst rl_L_isYear_2 (fn_stat (as := [.int a1, .int 0, .int 2]) (r := []) (ls' := [.int a1, .int 0, .int 2]) rl_L_isYear_3 rfl rfl rfl rfl pl_L_isAmong rfl rfl (fn_iload_n rl_L_isAmong_0 rfl (fn_iload_n rl_L_isAmong_1 rfl (fn_icmp_lt rl_L_isAmong_2 (fun k705 => fn_iconst rl_L_isAmong_14 (fn_retci rl_L_isAmong_15 rfl (fn_retci rl_L_isYear_6 rfl (fn_if_eq_t rl_L_pairs_4 (by decide +kernel) (fn_iconst rl_L_pairs_16 (fn_reti rl_L_pairs_17 rfl k705)))))) (fun k706 => fn_iload_n rl_L_isAmong_5 rfl (fn_iload_n rl_L_isAmong_6 rfl (fn_icmp_gt rl_L_isAmong_7 (fun k703 => fn_iconst rl_L_isAmong_14 (fn_retci rl_L_isAmong_15 rfl (fn_retci rl_L_isYear_6 rfl (fn_if_eq_t rl_L_pairs_4 (by decide +kernel) (fn_iconst rl_L_pairs_16 (fn_reti rl_L_pairs_17 rfl k703)))))) (fun k704 => fn_iconst rl_L_isAmong_10 (fn_goto rl_L_isAmong_11 (fn_retci rl_L_isAmong_15 rfl (fn_retci rl_L_isYear_6 rfl (fn_if_eq_f rl_L_pairs_4 (by decide +kernel) (fn_iload_n rl_L_pairs_7 rfl (fn_iconst rl_L_pairs_8 (fn_iconst rl_L_pairs_9 (fn_stat (as := [.int a2, .int 0, .int 2]) (r := []) (ls' := [.int a2, .int 0, .int 2]) rl_L_pairs_10 rfl rfl rfl rfl pl_L_isAmong rfl rfl (fn_iload_n rl_L_isAmong_0 rfl (fn_iload_n rl_L_isAmong_1 rfl (fn_icmp_lt rl_L_isAmong_2 (fun k701 => fn_iconst rl_L_isAmong_14 (fn_retci rl_L_isAmong_15 rfl (fn_if_ne_t rl_L_pairs_13 (by decide +kernel) (fn_iconst rl_L_pairs_16 (fn_reti rl_L_pairs_17 rfl k701))))) (fun k702 => fn_iload_n rl_L_isAmong_5 rfl (fn_iload_n rl_L_isAmong_6 rfl (fn_icmp_gt rl_L_isAmong_7 (fun k699 => fn_iconst rl_L_isAmong_14 (fn_retci rl_L_isAmong_15 rfl (fn_if_ne_t rl_L_pairs_13 (by decide +kernel) (fn_iconst rl_L_pairs_16 (fn_reti rl_L_pairs_17 rfl k699))))) (fun k700 => fn_iconst rl_L_isAmong_10 (fn_goto rl_L_isAmong_11 (fn_retci rl_L_isAmong_15 rfl (fn_if_ne_f rl_L_pairs_13 (by decide +kernel) (fn_aload_n rl_L_pairs_18 rfl (fn_get rl_L_pairs_19 hp_1 rfl (fn_aload_n rl_L_pairs_22 rfl (fn_get rl_L_pairs_23 hp_1 rfl (fn_get rl_L_pairs_26 hp_2 rfl (fn_virt (as := [.ref 26, .ref 3]) (r := []) (ls' := [.ref 26, .ref 3]) rl_L_pairs_29 rfl hp_26 rfl rfl pl_J_weigh rfl rfl (k700))))))))))) k702))) k704)))))))))))) k706))) k0))))))))
set_option maxRecDepth 100000 in
set_option maxHeartbeats 4000000 in
theorem sg_L_pairs_32r {L : Nat} {xs : Nat → Int32} {A V : Nat → Nat → Int32} {K : Nat → Option Nat} {T : am_H} {v : Option Int32} {h' : am_H} {v1 v2 : Int32} (k0 :
    am_fin [(z_J_claimBits, 0, [.ref 26, .int v1, .null, .null], []), (z_L_pairs, 40, [.ref 1, .int v1, .int v2, .null, .null, .null, .null], [])] (hp L xs A V K T) v h') : am_fin [(z_L_pairs, 32, [.ref 1, .int v1, .int v2, .null, .null, .null, .null], [])] (hp L xs A V K T) v h' :=
  fn_aload_n rl_L_pairs_32 rfl (fn_get rl_L_pairs_33 hp_1 rfl (fn_iload_n rl_L_pairs_36 rfl (fn_virt (as := [.ref 26, .int v1]) (r := []) (ls' := [.ref 26, .int v1, .null, .null]) rl_L_pairs_37 rfl hp_26 rfl rfl pl_J_claimBits rfl rfl (k0))))
set_option maxRecDepth 100000 in
set_option maxHeartbeats 4000000 in
theorem sg_L_pairs_40r {L : Nat} {xs : Nat → Int32} {A V : Nat → Nat → Int32} {K : Nat → Option Nat} {T : am_H} {v : Option Int32} {h' : am_H} {v1 v2 r : Int32} (k0 :
    am_fin [(z_L_pairs, 47, [.ref 1, .int v1, .int v2, .int r, .int 0, .int 0, .null], [])] (hp L xs A V K T) v h') : am_fin [(z_L_pairs, 40, [.ref 1, .int v1, .int v2, .null, .null, .null, .null], [.int r])] (hp L xs A V K T) v h' :=
  fn_istore_n (ls' := [.ref 1, .int v1, .int v2, .int r, .null, .null, .null]) rl_L_pairs_40 rfl rfl (fn_iconst rl_L_pairs_41 (fn_istore (ls' := [.ref 1, .int v1, .int v2, .int r, .int 0, .null, .null]) rl_L_pairs_42 rfl rfl (fn_iconst rl_L_pairs_44 (fn_istore (ls' := [.ref 1, .int v1, .int v2, .int r, .int 0, .int 0, .null]) rl_L_pairs_45 rfl rfl (k0)))))
set_option maxRecDepth 100000 in
set_option maxHeartbeats 4000000 in
theorem sg_L_pairs_47 {L : Nat} {xs : Nat → Int32} {A V : Nat → Nat → Int32} {K : Nat → Option Nat} {T : am_H} {v : Option Int32} {h' : am_H} {v1 v2 v3 v4 v5 : Int32} (k0 :
    if 6 ≤ v5 then (
      v = some v4 ∧ h' = hp L xs A V K T)
    else (
      am_fin [(z_L_pairs, 60, [.ref 1, .int v1, .int v2, .int v3, .int v4, .int v5, .int (v5 + 1)], [])] (hp L xs A V K T) v h')) : am_fin [(z_L_pairs, 47, [.ref 1, .int v1, .int v2, .int v3, .int v4, .int v5, .null], [])] (hp L xs A V K T) v h' :=
  fn_iload rl_L_pairs_47 rfl (fn_bipush rl_L_pairs_49 (fn_icmp_ge rl_L_pairs_51 (fun k707 => fn_iload rl_L_pairs_116 rfl (fn_reti rl_L_pairs_118 rfl k707)) (fun k708 => fn_iload rl_L_pairs_54 rfl (fn_iconst rl_L_pairs_56 (fn_iadd rl_L_pairs_57 (fn_istore (ls' := [.ref 1, .int v1, .int v2, .int v3, .int v4, .int v5, .int (v5 + 1)]) rl_L_pairs_58 rfl rfl (k708))))) k0))
set_option maxRecDepth 100000 in
set_option maxHeartbeats 4000000 in
theorem sg_L_pairs_60 {L : Nat} {xs : Nat → Int32} {A V : Nat → Nat → Int32} {K : Nat → Option Nat} {T : am_H} {v : Option Int32} {h' : am_H} {v1 v2 v3 v4 v5 v6 : Int32} (k0 :
    if 6 ≤ v6 then (
      am_fin [(z_L_pairs, 47, [.ref 1, .int v1, .int v2, .int v3, .int v4, .int (v5 + 1), .int v6], [])] (hp L xs A V K T) v h')
    else (
      if (((v3 : Int32) >>> (v5 &&& 31 : Int32)) &&& 1) = 1 then (
        if (((v3 : Int32) >>> (v6 &&& 31 : Int32)) &&& 1) = 1 then (
          am_fin [(z_J_isPairOf, 0, [.ref 26, .int v5, .int v6, .int v1, .int v2, .null, .null], []), (z_L_pairs, 98, [.ref 1, .int v1, .int v2, .int v3, .int v4, .int v5, .int v6], [])] (hp L xs A V K T) v h')
        else (
          am_fin [(z_L_pairs, 60, [.ref 1, .int v1, .int v2, .int v3, .int v4, .int v5, .int (v6 + 1)], [])] (hp L xs A V K T) v h'))
      else (
        am_fin [(z_L_pairs, 60, [.ref 1, .int v1, .int v2, .int v3, .int v4, .int v5, .int (v6 + 1)], [])] (hp L xs A V K T) v h'))) : am_fin [(z_L_pairs, 60, [.ref 1, .int v1, .int v2, .int v3, .int v4, .int v5, .int v6], [])] (hp L xs A V K T) v h' :=
  fn_iload rl_L_pairs_60 rfl (fn_bipush rl_L_pairs_62 (fn_icmp_ge rl_L_pairs_64 (fun k713 => fn_iinc (ls' := [.ref 1, .int v1, .int v2, .int v3, .int v4, .int (v5 + 1), .int v6]) rl_L_pairs_110 rfl rfl rfl (fn_goto rl_L_pairs_113 (k713))) (fun k714 => fn_iload_n rl_L_pairs_67 rfl (fn_iload rl_L_pairs_68 rfl (fn_stat (as := [.int v3, .int v5]) (r := []) (ls' := [.int v3, .int v5]) rl_L_pairs_70 rfl rfl rfl rfl pl_L_hasBit rfl rfl (fn_iload_n rl_L_hasBit_0 rfl (fn_iload_n rl_L_hasBit_1 rfl (fn_ishr rl_L_hasBit_2 (fn_iconst rl_L_hasBit_3 (fn_iand rl_L_hasBit_4 (fn_iconst rl_L_hasBit_5 (fn_icmp_ne rl_L_hasBit_6 (fun k711 => fn_iconst rl_L_hasBit_9 (fn_goto rl_L_hasBit_10 (fn_retci rl_L_hasBit_14 rfl (fn_if_eq_f rl_L_pairs_73 (by decide +kernel) (fn_iload_n rl_L_pairs_76 rfl (fn_iload rl_L_pairs_77 rfl (fn_stat (as := [.int v3, .int v6]) (r := []) (ls' := [.int v3, .int v6]) rl_L_pairs_79 rfl rfl rfl rfl pl_L_hasBit rfl rfl (fn_iload_n rl_L_hasBit_0 rfl (fn_iload_n rl_L_hasBit_1 rfl (fn_ishr rl_L_hasBit_2 (fn_iconst rl_L_hasBit_3 (fn_iand rl_L_hasBit_4 (fn_iconst rl_L_hasBit_5 (fn_icmp_ne rl_L_hasBit_6 (fun k709 => fn_iconst rl_L_hasBit_9 (fn_goto rl_L_hasBit_10 (fn_retci rl_L_hasBit_14 rfl (fn_if_eq_f rl_L_pairs_82 (by decide +kernel) (fn_aload_n rl_L_pairs_85 rfl (fn_get rl_L_pairs_86 hp_1 rfl (fn_iload rl_L_pairs_89 rfl (fn_iload rl_L_pairs_91 rfl (fn_iload_n rl_L_pairs_93 rfl (fn_iload_n rl_L_pairs_94 rfl (fn_virt (as := [.ref 26, .int v5, .int v6, .int v1, .int v2]) (r := []) (ls' := [.ref 26, .int v5, .int v6, .int v1, .int v2, .null, .null]) rl_L_pairs_95 rfl hp_26 rfl rfl pl_J_isPairOf rfl rfl (k709)))))))))))) (fun k710 => fn_iconst rl_L_hasBit_13 (fn_retci rl_L_hasBit_14 rfl (fn_if_eq_t rl_L_pairs_82 (by decide +kernel) (fn_iinc (ls' := [.ref 1, .int v1, .int v2, .int v3, .int v4, .int v5, .int (v6 + 1)]) rl_L_pairs_104 rfl rfl rfl (fn_goto rl_L_pairs_107 (k710)))))) k711)))))))))))))) (fun k712 => fn_iconst rl_L_hasBit_13 (fn_retci rl_L_hasBit_14 rfl (fn_if_eq_t rl_L_pairs_73 (by decide +kernel) (fn_iinc (ls' := [.ref 1, .int v1, .int v2, .int v3, .int v4, .int v5, .int (v6 + 1)]) rl_L_pairs_104 rfl rfl rfl (fn_goto rl_L_pairs_107 (k712)))))) k714)))))))))) k0))
set_option maxRecDepth 100000 in
set_option maxHeartbeats 4000000 in
theorem sg_L_pairs_47b {L : Nat} {xs : Nat → Int32} {A V : Nat → Nat → Int32} {K : Nat → Option Nat} {T : am_H} {v : Option Int32} {h' : am_H} {v1 v2 v3 v4 v5 v6 : Int32} (k0 :
    if 6 ≤ v5 then (
      v = some v4 ∧ h' = hp L xs A V K T)
    else (
      am_fin [(z_L_pairs, 60, [.ref 1, .int v1, .int v2, .int v3, .int v4, .int v5, .int (v5 + 1)], [])] (hp L xs A V K T) v h')) : am_fin [(z_L_pairs, 47, [.ref 1, .int v1, .int v2, .int v3, .int v4, .int v5, .int v6], [])] (hp L xs A V K T) v h' :=
  fn_iload rl_L_pairs_47 rfl (fn_bipush rl_L_pairs_49 (fn_icmp_ge rl_L_pairs_51 (fun k715 => fn_iload rl_L_pairs_116 rfl (fn_reti rl_L_pairs_118 rfl k715)) (fun k716 => fn_iload rl_L_pairs_54 rfl (fn_iconst rl_L_pairs_56 (fn_iadd rl_L_pairs_57 (fn_istore (ls' := [.ref 1, .int v1, .int v2, .int v3, .int v4, .int v5, .int (v5 + 1)]) rl_L_pairs_58 rfl rfl (k716))))) k0))
set_option maxRecDepth 100000 in
set_option maxHeartbeats 4000000 in
theorem sg_L_pairs_98r {L : Nat} {xs : Nat → Int32} {A V : Nat → Nat → Int32} {K : Nat → Option Nat} {T : am_H} {v : Option Int32} {h' : am_H} {v1 v2 v3 v4 v5 v6 r : Int32} (k0 :
    if r = 0 then (
      am_fin [(z_L_pairs, 60, [.ref 1, .int v1, .int v2, .int v3, .int v4, .int v5, .int (v6 + 1)], [])] (hp L xs A V K T) v h')
    else (
      am_fin [(z_L_pairs, 60, [.ref 1, .int v1, .int v2, .int v3, .int (v4 + 1), .int v5, .int (v6 + 1)], [])] (hp L xs A V K T) v h')) : am_fin [(z_L_pairs, 98, [.ref 1, .int v1, .int v2, .int v3, .int v4, .int v5, .int v6], [.int r])] (hp L xs A V K T) v h' :=
  fn_if_eq rl_L_pairs_98 (fun k717 => fn_iinc (ls' := [.ref 1, .int v1, .int v2, .int v3, .int v4, .int v5, .int (v6 + 1)]) rl_L_pairs_104 rfl rfl rfl (fn_goto rl_L_pairs_107 (k717))) (fun k718 => fn_iinc (ls' := [.ref 1, .int v1, .int v2, .int v3, .int (v4 + 1), .int v5, .int v6]) rl_L_pairs_101 rfl rfl rfl (fn_iinc (ls' := [.ref 1, .int v1, .int v2, .int v3, .int (v4 + 1), .int v5, .int (v6 + 1)]) rl_L_pairs_104 rfl rfl rfl (fn_goto rl_L_pairs_107 (k718)))) k0
set_option maxRecDepth 100000 in
set_option maxHeartbeats 4000000 in
theorem sg_L_split_0 {L : Nat} {xs : Nat → Int32} {A V : Nat → Nat → Int32} {K : Nat → Option Nat} {T : am_H} {v : Option Int32} {h' : am_H} {a1 a2 a3 : Int32} (k0 :
    if a1 < 0 then (
      v = some (-1) ∧ h' = hp L xs A V K T)
    else (
      if 5 < a1 then (
        v = some (-1) ∧ h' = hp L xs A V K T)
      else (
        if a2 < 0 then (
          v = some (-1) ∧ h' = hp L xs A V K T)
        else (
          if 2 < a2 then (
            v = some (-1) ∧ h' = hp L xs A V K T)
          else (
            if a3 < 0 then (
              v = some (-1) ∧ h' = hp L xs A V K T)
            else (
              if 2 < a3 then (
                v = some (-1) ∧ h' = hp L xs A V K T)
              else (
                am_fin [(z_J_weigh, 0, [.ref 26, .ref 3], []), (z_L_split, 39, [.ref 1, .int a1, .int a2, .int a3, .null, .null], [])] (hp L xs A V K T) v h'))))))) : am_fin [(z_L_split, 0, [.ref 1, .int a1, .int a2, .int a3, .null, .null], [])] (hp L xs A V K T) v h' :=
  fn_iload_n rl_L_split_0 rfl (fn_stat (as := [.int a1]) (r := []) (ls' := [.int a1]) rl_L_split_1 rfl rfl rfl rfl pl_L_isLand rfl rfl (fn_iload_n rl_L_isLand_0 rfl (fn_iconst rl_L_isLand_1 (fn_iconst rl_L_isLand_2 (fn_stat (as := [.int a1, .int 0, .int 5]) (r := []) (ls' := [.int a1, .int 0, .int 5]) rl_L_isLand_3 rfl rfl rfl rfl pl_L_isAmong rfl rfl (fn_iload_n rl_L_isAmong_0 rfl (fn_iload_n rl_L_isAmong_1 rfl (fn_icmp_lt rl_L_isAmong_2 (fun k729 => fn_iconst rl_L_isAmong_14 (fn_retci rl_L_isAmong_15 rfl (fn_retci rl_L_isLand_6 rfl (fn_if_eq_t rl_L_split_4 (by decide +kernel) (fn_iconst rl_L_split_23 (fn_reti rl_L_split_24 rfl k729)))))) (fun k730 => fn_iload_n rl_L_isAmong_5 rfl (fn_iload_n rl_L_isAmong_6 rfl (fn_icmp_gt rl_L_isAmong_7 (fun k727 => fn_iconst rl_L_isAmong_14 (fn_retci rl_L_isAmong_15 rfl (fn_retci rl_L_isLand_6 rfl (fn_if_eq_t rl_L_split_4 (by decide +kernel) (fn_iconst rl_L_split_23 (fn_reti rl_L_split_24 rfl k727)))))) (fun k728 => fn_iconst rl_L_isAmong_10 (fn_goto rl_L_isAmong_11 (fn_retci rl_L_isAmong_15 rfl (fn_retci rl_L_isLand_6 rfl (fn_if_eq_f rl_L_split_4 (by decide +kernel) (fn_iload_n rl_L_split_7 rfl (fn_stat (as := [.int a2]) (r := []) (ls' := [.int a2]) rl_L_split_8 rfl rfl rfl rfl pl_L_isYear rfl rfl (fn_iload_n rl_L_isYear_0 rfl (fn_iconst rl_L_isYear_1 (fn_iconst rl_L_isYear_2 (fn_stat (as := [.int a2, .int 0, .int 2]) (r := []) (ls' := [.int a2, .int 0, .int 2]) rl_L_isYear_3 rfl rfl rfl rfl pl_L_isAmong rfl rfl (fn_iload_n rl_L_isAmong_0 rfl (fn_iload_n rl_L_isAmong_1 rfl (fn_icmp_lt rl_L_isAmong_2 (fun k725 => fn_iconst rl_L_isAmong_14 (fn_retci rl_L_isAmong_15 rfl (fn_retci rl_L_isYear_6 rfl (fn_if_eq_t rl_L_split_11 (by decide +kernel) (fn_iconst rl_L_split_23 (fn_reti rl_L_split_24 rfl k725)))))) (fun k726 => fn_iload_n rl_L_isAmong_5 rfl (fn_iload_n rl_L_isAmong_6 rfl (fn_icmp_gt rl_L_isAmong_7 (fun k723 => fn_iconst rl_L_isAmong_14 (fn_retci rl_L_isAmong_15 rfl (fn_retci rl_L_isYear_6 rfl (fn_if_eq_t rl_L_split_11 (by decide +kernel) (fn_iconst rl_L_split_23 (fn_reti rl_L_split_24 rfl k723)))))) (fun k724 => fn_iconst rl_L_isAmong_10 (fn_goto rl_L_isAmong_11 (fn_retci rl_L_isAmong_15 rfl (fn_retci rl_L_isYear_6 rfl (fn_if_eq_f rl_L_split_11 (by decide +kernel) (fn_iload_n rl_L_split_14 rfl (fn_iconst rl_L_split_15 (fn_iconst rl_L_split_16 (fn_stat (as := [.int a3, .int 0, .int 2]) (r := []) (ls' := [.int a3, .int 0, .int 2]) rl_L_split_17 rfl rfl rfl rfl pl_L_isAmong rfl rfl (fn_iload_n rl_L_isAmong_0 rfl (fn_iload_n rl_L_isAmong_1 rfl (fn_icmp_lt rl_L_isAmong_2 (fun k721 => fn_iconst rl_L_isAmong_14 (fn_retci rl_L_isAmong_15 rfl (fn_if_ne_t rl_L_split_20 (by decide +kernel) (fn_iconst rl_L_split_23 (fn_reti rl_L_split_24 rfl k721))))) (fun k722 => fn_iload_n rl_L_isAmong_5 rfl (fn_iload_n rl_L_isAmong_6 rfl (fn_icmp_gt rl_L_isAmong_7 (fun k719 => fn_iconst rl_L_isAmong_14 (fn_retci rl_L_isAmong_15 rfl (fn_if_ne_t rl_L_split_20 (by decide +kernel) (fn_iconst rl_L_split_23 (fn_reti rl_L_split_24 rfl k719))))) (fun k720 => fn_iconst rl_L_isAmong_10 (fn_goto rl_L_isAmong_11 (fn_retci rl_L_isAmong_15 rfl (fn_if_ne_f rl_L_split_20 (by decide +kernel) (fn_aload_n rl_L_split_25 rfl (fn_get rl_L_split_26 hp_1 rfl (fn_aload_n rl_L_split_29 rfl (fn_get rl_L_split_30 hp_1 rfl (fn_get rl_L_split_33 hp_2 rfl (fn_virt (as := [.ref 26, .ref 3]) (r := []) (ls' := [.ref 26, .ref 3]) rl_L_split_36 rfl hp_26 rfl rfl pl_J_weigh rfl rfl (k720))))))))))) k722))) k724)))))))))))) k726))) k728)))))))))))))) k730))) k0))))))))
set_option maxRecDepth 100000 in
set_option maxHeartbeats 4000000 in
theorem sg_L_split_39r {L : Nat} {xs : Nat → Int32} {A V : Nat → Nat → Int32} {K : Nat → Option Nat} {T : am_H} {v : Option Int32} {h' : am_H} {v1 v2 v3 : Int32} (k0 :
    am_fin [(z_J_isClaiming, 0, [.ref 26, .int v1, .int v2], []), (z_L_split, 48, [.ref 1, .int v1, .int v2, .int v3, .null, .null], [])] (hp L xs A V K T) v h') : am_fin [(z_L_split, 39, [.ref 1, .int v1, .int v2, .int v3, .null, .null], [])] (hp L xs A V K T) v h' :=
  fn_aload_n rl_L_split_39 rfl (fn_get rl_L_split_40 hp_1 rfl (fn_iload_n rl_L_split_43 rfl (fn_iload_n rl_L_split_44 rfl (fn_virt (as := [.ref 26, .int v1, .int v2]) (r := []) (ls' := [.ref 26, .int v1, .int v2]) rl_L_split_45 rfl hp_26 rfl rfl pl_J_isClaiming rfl rfl (k0)))))
set_option maxRecDepth 100000 in
set_option maxHeartbeats 4000000 in
theorem sg_L_split_48r {L : Nat} {xs : Nat → Int32} {A V : Nat → Nat → Int32} {K : Nat → Option Nat} {T : am_H} {v : Option Int32} {h' : am_H} {v1 v2 v3 r : Int32} (k0 :
    if r = 0 then (
      v = some (-2) ∧ h' = hp L xs A V K T)
    else (
      am_fin [(z_J_splitFrom, 0, [.ref 26, .int v1, .int v2, .ref 3, .null], []), (z_L_split, 70, [.ref 1, .int v1, .int v2, .int v3, .null, .null], [])] (hp L xs A V K T) v h')) : am_fin [(z_L_split, 48, [.ref 1, .int v1, .int v2, .int v3, .null, .null], [.int r])] (hp L xs A V K T) v h' :=
  fn_if_ne rl_L_split_48 (fun k731 => fn_bipush rl_L_split_51 (fn_reti rl_L_split_53 rfl k731)) (fun k732 => fn_aload_n rl_L_split_54 rfl (fn_get rl_L_split_55 hp_1 rfl (fn_iload_n rl_L_split_58 rfl (fn_iload_n rl_L_split_59 rfl (fn_aload_n rl_L_split_60 rfl (fn_get rl_L_split_61 hp_1 rfl (fn_get rl_L_split_64 hp_2 rfl (fn_virt (as := [.ref 26, .int v1, .int v2, .ref 3]) (r := []) (ls' := [.ref 26, .int v1, .int v2, .ref 3, .null]) rl_L_split_67 rfl hp_26 rfl rfl pl_J_splitFrom rfl rfl (k732))))))))) k0
set_option maxRecDepth 100000 in
set_option maxHeartbeats 4000000 in
theorem sg_L_split_70r {L : Nat} {xs : Nat → Int32} {A V : Nat → Nat → Int32} {K : Nat → Option Nat} {T : am_H} {v : Option Int32} {h' : am_H} {v1 v2 v3 r : Int32} (k0 :
    am_fin [(z_J_splitTill, 0, [.ref 26, .int v1, .int v2, .ref 3, .null], []), (z_L_split, 88, [.ref 1, .int v1, .int v2, .int v3, .int r, .null], [])] (hp L xs A V K T) v h') : am_fin [(z_L_split, 70, [.ref 1, .int v1, .int v2, .int v3, .null, .null], [.int r])] (hp L xs A V K T) v h' :=
  fn_istore (ls' := [.ref 1, .int v1, .int v2, .int v3, .int r, .null]) rl_L_split_70 rfl rfl (fn_aload_n rl_L_split_72 rfl (fn_get rl_L_split_73 hp_1 rfl (fn_iload_n rl_L_split_76 rfl (fn_iload_n rl_L_split_77 rfl (fn_aload_n rl_L_split_78 rfl (fn_get rl_L_split_79 hp_1 rfl (fn_get rl_L_split_82 hp_2 rfl (fn_virt (as := [.ref 26, .int v1, .int v2, .ref 3]) (r := []) (ls' := [.ref 26, .int v1, .int v2, .ref 3, .null]) rl_L_split_85 rfl hp_26 rfl rfl pl_J_splitTill rfl rfl (k0)))))))))
set_option maxRecDepth 100000 in
set_option maxHeartbeats 4000000 in
theorem sg_L_split_88r {L : Nat} {xs : Nat → Int32} {A V : Nat → Nat → Int32} {K : Nat → Option Nat} {T : am_H} {v : Option Int32} {h' : am_H} {v1 v2 v3 v4 r : Int32} (k0 :
    if v3 = 2 then (
      am_fin [(z_P_countOf, 0, [.ref 3, .int v1, .int v4, .int r, .null, .null], []), (z_L_split, 110, [.ref 1, .int v1, .int v2, .int v3, .int v4, .int r], [])] (hp L xs A V K T) v h')
    else (
      if v3 = 0 then (
        v = some v4 ∧ h' = hp L xs A V K T)
      else (
        v = some r ∧ h' = hp L xs A V K T))) : am_fin [(z_L_split, 88, [.ref 1, .int v1, .int v2, .int v3, .int v4, .null], [.int r])] (hp L xs A V K T) v h' :=
  fn_istore (ls' := [.ref 1, .int v1, .int v2, .int v3, .int v4, .int r]) rl_L_split_88 rfl rfl (fn_iload_n rl_L_split_90 rfl (fn_iconst rl_L_split_91 (fn_icmp_ne rl_L_split_92 (fun k735 => fn_aload_n rl_L_split_95 rfl (fn_get rl_L_split_96 hp_1 rfl (fn_get rl_L_split_99 hp_2 rfl (fn_iload_n rl_L_split_102 rfl (fn_iload rl_L_split_103 rfl (fn_iload rl_L_split_105 rfl (fn_virt (as := [.ref 3, .int v1, .int v4, .int r]) (r := []) (ls' := [.ref 3, .int v1, .int v4, .int r, .null, .null]) rl_L_split_107 rfl hp_3 rfl rfl pl_P_countOf rfl rfl (k735)))))))) (fun k736 => fn_iload_n rl_L_split_111 rfl (fn_if_ne rl_L_split_112 (fun k733 => fn_iload rl_L_split_115 rfl (fn_goto rl_L_split_117 (fn_reti rl_L_split_122 rfl k733))) (fun k734 => fn_iload rl_L_split_120 rfl (fn_reti rl_L_split_122 rfl k734)) k736)) k0)))
set_option maxRecDepth 100000 in
set_option maxHeartbeats 4000000 in
theorem sg_L_split_110r {L : Nat} {xs : Nat → Int32} {A V : Nat → Nat → Int32} {K : Nat → Option Nat} {T : am_H} {v : Option Int32} {h' : am_H} {v1 v2 v3 v4 v5 r : Int32} (k0 :
    v = some r ∧ h' = hp L xs A V K T) : am_fin [(z_L_split, 110, [.ref 1, .int v1, .int v2, .int v3, .int v4, .int v5], [.int r])] (hp L xs A V K T) v h' :=
  fn_reti rl_L_split_110 rfl k0
set_option maxRecDepth 100000 in
set_option maxHeartbeats 4000000 in
theorem sg_L_owed_0 {L : Nat} {xs : Nat → Int32} {A V : Nat → Nat → Int32} {K : Nat → Option Nat} {T : am_H} {v : Option Int32} {h' : am_H} {a1 : Int32} (k0 :
    if a1 < 0 then (
      v = some (-1) ∧ h' = hp L xs A V K T)
    else (
      if 2 < a1 then (
        v = some (-1) ∧ h' = hp L xs A V K T)
      else (
        am_fin [(z_J_weigh, 0, [.ref 26, .ref 3], []), (z_L_owed, 23, [.ref 1, .int a1], [])] (hp L xs A V K T) v h'))) : am_fin [(z_L_owed, 0, [.ref 1, .int a1], [])] (hp L xs A V K T) v h' :=
  fn_iload_n rl_L_owed_0 rfl (fn_stat (as := [.int a1]) (r := []) (ls' := [.int a1]) rl_L_owed_1 rfl rfl rfl rfl pl_L_isYear rfl rfl (fn_iload_n rl_L_isYear_0 rfl (fn_iconst rl_L_isYear_1 (fn_iconst rl_L_isYear_2 (fn_stat (as := [.int a1, .int 0, .int 2]) (r := []) (ls' := [.int a1, .int 0, .int 2]) rl_L_isYear_3 rfl rfl rfl rfl pl_L_isAmong rfl rfl (fn_iload_n rl_L_isAmong_0 rfl (fn_iload_n rl_L_isAmong_1 rfl (fn_icmp_lt rl_L_isAmong_2 (fun k739 => fn_iconst rl_L_isAmong_14 (fn_retci rl_L_isAmong_15 rfl (fn_retci rl_L_isYear_6 rfl (fn_if_ne_t rl_L_owed_4 (by decide +kernel) (fn_iconst rl_L_owed_7 (fn_reti rl_L_owed_8 rfl k739)))))) (fun k740 => fn_iload_n rl_L_isAmong_5 rfl (fn_iload_n rl_L_isAmong_6 rfl (fn_icmp_gt rl_L_isAmong_7 (fun k737 => fn_iconst rl_L_isAmong_14 (fn_retci rl_L_isAmong_15 rfl (fn_retci rl_L_isYear_6 rfl (fn_if_ne_t rl_L_owed_4 (by decide +kernel) (fn_iconst rl_L_owed_7 (fn_reti rl_L_owed_8 rfl k737)))))) (fun k738 => fn_iconst rl_L_isAmong_10 (fn_goto rl_L_isAmong_11 (fn_retci rl_L_isAmong_15 rfl (fn_retci rl_L_isYear_6 rfl (fn_if_ne_f rl_L_owed_4 (by decide +kernel) (fn_aload_n rl_L_owed_9 rfl (fn_get rl_L_owed_10 hp_1 rfl (fn_aload_n rl_L_owed_13 rfl (fn_get rl_L_owed_14 hp_1 rfl (fn_get rl_L_owed_17 hp_2 rfl (fn_virt (as := [.ref 26, .ref 3]) (r := []) (ls' := [.ref 26, .ref 3]) rl_L_owed_20 rfl hp_26 rfl rfl pl_J_weigh rfl rfl (k738)))))))))))) k740))) k0))))))))
set_option maxRecDepth 100000 in
set_option maxHeartbeats 4000000 in
theorem sg_L_owed_23r {L : Nat} {xs : Nat → Int32} {A V : Nat → Nat → Int32} {K : Nat → Option Nat} {T : am_H} {v : Option Int32} {h' : am_H} {v1 : Int32} (k0 :
    am_fin [(z_J_owedIn, 0, [.ref 26, .int v1, .ref 3, .null, .null, .null, .null, .null, .null], []), (z_L_owed, 38, [.ref 1, .int v1], [])] (hp L xs A V K T) v h') : am_fin [(z_L_owed, 23, [.ref 1, .int v1], [])] (hp L xs A V K T) v h' :=
  fn_aload_n rl_L_owed_23 rfl (fn_get rl_L_owed_24 hp_1 rfl (fn_iload_n rl_L_owed_27 rfl (fn_aload_n rl_L_owed_28 rfl (fn_get rl_L_owed_29 hp_1 rfl (fn_get rl_L_owed_32 hp_2 rfl (fn_virt (as := [.ref 26, .int v1, .ref 3]) (r := []) (ls' := [.ref 26, .int v1, .ref 3, .null, .null, .null, .null, .null, .null]) rl_L_owed_35 rfl hp_26 rfl rfl pl_J_owedIn rfl rfl (k0)))))))
set_option maxRecDepth 100000 in
set_option maxHeartbeats 4000000 in
theorem sg_L_owed_38r {L : Nat} {xs : Nat → Int32} {A V : Nat → Nat → Int32} {K : Nat → Option Nat} {T : am_H} {v : Option Int32} {h' : am_H} {v1 r : Int32} (k0 :
    v = some r ∧ h' = hp L xs A V K T) : am_fin [(z_L_owed, 38, [.ref 1, .int v1], [.int r])] (hp L xs A V K T) v h' :=
  fn_reti rl_L_owed_38 rfl k0
set_option maxRecDepth 100000 in
set_option maxHeartbeats 4000000 in
theorem sg_L_free_0 {L : Nat} {xs : Nat → Int32} {A V : Nat → Nat → Int32} {K : Nat → Option Nat} {T : am_H} {v : Option Int32} {h' : am_H} {a1 a2 a3 : Int32} (k0 :
    if a1 < 0 then (
      v = some (-1) ∧ h' = hp L xs A V K T)
    else (
      if 5 < a1 then (
        v = some (-1) ∧ h' = hp L xs A V K T)
      else (
        if a2 < 0 then (
          v = some (-1) ∧ h' = hp L xs A V K T)
        else (
          if 1079 < a2 then (
            v = some (-1) ∧ h' = hp L xs A V K T)
          else (
            if a3 < 1 then (
              v = some (-1) ∧ h' = hp L xs A V K T)
            else (
              if 360 < a3 then (
                v = some (-1) ∧ h' = hp L xs A V K T)
              else (
                am_fin [(z_O_read, 0, [.ref 30, .ref 3, .int a1, .null], []), (z_L_free, 42, [.ref 1, .int a1, .int a2, .int a3], [])] (hp L xs A V K T) v h'))))))) : am_fin [(z_L_free, 0, [.ref 1, .int a1, .int a2, .int a3], [])] (hp L xs A V K T) v h' :=
  fn_iload_n rl_L_free_0 rfl (fn_stat (as := [.int a1]) (r := []) (ls' := [.int a1]) rl_L_free_1 rfl rfl rfl rfl pl_L_isLand rfl rfl (fn_iload_n rl_L_isLand_0 rfl (fn_iconst rl_L_isLand_1 (fn_iconst rl_L_isLand_2 (fn_stat (as := [.int a1, .int 0, .int 5]) (r := []) (ls' := [.int a1, .int 0, .int 5]) rl_L_isLand_3 rfl rfl rfl rfl pl_L_isAmong rfl rfl (fn_iload_n rl_L_isAmong_0 rfl (fn_iload_n rl_L_isAmong_1 rfl (fn_icmp_lt rl_L_isAmong_2 (fun k751 => fn_iconst rl_L_isAmong_14 (fn_retci rl_L_isAmong_15 rfl (fn_retci rl_L_isLand_6 rfl (fn_if_eq_t rl_L_free_4 (by decide +kernel) (fn_iconst rl_L_free_25 (fn_reti rl_L_free_26 rfl k751)))))) (fun k752 => fn_iload_n rl_L_isAmong_5 rfl (fn_iload_n rl_L_isAmong_6 rfl (fn_icmp_gt rl_L_isAmong_7 (fun k749 => fn_iconst rl_L_isAmong_14 (fn_retci rl_L_isAmong_15 rfl (fn_retci rl_L_isLand_6 rfl (fn_if_eq_t rl_L_free_4 (by decide +kernel) (fn_iconst rl_L_free_25 (fn_reti rl_L_free_26 rfl k749)))))) (fun k750 => fn_iconst rl_L_isAmong_10 (fn_goto rl_L_isAmong_11 (fn_retci rl_L_isAmong_15 rfl (fn_retci rl_L_isLand_6 rfl (fn_if_eq_f rl_L_free_4 (by decide +kernel) (fn_iload_n rl_L_free_7 rfl (fn_stat (as := [.int a2]) (r := []) (ls' := [.int a2]) rl_L_free_8 rfl rfl rfl rfl pl_L_isDay rfl rfl (fn_iload_n rl_L_isDay_0 rfl (fn_iconst rl_L_isDay_1 (fn_sipush rl_L_isDay_2 (fn_stat (as := [.int a2, .int 0, .int 1079]) (r := []) (ls' := [.int a2, .int 0, .int 1079]) rl_L_isDay_5 rfl rfl rfl rfl pl_L_isAmong rfl rfl (fn_iload_n rl_L_isAmong_0 rfl (fn_iload_n rl_L_isAmong_1 rfl (fn_icmp_lt rl_L_isAmong_2 (fun k747 => fn_iconst rl_L_isAmong_14 (fn_retci rl_L_isAmong_15 rfl (fn_retci rl_L_isDay_8 rfl (fn_if_eq_t rl_L_free_11 (by decide +kernel) (fn_iconst rl_L_free_25 (fn_reti rl_L_free_26 rfl k747)))))) (fun k748 => fn_iload_n rl_L_isAmong_5 rfl (fn_iload_n rl_L_isAmong_6 rfl (fn_icmp_gt rl_L_isAmong_7 (fun k745 => fn_iconst rl_L_isAmong_14 (fn_retci rl_L_isAmong_15 rfl (fn_retci rl_L_isDay_8 rfl (fn_if_eq_t rl_L_free_11 (by decide +kernel) (fn_iconst rl_L_free_25 (fn_reti rl_L_free_26 rfl k745)))))) (fun k746 => fn_iconst rl_L_isAmong_10 (fn_goto rl_L_isAmong_11 (fn_retci rl_L_isAmong_15 rfl (fn_retci rl_L_isDay_8 rfl (fn_if_eq_f rl_L_free_11 (by decide +kernel) (fn_iload_n rl_L_free_14 rfl (fn_iconst rl_L_free_15 (fn_sipush rl_L_free_16 (fn_stat (as := [.int a3, .int 1, .int 360]) (r := []) (ls' := [.int a3, .int 1, .int 360]) rl_L_free_19 rfl rfl rfl rfl pl_L_isAmong rfl rfl (fn_iload_n rl_L_isAmong_0 rfl (fn_iload_n rl_L_isAmong_1 rfl (fn_icmp_lt rl_L_isAmong_2 (fun k743 => fn_iconst rl_L_isAmong_14 (fn_retci rl_L_isAmong_15 rfl (fn_if_ne_t rl_L_free_22 (by decide +kernel) (fn_iconst rl_L_free_25 (fn_reti rl_L_free_26 rfl k743))))) (fun k744 => fn_iload_n rl_L_isAmong_5 rfl (fn_iload_n rl_L_isAmong_6 rfl (fn_icmp_gt rl_L_isAmong_7 (fun k741 => fn_iconst rl_L_isAmong_14 (fn_retci rl_L_isAmong_15 rfl (fn_if_ne_t rl_L_free_22 (by decide +kernel) (fn_iconst rl_L_free_25 (fn_reti rl_L_free_26 rfl k741))))) (fun k742 => fn_iconst rl_L_isAmong_10 (fn_goto rl_L_isAmong_11 (fn_retci rl_L_isAmong_15 rfl (fn_if_ne_f rl_L_free_22 (by decide +kernel) (fn_aload_n rl_L_free_27 rfl (fn_get rl_L_free_28 hp_1 rfl (fn_aload_n rl_L_free_31 rfl (fn_get rl_L_free_32 hp_1 rfl (fn_get rl_L_free_35 hp_2 rfl (fn_iload_n rl_L_free_38 rfl (fn_virt (as := [.ref 30, .ref 3, .int a1]) (r := []) (ls' := [.ref 30, .ref 3, .int a1, .null]) rl_L_free_39 rfl hp_30 rfl rfl pl_O_read rfl rfl (k742)))))))))))) k744))) k746)))))))))))) k748))) k750)))))))))))))) k752))) k0))))))))
set_option maxRecDepth 100000 in
set_option maxHeartbeats 4000000 in
theorem sg_L_free_42r {L : Nat} {xs : Nat → Int32} {A V : Nat → Nat → Int32} {K : Nat → Option Nat} {T : am_H} {v : Option Int32} {h' : am_H} {v1 v2 v3 : Int32} (k0 :
    am_fin [(z_O_fillUp, 0, [.ref 30, .int v2, .int (if 1080 < (v2 + v3) then 1080 else (v2 + v3) : Int32), .null, .null, .null, .null], []), (z_L_free, 59, [.ref 1, .int v1, .int v2, .int v3], [])] (hp L xs A V K T) v h') : am_fin [(z_L_free, 42, [.ref 1, .int v1, .int v2, .int v3], [])] (hp L xs A V K T) v h' :=
  fn_aload_n rl_L_free_42 rfl (fn_get rl_L_free_43 hp_1 rfl (fn_iload_n rl_L_free_46 rfl (fn_iload_n rl_L_free_47 rfl (fn_iload_n rl_L_free_48 rfl (fn_iadd rl_L_free_49 (fn_sipush rl_L_free_50 (fn_min rl_L_free_53 rfl (fn_virt (as := [.ref 30, .int v2, .int (if 1080 < (v2 + v3) then 1080 else (v2 + v3) : Int32)]) (r := []) (ls' := [.ref 30, .int v2, .int (if 1080 < (v2 + v3) then 1080 else (v2 + v3) : Int32), .null, .null, .null, .null]) rl_L_free_56 rfl hp_30 rfl rfl pl_O_fillUp rfl rfl (k0)))))))))
set_option maxRecDepth 100000 in
set_option maxHeartbeats 4000000 in
theorem sg_L_free_59r {L : Nat} {xs : Nat → Int32} {A V : Nat → Nat → Int32} {K : Nat → Option Nat} {T : am_H} {v : Option Int32} {h' : am_H} {v1 v2 v3 r : Int32} (k0 :
    v = some r ∧ h' = hp L xs A V K T) : am_fin [(z_L_free, 59, [.ref 1, .int v1, .int v2, .int v3], [.int r])] (hp L xs A V K T) v h' :=
  fn_reti rl_L_free_59 rfl k0
set_option maxRecDepth 100000 in
set_option maxHeartbeats 4000000 in
theorem sg_L_mustLeave_0 {L : Nat} {xs : Nat → Int32} {A V : Nat → Nat → Int32} {K : Nat → Option Nat} {T : am_H} {v : Option Int32} {h' : am_H} {a1 a2 : Int32} (k0 :
    if a1 < 0 then (
      v = some (-1) ∧ h' = hp L xs A V K T)
    else (
      if 5 < a1 then (
        v = some (-1) ∧ h' = hp L xs A V K T)
      else (
        if a2 < 0 then (
          v = some (-1) ∧ h' = hp L xs A V K T)
        else (
          if 1079 < a2 then (
            v = some (-1) ∧ h' = hp L xs A V K T)
          else (
            am_fin [(z_O_read, 0, [.ref 30, .ref 3, .int a1, .null], []), (z_L_mustLeave, 31, [.ref 1, .int a1, .int a2, .null], [])] (hp L xs A V K T) v h'))))) : am_fin [(z_L_mustLeave, 0, [.ref 1, .int a1, .int a2, .null], [])] (hp L xs A V K T) v h' :=
  fn_iload_n rl_L_mustLeave_0 rfl (fn_stat (as := [.int a1]) (r := []) (ls' := [.int a1]) rl_L_mustLeave_1 rfl rfl rfl rfl pl_L_isLand rfl rfl (fn_iload_n rl_L_isLand_0 rfl (fn_iconst rl_L_isLand_1 (fn_iconst rl_L_isLand_2 (fn_stat (as := [.int a1, .int 0, .int 5]) (r := []) (ls' := [.int a1, .int 0, .int 5]) rl_L_isLand_3 rfl rfl rfl rfl pl_L_isAmong rfl rfl (fn_iload_n rl_L_isAmong_0 rfl (fn_iload_n rl_L_isAmong_1 rfl (fn_icmp_lt rl_L_isAmong_2 (fun k759 => fn_iconst rl_L_isAmong_14 (fn_retci rl_L_isAmong_15 rfl (fn_retci rl_L_isLand_6 rfl (fn_if_eq_t rl_L_mustLeave_4 (by decide +kernel) (fn_iconst rl_L_mustLeave_14 (fn_reti rl_L_mustLeave_15 rfl k759)))))) (fun k760 => fn_iload_n rl_L_isAmong_5 rfl (fn_iload_n rl_L_isAmong_6 rfl (fn_icmp_gt rl_L_isAmong_7 (fun k757 => fn_iconst rl_L_isAmong_14 (fn_retci rl_L_isAmong_15 rfl (fn_retci rl_L_isLand_6 rfl (fn_if_eq_t rl_L_mustLeave_4 (by decide +kernel) (fn_iconst rl_L_mustLeave_14 (fn_reti rl_L_mustLeave_15 rfl k757)))))) (fun k758 => fn_iconst rl_L_isAmong_10 (fn_goto rl_L_isAmong_11 (fn_retci rl_L_isAmong_15 rfl (fn_retci rl_L_isLand_6 rfl (fn_if_eq_f rl_L_mustLeave_4 (by decide +kernel) (fn_iload_n rl_L_mustLeave_7 rfl (fn_stat (as := [.int a2]) (r := []) (ls' := [.int a2]) rl_L_mustLeave_8 rfl rfl rfl rfl pl_L_isDay rfl rfl (fn_iload_n rl_L_isDay_0 rfl (fn_iconst rl_L_isDay_1 (fn_sipush rl_L_isDay_2 (fn_stat (as := [.int a2, .int 0, .int 1079]) (r := []) (ls' := [.int a2, .int 0, .int 1079]) rl_L_isDay_5 rfl rfl rfl rfl pl_L_isAmong rfl rfl (fn_iload_n rl_L_isAmong_0 rfl (fn_iload_n rl_L_isAmong_1 rfl (fn_icmp_lt rl_L_isAmong_2 (fun k755 => fn_iconst rl_L_isAmong_14 (fn_retci rl_L_isAmong_15 rfl (fn_retci rl_L_isDay_8 rfl (fn_if_ne_t rl_L_mustLeave_11 (by decide +kernel) (fn_iconst rl_L_mustLeave_14 (fn_reti rl_L_mustLeave_15 rfl k755)))))) (fun k756 => fn_iload_n rl_L_isAmong_5 rfl (fn_iload_n rl_L_isAmong_6 rfl (fn_icmp_gt rl_L_isAmong_7 (fun k753 => fn_iconst rl_L_isAmong_14 (fn_retci rl_L_isAmong_15 rfl (fn_retci rl_L_isDay_8 rfl (fn_if_ne_t rl_L_mustLeave_11 (by decide +kernel) (fn_iconst rl_L_mustLeave_14 (fn_reti rl_L_mustLeave_15 rfl k753)))))) (fun k754 => fn_iconst rl_L_isAmong_10 (fn_goto rl_L_isAmong_11 (fn_retci rl_L_isAmong_15 rfl (fn_retci rl_L_isDay_8 rfl (fn_if_ne_f rl_L_mustLeave_11 (by decide +kernel) (fn_aload_n rl_L_mustLeave_16 rfl (fn_get rl_L_mustLeave_17 hp_1 rfl (fn_aload_n rl_L_mustLeave_20 rfl (fn_get rl_L_mustLeave_21 hp_1 rfl (fn_get rl_L_mustLeave_24 hp_2 rfl (fn_iload_n rl_L_mustLeave_27 rfl (fn_virt (as := [.ref 30, .ref 3, .int a1]) (r := []) (ls' := [.ref 30, .ref 3, .int a1, .null]) rl_L_mustLeave_28 rfl hp_30 rfl rfl pl_O_read rfl rfl (k754))))))))))))) k756))) k758)))))))))))))) k760))) k0))))))))
set_option maxRecDepth 100000 in
set_option maxHeartbeats 4000000 in
theorem sg_L_mustLeave_31r {L : Nat} {xs : Nat → Int32} {A V : Nat → Nat → Int32} {K : Nat → Option Nat} {T : am_H} {v : Option Int32} {h' : am_H} {v1 v2 : Int32} (k0 :
    am_fin [(z_L_mustLeave, 33, [.ref 1, .int v1, .int v2, .int v2], [])] (hp L xs A V K T) v h') : am_fin [(z_L_mustLeave, 31, [.ref 1, .int v1, .int v2, .null], [])] (hp L xs A V K T) v h' :=
  fn_iload_n rl_L_mustLeave_31 rfl (fn_istore_n (ls' := [.ref 1, .int v1, .int v2, .int v2]) rl_L_mustLeave_32 rfl rfl (k0))
set_option maxRecDepth 100000 in
set_option maxHeartbeats 4000000 in
theorem sg_L_mustLeave_33 {L : Nat} {xs : Nat → Int32} {A V : Nat → Nat → Int32} {K : Nat → Option Nat} {T : am_H} {v : Option Int32} {h' : am_H} {v1 v2 v3 : Int32} (k0 :
    if 1080 ≤ v3 then (
      v = some (-2) ∧ h' = hp L xs A V K T)
    else (
      am_fin [(z_O_isTooLong, 0, [.ref 30, .int v2, .int v3, .null, .null], []), (z_L_mustLeave, 49, [.ref 1, .int v1, .int v2, .int v3], [])] (hp L xs A V K T) v h')) : am_fin [(z_L_mustLeave, 33, [.ref 1, .int v1, .int v2, .int v3], [])] (hp L xs A V K T) v h' :=
  fn_iload_n rl_L_mustLeave_33 rfl (fn_sipush rl_L_mustLeave_34 (fn_icmp_ge rl_L_mustLeave_37 (fun k761 => fn_bipush rl_L_mustLeave_60 (fn_reti rl_L_mustLeave_62 rfl k761)) (fun k762 => fn_aload_n rl_L_mustLeave_40 rfl (fn_get rl_L_mustLeave_41 hp_1 rfl (fn_iload_n rl_L_mustLeave_44 rfl (fn_iload_n rl_L_mustLeave_45 rfl (fn_virt (as := [.ref 30, .int v2, .int v3]) (r := []) (ls' := [.ref 30, .int v2, .int v3, .null, .null]) rl_L_mustLeave_46 rfl hp_30 rfl rfl pl_O_isTooLong rfl rfl (k762)))))) k0))
set_option maxRecDepth 100000 in
set_option maxHeartbeats 4000000 in
theorem sg_L_mustLeave_49r {L : Nat} {xs : Nat → Int32} {A V : Nat → Nat → Int32} {K : Nat → Option Nat} {T : am_H} {v : Option Int32} {h' : am_H} {v1 v2 v3 r : Int32} (k0 :
    if r = 0 then (
      am_fin [(z_L_mustLeave, 33, [.ref 1, .int v1, .int v2, .int (v3 + 1)], [])] (hp L xs A V K T) v h')
    else (
      v = some v3 ∧ h' = hp L xs A V K T)) : am_fin [(z_L_mustLeave, 49, [.ref 1, .int v1, .int v2, .int v3], [.int r])] (hp L xs A V K T) v h' :=
  fn_if_eq rl_L_mustLeave_49 (fun k763 => fn_iinc (ls' := [.ref 1, .int v1, .int v2, .int (v3 + 1)]) rl_L_mustLeave_54 rfl rfl rfl (fn_goto rl_L_mustLeave_57 (k763))) (fun k764 => fn_iload_n rl_L_mustLeave_52 rfl (fn_reti rl_L_mustLeave_53 rfl k764)) k0
set_option maxRecDepth 100000 in
set_option maxHeartbeats 4000000 in
theorem sg_L_mayCome_0 {L : Nat} {xs : Nat → Int32} {A V : Nat → Nat → Int32} {K : Nat → Option Nat} {T : am_H} {v : Option Int32} {h' : am_H} {a1 a2 a3 : Int32} (k0 :
    if a1 < 0 then (
      v = some (-1) ∧ h' = hp L xs A V K T)
    else (
      if 5 < a1 then (
        v = some (-1) ∧ h' = hp L xs A V K T)
      else (
        if a2 < 0 then (
          v = some (-1) ∧ h' = hp L xs A V K T)
        else (
          if 1079 < a2 then (
            v = some (-1) ∧ h' = hp L xs A V K T)
          else (
            if a3 < 1 then (
              v = some (-1) ∧ h' = hp L xs A V K T)
            else (
              if 360 < a3 then (
                v = some (-1) ∧ h' = hp L xs A V K T)
              else (
                am_fin [(z_O_read, 0, [.ref 30, .ref 3, .int a1, .null], []), (z_L_mayCome, 42, [.ref 1, .int a1, .int a2, .int a3, .null], [])] (hp L xs A V K T) v h'))))))) : am_fin [(z_L_mayCome, 0, [.ref 1, .int a1, .int a2, .int a3, .null], [])] (hp L xs A V K T) v h' :=
  fn_iload_n rl_L_mayCome_0 rfl (fn_stat (as := [.int a1]) (r := []) (ls' := [.int a1]) rl_L_mayCome_1 rfl rfl rfl rfl pl_L_isLand rfl rfl (fn_iload_n rl_L_isLand_0 rfl (fn_iconst rl_L_isLand_1 (fn_iconst rl_L_isLand_2 (fn_stat (as := [.int a1, .int 0, .int 5]) (r := []) (ls' := [.int a1, .int 0, .int 5]) rl_L_isLand_3 rfl rfl rfl rfl pl_L_isAmong rfl rfl (fn_iload_n rl_L_isAmong_0 rfl (fn_iload_n rl_L_isAmong_1 rfl (fn_icmp_lt rl_L_isAmong_2 (fun k775 => fn_iconst rl_L_isAmong_14 (fn_retci rl_L_isAmong_15 rfl (fn_retci rl_L_isLand_6 rfl (fn_if_eq_t rl_L_mayCome_4 (by decide +kernel) (fn_iconst rl_L_mayCome_25 (fn_reti rl_L_mayCome_26 rfl k775)))))) (fun k776 => fn_iload_n rl_L_isAmong_5 rfl (fn_iload_n rl_L_isAmong_6 rfl (fn_icmp_gt rl_L_isAmong_7 (fun k773 => fn_iconst rl_L_isAmong_14 (fn_retci rl_L_isAmong_15 rfl (fn_retci rl_L_isLand_6 rfl (fn_if_eq_t rl_L_mayCome_4 (by decide +kernel) (fn_iconst rl_L_mayCome_25 (fn_reti rl_L_mayCome_26 rfl k773)))))) (fun k774 => fn_iconst rl_L_isAmong_10 (fn_goto rl_L_isAmong_11 (fn_retci rl_L_isAmong_15 rfl (fn_retci rl_L_isLand_6 rfl (fn_if_eq_f rl_L_mayCome_4 (by decide +kernel) (fn_iload_n rl_L_mayCome_7 rfl (fn_stat (as := [.int a2]) (r := []) (ls' := [.int a2]) rl_L_mayCome_8 rfl rfl rfl rfl pl_L_isDay rfl rfl (fn_iload_n rl_L_isDay_0 rfl (fn_iconst rl_L_isDay_1 (fn_sipush rl_L_isDay_2 (fn_stat (as := [.int a2, .int 0, .int 1079]) (r := []) (ls' := [.int a2, .int 0, .int 1079]) rl_L_isDay_5 rfl rfl rfl rfl pl_L_isAmong rfl rfl (fn_iload_n rl_L_isAmong_0 rfl (fn_iload_n rl_L_isAmong_1 rfl (fn_icmp_lt rl_L_isAmong_2 (fun k771 => fn_iconst rl_L_isAmong_14 (fn_retci rl_L_isAmong_15 rfl (fn_retci rl_L_isDay_8 rfl (fn_if_eq_t rl_L_mayCome_11 (by decide +kernel) (fn_iconst rl_L_mayCome_25 (fn_reti rl_L_mayCome_26 rfl k771)))))) (fun k772 => fn_iload_n rl_L_isAmong_5 rfl (fn_iload_n rl_L_isAmong_6 rfl (fn_icmp_gt rl_L_isAmong_7 (fun k769 => fn_iconst rl_L_isAmong_14 (fn_retci rl_L_isAmong_15 rfl (fn_retci rl_L_isDay_8 rfl (fn_if_eq_t rl_L_mayCome_11 (by decide +kernel) (fn_iconst rl_L_mayCome_25 (fn_reti rl_L_mayCome_26 rfl k769)))))) (fun k770 => fn_iconst rl_L_isAmong_10 (fn_goto rl_L_isAmong_11 (fn_retci rl_L_isAmong_15 rfl (fn_retci rl_L_isDay_8 rfl (fn_if_eq_f rl_L_mayCome_11 (by decide +kernel) (fn_iload_n rl_L_mayCome_14 rfl (fn_iconst rl_L_mayCome_15 (fn_sipush rl_L_mayCome_16 (fn_stat (as := [.int a3, .int 1, .int 360]) (r := []) (ls' := [.int a3, .int 1, .int 360]) rl_L_mayCome_19 rfl rfl rfl rfl pl_L_isAmong rfl rfl (fn_iload_n rl_L_isAmong_0 rfl (fn_iload_n rl_L_isAmong_1 rfl (fn_icmp_lt rl_L_isAmong_2 (fun k767 => fn_iconst rl_L_isAmong_14 (fn_retci rl_L_isAmong_15 rfl (fn_if_ne_t rl_L_mayCome_22 (by decide +kernel) (fn_iconst rl_L_mayCome_25 (fn_reti rl_L_mayCome_26 rfl k767))))) (fun k768 => fn_iload_n rl_L_isAmong_5 rfl (fn_iload_n rl_L_isAmong_6 rfl (fn_icmp_gt rl_L_isAmong_7 (fun k765 => fn_iconst rl_L_isAmong_14 (fn_retci rl_L_isAmong_15 rfl (fn_if_ne_t rl_L_mayCome_22 (by decide +kernel) (fn_iconst rl_L_mayCome_25 (fn_reti rl_L_mayCome_26 rfl k765))))) (fun k766 => fn_iconst rl_L_isAmong_10 (fn_goto rl_L_isAmong_11 (fn_retci rl_L_isAmong_15 rfl (fn_if_ne_f rl_L_mayCome_22 (by decide +kernel) (fn_aload_n rl_L_mayCome_27 rfl (fn_get rl_L_mayCome_28 hp_1 rfl (fn_aload_n rl_L_mayCome_31 rfl (fn_get rl_L_mayCome_32 hp_1 rfl (fn_get rl_L_mayCome_35 hp_2 rfl (fn_iload_n rl_L_mayCome_38 rfl (fn_virt (as := [.ref 30, .ref 3, .int a1]) (r := []) (ls' := [.ref 30, .ref 3, .int a1, .null]) rl_L_mayCome_39 rfl hp_30 rfl rfl pl_O_read rfl rfl (k766)))))))))))) k768))) k770)))))))))))) k772))) k774)))))))))))))) k776))) k0))))))))
set_option maxRecDepth 100000 in
set_option maxHeartbeats 4000000 in
theorem sg_L_mayCome_42r {L : Nat} {xs : Nat → Int32} {A V : Nat → Nat → Int32} {K : Nat → Option Nat} {T : am_H} {v : Option Int32} {h' : am_H} {v1 v2 v3 : Int32} (k0 :
    am_fin [(z_L_mayCome, 45, [.ref 1, .int v1, .int v2, .int v3, .int v2], [])] (hp L xs A V K T) v h') : am_fin [(z_L_mayCome, 42, [.ref 1, .int v1, .int v2, .int v3, .null], [])] (hp L xs A V K T) v h' :=
  fn_iload_n rl_L_mayCome_42 rfl (fn_istore (ls' := [.ref 1, .int v1, .int v2, .int v3, .int v2]) rl_L_mayCome_43 rfl rfl (k0))
set_option maxRecDepth 100000 in
set_option maxHeartbeats 4000000 in
theorem sg_L_mayCome_45 {L : Nat} {xs : Nat → Int32} {A V : Nat → Nat → Int32} {K : Nat → Option Nat} {T : am_H} {v : Option Int32} {h' : am_H} {v1 v2 v3 v4 : Int32} (k0 :
    if 1080 ≤ v4 then (
      v = some (-2) ∧ h' = hp L xs A V K T)
    else (
      am_fin [(z_O_isTooLong, 0, [.ref 30, .int v4, .int ((if 1080 < (v4 + v3) then 1080 else (v4 + v3) : Int32) - 1), .null, .null], []), (z_L_mayCome, 74, [.ref 1, .int v1, .int v2, .int v3, .int v4], [])] (hp L xs A V K T) v h')) : am_fin [(z_L_mayCome, 45, [.ref 1, .int v1, .int v2, .int v3, .int v4], [])] (hp L xs A V K T) v h' :=
  fn_iload rl_L_mayCome_45 rfl (fn_sipush rl_L_mayCome_47 (fn_icmp_ge rl_L_mayCome_50 (fun k777 => fn_bipush rl_L_mayCome_86 (fn_reti rl_L_mayCome_88 rfl k777)) (fun k778 => fn_aload_n rl_L_mayCome_53 rfl (fn_get rl_L_mayCome_54 hp_1 rfl (fn_iload rl_L_mayCome_57 rfl (fn_iload rl_L_mayCome_59 rfl (fn_iload_n rl_L_mayCome_61 rfl (fn_iadd rl_L_mayCome_62 (fn_sipush rl_L_mayCome_63 (fn_min rl_L_mayCome_66 rfl (fn_iconst rl_L_mayCome_69 (fn_isub rl_L_mayCome_70 (fn_virt (as := [.ref 30, .int v4, .int ((if 1080 < (v4 + v3) then 1080 else (v4 + v3) : Int32) - 1)]) (r := []) (ls' := [.ref 30, .int v4, .int ((if 1080 < (v4 + v3) then 1080 else (v4 + v3) : Int32) - 1), .null, .null]) rl_L_mayCome_71 rfl hp_30 rfl rfl pl_O_isTooLong rfl rfl (k778)))))))))))) k0))
set_option maxRecDepth 100000 in
set_option maxHeartbeats 4000000 in
theorem sg_L_mayCome_74r {L : Nat} {xs : Nat → Int32} {A V : Nat → Nat → Int32} {K : Nat → Option Nat} {T : am_H} {v : Option Int32} {h' : am_H} {v1 v2 v3 v4 r : Int32} (k0 :
    if r = 0 then (
      v = some v4 ∧ h' = hp L xs A V K T)
    else (
      am_fin [(z_L_mayCome, 45, [.ref 1, .int v1, .int v2, .int v3, .int (v4 + 1)], [])] (hp L xs A V K T) v h')) : am_fin [(z_L_mayCome, 74, [.ref 1, .int v1, .int v2, .int v3, .int v4], [.int r])] (hp L xs A V K T) v h' :=
  fn_if_ne rl_L_mayCome_74 (fun k779 => fn_iload rl_L_mayCome_77 rfl (fn_reti rl_L_mayCome_79 rfl k779)) (fun k780 => fn_iinc (ls' := [.ref 1, .int v1, .int v2, .int v3, .int (v4 + 1)]) rl_L_mayCome_80 rfl rfl rfl (fn_goto rl_L_mayCome_83 (k780))) k0
set_option maxRecDepth 100000 in
set_option maxHeartbeats 4000000 in
theorem sg_L_claimBy_0 {L : Nat} {xs : Nat → Int32} {A V : Nat → Nat → Int32} {K : Nat → Option Nat} {T : am_H} {v : Option Int32} {h' : am_H} {a1 a2 : Int32} (k0 :
    if a1 < 0 then (
      v = some (-1) ∧ h' = hp L xs A V K T)
    else (
      if 5 < a1 then (
        v = some (-1) ∧ h' = hp L xs A V K T)
      else (
        if a2 < 0 then (
          v = some (-1) ∧ h' = hp L xs A V K T)
        else (
          if 1079 < a2 then (
            v = some (-1) ∧ h' = hp L xs A V K T)
          else (
            am_fin [(z_J_weigh, 0, [.ref 26, .ref 3], []), (z_L_claimBy, 30, [.ref 1, .int a1, .int a2, .null, .null], [])] (hp L xs A V K T) v h'))))) : am_fin [(z_L_claimBy, 0, [.ref 1, .int a1, .int a2, .null, .null], [])] (hp L xs A V K T) v h' :=
  fn_iload_n rl_L_claimBy_0 rfl (fn_stat (as := [.int a1]) (r := []) (ls' := [.int a1]) rl_L_claimBy_1 rfl rfl rfl rfl pl_L_isLand rfl rfl (fn_iload_n rl_L_isLand_0 rfl (fn_iconst rl_L_isLand_1 (fn_iconst rl_L_isLand_2 (fn_stat (as := [.int a1, .int 0, .int 5]) (r := []) (ls' := [.int a1, .int 0, .int 5]) rl_L_isLand_3 rfl rfl rfl rfl pl_L_isAmong rfl rfl (fn_iload_n rl_L_isAmong_0 rfl (fn_iload_n rl_L_isAmong_1 rfl (fn_icmp_lt rl_L_isAmong_2 (fun k787 => fn_iconst rl_L_isAmong_14 (fn_retci rl_L_isAmong_15 rfl (fn_retci rl_L_isLand_6 rfl (fn_if_eq_t rl_L_claimBy_4 (by decide +kernel) (fn_iconst rl_L_claimBy_14 (fn_reti rl_L_claimBy_15 rfl k787)))))) (fun k788 => fn_iload_n rl_L_isAmong_5 rfl (fn_iload_n rl_L_isAmong_6 rfl (fn_icmp_gt rl_L_isAmong_7 (fun k785 => fn_iconst rl_L_isAmong_14 (fn_retci rl_L_isAmong_15 rfl (fn_retci rl_L_isLand_6 rfl (fn_if_eq_t rl_L_claimBy_4 (by decide +kernel) (fn_iconst rl_L_claimBy_14 (fn_reti rl_L_claimBy_15 rfl k785)))))) (fun k786 => fn_iconst rl_L_isAmong_10 (fn_goto rl_L_isAmong_11 (fn_retci rl_L_isAmong_15 rfl (fn_retci rl_L_isLand_6 rfl (fn_if_eq_f rl_L_claimBy_4 (by decide +kernel) (fn_iload_n rl_L_claimBy_7 rfl (fn_stat (as := [.int a2]) (r := []) (ls' := [.int a2]) rl_L_claimBy_8 rfl rfl rfl rfl pl_L_isDay rfl rfl (fn_iload_n rl_L_isDay_0 rfl (fn_iconst rl_L_isDay_1 (fn_sipush rl_L_isDay_2 (fn_stat (as := [.int a2, .int 0, .int 1079]) (r := []) (ls' := [.int a2, .int 0, .int 1079]) rl_L_isDay_5 rfl rfl rfl rfl pl_L_isAmong rfl rfl (fn_iload_n rl_L_isAmong_0 rfl (fn_iload_n rl_L_isAmong_1 rfl (fn_icmp_lt rl_L_isAmong_2 (fun k783 => fn_iconst rl_L_isAmong_14 (fn_retci rl_L_isAmong_15 rfl (fn_retci rl_L_isDay_8 rfl (fn_if_ne_t rl_L_claimBy_11 (by decide +kernel) (fn_iconst rl_L_claimBy_14 (fn_reti rl_L_claimBy_15 rfl k783)))))) (fun k784 => fn_iload_n rl_L_isAmong_5 rfl (fn_iload_n rl_L_isAmong_6 rfl (fn_icmp_gt rl_L_isAmong_7 (fun k781 => fn_iconst rl_L_isAmong_14 (fn_retci rl_L_isAmong_15 rfl (fn_retci rl_L_isDay_8 rfl (fn_if_ne_t rl_L_claimBy_11 (by decide +kernel) (fn_iconst rl_L_claimBy_14 (fn_reti rl_L_claimBy_15 rfl k781)))))) (fun k782 => fn_iconst rl_L_isAmong_10 (fn_goto rl_L_isAmong_11 (fn_retci rl_L_isAmong_15 rfl (fn_retci rl_L_isDay_8 rfl (fn_if_ne_f rl_L_claimBy_11 (by decide +kernel) (fn_aload_n rl_L_claimBy_16 rfl (fn_get rl_L_claimBy_17 hp_1 rfl (fn_aload_n rl_L_claimBy_20 rfl (fn_get rl_L_claimBy_21 hp_1 rfl (fn_get rl_L_claimBy_24 hp_2 rfl (fn_virt (as := [.ref 26, .ref 3]) (r := []) (ls' := [.ref 26, .ref 3]) rl_L_claimBy_27 rfl hp_26 rfl rfl pl_J_weigh rfl rfl (k782)))))))))))) k784))) k786)))))))))))))) k788))) k0))))))))
set_option maxRecDepth 100000 in
set_option maxHeartbeats 4000000 in
theorem sg_L_claimBy_30r {L : Nat} {xs : Nat → Int32} {A V : Nat → Nat → Int32} {K : Nat → Option Nat} {T : am_H} {v : Option Int32} {h' : am_H} {v1 v2 : Int32} (k0 :
    am_fin [(z_L_claimBy, 32, [.ref 1, .int v1, .int v2, .int v2, .null], [])] (hp L xs A V K T) v h') : am_fin [(z_L_claimBy, 30, [.ref 1, .int v1, .int v2, .null, .null], [])] (hp L xs A V K T) v h' :=
  fn_iload_n rl_L_claimBy_30 rfl (fn_istore_n (ls' := [.ref 1, .int v1, .int v2, .int v2, .null]) rl_L_claimBy_31 rfl rfl (k0))
set_option maxRecDepth 100000 in
set_option maxHeartbeats 4000000 in
theorem sg_L_claimBy_32 {L : Nat} {xs : Nat → Int32} {A V : Nat → Nat → Int32} {K : Nat → Option Nat} {T : am_H} {v : Option Int32} {h' : am_H} {v1 v2 v3 : Int32} (k0 :
    if 1080 ≤ v3 then (
      v = some (-2) ∧ h' = hp L xs A V K T)
    else (
      am_fin [(z_P_landOn, 0, [.ref 3, .int v3], []), (z_L_claimBy, 56, [.ref 1, .int v1, .int v2, .int v3, .int (v3 / 360)], [])] (hp L xs A V K T) v h')) : am_fin [(z_L_claimBy, 32, [.ref 1, .int v1, .int v2, .int v3, .null], [])] (hp L xs A V K T) v h' :=
  fn_iload_n rl_L_claimBy_32 rfl (fn_sipush rl_L_claimBy_33 (fn_icmp_ge rl_L_claimBy_36 (fun k789 => fn_bipush rl_L_claimBy_99 (fn_reti rl_L_claimBy_101 rfl k789)) (fun k790 => fn_iload_n rl_L_claimBy_39 rfl (fn_stat (as := [.int v3]) (r := []) (ls' := [.int v3]) rl_L_claimBy_40 rfl rfl rfl rfl pl_L_yearOf rfl rfl (fn_iload_n rl_L_yearOf_0 rfl (fn_sipush rl_L_yearOf_1 (fn_idiv rl_L_yearOf_4 (by decide +kernel) (fn_retci rl_L_yearOf_5 rfl (fn_istore (ls' := [.ref 1, .int v1, .int v2, .int v3, .int (v3 / 360)]) rl_L_claimBy_43 rfl rfl (fn_aload_n rl_L_claimBy_45 rfl (fn_get rl_L_claimBy_46 hp_1 rfl (fn_get rl_L_claimBy_49 hp_2 rfl (fn_iload_n rl_L_claimBy_52 rfl (fn_virt (as := [.ref 3, .int v3]) (r := []) (ls' := [.ref 3, .int v3]) rl_L_claimBy_53 rfl hp_3 rfl rfl pl_P_landOn rfl rfl (k790))))))))))))) k0))
set_option maxRecDepth 100000 in
set_option maxHeartbeats 4000000 in
theorem sg_L_claimBy_56r {L : Nat} {xs : Nat → Int32} {A V : Nat → Nat → Int32} {K : Nat → Option Nat} {T : am_H} {v : Option Int32} {h' : am_H} {v1 v2 v3 v4 r : Int32} (k0 :
    if r = v1 then (
      am_fin [(z_J_isClaiming, 0, [.ref 26, .int v1, .int v4], []), (z_L_claimBy, 88, [.ref 1, .int v1, .int v2, .int v3, .int v4], [])] (hp L xs A V K T) v h')
    else (
      ¬ (((v1 * 3) + v4) < 0 ∨ 18 ≤ ((v1 * 3) + v4).toNatClampNeg) ∧ (
      ¬ (((v1 * 3) + v4) < 0 ∨ 18 ≤ ((v1 * 3) + v4).toNatClampNeg) ∧ (
      am_fin [(z_J_isClaiming, 0, [.ref 26, .int v1, .int v4], []), (z_L_claimBy, 88, [.ref 1, .int v1, .int v2, .int v3, .int v4], [])] (hp L xs (upA A 27 (upd (A 27) ((v1 * 3) + v4).toNatClampNeg (((A 27) ((v1 * 3) + v4).toNatClampNeg) + 1))) V K T) v h')))) : am_fin [(z_L_claimBy, 56, [.ref 1, .int v1, .int v2, .int v3, .int v4], [.int r])] (hp L xs A V K T) v h' :=
  fn_iload_n rl_L_claimBy_56 rfl (fn_icmp_eq rl_L_claimBy_57 (fun k793 => fn_aload_n rl_L_claimBy_78 rfl (fn_get rl_L_claimBy_79 hp_1 rfl (fn_iload_n rl_L_claimBy_82 rfl (fn_iload rl_L_claimBy_83 rfl (fn_virt (as := [.ref 26, .int v1, .int v4]) (r := []) (ls' := [.ref 26, .int v1, .int v4]) rl_L_claimBy_85 rfl hp_26 rfl rfl pl_J_isClaiming rfl rfl (k793)))))) (fun k794 => fn_aload_n rl_L_claimBy_60 rfl (fn_get rl_L_claimBy_61 hp_1 rfl (fn_get rl_L_claimBy_64 hp_26 rfl (fn_iload_n rl_L_claimBy_67 rfl (fn_iload rl_L_claimBy_68 rfl (fn_stat (as := [.int v1, .int v4]) (r := [.ref 27]) (ls' := [.int v1, .int v4]) rl_L_claimBy_70 rfl rfl rfl rfl pl_L_spot rfl rfl (fn_iload_n rl_L_spot_0 rfl (fn_iconst rl_L_spot_1 (fn_imul rl_L_spot_2 (fn_iload_n rl_L_spot_3 rfl (fn_iadd rl_L_spot_4 (fn_retci rl_L_spot_5 rfl (fn_dup2 rl_L_claimBy_73 (fn_iald rl_L_claimBy_74 hp_27 (fun k792 => fn_iconst rl_L_claimBy_75 (fn_iadd rl_L_claimBy_76 (fn_iast rl_L_claimBy_77 hp_27 hps_27 (fun k791 => fn_aload_n rl_L_claimBy_78 rfl (fn_get rl_L_claimBy_79 hp_1 rfl (fn_iload_n rl_L_claimBy_82 rfl (fn_iload rl_L_claimBy_83 rfl (fn_virt (as := [.ref 26, .int v1, .int v4]) (r := []) (ls' := [.ref 26, .int v1, .int v4]) rl_L_claimBy_85 rfl hp_26 rfl rfl pl_J_isClaiming rfl rfl (k791)))))) k792))) k794)))))))))))))) k0)
set_option maxRecDepth 100000 in
set_option maxHeartbeats 4000000 in
theorem sg_L_claimBy_88r {L : Nat} {xs : Nat → Int32} {A V : Nat → Nat → Int32} {K : Nat → Option Nat} {T : am_H} {v : Option Int32} {h' : am_H} {v1 v2 v3 v4 r : Int32} (k0 :
    if r = 0 then (
      am_fin [(z_L_claimBy, 32, [.ref 1, .int v1, .int v2, .int (v3 + 1), .int v4], [])] (hp L xs A V K T) v h')
    else (
      v = some v3 ∧ h' = hp L xs A V K T)) : am_fin [(z_L_claimBy, 88, [.ref 1, .int v1, .int v2, .int v3, .int v4], [.int r])] (hp L xs A V K T) v h' :=
  fn_if_eq rl_L_claimBy_88 (fun k795 => fn_iinc (ls' := [.ref 1, .int v1, .int v2, .int (v3 + 1), .int v4]) rl_L_claimBy_93 rfl rfl rfl (fn_goto rl_L_claimBy_96 (k795))) (fun k796 => fn_iload_n rl_L_claimBy_91 rfl (fn_reti rl_L_claimBy_92 rfl k796)) k0
set_option maxRecDepth 100000 in
set_option maxHeartbeats 4000000 in
theorem sg_L_claimBy_32b {L : Nat} {xs : Nat → Int32} {A V : Nat → Nat → Int32} {K : Nat → Option Nat} {T : am_H} {v : Option Int32} {h' : am_H} {v1 v2 v3 v4 : Int32} (k0 :
    if 1080 ≤ v3 then (
      v = some (-2) ∧ h' = hp L xs A V K T)
    else (
      am_fin [(z_P_landOn, 0, [.ref 3, .int v3], []), (z_L_claimBy, 56, [.ref 1, .int v1, .int v2, .int v3, .int (v3 / 360)], [])] (hp L xs A V K T) v h')) : am_fin [(z_L_claimBy, 32, [.ref 1, .int v1, .int v2, .int v3, .int v4], [])] (hp L xs A V K T) v h' :=
  fn_iload_n rl_L_claimBy_32 rfl (fn_sipush rl_L_claimBy_33 (fn_icmp_ge rl_L_claimBy_36 (fun k797 => fn_bipush rl_L_claimBy_99 (fn_reti rl_L_claimBy_101 rfl k797)) (fun k798 => fn_iload_n rl_L_claimBy_39 rfl (fn_stat (as := [.int v3]) (r := []) (ls' := [.int v3]) rl_L_claimBy_40 rfl rfl rfl rfl pl_L_yearOf rfl rfl (fn_iload_n rl_L_yearOf_0 rfl (fn_sipush rl_L_yearOf_1 (fn_idiv rl_L_yearOf_4 (by decide +kernel) (fn_retci rl_L_yearOf_5 rfl (fn_istore (ls' := [.ref 1, .int v1, .int v2, .int v3, .int (v3 / 360)]) rl_L_claimBy_43 rfl rfl (fn_aload_n rl_L_claimBy_45 rfl (fn_get rl_L_claimBy_46 hp_1 rfl (fn_get rl_L_claimBy_49 hp_2 rfl (fn_iload_n rl_L_claimBy_52 rfl (fn_virt (as := [.ref 3, .int v3]) (r := []) (ls' := [.ref 3, .int v3]) rl_L_claimBy_53 rfl hp_3 rfl rfl pl_P_landOn rfl rfl (k798))))))))))))) k0))
set_option maxRecDepth 100000 in
set_option maxHeartbeats 4000000 in
theorem sg_L_freest_0 {L : Nat} {xs : Nat → Int32} {A V : Nat → Nat → Int32} {K : Nat → Option Nat} {T : am_H} {v : Option Int32} {h' : am_H} {a1 a2 a3 : Int32} (k0 :
    if a1 < 0 then (
      v = some (-1) ∧ h' = hp L xs A V K T)
    else (
      if 1079 < a1 then (
        v = some (-1) ∧ h' = hp L xs A V K T)
      else (
        if a2 < 1 then (
          v = some (-1) ∧ h' = hp L xs A V K T)
        else (
          if 360 < a2 then (
            v = some (-1) ∧ h' = hp L xs A V K T)
          else (
            if a3 < 0 then (
              v = some (-1) ∧ h' = hp L xs A V K T)
            else (
              if 1 < a3 then (
                v = some (-1) ∧ h' = hp L xs A V K T)
              else (
                am_fin [(z_L_freest, 38, [.ref 1, .int a1, .int a2, .int a3, .int 0, .int (-1), .int 0, .null], [])] (hp L xs A V K T) v h'))))))) : am_fin [(z_L_freest, 0, [.ref 1, .int a1, .int a2, .int a3, .null, .null, .null, .null], [])] (hp L xs A V K T) v h' :=
  fn_iload_n rl_L_freest_0 rfl (fn_stat (as := [.int a1]) (r := []) (ls' := [.int a1]) rl_L_freest_1 rfl rfl rfl rfl pl_L_isDay rfl rfl (fn_iload_n rl_L_isDay_0 rfl (fn_iconst rl_L_isDay_1 (fn_sipush rl_L_isDay_2 (fn_stat (as := [.int a1, .int 0, .int 1079]) (r := []) (ls' := [.int a1, .int 0, .int 1079]) rl_L_isDay_5 rfl rfl rfl rfl pl_L_isAmong rfl rfl (fn_iload_n rl_L_isAmong_0 rfl (fn_iload_n rl_L_isAmong_1 rfl (fn_icmp_lt rl_L_isAmong_2 (fun k809 => fn_iconst rl_L_isAmong_14 (fn_retci rl_L_isAmong_15 rfl (fn_retci rl_L_isDay_8 rfl (fn_if_eq_t rl_L_freest_4 (by decide +kernel) (fn_iconst rl_L_freest_27 (fn_reti rl_L_freest_28 rfl k809)))))) (fun k810 => fn_iload_n rl_L_isAmong_5 rfl (fn_iload_n rl_L_isAmong_6 rfl (fn_icmp_gt rl_L_isAmong_7 (fun k807 => fn_iconst rl_L_isAmong_14 (fn_retci rl_L_isAmong_15 rfl (fn_retci rl_L_isDay_8 rfl (fn_if_eq_t rl_L_freest_4 (by decide +kernel) (fn_iconst rl_L_freest_27 (fn_reti rl_L_freest_28 rfl k807)))))) (fun k808 => fn_iconst rl_L_isAmong_10 (fn_goto rl_L_isAmong_11 (fn_retci rl_L_isAmong_15 rfl (fn_retci rl_L_isDay_8 rfl (fn_if_eq_f rl_L_freest_4 (by decide +kernel) (fn_iload_n rl_L_freest_7 rfl (fn_iconst rl_L_freest_8 (fn_sipush rl_L_freest_9 (fn_stat (as := [.int a2, .int 1, .int 360]) (r := []) (ls' := [.int a2, .int 1, .int 360]) rl_L_freest_12 rfl rfl rfl rfl pl_L_isAmong rfl rfl (fn_iload_n rl_L_isAmong_0 rfl (fn_iload_n rl_L_isAmong_1 rfl (fn_icmp_lt rl_L_isAmong_2 (fun k805 => fn_iconst rl_L_isAmong_14 (fn_retci rl_L_isAmong_15 rfl (fn_if_eq_t rl_L_freest_15 (by decide +kernel) (fn_iconst rl_L_freest_27 (fn_reti rl_L_freest_28 rfl k805))))) (fun k806 => fn_iload_n rl_L_isAmong_5 rfl (fn_iload_n rl_L_isAmong_6 rfl (fn_icmp_gt rl_L_isAmong_7 (fun k803 => fn_iconst rl_L_isAmong_14 (fn_retci rl_L_isAmong_15 rfl (fn_if_eq_t rl_L_freest_15 (by decide +kernel) (fn_iconst rl_L_freest_27 (fn_reti rl_L_freest_28 rfl k803))))) (fun k804 => fn_iconst rl_L_isAmong_10 (fn_goto rl_L_isAmong_11 (fn_retci rl_L_isAmong_15 rfl (fn_if_eq_f rl_L_freest_15 (by decide +kernel) (fn_iload_n rl_L_freest_18 rfl (fn_iconst rl_L_freest_19 (fn_iconst rl_L_freest_20 (fn_stat (as := [.int a3, .int 0, .int 1]) (r := []) (ls' := [.int a3, .int 0, .int 1]) rl_L_freest_21 rfl rfl rfl rfl pl_L_isAmong rfl rfl (fn_iload_n rl_L_isAmong_0 rfl (fn_iload_n rl_L_isAmong_1 rfl (fn_icmp_lt rl_L_isAmong_2 (fun k801 => fn_iconst rl_L_isAmong_14 (fn_retci rl_L_isAmong_15 rfl (fn_if_ne_t rl_L_freest_24 (by decide +kernel) (fn_iconst rl_L_freest_27 (fn_reti rl_L_freest_28 rfl k801))))) (fun k802 => fn_iload_n rl_L_isAmong_5 rfl (fn_iload_n rl_L_isAmong_6 rfl (fn_icmp_gt rl_L_isAmong_7 (fun k799 => fn_iconst rl_L_isAmong_14 (fn_retci rl_L_isAmong_15 rfl (fn_if_ne_t rl_L_freest_24 (by decide +kernel) (fn_iconst rl_L_freest_27 (fn_reti rl_L_freest_28 rfl k799))))) (fun k800 => fn_iconst rl_L_isAmong_10 (fn_goto rl_L_isAmong_11 (fn_retci rl_L_isAmong_15 rfl (fn_if_ne_f rl_L_freest_24 (by decide +kernel) (fn_iconst rl_L_freest_29 (fn_istore (ls' := [.ref 1, .int a1, .int a2, .int a3, .int 0, .null, .null, .null]) rl_L_freest_30 rfl rfl (fn_iconst rl_L_freest_32 (fn_istore (ls' := [.ref 1, .int a1, .int a2, .int a3, .int 0, .int (-1), .null, .null]) rl_L_freest_33 rfl rfl (fn_iconst rl_L_freest_35 (fn_istore (ls' := [.ref 1, .int a1, .int a2, .int a3, .int 0, .int (-1), .int 0, .null]) rl_L_freest_36 rfl rfl (k800))))))))))) k802))) k804))))))))))) k806))) k808)))))))))))) k810))) k0))))))))
set_option maxRecDepth 100000 in
set_option maxHeartbeats 4000000 in
theorem sg_L_freest_38 {L : Nat} {xs : Nat → Int32} {A V : Nat → Nat → Int32} {K : Nat → Option Nat} {T : am_H} {v : Option Int32} {h' : am_H} {v1 v2 v3 v4 v5 v6 : Int32} (k0 :
    if 6 ≤ v6 then (
      if v3 = 0 then (
        v = some v4 ∧ h' = hp L xs A V K T)
      else (
        v = some v5 ∧ h' = hp L xs A V K T))
    else (
      am_fin [(z_O_read, 0, [.ref 30, .ref 3, .int v6, .null], []), (z_L_freest, 61, [.ref 1, .int v1, .int v2, .int v3, .int v4, .int v5, .int v6, .null], [])] (hp L xs A V K T) v h')) : am_fin [(z_L_freest, 38, [.ref 1, .int v1, .int v2, .int v3, .int v4, .int v5, .int v6, .null], [])] (hp L xs A V K T) v h' :=
  fn_iload rl_L_freest_38 rfl (fn_bipush rl_L_freest_40 (fn_icmp_ge rl_L_freest_42 (fun k813 => fn_iload_n rl_L_freest_101 rfl (fn_if_ne rl_L_freest_102 (fun k811 => fn_iload rl_L_freest_105 rfl (fn_goto rl_L_freest_107 (fn_reti rl_L_freest_112 rfl k811))) (fun k812 => fn_iload rl_L_freest_110 rfl (fn_reti rl_L_freest_112 rfl k812)) k813)) (fun k814 => fn_aload_n rl_L_freest_45 rfl (fn_get rl_L_freest_46 hp_1 rfl (fn_aload_n rl_L_freest_49 rfl (fn_get rl_L_freest_50 hp_1 rfl (fn_get rl_L_freest_53 hp_2 rfl (fn_iload rl_L_freest_56 rfl (fn_virt (as := [.ref 30, .ref 3, .int v6]) (r := []) (ls' := [.ref 30, .ref 3, .int v6, .null]) rl_L_freest_58 rfl hp_30 rfl rfl pl_O_read rfl rfl (k814)))))))) k0))
set_option maxRecDepth 100000 in
set_option maxHeartbeats 4000000 in
theorem sg_L_freest_61r {L : Nat} {xs : Nat → Int32} {A V : Nat → Nat → Int32} {K : Nat → Option Nat} {T : am_H} {v : Option Int32} {h' : am_H} {v1 v2 v3 v4 v5 v6 : Int32} (k0 :
    am_fin [(z_O_fillUp, 0, [.ref 30, .int v1, .int (if 1080 < (v1 + v2) then 1080 else (v1 + v2) : Int32), .null, .null, .null, .null], []), (z_L_freest, 78, [.ref 1, .int v1, .int v2, .int v3, .int v4, .int v5, .int v6, .null], [])] (hp L xs A V K T) v h') : am_fin [(z_L_freest, 61, [.ref 1, .int v1, .int v2, .int v3, .int v4, .int v5, .int v6, .null], [])] (hp L xs A V K T) v h' :=
  fn_aload_n rl_L_freest_61 rfl (fn_get rl_L_freest_62 hp_1 rfl (fn_iload_n rl_L_freest_65 rfl (fn_iload_n rl_L_freest_66 rfl (fn_iload_n rl_L_freest_67 rfl (fn_iadd rl_L_freest_68 (fn_sipush rl_L_freest_69 (fn_min rl_L_freest_72 rfl (fn_virt (as := [.ref 30, .int v1, .int (if 1080 < (v1 + v2) then 1080 else (v1 + v2) : Int32)]) (r := []) (ls' := [.ref 30, .int v1, .int (if 1080 < (v1 + v2) then 1080 else (v1 + v2) : Int32), .null, .null, .null, .null]) rl_L_freest_75 rfl hp_30 rfl rfl pl_O_fillUp rfl rfl (k0)))))))))
set_option maxRecDepth 100000 in
set_option maxHeartbeats 4000000 in
theorem sg_L_freest_78r {L : Nat} {xs : Nat → Int32} {A V : Nat → Nat → Int32} {K : Nat → Option Nat} {T : am_H} {v : Option Int32} {h' : am_H} {v1 v2 v3 v4 v5 v6 r : Int32} (k0 :
    if r ≤ v5 then (
      am_fin [(z_L_freest, 38, [.ref 1, .int v1, .int v2, .int v3, .int v4, .int v5, .int (v6 + 1), .int r], [])] (hp L xs A V K T) v h')
    else (
      am_fin [(z_L_freest, 38, [.ref 1, .int v1, .int v2, .int v3, .int v6, .int r, .int (v6 + 1), .int r], [])] (hp L xs A V K T) v h')) : am_fin [(z_L_freest, 78, [.ref 1, .int v1, .int v2, .int v3, .int v4, .int v5, .int v6, .null], [.int r])] (hp L xs A V K T) v h' :=
  fn_istore (ls' := [.ref 1, .int v1, .int v2, .int v3, .int v4, .int v5, .int v6, .int r]) rl_L_freest_78 rfl rfl (fn_iload rl_L_freest_80 rfl (fn_iload rl_L_freest_82 rfl (fn_icmp_le rl_L_freest_84 (fun k815 => fn_iinc (ls' := [.ref 1, .int v1, .int v2, .int v3, .int v4, .int v5, .int (v6 + 1), .int r]) rl_L_freest_95 rfl rfl rfl (fn_goto rl_L_freest_98 (k815))) (fun k816 => fn_iload rl_L_freest_87 rfl (fn_istore (ls' := [.ref 1, .int v1, .int v2, .int v3, .int v6, .int v5, .int v6, .int r]) rl_L_freest_89 rfl rfl (fn_iload rl_L_freest_91 rfl (fn_istore (ls' := [.ref 1, .int v1, .int v2, .int v3, .int v6, .int r, .int v6, .int r]) rl_L_freest_93 rfl rfl (fn_iinc (ls' := [.ref 1, .int v1, .int v2, .int v3, .int v6, .int r, .int (v6 + 1), .int r]) rl_L_freest_95 rfl rfl rfl (fn_goto rl_L_freest_98 (k816))))))) k0)))
set_option maxRecDepth 100000 in
set_option maxHeartbeats 4000000 in
theorem sg_L_freest_38b {L : Nat} {xs : Nat → Int32} {A V : Nat → Nat → Int32} {K : Nat → Option Nat} {T : am_H} {v : Option Int32} {h' : am_H} {v1 v2 v3 v4 v5 v6 v7 : Int32} (k0 :
    if 6 ≤ v6 then (
      if v3 = 0 then (
        v = some v4 ∧ h' = hp L xs A V K T)
      else (
        v = some v5 ∧ h' = hp L xs A V K T))
    else (
      am_fin [(z_O_read, 0, [.ref 30, .ref 3, .int v6, .null], []), (z_L_freest, 61, [.ref 1, .int v1, .int v2, .int v3, .int v4, .int v5, .int v6, .int v7], [])] (hp L xs A V K T) v h')) : am_fin [(z_L_freest, 38, [.ref 1, .int v1, .int v2, .int v3, .int v4, .int v5, .int v6, .int v7], [])] (hp L xs A V K T) v h' :=
  fn_iload rl_L_freest_38 rfl (fn_bipush rl_L_freest_40 (fn_icmp_ge rl_L_freest_42 (fun k819 => fn_iload_n rl_L_freest_101 rfl (fn_if_ne rl_L_freest_102 (fun k817 => fn_iload rl_L_freest_105 rfl (fn_goto rl_L_freest_107 (fn_reti rl_L_freest_112 rfl k817))) (fun k818 => fn_iload rl_L_freest_110 rfl (fn_reti rl_L_freest_112 rfl k818)) k819)) (fun k820 => fn_aload_n rl_L_freest_45 rfl (fn_get rl_L_freest_46 hp_1 rfl (fn_aload_n rl_L_freest_49 rfl (fn_get rl_L_freest_50 hp_1 rfl (fn_get rl_L_freest_53 hp_2 rfl (fn_iload rl_L_freest_56 rfl (fn_virt (as := [.ref 30, .ref 3, .int v6]) (r := []) (ls' := [.ref 30, .ref 3, .int v6, .null]) rl_L_freest_58 rfl hp_30 rfl rfl pl_O_read rfl rfl (k820)))))))) k0))
set_option maxRecDepth 100000 in
set_option maxHeartbeats 4000000 in
theorem sg_L_freest_61rb {L : Nat} {xs : Nat → Int32} {A V : Nat → Nat → Int32} {K : Nat → Option Nat} {T : am_H} {v : Option Int32} {h' : am_H} {v1 v2 v3 v4 v5 v6 v7 : Int32} (k0 :
    am_fin [(z_O_fillUp, 0, [.ref 30, .int v1, .int (if 1080 < (v1 + v2) then 1080 else (v1 + v2) : Int32), .null, .null, .null, .null], []), (z_L_freest, 78, [.ref 1, .int v1, .int v2, .int v3, .int v4, .int v5, .int v6, .int v7], [])] (hp L xs A V K T) v h') : am_fin [(z_L_freest, 61, [.ref 1, .int v1, .int v2, .int v3, .int v4, .int v5, .int v6, .int v7], [])] (hp L xs A V K T) v h' :=
  fn_aload_n rl_L_freest_61 rfl (fn_get rl_L_freest_62 hp_1 rfl (fn_iload_n rl_L_freest_65 rfl (fn_iload_n rl_L_freest_66 rfl (fn_iload_n rl_L_freest_67 rfl (fn_iadd rl_L_freest_68 (fn_sipush rl_L_freest_69 (fn_min rl_L_freest_72 rfl (fn_virt (as := [.ref 30, .int v1, .int (if 1080 < (v1 + v2) then 1080 else (v1 + v2) : Int32)]) (r := []) (ls' := [.ref 30, .int v1, .int (if 1080 < (v1 + v2) then 1080 else (v1 + v2) : Int32), .null, .null, .null, .null]) rl_L_freest_75 rfl hp_30 rfl rfl pl_O_fillUp rfl rfl (k0)))))))))
set_option maxRecDepth 100000 in
set_option maxHeartbeats 4000000 in
theorem sg_L_freest_78rb {L : Nat} {xs : Nat → Int32} {A V : Nat → Nat → Int32} {K : Nat → Option Nat} {T : am_H} {v : Option Int32} {h' : am_H} {v1 v2 v3 v4 v5 v6 v7 r : Int32} (k0 :
    if r ≤ v5 then (
      am_fin [(z_L_freest, 38, [.ref 1, .int v1, .int v2, .int v3, .int v4, .int v5, .int (v6 + 1), .int r], [])] (hp L xs A V K T) v h')
    else (
      am_fin [(z_L_freest, 38, [.ref 1, .int v1, .int v2, .int v3, .int v6, .int r, .int (v6 + 1), .int r], [])] (hp L xs A V K T) v h')) : am_fin [(z_L_freest, 78, [.ref 1, .int v1, .int v2, .int v3, .int v4, .int v5, .int v6, .int v7], [.int r])] (hp L xs A V K T) v h' :=
  fn_istore (ls' := [.ref 1, .int v1, .int v2, .int v3, .int v4, .int v5, .int v6, .int r]) rl_L_freest_78 rfl rfl (fn_iload rl_L_freest_80 rfl (fn_iload rl_L_freest_82 rfl (fn_icmp_le rl_L_freest_84 (fun k821 => fn_iinc (ls' := [.ref 1, .int v1, .int v2, .int v3, .int v4, .int v5, .int (v6 + 1), .int r]) rl_L_freest_95 rfl rfl rfl (fn_goto rl_L_freest_98 (k821))) (fun k822 => fn_iload rl_L_freest_87 rfl (fn_istore (ls' := [.ref 1, .int v1, .int v2, .int v3, .int v6, .int v5, .int v6, .int r]) rl_L_freest_89 rfl rfl (fn_iload rl_L_freest_91 rfl (fn_istore (ls' := [.ref 1, .int v1, .int v2, .int v3, .int v6, .int r, .int v6, .int r]) rl_L_freest_93 rfl rfl (fn_iinc (ls' := [.ref 1, .int v1, .int v2, .int v3, .int v6, .int r, .int (v6 + 1), .int r]) rl_L_freest_95 rfl rfl rfl (fn_goto rl_L_freest_98 (k822))))))) k0)))
set_option maxRecDepth 100000 in
set_option maxHeartbeats 4000000 in
theorem sg_L_need_0 {L : Nat} {xs : Nat → Int32} {A V : Nat → Nat → Int32} {K : Nat → Option Nat} {T : am_H} {v : Option Int32} {h' : am_H} {a1 a2 : Int32} (k0 :
    if a1 < 0 then (
      v = some (-1) ∧ h' = hp L xs A V K T)
    else (
      if 5 < a1 then (
        v = some (-1) ∧ h' = hp L xs A V K T)
      else (
        if a2 < 0 then (
          v = some (-1) ∧ h' = hp L xs A V K T)
        else (
          if 2 < a2 then (
            v = some (-1) ∧ h' = hp L xs A V K T)
          else (
            am_fin [(z_J_weigh, 0, [.ref 26, .ref 3], []), (z_L_need, 30, [.ref 1, .int a1, .int a2], [])] (hp L xs A V K T) v h'))))) : am_fin [(z_L_need, 0, [.ref 1, .int a1, .int a2], [])] (hp L xs A V K T) v h' :=
  fn_iload_n rl_L_need_0 rfl (fn_stat (as := [.int a1]) (r := []) (ls' := [.int a1]) rl_L_need_1 rfl rfl rfl rfl pl_L_isLand rfl rfl (fn_iload_n rl_L_isLand_0 rfl (fn_iconst rl_L_isLand_1 (fn_iconst rl_L_isLand_2 (fn_stat (as := [.int a1, .int 0, .int 5]) (r := []) (ls' := [.int a1, .int 0, .int 5]) rl_L_isLand_3 rfl rfl rfl rfl pl_L_isAmong rfl rfl (fn_iload_n rl_L_isAmong_0 rfl (fn_iload_n rl_L_isAmong_1 rfl (fn_icmp_lt rl_L_isAmong_2 (fun k829 => fn_iconst rl_L_isAmong_14 (fn_retci rl_L_isAmong_15 rfl (fn_retci rl_L_isLand_6 rfl (fn_if_eq_t rl_L_need_4 (by decide +kernel) (fn_iconst rl_L_need_14 (fn_reti rl_L_need_15 rfl k829)))))) (fun k830 => fn_iload_n rl_L_isAmong_5 rfl (fn_iload_n rl_L_isAmong_6 rfl (fn_icmp_gt rl_L_isAmong_7 (fun k827 => fn_iconst rl_L_isAmong_14 (fn_retci rl_L_isAmong_15 rfl (fn_retci rl_L_isLand_6 rfl (fn_if_eq_t rl_L_need_4 (by decide +kernel) (fn_iconst rl_L_need_14 (fn_reti rl_L_need_15 rfl k827)))))) (fun k828 => fn_iconst rl_L_isAmong_10 (fn_goto rl_L_isAmong_11 (fn_retci rl_L_isAmong_15 rfl (fn_retci rl_L_isLand_6 rfl (fn_if_eq_f rl_L_need_4 (by decide +kernel) (fn_iload_n rl_L_need_7 rfl (fn_stat (as := [.int a2]) (r := []) (ls' := [.int a2]) rl_L_need_8 rfl rfl rfl rfl pl_L_isYear rfl rfl (fn_iload_n rl_L_isYear_0 rfl (fn_iconst rl_L_isYear_1 (fn_iconst rl_L_isYear_2 (fn_stat (as := [.int a2, .int 0, .int 2]) (r := []) (ls' := [.int a2, .int 0, .int 2]) rl_L_isYear_3 rfl rfl rfl rfl pl_L_isAmong rfl rfl (fn_iload_n rl_L_isAmong_0 rfl (fn_iload_n rl_L_isAmong_1 rfl (fn_icmp_lt rl_L_isAmong_2 (fun k825 => fn_iconst rl_L_isAmong_14 (fn_retci rl_L_isAmong_15 rfl (fn_retci rl_L_isYear_6 rfl (fn_if_ne_t rl_L_need_11 (by decide +kernel) (fn_iconst rl_L_need_14 (fn_reti rl_L_need_15 rfl k825)))))) (fun k826 => fn_iload_n rl_L_isAmong_5 rfl (fn_iload_n rl_L_isAmong_6 rfl (fn_icmp_gt rl_L_isAmong_7 (fun k823 => fn_iconst rl_L_isAmong_14 (fn_retci rl_L_isAmong_15 rfl (fn_retci rl_L_isYear_6 rfl (fn_if_ne_t rl_L_need_11 (by decide +kernel) (fn_iconst rl_L_need_14 (fn_reti rl_L_need_15 rfl k823)))))) (fun k824 => fn_iconst rl_L_isAmong_10 (fn_goto rl_L_isAmong_11 (fn_retci rl_L_isAmong_15 rfl (fn_retci rl_L_isYear_6 rfl (fn_if_ne_f rl_L_need_11 (by decide +kernel) (fn_aload_n rl_L_need_16 rfl (fn_get rl_L_need_17 hp_1 rfl (fn_aload_n rl_L_need_20 rfl (fn_get rl_L_need_21 hp_1 rfl (fn_get rl_L_need_24 hp_2 rfl (fn_virt (as := [.ref 26, .ref 3]) (r := []) (ls' := [.ref 26, .ref 3]) rl_L_need_27 rfl hp_26 rfl rfl pl_J_weigh rfl rfl (k824)))))))))))) k826))) k828)))))))))))))) k830))) k0))))))))
set_option maxRecDepth 100000 in
set_option maxHeartbeats 4000000 in
theorem sg_L_need_30r {L : Nat} {xs : Nat → Int32} {A V : Nat → Nat → Int32} {K : Nat → Option Nat} {T : am_H} {v : Option Int32} {h' : am_H} {v1 v2 : Int32} (k0 :
    am_fin [(z_J_needOf, 0, [.ref 26, .int v1, .int v2, .null, .null, .null, .null], []), (z_L_need, 39, [.ref 1, .int v1, .int v2], [])] (hp L xs A V K T) v h') : am_fin [(z_L_need, 30, [.ref 1, .int v1, .int v2], [])] (hp L xs A V K T) v h' :=
  fn_aload_n rl_L_need_30 rfl (fn_get rl_L_need_31 hp_1 rfl (fn_iload_n rl_L_need_34 rfl (fn_iload_n rl_L_need_35 rfl (fn_virt (as := [.ref 26, .int v1, .int v2]) (r := []) (ls' := [.ref 26, .int v1, .int v2, .null, .null, .null, .null]) rl_L_need_36 rfl hp_26 rfl rfl pl_J_needOf rfl rfl (k0)))))
set_option maxRecDepth 100000 in
set_option maxHeartbeats 4000000 in
theorem sg_L_need_39r {L : Nat} {xs : Nat → Int32} {A V : Nat → Nat → Int32} {K : Nat → Option Nat} {T : am_H} {v : Option Int32} {h' : am_H} {v1 v2 r : Int32} (k0 :
    v = some r ∧ h' = hp L xs A V K T) : am_fin [(z_L_need, 39, [.ref 1, .int v1, .int v2], [.int r])] (hp L xs A V K T) v h' :=
  fn_reti rl_L_need_39 rfl k0
set_option maxRecDepth 100000 in
set_option maxHeartbeats 4000000 in
theorem sg_L_moved_0 {L : Nat} {xs : Nat → Int32} {A V : Nat → Nat → Int32} {K : Nat → Option Nat} {T : am_H} {v : Option Int32} {h' : am_H} {a1 a2 : Int32} (k0 :
    if a1 < 0 then (
      v = some (-1) ∧ h' = hp L xs A V K T)
    else (
      if 1079 < a1 then (
        v = some (-1) ∧ h' = hp L xs A V K T)
      else (
        if a2 < (-1) then (
          v = some (-1) ∧ h' = hp L xs A V K T)
        else (
          if 5 < a2 then (
            v = some (-1) ∧ h' = hp L xs A V K T)
          else (
            am_fin [(z_J_weigh, 0, [.ref 26, .ref 3], []), (z_L_moved, 30, [.ref 1, .int a1, .int a2], [])] (hp L xs A V K T) v h'))))) : am_fin [(z_L_moved, 0, [.ref 1, .int a1, .int a2], [])] (hp L xs A V K T) v h' :=
  fn_iload_n rl_L_moved_0 rfl (fn_stat (as := [.int a1]) (r := []) (ls' := [.int a1]) rl_L_moved_1 rfl rfl rfl rfl pl_L_isDay rfl rfl (fn_iload_n rl_L_isDay_0 rfl (fn_iconst rl_L_isDay_1 (fn_sipush rl_L_isDay_2 (fn_stat (as := [.int a1, .int 0, .int 1079]) (r := []) (ls' := [.int a1, .int 0, .int 1079]) rl_L_isDay_5 rfl rfl rfl rfl pl_L_isAmong rfl rfl (fn_iload_n rl_L_isAmong_0 rfl (fn_iload_n rl_L_isAmong_1 rfl (fn_icmp_lt rl_L_isAmong_2 (fun k837 => fn_iconst rl_L_isAmong_14 (fn_retci rl_L_isAmong_15 rfl (fn_retci rl_L_isDay_8 rfl (fn_if_eq_t rl_L_moved_4 (by decide +kernel) (fn_iconst rl_L_moved_14 (fn_reti rl_L_moved_15 rfl k837)))))) (fun k838 => fn_iload_n rl_L_isAmong_5 rfl (fn_iload_n rl_L_isAmong_6 rfl (fn_icmp_gt rl_L_isAmong_7 (fun k835 => fn_iconst rl_L_isAmong_14 (fn_retci rl_L_isAmong_15 rfl (fn_retci rl_L_isDay_8 rfl (fn_if_eq_t rl_L_moved_4 (by decide +kernel) (fn_iconst rl_L_moved_14 (fn_reti rl_L_moved_15 rfl k835)))))) (fun k836 => fn_iconst rl_L_isAmong_10 (fn_goto rl_L_isAmong_11 (fn_retci rl_L_isAmong_15 rfl (fn_retci rl_L_isDay_8 rfl (fn_if_eq_f rl_L_moved_4 (by decide +kernel) (fn_iload_n rl_L_moved_7 rfl (fn_stat (as := [.int a2]) (r := []) (ls' := [.int a2]) rl_L_moved_8 rfl rfl rfl rfl pl_L_isPlace rfl rfl (fn_iload_n rl_L_isPlace_0 rfl (fn_iconst rl_L_isPlace_1 (fn_iconst rl_L_isPlace_2 (fn_stat (as := [.int a2, .int (-1), .int 5]) (r := []) (ls' := [.int a2, .int (-1), .int 5]) rl_L_isPlace_3 rfl rfl rfl rfl pl_L_isAmong rfl rfl (fn_iload_n rl_L_isAmong_0 rfl (fn_iload_n rl_L_isAmong_1 rfl (fn_icmp_lt rl_L_isAmong_2 (fun k833 => fn_iconst rl_L_isAmong_14 (fn_retci rl_L_isAmong_15 rfl (fn_retci rl_L_isPlace_6 rfl (fn_if_ne_t rl_L_moved_11 (by decide +kernel) (fn_iconst rl_L_moved_14 (fn_reti rl_L_moved_15 rfl k833)))))) (fun k834 => fn_iload_n rl_L_isAmong_5 rfl (fn_iload_n rl_L_isAmong_6 rfl (fn_icmp_gt rl_L_isAmong_7 (fun k831 => fn_iconst rl_L_isAmong_14 (fn_retci rl_L_isAmong_15 rfl (fn_retci rl_L_isPlace_6 rfl (fn_if_ne_t rl_L_moved_11 (by decide +kernel) (fn_iconst rl_L_moved_14 (fn_reti rl_L_moved_15 rfl k831)))))) (fun k832 => fn_iconst rl_L_isAmong_10 (fn_goto rl_L_isAmong_11 (fn_retci rl_L_isAmong_15 rfl (fn_retci rl_L_isPlace_6 rfl (fn_if_ne_f rl_L_moved_11 (by decide +kernel) (fn_aload_n rl_L_moved_16 rfl (fn_get rl_L_moved_17 hp_1 rfl (fn_aload_n rl_L_moved_20 rfl (fn_get rl_L_moved_21 hp_1 rfl (fn_get rl_L_moved_24 hp_2 rfl (fn_virt (as := [.ref 26, .ref 3]) (r := []) (ls' := [.ref 26, .ref 3]) rl_L_moved_27 rfl hp_26 rfl rfl pl_J_weigh rfl rfl (k832)))))))))))) k834))) k836)))))))))))))) k838))) k0))))))))
set_option maxRecDepth 100000 in
set_option maxHeartbeats 4000000 in
theorem sg_L_moved_30r {L : Nat} {xs : Nat → Int32} {A V : Nat → Nat → Int32} {K : Nat → Option Nat} {T : am_H} {v : Option Int32} {h' : am_H} {v1 v2 : Int32} (k0 :
    am_fin [(z_P_landOn, 0, [.ref 3, .int v1], []), (z_L_moved, 45, [.ref 1, .int v1, .int v2], [.ref 26])] (hp L xs A V K T) v h') : am_fin [(z_L_moved, 30, [.ref 1, .int v1, .int v2], [])] (hp L xs A V K T) v h' :=
  fn_aload_n rl_L_moved_30 rfl (fn_get rl_L_moved_31 hp_1 rfl (fn_aload_n rl_L_moved_34 rfl (fn_get rl_L_moved_35 hp_1 rfl (fn_get rl_L_moved_38 hp_2 rfl (fn_iload_n rl_L_moved_41 rfl (fn_virt (as := [.ref 3, .int v1]) (r := [.ref 26]) (ls' := [.ref 3, .int v1]) rl_L_moved_42 rfl hp_3 rfl rfl pl_P_landOn rfl rfl (k0)))))))
set_option maxRecDepth 100000 in
set_option maxHeartbeats 4000000 in
theorem sg_L_moved_45r {L : Nat} {xs : Nat → Int32} {A V : Nat → Nat → Int32} {K : Nat → Option Nat} {T : am_H} {v : Option Int32} {h' : am_H} {v1 v2 r : Int32} (k0 :
    am_fin [(z_J_livesIfMoved, 0, [.ref 26, .int r, .int v2, .int (v1 / 360), .null], []), (z_L_moved, 53, [.ref 1, .int v1, .int v2], [])] (hp L xs A V K T) v h') : am_fin [(z_L_moved, 45, [.ref 1, .int v1, .int v2], [.int r, .ref 26])] (hp L xs A V K T) v h' :=
  fn_iload_n rl_L_moved_45 rfl (fn_iload_n rl_L_moved_46 rfl (fn_stat (as := [.int v1]) (r := [.int v2, .int r, .ref 26]) (ls' := [.int v1]) rl_L_moved_47 rfl rfl rfl rfl pl_L_yearOf rfl rfl (fn_iload_n rl_L_yearOf_0 rfl (fn_sipush rl_L_yearOf_1 (fn_idiv rl_L_yearOf_4 (by decide +kernel) (fn_retci rl_L_yearOf_5 rfl (fn_virt (as := [.ref 26, .int r, .int v2, .int (v1 / 360)]) (r := []) (ls' := [.ref 26, .int r, .int v2, .int (v1 / 360), .null]) rl_L_moved_50 rfl hp_26 rfl rfl pl_J_livesIfMoved rfl rfl (k0))))))))
set_option maxRecDepth 100000 in
set_option maxHeartbeats 4000000 in
theorem sg_L_moved_53r {L : Nat} {xs : Nat → Int32} {A V : Nat → Nat → Int32} {K : Nat → Option Nat} {T : am_H} {v : Option Int32} {h' : am_H} {v1 v2 r : Int32} (k0 :
    v = some r ∧ h' = hp L xs A V K T) : am_fin [(z_L_moved, 53, [.ref 1, .int v1, .int v2], [.int r])] (hp L xs A V K T) v h' :=
  fn_reti rl_L_moved_53 rfl k0
set_option maxRecDepth 100000 in
set_option maxHeartbeats 4000000 in
theorem sg_L_loose_0 {L : Nat} {xs : Nat → Int32} {A V : Nat → Nat → Int32} {K : Nat → Option Nat} {T : am_H} {v : Option Int32} {h' : am_H} {a1 a2 : Int32} (k0 :
    if a1 < 0 then (
      v = some (-1) ∧ h' = hp L xs A V K T)
    else (
      if 2 < a1 then (
        v = some (-1) ∧ h' = hp L xs A V K T)
      else (
        if a2 < 0 then (
          v = some (-1) ∧ h' = hp L xs A V K T)
        else (
          if 1 < a2 then (
            v = some (-1) ∧ h' = hp L xs A V K T)
          else (
            am_fin [(z_J_weigh, 0, [.ref 26, .ref 3], []), (z_L_loose, 32, [.ref 1, .int a1, .int a2, .null, .null, .null, .null], [])] (hp L xs A V K T) v h'))))) : am_fin [(z_L_loose, 0, [.ref 1, .int a1, .int a2, .null, .null, .null, .null], [])] (hp L xs A V K T) v h' :=
  fn_iload_n rl_L_loose_0 rfl (fn_stat (as := [.int a1]) (r := []) (ls' := [.int a1]) rl_L_loose_1 rfl rfl rfl rfl pl_L_isYear rfl rfl (fn_iload_n rl_L_isYear_0 rfl (fn_iconst rl_L_isYear_1 (fn_iconst rl_L_isYear_2 (fn_stat (as := [.int a1, .int 0, .int 2]) (r := []) (ls' := [.int a1, .int 0, .int 2]) rl_L_isYear_3 rfl rfl rfl rfl pl_L_isAmong rfl rfl (fn_iload_n rl_L_isAmong_0 rfl (fn_iload_n rl_L_isAmong_1 rfl (fn_icmp_lt rl_L_isAmong_2 (fun k845 => fn_iconst rl_L_isAmong_14 (fn_retci rl_L_isAmong_15 rfl (fn_retci rl_L_isYear_6 rfl (fn_if_eq_t rl_L_loose_4 (by decide +kernel) (fn_iconst rl_L_loose_16 (fn_reti rl_L_loose_17 rfl k845)))))) (fun k846 => fn_iload_n rl_L_isAmong_5 rfl (fn_iload_n rl_L_isAmong_6 rfl (fn_icmp_gt rl_L_isAmong_7 (fun k843 => fn_iconst rl_L_isAmong_14 (fn_retci rl_L_isAmong_15 rfl (fn_retci rl_L_isYear_6 rfl (fn_if_eq_t rl_L_loose_4 (by decide +kernel) (fn_iconst rl_L_loose_16 (fn_reti rl_L_loose_17 rfl k843)))))) (fun k844 => fn_iconst rl_L_isAmong_10 (fn_goto rl_L_isAmong_11 (fn_retci rl_L_isAmong_15 rfl (fn_retci rl_L_isYear_6 rfl (fn_if_eq_f rl_L_loose_4 (by decide +kernel) (fn_iload_n rl_L_loose_7 rfl (fn_iconst rl_L_loose_8 (fn_iconst rl_L_loose_9 (fn_stat (as := [.int a2, .int 0, .int 1]) (r := []) (ls' := [.int a2, .int 0, .int 1]) rl_L_loose_10 rfl rfl rfl rfl pl_L_isAmong rfl rfl (fn_iload_n rl_L_isAmong_0 rfl (fn_iload_n rl_L_isAmong_1 rfl (fn_icmp_lt rl_L_isAmong_2 (fun k841 => fn_iconst rl_L_isAmong_14 (fn_retci rl_L_isAmong_15 rfl (fn_if_ne_t rl_L_loose_13 (by decide +kernel) (fn_iconst rl_L_loose_16 (fn_reti rl_L_loose_17 rfl k841))))) (fun k842 => fn_iload_n rl_L_isAmong_5 rfl (fn_iload_n rl_L_isAmong_6 rfl (fn_icmp_gt rl_L_isAmong_7 (fun k839 => fn_iconst rl_L_isAmong_14 (fn_retci rl_L_isAmong_15 rfl (fn_if_ne_t rl_L_loose_13 (by decide +kernel) (fn_iconst rl_L_loose_16 (fn_reti rl_L_loose_17 rfl k839))))) (fun k840 => fn_iconst rl_L_isAmong_10 (fn_goto rl_L_isAmong_11 (fn_retci rl_L_isAmong_15 rfl (fn_if_ne_f rl_L_loose_13 (by decide +kernel) (fn_aload_n rl_L_loose_18 rfl (fn_get rl_L_loose_19 hp_1 rfl (fn_aload_n rl_L_loose_22 rfl (fn_get rl_L_loose_23 hp_1 rfl (fn_get rl_L_loose_26 hp_2 rfl (fn_virt (as := [.ref 26, .ref 3]) (r := []) (ls' := [.ref 26, .ref 3]) rl_L_loose_29 rfl hp_26 rfl rfl pl_J_weigh rfl rfl (k840))))))))))) k842))) k844)))))))))))) k846))) k0))))))))
set_option maxRecDepth 100000 in
set_option maxHeartbeats 4000000 in
theorem sg_L_loose_32r {L : Nat} {xs : Nat → Int32} {A V : Nat → Nat → Int32} {K : Nat → Option Nat} {T : am_H} {v : Option Int32} {h' : am_H} {v1 v2 : Int32} (k0 :
    am_fin [(z_J_loosePlaces, 0, [.ref 26, .int v1, .null, .null, .null, .null], []), (z_L_loose, 40, [.ref 1, .int v1, .int v2, .null, .null, .null, .null], [])] (hp L xs A V K T) v h') : am_fin [(z_L_loose, 32, [.ref 1, .int v1, .int v2, .null, .null, .null, .null], [])] (hp L xs A V K T) v h' :=
  fn_aload_n rl_L_loose_32 rfl (fn_get rl_L_loose_33 hp_1 rfl (fn_iload_n rl_L_loose_36 rfl (fn_virt (as := [.ref 26, .int v1]) (r := []) (ls' := [.ref 26, .int v1, .null, .null, .null, .null]) rl_L_loose_37 rfl hp_26 rfl rfl pl_J_loosePlaces rfl rfl (k0))))
set_option maxRecDepth 100000 in
set_option maxHeartbeats 4000000 in
theorem sg_L_loose_40r {L : Nat} {xs : Nat → Int32} {A V : Nat → Nat → Int32} {K : Nat → Option Nat} {T : am_H} {v : Option Int32} {h' : am_H} {v1 v2 r : Int32} (k0 :
    am_fin [(z_L_loose, 54, [.ref 1, .int v1, .int v2, .int r, .int 0, .int (-2), .int (v1 * 360)], [])] (hp L xs A V K T) v h') : am_fin [(z_L_loose, 40, [.ref 1, .int v1, .int v2, .null, .null, .null, .null], [.int r])] (hp L xs A V K T) v h' :=
  fn_istore_n (ls' := [.ref 1, .int v1, .int v2, .int r, .null, .null, .null]) rl_L_loose_40 rfl rfl (fn_iconst rl_L_loose_41 (fn_istore (ls' := [.ref 1, .int v1, .int v2, .int r, .int 0, .null, .null]) rl_L_loose_42 rfl rfl (fn_bipush rl_L_loose_44 (fn_istore (ls' := [.ref 1, .int v1, .int v2, .int r, .int 0, .int (-2), .null]) rl_L_loose_46 rfl rfl (fn_iload_n rl_L_loose_48 rfl (fn_stat (as := [.int v1]) (r := []) (ls' := [.int v1]) rl_L_loose_49 rfl rfl rfl rfl pl_L_firstOf rfl rfl (fn_iload_n rl_L_firstOf_0 rfl (fn_sipush rl_L_firstOf_1 (fn_imul rl_L_firstOf_4 (fn_retci rl_L_firstOf_5 rfl (fn_istore (ls' := [.ref 1, .int v1, .int v2, .int r, .int 0, .int (-2), .int (v1 * 360)]) rl_L_loose_52 rfl rfl (k0))))))))))))
set_option maxRecDepth 100000 in
set_option maxHeartbeats 4000000 in
theorem sg_L_loose_54 {L : Nat} {xs : Nat → Int32} {A V : Nat → Nat → Int32} {K : Nat → Option Nat} {T : am_H} {v : Option Int32} {h' : am_H} {v1 v2 v3 v4 v5 v6 : Int32} (k0 :
    if (((v1 * 360) + 360) - 1) < v6 then (
      if v2 = 0 then (
        v = some v4 ∧ h' = hp L xs A V K T)
      else (
        v = some v5 ∧ h' = hp L xs A V K T))
    else (
      am_fin [(z_P_landOn, 0, [.ref 3, .int v6], []), (z_L_loose, 76, [.ref 1, .int v1, .int v2, .int v3, .int v4, .int v5, .int v6], [.int v3])] (hp L xs A V K T) v h')) : am_fin [(z_L_loose, 54, [.ref 1, .int v1, .int v2, .int v3, .int v4, .int v5, .int v6], [])] (hp L xs A V K T) v h' :=
  fn_iload rl_L_loose_54 rfl (fn_iload_n rl_L_loose_56 rfl (fn_stat (as := [.int v1]) (r := [.int v6]) (ls' := [.int v1]) rl_L_loose_57 rfl rfl rfl rfl pl_L_lastOf rfl rfl (fn_iload_n rl_L_lastOf_0 rfl (fn_sipush rl_L_lastOf_1 (fn_imul rl_L_lastOf_4 (fn_sipush rl_L_lastOf_5 (fn_iadd rl_L_lastOf_8 (fn_iconst rl_L_lastOf_9 (fn_isub rl_L_lastOf_10 (fn_retci rl_L_lastOf_11 rfl (fn_icmp_gt rl_L_loose_60 (fun k849 => fn_iload_n rl_L_loose_109 rfl (fn_if_ne rl_L_loose_110 (fun k847 => fn_iload rl_L_loose_113 rfl (fn_goto rl_L_loose_115 (fn_reti rl_L_loose_120 rfl k847))) (fun k848 => fn_iload rl_L_loose_118 rfl (fn_reti rl_L_loose_120 rfl k848)) k849)) (fun k850 => fn_iload_n rl_L_loose_63 rfl (fn_aload_n rl_L_loose_64 rfl (fn_get rl_L_loose_65 hp_1 rfl (fn_get rl_L_loose_68 hp_2 rfl (fn_iload rl_L_loose_71 rfl (fn_virt (as := [.ref 3, .int v6]) (r := [.int v3]) (ls' := [.ref 3, .int v6]) rl_L_loose_73 rfl hp_3 rfl rfl pl_P_landOn rfl rfl (k850))))))) k0)))))))))))
set_option maxRecDepth 100000 in
set_option maxHeartbeats 4000000 in
theorem sg_L_loose_76r {L : Nat} {xs : Nat → Int32} {A V : Nat → Nat → Int32} {K : Nat → Option Nat} {T : am_H} {v : Option Int32} {h' : am_H} {v1 v2 v3 v4 v5 v6 s0 r : Int32} (k0 :
    if (((s0 : Int32) >>> ((r + 1) &&& 31 : Int32)) &&& 1) = 1 then (
      if v5 = (-2) then (
        am_fin [(z_L_loose, 54, [.ref 1, .int v1, .int v2, .int v3, .int (v4 + 1), .int v6, .int (v6 + 1)], [])] (hp L xs A V K T) v h')
      else (
        am_fin [(z_L_loose, 54, [.ref 1, .int v1, .int v2, .int v3, .int (v4 + 1), .int v5, .int (v6 + 1)], [])] (hp L xs A V K T) v h'))
    else (
      am_fin [(z_L_loose, 54, [.ref 1, .int v1, .int v2, .int v3, .int v4, .int v5, .int (v6 + 1)], [])] (hp L xs A V K T) v h')) : am_fin [(z_L_loose, 76, [.ref 1, .int v1, .int v2, .int v3, .int v4, .int v5, .int v6], [.int r, .int s0])] (hp L xs A V K T) v h' :=
  fn_iconst rl_L_loose_76 (fn_iadd rl_L_loose_77 (fn_stat (as := [.int s0, .int (r + 1)]) (r := []) (ls' := [.int s0, .int (r + 1)]) rl_L_loose_78 rfl rfl rfl rfl pl_L_hasBit rfl rfl (fn_iload_n rl_L_hasBit_0 rfl (fn_iload_n rl_L_hasBit_1 rfl (fn_ishr rl_L_hasBit_2 (fn_iconst rl_L_hasBit_3 (fn_iand rl_L_hasBit_4 (fn_iconst rl_L_hasBit_5 (fn_icmp_ne rl_L_hasBit_6 (fun k853 => fn_iconst rl_L_hasBit_9 (fn_goto rl_L_hasBit_10 (fn_retci rl_L_hasBit_14 rfl (fn_if_eq_f rl_L_loose_81 (by decide +kernel) (fn_iinc (ls' := [.ref 1, .int v1, .int v2, .int v3, .int (v4 + 1), .int v5, .int v6]) rl_L_loose_84 rfl rfl rfl (fn_iload rl_L_loose_87 rfl (fn_bipush rl_L_loose_89 (fn_icmp_ne rl_L_loose_91 (fun k851 => fn_iload rl_L_loose_94 rfl (fn_goto rl_L_loose_96 (fn_istore (ls' := [.ref 1, .int v1, .int v2, .int v3, .int (v4 + 1), .int v6, .int v6]) rl_L_loose_101 rfl rfl (fn_iinc (ls' := [.ref 1, .int v1, .int v2, .int v3, .int (v4 + 1), .int v6, .int (v6 + 1)]) rl_L_loose_103 rfl rfl rfl (fn_goto rl_L_loose_106 (k851)))))) (fun k852 => fn_iload rl_L_loose_99 rfl (fn_istore (ls' := [.ref 1, .int v1, .int v2, .int v3, .int (v4 + 1), .int v5, .int v6]) rl_L_loose_101 rfl rfl (fn_iinc (ls' := [.ref 1, .int v1, .int v2, .int v3, .int (v4 + 1), .int v5, .int (v6 + 1)]) rl_L_loose_103 rfl rfl rfl (fn_goto rl_L_loose_106 (k852))))) k853)))))))) (fun k854 => fn_iconst rl_L_hasBit_13 (fn_retci rl_L_hasBit_14 rfl (fn_if_eq_t rl_L_loose_81 (by decide +kernel) (fn_iinc (ls' := [.ref 1, .int v1, .int v2, .int v3, .int v4, .int v5, .int (v6 + 1)]) rl_L_loose_103 rfl rfl rfl (fn_goto rl_L_loose_106 (k854)))))) k0)))))))))
set_option maxRecDepth 100000 in
set_option maxHeartbeats 4000000 in
theorem sg_L_nearest_0 {L : Nat} {xs : Nat → Int32} {A V : Nat → Nat → Int32} {K : Nat → Option Nat} {T : am_H} {v : Option Int32} {h' : am_H} {a1 a2 : Int32} (k0 :
    if a1 < 0 then (
      v = some (-1) ∧ h' = hp L xs A V K T)
    else (
      if 2 < a1 then (
        v = some (-1) ∧ h' = hp L xs A V K T)
      else (
        if a2 < 0 then (
          v = some (-1) ∧ h' = hp L xs A V K T)
        else (
          if 1 < a2 then (
            v = some (-1) ∧ h' = hp L xs A V K T)
          else (
            am_fin [(z_J_weigh, 0, [.ref 26, .ref 3], []), (z_L_nearest, 32, [.ref 1, .int a1, .int a2, .null, .null, .null, .null], [])] (hp L xs A V K T) v h'))))) : am_fin [(z_L_nearest, 0, [.ref 1, .int a1, .int a2, .null, .null, .null, .null], [])] (hp L xs A V K T) v h' :=
  fn_iload_n rl_L_nearest_0 rfl (fn_stat (as := [.int a1]) (r := []) (ls' := [.int a1]) rl_L_nearest_1 rfl rfl rfl rfl pl_L_isYear rfl rfl (fn_iload_n rl_L_isYear_0 rfl (fn_iconst rl_L_isYear_1 (fn_iconst rl_L_isYear_2 (fn_stat (as := [.int a1, .int 0, .int 2]) (r := []) (ls' := [.int a1, .int 0, .int 2]) rl_L_isYear_3 rfl rfl rfl rfl pl_L_isAmong rfl rfl (fn_iload_n rl_L_isAmong_0 rfl (fn_iload_n rl_L_isAmong_1 rfl (fn_icmp_lt rl_L_isAmong_2 (fun k861 => fn_iconst rl_L_isAmong_14 (fn_retci rl_L_isAmong_15 rfl (fn_retci rl_L_isYear_6 rfl (fn_if_eq_t rl_L_nearest_4 (by decide +kernel) (fn_iconst rl_L_nearest_16 (fn_reti rl_L_nearest_17 rfl k861)))))) (fun k862 => fn_iload_n rl_L_isAmong_5 rfl (fn_iload_n rl_L_isAmong_6 rfl (fn_icmp_gt rl_L_isAmong_7 (fun k859 => fn_iconst rl_L_isAmong_14 (fn_retci rl_L_isAmong_15 rfl (fn_retci rl_L_isYear_6 rfl (fn_if_eq_t rl_L_nearest_4 (by decide +kernel) (fn_iconst rl_L_nearest_16 (fn_reti rl_L_nearest_17 rfl k859)))))) (fun k860 => fn_iconst rl_L_isAmong_10 (fn_goto rl_L_isAmong_11 (fn_retci rl_L_isAmong_15 rfl (fn_retci rl_L_isYear_6 rfl (fn_if_eq_f rl_L_nearest_4 (by decide +kernel) (fn_iload_n rl_L_nearest_7 rfl (fn_iconst rl_L_nearest_8 (fn_iconst rl_L_nearest_9 (fn_stat (as := [.int a2, .int 0, .int 1]) (r := []) (ls' := [.int a2, .int 0, .int 1]) rl_L_nearest_10 rfl rfl rfl rfl pl_L_isAmong rfl rfl (fn_iload_n rl_L_isAmong_0 rfl (fn_iload_n rl_L_isAmong_1 rfl (fn_icmp_lt rl_L_isAmong_2 (fun k857 => fn_iconst rl_L_isAmong_14 (fn_retci rl_L_isAmong_15 rfl (fn_if_ne_t rl_L_nearest_13 (by decide +kernel) (fn_iconst rl_L_nearest_16 (fn_reti rl_L_nearest_17 rfl k857))))) (fun k858 => fn_iload_n rl_L_isAmong_5 rfl (fn_iload_n rl_L_isAmong_6 rfl (fn_icmp_gt rl_L_isAmong_7 (fun k855 => fn_iconst rl_L_isAmong_14 (fn_retci rl_L_isAmong_15 rfl (fn_if_ne_t rl_L_nearest_13 (by decide +kernel) (fn_iconst rl_L_nearest_16 (fn_reti rl_L_nearest_17 rfl k855))))) (fun k856 => fn_iconst rl_L_isAmong_10 (fn_goto rl_L_isAmong_11 (fn_retci rl_L_isAmong_15 rfl (fn_if_ne_f rl_L_nearest_13 (by decide +kernel) (fn_aload_n rl_L_nearest_18 rfl (fn_get rl_L_nearest_19 hp_1 rfl (fn_aload_n rl_L_nearest_22 rfl (fn_get rl_L_nearest_23 hp_1 rfl (fn_get rl_L_nearest_26 hp_2 rfl (fn_virt (as := [.ref 26, .ref 3]) (r := []) (ls' := [.ref 26, .ref 3]) rl_L_nearest_29 rfl hp_26 rfl rfl pl_J_weigh rfl rfl (k856))))))))))) k858))) k860)))))))))))) k862))) k0))))))))
set_option maxRecDepth 100000 in
set_option maxHeartbeats 4000000 in
theorem sg_L_nearest_32r {L : Nat} {xs : Nat → Int32} {A V : Nat → Nat → Int32} {K : Nat → Option Nat} {T : am_H} {v : Option Int32} {h' : am_H} {v1 v2 : Int32} (k0 :
    am_fin [(z_L_nearest, 42, [.ref 1, .int v1, .int v2, .int (-2), .int (-2), .int 0, .null], [])] (hp L xs A V K T) v h') : am_fin [(z_L_nearest, 32, [.ref 1, .int v1, .int v2, .null, .null, .null, .null], [])] (hp L xs A V K T) v h' :=
  fn_bipush rl_L_nearest_32 (fn_istore_n (ls' := [.ref 1, .int v1, .int v2, .int (-2), .null, .null, .null]) rl_L_nearest_34 rfl rfl (fn_bipush rl_L_nearest_35 (fn_istore (ls' := [.ref 1, .int v1, .int v2, .int (-2), .int (-2), .null, .null]) rl_L_nearest_37 rfl rfl (fn_iconst rl_L_nearest_39 (fn_istore (ls' := [.ref 1, .int v1, .int v2, .int (-2), .int (-2), .int 0, .null]) rl_L_nearest_40 rfl rfl (k0))))))
set_option maxRecDepth 100000 in
set_option maxHeartbeats 4000000 in
theorem sg_L_nearest_42 {L : Nat} {xs : Nat → Int32} {A V : Nat → Nat → Int32} {K : Nat → Option Nat} {T : am_H} {v : Option Int32} {h' : am_H} {v1 v2 v3 v4 v5 : Int32} (k0 :
    if 6 ≤ v5 then (
      if v2 = 0 then (
        v = some v3 ∧ h' = hp L xs A V K T)
      else (
        v = some v4 ∧ h' = hp L xs A V K T))
    else (
      am_fin [(z_J_needOf, 0, [.ref 26, .int v5, .int v1, .null, .null, .null, .null], []), (z_L_nearest, 59, [.ref 1, .int v1, .int v2, .int v3, .int v4, .int v5, .null], [])] (hp L xs A V K T) v h')) : am_fin [(z_L_nearest, 42, [.ref 1, .int v1, .int v2, .int v3, .int v4, .int v5, .null], [])] (hp L xs A V K T) v h' :=
  fn_iload rl_L_nearest_42 rfl (fn_bipush rl_L_nearest_44 (fn_icmp_ge rl_L_nearest_46 (fun k865 => fn_iload_n rl_L_nearest_92 rfl (fn_if_ne rl_L_nearest_93 (fun k863 => fn_iload_n rl_L_nearest_96 rfl (fn_goto rl_L_nearest_97 (fn_reti rl_L_nearest_102 rfl k863))) (fun k864 => fn_iload rl_L_nearest_100 rfl (fn_reti rl_L_nearest_102 rfl k864)) k865)) (fun k866 => fn_aload_n rl_L_nearest_49 rfl (fn_get rl_L_nearest_50 hp_1 rfl (fn_iload rl_L_nearest_53 rfl (fn_iload_n rl_L_nearest_55 rfl (fn_virt (as := [.ref 26, .int v5, .int v1]) (r := []) (ls' := [.ref 26, .int v5, .int v1, .null, .null, .null, .null]) rl_L_nearest_56 rfl hp_26 rfl rfl pl_J_needOf rfl rfl (k866)))))) k0))
set_option maxRecDepth 100000 in
set_option maxHeartbeats 4000000 in
theorem sg_L_nearest_59r {L : Nat} {xs : Nat → Int32} {A V : Nat → Nat → Int32} {K : Nat → Option Nat} {T : am_H} {v : Option Int32} {h' : am_H} {v1 v2 v3 v4 v5 r : Int32} (k0 :
    if r ≤ 0 then (
      am_fin [(z_L_nearest, 42, [.ref 1, .int v1, .int v2, .int v3, .int v4, .int (v5 + 1), .int r], [])] (hp L xs A V K T) v h')
    else (
      if v3 = (-2) then (
        am_fin [(z_L_nearest, 42, [.ref 1, .int v1, .int v2, .int v5, .int r, .int (v5 + 1), .int r], [])] (hp L xs A V K T) v h')
      else (
        if v4 ≤ r then (
          am_fin [(z_L_nearest, 42, [.ref 1, .int v1, .int v2, .int v3, .int v4, .int (v5 + 1), .int r], [])] (hp L xs A V K T) v h')
        else (
          am_fin [(z_L_nearest, 42, [.ref 1, .int v1, .int v2, .int v5, .int r, .int (v5 + 1), .int r], [])] (hp L xs A V K T) v h')))) : am_fin [(z_L_nearest, 59, [.ref 1, .int v1, .int v2, .int v3, .int v4, .int v5, .null], [.int r])] (hp L xs A V K T) v h' :=
  fn_istore (ls' := [.ref 1, .int v1, .int v2, .int v3, .int v4, .int v5, .int r]) rl_L_nearest_59 rfl rfl (fn_iload rl_L_nearest_61 rfl (fn_if_le rl_L_nearest_63 (fun k871 => fn_iinc (ls' := [.ref 1, .int v1, .int v2, .int v3, .int v4, .int (v5 + 1), .int r]) rl_L_nearest_86 rfl rfl rfl (fn_goto rl_L_nearest_89 (k871))) (fun k872 => fn_iload_n rl_L_nearest_66 rfl (fn_bipush rl_L_nearest_67 (fn_icmp_eq rl_L_nearest_69 (fun k869 => fn_iload rl_L_nearest_79 rfl (fn_istore_n (ls' := [.ref 1, .int v1, .int v2, .int v5, .int v4, .int v5, .int r]) rl_L_nearest_81 rfl rfl (fn_iload rl_L_nearest_82 rfl (fn_istore (ls' := [.ref 1, .int v1, .int v2, .int v5, .int r, .int v5, .int r]) rl_L_nearest_84 rfl rfl (fn_iinc (ls' := [.ref 1, .int v1, .int v2, .int v5, .int r, .int (v5 + 1), .int r]) rl_L_nearest_86 rfl rfl rfl (fn_goto rl_L_nearest_89 (k869))))))) (fun k870 => fn_iload rl_L_nearest_72 rfl (fn_iload rl_L_nearest_74 rfl (fn_icmp_ge rl_L_nearest_76 (fun k867 => fn_iinc (ls' := [.ref 1, .int v1, .int v2, .int v3, .int v4, .int (v5 + 1), .int r]) rl_L_nearest_86 rfl rfl rfl (fn_goto rl_L_nearest_89 (k867))) (fun k868 => fn_iload rl_L_nearest_79 rfl (fn_istore_n (ls' := [.ref 1, .int v1, .int v2, .int v5, .int v4, .int v5, .int r]) rl_L_nearest_81 rfl rfl (fn_iload rl_L_nearest_82 rfl (fn_istore (ls' := [.ref 1, .int v1, .int v2, .int v5, .int r, .int v5, .int r]) rl_L_nearest_84 rfl rfl (fn_iinc (ls' := [.ref 1, .int v1, .int v2, .int v5, .int r, .int (v5 + 1), .int r]) rl_L_nearest_86 rfl rfl rfl (fn_goto rl_L_nearest_89 (k868))))))) k870))) k872))) k0))
set_option maxRecDepth 100000 in
set_option maxHeartbeats 4000000 in
theorem sg_L_nearest_42b {L : Nat} {xs : Nat → Int32} {A V : Nat → Nat → Int32} {K : Nat → Option Nat} {T : am_H} {v : Option Int32} {h' : am_H} {v1 v2 v3 v4 v5 v6 : Int32} (k0 :
    if 6 ≤ v5 then (
      if v2 = 0 then (
        v = some v3 ∧ h' = hp L xs A V K T)
      else (
        v = some v4 ∧ h' = hp L xs A V K T))
    else (
      am_fin [(z_J_needOf, 0, [.ref 26, .int v5, .int v1, .null, .null, .null, .null], []), (z_L_nearest, 59, [.ref 1, .int v1, .int v2, .int v3, .int v4, .int v5, .int v6], [])] (hp L xs A V K T) v h')) : am_fin [(z_L_nearest, 42, [.ref 1, .int v1, .int v2, .int v3, .int v4, .int v5, .int v6], [])] (hp L xs A V K T) v h' :=
  fn_iload rl_L_nearest_42 rfl (fn_bipush rl_L_nearest_44 (fn_icmp_ge rl_L_nearest_46 (fun k875 => fn_iload_n rl_L_nearest_92 rfl (fn_if_ne rl_L_nearest_93 (fun k873 => fn_iload_n rl_L_nearest_96 rfl (fn_goto rl_L_nearest_97 (fn_reti rl_L_nearest_102 rfl k873))) (fun k874 => fn_iload rl_L_nearest_100 rfl (fn_reti rl_L_nearest_102 rfl k874)) k875)) (fun k876 => fn_aload_n rl_L_nearest_49 rfl (fn_get rl_L_nearest_50 hp_1 rfl (fn_iload rl_L_nearest_53 rfl (fn_iload_n rl_L_nearest_55 rfl (fn_virt (as := [.ref 26, .int v5, .int v1]) (r := []) (ls' := [.ref 26, .int v5, .int v1, .null, .null, .null, .null]) rl_L_nearest_56 rfl hp_26 rfl rfl pl_J_needOf rfl rfl (k876)))))) k0))
set_option maxRecDepth 100000 in
set_option maxHeartbeats 4000000 in
theorem sg_L_nearest_59rb {L : Nat} {xs : Nat → Int32} {A V : Nat → Nat → Int32} {K : Nat → Option Nat} {T : am_H} {v : Option Int32} {h' : am_H} {v1 v2 v3 v4 v5 v6 r : Int32} (k0 :
    if r ≤ 0 then (
      am_fin [(z_L_nearest, 42, [.ref 1, .int v1, .int v2, .int v3, .int v4, .int (v5 + 1), .int r], [])] (hp L xs A V K T) v h')
    else (
      if v3 = (-2) then (
        am_fin [(z_L_nearest, 42, [.ref 1, .int v1, .int v2, .int v5, .int r, .int (v5 + 1), .int r], [])] (hp L xs A V K T) v h')
      else (
        if v4 ≤ r then (
          am_fin [(z_L_nearest, 42, [.ref 1, .int v1, .int v2, .int v3, .int v4, .int (v5 + 1), .int r], [])] (hp L xs A V K T) v h')
        else (
          am_fin [(z_L_nearest, 42, [.ref 1, .int v1, .int v2, .int v5, .int r, .int (v5 + 1), .int r], [])] (hp L xs A V K T) v h')))) : am_fin [(z_L_nearest, 59, [.ref 1, .int v1, .int v2, .int v3, .int v4, .int v5, .int v6], [.int r])] (hp L xs A V K T) v h' :=
  fn_istore (ls' := [.ref 1, .int v1, .int v2, .int v3, .int v4, .int v5, .int r]) rl_L_nearest_59 rfl rfl (fn_iload rl_L_nearest_61 rfl (fn_if_le rl_L_nearest_63 (fun k881 => fn_iinc (ls' := [.ref 1, .int v1, .int v2, .int v3, .int v4, .int (v5 + 1), .int r]) rl_L_nearest_86 rfl rfl rfl (fn_goto rl_L_nearest_89 (k881))) (fun k882 => fn_iload_n rl_L_nearest_66 rfl (fn_bipush rl_L_nearest_67 (fn_icmp_eq rl_L_nearest_69 (fun k879 => fn_iload rl_L_nearest_79 rfl (fn_istore_n (ls' := [.ref 1, .int v1, .int v2, .int v5, .int v4, .int v5, .int r]) rl_L_nearest_81 rfl rfl (fn_iload rl_L_nearest_82 rfl (fn_istore (ls' := [.ref 1, .int v1, .int v2, .int v5, .int r, .int v5, .int r]) rl_L_nearest_84 rfl rfl (fn_iinc (ls' := [.ref 1, .int v1, .int v2, .int v5, .int r, .int (v5 + 1), .int r]) rl_L_nearest_86 rfl rfl rfl (fn_goto rl_L_nearest_89 (k879))))))) (fun k880 => fn_iload rl_L_nearest_72 rfl (fn_iload rl_L_nearest_74 rfl (fn_icmp_ge rl_L_nearest_76 (fun k877 => fn_iinc (ls' := [.ref 1, .int v1, .int v2, .int v3, .int v4, .int (v5 + 1), .int r]) rl_L_nearest_86 rfl rfl rfl (fn_goto rl_L_nearest_89 (k877))) (fun k878 => fn_iload rl_L_nearest_79 rfl (fn_istore_n (ls' := [.ref 1, .int v1, .int v2, .int v5, .int v4, .int v5, .int r]) rl_L_nearest_81 rfl rfl (fn_iload rl_L_nearest_82 rfl (fn_istore (ls' := [.ref 1, .int v1, .int v2, .int v5, .int r, .int v5, .int r]) rl_L_nearest_84 rfl rfl (fn_iinc (ls' := [.ref 1, .int v1, .int v2, .int v5, .int r, .int (v5 + 1), .int r]) rl_L_nearest_86 rfl rfl rfl (fn_goto rl_L_nearest_89 (k878))))))) k880))) k882))) k0))
set_option maxRecDepth 100000 in
set_option maxHeartbeats 4000000 in
theorem sg_L_instead_0 {L : Nat} {xs : Nat → Int32} {A V : Nat → Nat → Int32} {K : Nat → Option Nat} {T : am_H} {v : Option Int32} {h' : am_H} {a1 a2 a3 a4 a5 : Int32} (k0 :
    if a1 < 0 then (
      v = some (-1) ∧ h' = hp L xs A V K T)
    else (
      if 5 < a1 then (
        v = some (-1) ∧ h' = hp L xs A V K T)
      else (
        if a2 < (-1) then (
          v = some (-1) ∧ h' = hp L xs A V K T)
        else (
          if 5 < a2 then (
            v = some (-1) ∧ h' = hp L xs A V K T)
          else (
            if a1 = a2 then (
              v = some (-1) ∧ h' = hp L xs A V K T)
            else (
              if a3 < 0 then (
                v = some (-1) ∧ h' = hp L xs A V K T)
              else (
                if 1079 < a3 then (
                  v = some (-1) ∧ h' = hp L xs A V K T)
                else (
                  if a4 < 0 then (
                    v = some (-1) ∧ h' = hp L xs A V K T)
                  else (
                    if 1079 < a4 then (
                      v = some (-1) ∧ h' = hp L xs A V K T)
                    else (
                      if a4 < a3 then (
                        v = some (-1) ∧ h' = hp L xs A V K T)
                      else (
                        if a5 < 0 then (
                          v = some (-1) ∧ h' = hp L xs A V K T)
                        else (
                          if 4 < a5 then (
                            v = some (-1) ∧ h' = hp L xs A V K T)
                          else (
                            am_fin [(z_L_instead, 55, [.ref 1, .int a1, .int a2, .int a3, .int a4, .int a5, .int a3], [])] (hp L xs (upA A 35 (va_cpy (A 4) (A 35) (0 : Int32).toNatClampNeg (0 : Int32).toNatClampNeg (1080 : Int32).toNatClampNeg)) V K T) v h'))))))))))))) : am_fin [(z_L_instead, 0, [.ref 1, .int a1, .int a2, .int a3, .int a4, .int a5, .null], [])] (hp L xs A V K T) v h' :=
  fn_iload_n rl_L_instead_0 rfl (fn_stat (as := [.int a1]) (r := []) (ls' := [.int a1]) rl_L_instead_1 rfl rfl rfl rfl pl_L_isLand rfl rfl (fn_iload_n rl_L_isLand_0 rfl (fn_iconst rl_L_isLand_1 (fn_iconst rl_L_isLand_2 (fn_stat (as := [.int a1, .int 0, .int 5]) (r := []) (ls' := [.int a1, .int 0, .int 5]) rl_L_isLand_3 rfl rfl rfl rfl pl_L_isAmong rfl rfl (fn_iload_n rl_L_isAmong_0 rfl (fn_iload_n rl_L_isAmong_1 rfl (fn_icmp_lt rl_L_isAmong_2 (fun k906 => fn_iconst rl_L_isAmong_14 (fn_retci rl_L_isAmong_15 rfl (fn_retci rl_L_isLand_6 rfl (fn_if_eq_t rl_L_instead_4 (by decide +kernel) (fn_iconst rl_L_instead_36 (fn_reti rl_L_instead_37 rfl k906)))))) (fun k907 => fn_iload_n rl_L_isAmong_5 rfl (fn_iload_n rl_L_isAmong_6 rfl (fn_icmp_gt rl_L_isAmong_7 (fun k904 => fn_iconst rl_L_isAmong_14 (fn_retci rl_L_isAmong_15 rfl (fn_retci rl_L_isLand_6 rfl (fn_if_eq_t rl_L_instead_4 (by decide +kernel) (fn_iconst rl_L_instead_36 (fn_reti rl_L_instead_37 rfl k904)))))) (fun k905 => fn_iconst rl_L_isAmong_10 (fn_goto rl_L_isAmong_11 (fn_retci rl_L_isAmong_15 rfl (fn_retci rl_L_isLand_6 rfl (fn_if_eq_f rl_L_instead_4 (by decide +kernel) (fn_iload_n rl_L_instead_7 rfl (fn_stat (as := [.int a2]) (r := []) (ls' := [.int a2]) rl_L_instead_8 rfl rfl rfl rfl pl_L_isPlace rfl rfl (fn_iload_n rl_L_isPlace_0 rfl (fn_iconst rl_L_isPlace_1 (fn_iconst rl_L_isPlace_2 (fn_stat (as := [.int a2, .int (-1), .int 5]) (r := []) (ls' := [.int a2, .int (-1), .int 5]) rl_L_isPlace_3 rfl rfl rfl rfl pl_L_isAmong rfl rfl (fn_iload_n rl_L_isAmong_0 rfl (fn_iload_n rl_L_isAmong_1 rfl (fn_icmp_lt rl_L_isAmong_2 (fun k902 => fn_iconst rl_L_isAmong_14 (fn_retci rl_L_isAmong_15 rfl (fn_retci rl_L_isPlace_6 rfl (fn_if_eq_t rl_L_instead_11 (by decide +kernel) (fn_iconst rl_L_instead_36 (fn_reti rl_L_instead_37 rfl k902)))))) (fun k903 => fn_iload_n rl_L_isAmong_5 rfl (fn_iload_n rl_L_isAmong_6 rfl (fn_icmp_gt rl_L_isAmong_7 (fun k900 => fn_iconst rl_L_isAmong_14 (fn_retci rl_L_isAmong_15 rfl (fn_retci rl_L_isPlace_6 rfl (fn_if_eq_t rl_L_instead_11 (by decide +kernel) (fn_iconst rl_L_instead_36 (fn_reti rl_L_instead_37 rfl k900)))))) (fun k901 => fn_iconst rl_L_isAmong_10 (fn_goto rl_L_isAmong_11 (fn_retci rl_L_isAmong_15 rfl (fn_retci rl_L_isPlace_6 rfl (fn_if_eq_f rl_L_instead_11 (by decide +kernel) (fn_iload_n rl_L_instead_14 rfl (fn_iload_n rl_L_instead_15 rfl (fn_icmp_eq rl_L_instead_16 (fun k898 => fn_iconst rl_L_instead_36 (fn_reti rl_L_instead_37 rfl k898)) (fun k899 => fn_iload_n rl_L_instead_19 rfl (fn_iload rl_L_instead_20 rfl (fn_stat (as := [.int a3, .int a4]) (r := []) (ls' := [.int a3, .int a4]) rl_L_instead_22 rfl rfl rfl rfl pl_L_isSpan rfl rfl (fn_iload_n rl_L_isSpan_0 rfl (fn_stat (as := [.int a3]) (r := []) (ls' := [.int a3]) rl_L_isSpan_1 rfl rfl rfl rfl pl_L_isDay rfl rfl (fn_iload_n rl_L_isDay_0 rfl (fn_iconst rl_L_isDay_1 (fn_sipush rl_L_isDay_2 (fn_stat (as := [.int a3, .int 0, .int 1079]) (r := []) (ls' := [.int a3, .int 0, .int 1079]) rl_L_isDay_5 rfl rfl rfl rfl pl_L_isAmong rfl rfl (fn_iload_n rl_L_isAmong_0 rfl (fn_iload_n rl_L_isAmong_1 rfl (fn_icmp_lt rl_L_isAmong_2 (fun k896 => fn_iconst rl_L_isAmong_14 (fn_retci rl_L_isAmong_15 rfl (fn_retci rl_L_isDay_8 rfl (fn_if_eq_t rl_L_isSpan_4 (by decide +kernel) (fn_iconst rl_L_isSpan_23 (fn_retci rl_L_isSpan_24 rfl (fn_if_eq_t rl_L_instead_25 (by decide +kernel) (fn_iconst rl_L_instead_36 (fn_reti rl_L_instead_37 rfl k896))))))))) (fun k897 => fn_iload_n rl_L_isAmong_5 rfl (fn_iload_n rl_L_isAmong_6 rfl (fn_icmp_gt rl_L_isAmong_7 (fun k894 => fn_iconst rl_L_isAmong_14 (fn_retci rl_L_isAmong_15 rfl (fn_retci rl_L_isDay_8 rfl (fn_if_eq_t rl_L_isSpan_4 (by decide +kernel) (fn_iconst rl_L_isSpan_23 (fn_retci rl_L_isSpan_24 rfl (fn_if_eq_t rl_L_instead_25 (by decide +kernel) (fn_iconst rl_L_instead_36 (fn_reti rl_L_instead_37 rfl k894))))))))) (fun k895 => fn_iconst rl_L_isAmong_10 (fn_goto rl_L_isAmong_11 (fn_retci rl_L_isAmong_15 rfl (fn_retci rl_L_isDay_8 rfl (fn_if_eq_f rl_L_isSpan_4 (by decide +kernel) (fn_iload_n rl_L_isSpan_7 rfl (fn_stat (as := [.int a4]) (r := []) (ls' := [.int a4]) rl_L_isSpan_8 rfl rfl rfl rfl pl_L_isDay rfl rfl (fn_iload_n rl_L_isDay_0 rfl (fn_iconst rl_L_isDay_1 (fn_sipush rl_L_isDay_2 (fn_stat (as := [.int a4, .int 0, .int 1079]) (r := []) (ls' := [.int a4, .int 0, .int 1079]) rl_L_isDay_5 rfl rfl rfl rfl pl_L_isAmong rfl rfl (fn_iload_n rl_L_isAmong_0 rfl (fn_iload_n rl_L_isAmong_1 rfl (fn_icmp_lt rl_L_isAmong_2 (fun k892 => fn_iconst rl_L_isAmong_14 (fn_retci rl_L_isAmong_15 rfl (fn_retci rl_L_isDay_8 rfl (fn_if_eq_t rl_L_isSpan_11 (by decide +kernel) (fn_iconst rl_L_isSpan_23 (fn_retci rl_L_isSpan_24 rfl (fn_if_eq_t rl_L_instead_25 (by decide +kernel) (fn_iconst rl_L_instead_36 (fn_reti rl_L_instead_37 rfl k892))))))))) (fun k893 => fn_iload_n rl_L_isAmong_5 rfl (fn_iload_n rl_L_isAmong_6 rfl (fn_icmp_gt rl_L_isAmong_7 (fun k890 => fn_iconst rl_L_isAmong_14 (fn_retci rl_L_isAmong_15 rfl (fn_retci rl_L_isDay_8 rfl (fn_if_eq_t rl_L_isSpan_11 (by decide +kernel) (fn_iconst rl_L_isSpan_23 (fn_retci rl_L_isSpan_24 rfl (fn_if_eq_t rl_L_instead_25 (by decide +kernel) (fn_iconst rl_L_instead_36 (fn_reti rl_L_instead_37 rfl k890))))))))) (fun k891 => fn_iconst rl_L_isAmong_10 (fn_goto rl_L_isAmong_11 (fn_retci rl_L_isAmong_15 rfl (fn_retci rl_L_isDay_8 rfl (fn_if_eq_f rl_L_isSpan_11 (by decide +kernel) (fn_iload_n rl_L_isSpan_14 rfl (fn_iload_n rl_L_isSpan_15 rfl (fn_icmp_gt rl_L_isSpan_16 (fun k888 => fn_iconst rl_L_isSpan_23 (fn_retci rl_L_isSpan_24 rfl (fn_if_eq_t rl_L_instead_25 (by decide +kernel) (fn_iconst rl_L_instead_36 (fn_reti rl_L_instead_37 rfl k888))))) (fun k889 => fn_iconst rl_L_isSpan_19 (fn_goto rl_L_isSpan_20 (fn_retci rl_L_isSpan_24 rfl (fn_if_eq_f rl_L_instead_25 (by decide +kernel) (fn_iload rl_L_instead_28 rfl (fn_stat (as := [.int a5]) (r := []) (ls' := [.int a5]) rl_L_instead_30 rfl rfl rfl rfl pl_L_isOutcome rfl rfl (fn_iload_n rl_L_isOutcome_0 rfl (fn_iconst rl_L_isOutcome_1 (fn_iconst rl_L_isOutcome_2 (fn_stat (as := [.int a5, .int 0, .int 4]) (r := []) (ls' := [.int a5, .int 0, .int 4]) rl_L_isOutcome_3 rfl rfl rfl rfl pl_L_isAmong rfl rfl (fn_iload_n rl_L_isAmong_0 rfl (fn_iload_n rl_L_isAmong_1 rfl (fn_icmp_lt rl_L_isAmong_2 (fun k886 => fn_iconst rl_L_isAmong_14 (fn_retci rl_L_isAmong_15 rfl (fn_retci rl_L_isOutcome_6 rfl (fn_if_ne_t rl_L_instead_33 (by decide +kernel) (fn_iconst rl_L_instead_36 (fn_reti rl_L_instead_37 rfl k886)))))) (fun k887 => fn_iload_n rl_L_isAmong_5 rfl (fn_iload_n rl_L_isAmong_6 rfl (fn_icmp_gt rl_L_isAmong_7 (fun k884 => fn_iconst rl_L_isAmong_14 (fn_retci rl_L_isAmong_15 rfl (fn_retci rl_L_isOutcome_6 rfl (fn_if_ne_t rl_L_instead_33 (by decide +kernel) (fn_iconst rl_L_instead_36 (fn_reti rl_L_instead_37 rfl k884)))))) (fun k885 => fn_iconst rl_L_isAmong_10 (fn_goto rl_L_isAmong_11 (fn_retci rl_L_isAmong_15 rfl (fn_retci rl_L_isOutcome_6 rfl (fn_if_ne_f rl_L_instead_33 (by decide +kernel) (fn_aload_n rl_L_instead_38 rfl (fn_get rl_L_instead_39 hp_1 rfl (fn_aload_n rl_L_instead_42 rfl (fn_get rl_L_instead_43 hp_1 rfl (fn_get rl_L_instead_46 hp_2 rfl (fn_virt (as := [.ref 34, .ref 3]) (r := []) (ls' := [.ref 34, .ref 3]) rl_L_instead_49 rfl hp_34 rfl rfl pl_P_copyFrom rfl rfl (fn_aload_n rl_P_copyFrom_0 rfl (fn_get rl_P_copyFrom_1 hp_3 rfl (fn_iconst rl_P_copyFrom_4 (fn_aload_n rl_P_copyFrom_5 rfl (fn_get rl_P_copyFrom_6 hp_34 rfl (fn_iconst rl_P_copyFrom_9 (fn_sipush rl_P_copyFrom_10 (fn_copy rl_P_copyFrom_13 rfl hp_4 hp_35 hps_35 (fun k883 => fn_retcv rl_P_copyFrom_16 (fn_iload_n rl_L_instead_52 rfl (fn_istore (ls' := [.ref 1, .int a1, .int a2, .int a3, .int a4, .int a5, .int a3]) rl_L_instead_53 rfl rfl (k883)))) ⟨by decide +kernel, k885⟩))))))))))))))))))) k887))) k889))))))))))))) k891)))))))) k893))) k895)))))))))))))) k897))) k899)))))))))))) k901)))))))) k903))) k905)))))))))))))) k907))) k0))))))))
set_option maxRecDepth 100000 in
set_option maxHeartbeats 4000000 in
theorem sg_L_instead_55 {L : Nat} {xs : Nat → Int32} {A V : Nat → Nat → Int32} {K : Nat → Option Nat} {T : am_H} {v : Option Int32} {h' : am_H} {v1 v2 v3 v4 v5 v6 : Int32} (k0 :
    if v4 < v6 then (
      am_fin [(z_L_outcome, 0, [.ref 1, .int v5], []), (z_L_instead, 99, [.ref 1, .int v1, .int v2, .int v3, .int v4, .int v5, .int v6], [])] (hp L xs A V K T) v h')
    else (
      ¬ (v6 < 0 ∨ 1080 ≤ v6.toNatClampNeg) ∧ (
      if ((A 35) v6.toNatClampNeg) = v1 then (
        ¬ (v6 < 0 ∨ 1080 ≤ v6.toNatClampNeg) ∧ (
        am_fin [(z_L_instead, 55, [.ref 1, .int v1, .int v2, .int v3, .int v4, .int v5, .int (v6 + 1)], [])] (hp L xs (upA A 35 (upd (A 35) v6.toNatClampNeg v2)) V K T) v h'))
      else (
        am_fin [(z_L_instead, 55, [.ref 1, .int v1, .int v2, .int v3, .int v4, .int v5, .int (v6 + 1)], [])] (hp L xs A V K T) v h')))) : am_fin [(z_L_instead, 55, [.ref 1, .int v1, .int v2, .int v3, .int v4, .int v5, .int v6], [])] (hp L xs A V K T) v h' :=
  fn_iload rl_L_instead_55 rfl (fn_iload rl_L_instead_57 rfl (fn_icmp_gt rl_L_instead_59 (fun k912 => fn_aload_n rl_L_instead_93 rfl (fn_iload rl_L_instead_94 rfl (fn_virt (as := [.ref 1, .int v5]) (r := []) (ls' := [.ref 1, .int v5]) rl_L_instead_96 rfl hp_1 rfl rfl pl_L_outcome rfl rfl (k912)))) (fun k913 => fn_aload_n rl_L_instead_62 rfl (fn_get rl_L_instead_63 hp_1 rfl (fn_get rl_L_instead_66 hp_34 rfl (fn_iload rl_L_instead_69 rfl (fn_iald rl_L_instead_71 hp_35 (fun k911 => fn_iload_n rl_L_instead_72 rfl (fn_icmp_ne rl_L_instead_73 (fun k909 => fn_aload_n rl_L_instead_76 rfl (fn_get rl_L_instead_77 hp_1 rfl (fn_get rl_L_instead_80 hp_34 rfl (fn_iload rl_L_instead_83 rfl (fn_iload_n rl_L_instead_85 rfl (fn_iast rl_L_instead_86 hp_35 hps_35 (fun k908 => fn_iinc (ls' := [.ref 1, .int v1, .int v2, .int v3, .int v4, .int v5, .int (v6 + 1)]) rl_L_instead_87 rfl rfl rfl (fn_goto rl_L_instead_90 (k908))) k909)))))) (fun k910 => fn_iinc (ls' := [.ref 1, .int v1, .int v2, .int v3, .int v4, .int v5, .int (v6 + 1)]) rl_L_instead_87 rfl rfl rfl (fn_goto rl_L_instead_90 (k910))) k911)) k913))))) k0))
set_option maxRecDepth 100000 in
set_option maxHeartbeats 4000000 in
theorem sg_L_instead_99r {L : Nat} {xs : Nat → Int32} {A V : Nat → Nat → Int32} {K : Nat → Option Nat} {T : am_H} {v : Option Int32} {h' : am_H} {v1 v2 v3 v4 v5 v6 r : Int32} (k0 :
    v = some r ∧ h' = hp L xs A V K T) : am_fin [(z_L_instead, 99, [.ref 1, .int v1, .int v2, .int v3, .int v4, .int v5, .int v6], [.int r])] (hp L xs A V K T) v h' :=
  fn_reti rl_L_instead_99 rfl k0
set_option maxRecDepth 100000 in
set_option maxHeartbeats 4000000 in
theorem sg_L_trip_0 {L : Nat} {xs : Nat → Int32} {A V : Nat → Nat → Int32} {K : Nat → Option Nat} {T : am_H} {v : Option Int32} {h' : am_H} {a1 a2 : Int32} (k0 :
    if a1 < 1 then (
      v = some (-1) ∧ h' = hp L xs A V K T)
    else (
      if 160 < a1 then (
        v = some (-1) ∧ h' = hp L xs A V K T)
      else (
        if (V 19 1) < a1 then (
          v = some (-1) ∧ h' = hp L xs A V K T)
        else (
          if a2 < 0 then (
            v = some (-1) ∧ h' = hp L xs A V K T)
          else (
            if 4 < a2 then (
              v = some (-1) ∧ h' = hp L xs A V K T)
            else (
              am_fin [(z_D_readText, 0, [.ref 21, .int a1, .null, .null], []), (z_L_trip, 25, [.ref 1, .int a1, .int a2, .null], [])] (hp L xs A V K T) v h')))))) : am_fin [(z_L_trip, 0, [.ref 1, .int a1, .int a2, .null], [])] (hp L xs A V K T) v h' :=
  fn_aload_n rl_L_trip_0 rfl (fn_iload_n rl_L_trip_1 rfl (fn_virt (as := [.ref 1, .int a1]) (r := []) (ls' := [.ref 1, .int a1]) rl_L_trip_2 rfl hp_1 rfl rfl pl_L_isText rfl rfl (fn_iload_n rl_L_isText_0 rfl (fn_iconst rl_L_isText_1 (fn_sipush rl_L_isText_2 (fn_stat (as := [.int a1, .int 1, .int 160]) (r := []) (ls' := [.int a1, .int 1, .int 160]) rl_L_isText_5 rfl rfl rfl rfl pl_L_isAmong rfl rfl (fn_iload_n rl_L_isAmong_0 rfl (fn_iload_n rl_L_isAmong_1 rfl (fn_icmp_lt rl_L_isAmong_2 (fun k922 => fn_iconst rl_L_isAmong_14 (fn_retci rl_L_isAmong_15 rfl (fn_if_eq_t rl_L_isText_8 (by decide +kernel) (fn_iconst rl_L_isText_26 (fn_retci rl_L_isText_27 rfl (fn_if_eq_t rl_L_trip_5 (by decide +kernel) (fn_iconst rl_L_trip_15 (fn_reti rl_L_trip_16 rfl k922)))))))) (fun k923 => fn_iload_n rl_L_isAmong_5 rfl (fn_iload_n rl_L_isAmong_6 rfl (fn_icmp_gt rl_L_isAmong_7 (fun k920 => fn_iconst rl_L_isAmong_14 (fn_retci rl_L_isAmong_15 rfl (fn_if_eq_t rl_L_isText_8 (by decide +kernel) (fn_iconst rl_L_isText_26 (fn_retci rl_L_isText_27 rfl (fn_if_eq_t rl_L_trip_5 (by decide +kernel) (fn_iconst rl_L_trip_15 (fn_reti rl_L_trip_16 rfl k920)))))))) (fun k921 => fn_iconst rl_L_isAmong_10 (fn_goto rl_L_isAmong_11 (fn_retci rl_L_isAmong_15 rfl (fn_if_eq_f rl_L_isText_8 (by decide +kernel) (fn_iload_n rl_L_isText_11 rfl (fn_aload_n rl_L_isText_12 rfl (fn_get rl_L_isText_13 hp_1 rfl (fn_get rl_L_isText_16 hp_19 rfl (fn_icmp_gt rl_L_isText_19 (fun k918 => fn_iconst rl_L_isText_26 (fn_retci rl_L_isText_27 rfl (fn_if_eq_t rl_L_trip_5 (by decide +kernel) (fn_iconst rl_L_trip_15 (fn_reti rl_L_trip_16 rfl k918))))) (fun k919 => fn_iconst rl_L_isText_22 (fn_goto rl_L_isText_23 (fn_retci rl_L_isText_27 rfl (fn_if_eq_f rl_L_trip_5 (by decide +kernel) (fn_iload_n rl_L_trip_8 rfl (fn_stat (as := [.int a2]) (r := []) (ls' := [.int a2]) rl_L_trip_9 rfl rfl rfl rfl pl_L_isOutcome rfl rfl (fn_iload_n rl_L_isOutcome_0 rfl (fn_iconst rl_L_isOutcome_1 (fn_iconst rl_L_isOutcome_2 (fn_stat (as := [.int a2, .int 0, .int 4]) (r := []) (ls' := [.int a2, .int 0, .int 4]) rl_L_isOutcome_3 rfl rfl rfl rfl pl_L_isAmong rfl rfl (fn_iload_n rl_L_isAmong_0 rfl (fn_iload_n rl_L_isAmong_1 rfl (fn_icmp_lt rl_L_isAmong_2 (fun k916 => fn_iconst rl_L_isAmong_14 (fn_retci rl_L_isAmong_15 rfl (fn_retci rl_L_isOutcome_6 rfl (fn_if_ne_t rl_L_trip_12 (by decide +kernel) (fn_iconst rl_L_trip_15 (fn_reti rl_L_trip_16 rfl k916)))))) (fun k917 => fn_iload_n rl_L_isAmong_5 rfl (fn_iload_n rl_L_isAmong_6 rfl (fn_icmp_gt rl_L_isAmong_7 (fun k914 => fn_iconst rl_L_isAmong_14 (fn_retci rl_L_isAmong_15 rfl (fn_retci rl_L_isOutcome_6 rfl (fn_if_ne_t rl_L_trip_12 (by decide +kernel) (fn_iconst rl_L_trip_15 (fn_reti rl_L_trip_16 rfl k914)))))) (fun k915 => fn_iconst rl_L_isAmong_10 (fn_goto rl_L_isAmong_11 (fn_retci rl_L_isAmong_15 rfl (fn_retci rl_L_isOutcome_6 rfl (fn_if_ne_f rl_L_trip_12 (by decide +kernel) (fn_aload_n rl_L_trip_17 rfl (fn_get rl_L_trip_18 hp_1 rfl (fn_iload_n rl_L_trip_21 rfl (fn_virt (as := [.ref 21, .int a1]) (r := []) (ls' := [.ref 21, .int a1, .null, .null]) rl_L_trip_22 rfl hp_21 rfl rfl pl_D_readText rfl rfl (k915)))))))))) k917))) k919))))))))))))) k921))))))))) k923))) k0)))))))))
set_option maxRecDepth 100000 in
set_option maxHeartbeats 4000000 in
theorem sg_L_trip_25r {L : Nat} {xs : Nat → Int32} {A V : Nat → Nat → Int32} {K : Nat → Option Nat} {T : am_H} {v : Option Int32} {h' : am_H} {v1 v2 r : Int32} (k0 :
    if 0 ≤ r then (
      am_fin [(z_D_layOver, 0, [.ref 21, .ref 34, .null], []), (z_L_trip, 65, [.ref 1, .int v1, .int v2, .int r], [])] (hp L xs (upA A 35 (va_cpy (A 4) (A 35) (0 : Int32).toNatClampNeg (0 : Int32).toNatClampNeg (1080 : Int32).toNatClampNeg)) (upV V 19 1 0) K T) v h')
    else (
      v = some r ∧ h' = hp L xs A (upV V 19 1 0) K T)) : am_fin [(z_L_trip, 25, [.ref 1, .int v1, .int v2, .null], [.int r])] (hp L xs A V K T) v h' :=
  fn_istore_n (ls' := [.ref 1, .int v1, .int v2, .int r]) rl_L_trip_25 rfl rfl (fn_aload_n rl_L_trip_26 rfl (fn_get rl_L_trip_27 hp_1 rfl (fn_iconst rl_L_trip_30 (fn_put rl_L_trip_31 hp_19 rfl hpv_19_1 (fn_iload_n rl_L_trip_34 rfl (fn_if_ge rl_L_trip_35 (fun k925 => fn_aload_n rl_L_trip_40 rfl (fn_get rl_L_trip_41 hp_1 rfl (fn_aload_n rl_L_trip_44 rfl (fn_get rl_L_trip_45 hp_1 rfl (fn_get rl_L_trip_48 hp_2 rfl (fn_virt (as := [.ref 34, .ref 3]) (r := []) (ls' := [.ref 34, .ref 3]) rl_L_trip_51 rfl hp_34 rfl rfl pl_P_copyFrom rfl rfl (fn_aload_n rl_P_copyFrom_0 rfl (fn_get rl_P_copyFrom_1 hp_3 rfl (fn_iconst rl_P_copyFrom_4 (fn_aload_n rl_P_copyFrom_5 rfl (fn_get rl_P_copyFrom_6 hp_34 rfl (fn_iconst rl_P_copyFrom_9 (fn_sipush rl_P_copyFrom_10 (fn_copy rl_P_copyFrom_13 rfl hp_4 hp_35 hps_35 (fun k924 => fn_retcv rl_P_copyFrom_16 (fn_aload_n rl_L_trip_54 rfl (fn_get rl_L_trip_55 hp_1 rfl (fn_aload_n rl_L_trip_58 rfl (fn_get rl_L_trip_59 hp_1 rfl (fn_virt (as := [.ref 21, .ref 34]) (r := []) (ls' := [.ref 21, .ref 34, .null]) rl_L_trip_62 rfl hp_21 rfl rfl pl_D_layOver rfl rfl (k924))))))) ⟨by decide +kernel, k925⟩)))))))))))))) (fun k926 => fn_iload_n rl_L_trip_38 rfl (fn_reti rl_L_trip_39 rfl k926)) k0))))))
set_option maxRecDepth 100000 in
set_option maxHeartbeats 4000000 in
theorem sg_L_trip_65r {L : Nat} {xs : Nat → Int32} {A V : Nat → Nat → Int32} {K : Nat → Option Nat} {T : am_H} {v : Option Int32} {h' : am_H} {v1 v2 v3 : Int32} (k0 :
    am_fin [(z_L_outcome, 0, [.ref 1, .int v2], []), (z_L_trip, 70, [.ref 1, .int v1, .int v2, .int v3], [])] (hp L xs A V K T) v h') : am_fin [(z_L_trip, 65, [.ref 1, .int v1, .int v2, .int v3], [])] (hp L xs A V K T) v h' :=
  fn_aload_n rl_L_trip_65 rfl (fn_iload_n rl_L_trip_66 rfl (fn_virt (as := [.ref 1, .int v2]) (r := []) (ls' := [.ref 1, .int v2]) rl_L_trip_67 rfl hp_1 rfl rfl pl_L_outcome rfl rfl (k0)))
set_option maxRecDepth 100000 in
set_option maxHeartbeats 4000000 in
theorem sg_L_trip_70r {L : Nat} {xs : Nat → Int32} {A V : Nat → Nat → Int32} {K : Nat → Option Nat} {T : am_H} {v : Option Int32} {h' : am_H} {v1 v2 v3 r : Int32} (k0 :
    v = some r ∧ h' = hp L xs A V K T) : am_fin [(z_L_trip, 70, [.ref 1, .int v1, .int v2, .int v3], [.int r])] (hp L xs A V K T) v h' :=
  fn_reti rl_L_trip_70 rfl k0
set_option maxRecDepth 100000 in
set_option maxHeartbeats 4000000 in
theorem sg_L_cheapest_0 {L : Nat} {xs : Nat → Int32} {A V : Nat → Nat → Int32} {K : Nat → Option Nat} {T : am_H} {v : Option Int32} {h' : am_H} {a1 a2 a3 : Int32} (k0 :
    if a1 < 0 then (
      v = some (-1) ∧ h' = hp L xs A V K T)
    else (
      if 1079 < a1 then (
        v = some (-1) ∧ h' = hp L xs A V K T)
      else (
        if a2 < 0 then (
          v = some (-1) ∧ h' = hp L xs A V K T)
        else (
          if 1079 < a2 then (
            v = some (-1) ∧ h' = hp L xs A V K T)
          else (
            if a2 < a1 then (
              v = some (-1) ∧ h' = hp L xs A V K T)
            else (
              if a3 < 0 then (
                v = some (-1) ∧ h' = hp L xs A V K T)
              else (
                if 1 < a3 then (
                  v = some (-1) ∧ h' = hp L xs A V K T)
                else (
                  am_fin [(z_J_weighHomes, 0, [.ref 26, .null, .null, .null, .null], []), (z_L_cheapest, 40, [.ref 1, .int a1, .int a2, .int a3, .null, .null, .null, .null], [])] (hp L xs (upA A 35 (va_cpy (A 4) (A 35) (0 : Int32).toNatClampNeg (0 : Int32).toNatClampNeg (1080 : Int32).toNatClampNeg)) V K T) v h')))))))) : am_fin [(z_L_cheapest, 0, [.ref 1, .int a1, .int a2, .int a3, .null, .null, .null, .null], [])] (hp L xs A V K T) v h' :=
  fn_iload_n rl_L_cheapest_0 rfl (fn_iload_n rl_L_cheapest_1 rfl (fn_stat (as := [.int a1, .int a2]) (r := []) (ls' := [.int a1, .int a2]) rl_L_cheapest_2 rfl rfl rfl rfl pl_L_isSpan rfl rfl (fn_iload_n rl_L_isSpan_0 rfl (fn_stat (as := [.int a1]) (r := []) (ls' := [.int a1]) rl_L_isSpan_1 rfl rfl rfl rfl pl_L_isDay rfl rfl (fn_iload_n rl_L_isDay_0 rfl (fn_iconst rl_L_isDay_1 (fn_sipush rl_L_isDay_2 (fn_stat (as := [.int a1, .int 0, .int 1079]) (r := []) (ls' := [.int a1, .int 0, .int 1079]) rl_L_isDay_5 rfl rfl rfl rfl pl_L_isAmong rfl rfl (fn_iload_n rl_L_isAmong_0 rfl (fn_iload_n rl_L_isAmong_1 rfl (fn_icmp_lt rl_L_isAmong_2 (fun k940 => fn_iconst rl_L_isAmong_14 (fn_retci rl_L_isAmong_15 rfl (fn_retci rl_L_isDay_8 rfl (fn_if_eq_t rl_L_isSpan_4 (by decide +kernel) (fn_iconst rl_L_isSpan_23 (fn_retci rl_L_isSpan_24 rfl (fn_if_eq_t rl_L_cheapest_5 (by decide +kernel) (fn_iconst rl_L_cheapest_17 (fn_reti rl_L_cheapest_18 rfl k940))))))))) (fun k941 => fn_iload_n rl_L_isAmong_5 rfl (fn_iload_n rl_L_isAmong_6 rfl (fn_icmp_gt rl_L_isAmong_7 (fun k938 => fn_iconst rl_L_isAmong_14 (fn_retci rl_L_isAmong_15 rfl (fn_retci rl_L_isDay_8 rfl (fn_if_eq_t rl_L_isSpan_4 (by decide +kernel) (fn_iconst rl_L_isSpan_23 (fn_retci rl_L_isSpan_24 rfl (fn_if_eq_t rl_L_cheapest_5 (by decide +kernel) (fn_iconst rl_L_cheapest_17 (fn_reti rl_L_cheapest_18 rfl k938))))))))) (fun k939 => fn_iconst rl_L_isAmong_10 (fn_goto rl_L_isAmong_11 (fn_retci rl_L_isAmong_15 rfl (fn_retci rl_L_isDay_8 rfl (fn_if_eq_f rl_L_isSpan_4 (by decide +kernel) (fn_iload_n rl_L_isSpan_7 rfl (fn_stat (as := [.int a2]) (r := []) (ls' := [.int a2]) rl_L_isSpan_8 rfl rfl rfl rfl pl_L_isDay rfl rfl (fn_iload_n rl_L_isDay_0 rfl (fn_iconst rl_L_isDay_1 (fn_sipush rl_L_isDay_2 (fn_stat (as := [.int a2, .int 0, .int 1079]) (r := []) (ls' := [.int a2, .int 0, .int 1079]) rl_L_isDay_5 rfl rfl rfl rfl pl_L_isAmong rfl rfl (fn_iload_n rl_L_isAmong_0 rfl (fn_iload_n rl_L_isAmong_1 rfl (fn_icmp_lt rl_L_isAmong_2 (fun k936 => fn_iconst rl_L_isAmong_14 (fn_retci rl_L_isAmong_15 rfl (fn_retci rl_L_isDay_8 rfl (fn_if_eq_t rl_L_isSpan_11 (by decide +kernel) (fn_iconst rl_L_isSpan_23 (fn_retci rl_L_isSpan_24 rfl (fn_if_eq_t rl_L_cheapest_5 (by decide +kernel) (fn_iconst rl_L_cheapest_17 (fn_reti rl_L_cheapest_18 rfl k936))))))))) (fun k937 => fn_iload_n rl_L_isAmong_5 rfl (fn_iload_n rl_L_isAmong_6 rfl (fn_icmp_gt rl_L_isAmong_7 (fun k934 => fn_iconst rl_L_isAmong_14 (fn_retci rl_L_isAmong_15 rfl (fn_retci rl_L_isDay_8 rfl (fn_if_eq_t rl_L_isSpan_11 (by decide +kernel) (fn_iconst rl_L_isSpan_23 (fn_retci rl_L_isSpan_24 rfl (fn_if_eq_t rl_L_cheapest_5 (by decide +kernel) (fn_iconst rl_L_cheapest_17 (fn_reti rl_L_cheapest_18 rfl k934))))))))) (fun k935 => fn_iconst rl_L_isAmong_10 (fn_goto rl_L_isAmong_11 (fn_retci rl_L_isAmong_15 rfl (fn_retci rl_L_isDay_8 rfl (fn_if_eq_f rl_L_isSpan_11 (by decide +kernel) (fn_iload_n rl_L_isSpan_14 rfl (fn_iload_n rl_L_isSpan_15 rfl (fn_icmp_gt rl_L_isSpan_16 (fun k932 => fn_iconst rl_L_isSpan_23 (fn_retci rl_L_isSpan_24 rfl (fn_if_eq_t rl_L_cheapest_5 (by decide +kernel) (fn_iconst rl_L_cheapest_17 (fn_reti rl_L_cheapest_18 rfl k932))))) (fun k933 => fn_iconst rl_L_isSpan_19 (fn_goto rl_L_isSpan_20 (fn_retci rl_L_isSpan_24 rfl (fn_if_eq_f rl_L_cheapest_5 (by decide +kernel) (fn_iload_n rl_L_cheapest_8 rfl (fn_iconst rl_L_cheapest_9 (fn_iconst rl_L_cheapest_10 (fn_stat (as := [.int a3, .int 0, .int 1]) (r := []) (ls' := [.int a3, .int 0, .int 1]) rl_L_cheapest_11 rfl rfl rfl rfl pl_L_isAmong rfl rfl (fn_iload_n rl_L_isAmong_0 rfl (fn_iload_n rl_L_isAmong_1 rfl (fn_icmp_lt rl_L_isAmong_2 (fun k930 => fn_iconst rl_L_isAmong_14 (fn_retci rl_L_isAmong_15 rfl (fn_if_ne_t rl_L_cheapest_14 (by decide +kernel) (fn_iconst rl_L_cheapest_17 (fn_reti rl_L_cheapest_18 rfl k930))))) (fun k931 => fn_iload_n rl_L_isAmong_5 rfl (fn_iload_n rl_L_isAmong_6 rfl (fn_icmp_gt rl_L_isAmong_7 (fun k928 => fn_iconst rl_L_isAmong_14 (fn_retci rl_L_isAmong_15 rfl (fn_if_ne_t rl_L_cheapest_14 (by decide +kernel) (fn_iconst rl_L_cheapest_17 (fn_reti rl_L_cheapest_18 rfl k928))))) (fun k929 => fn_iconst rl_L_isAmong_10 (fn_goto rl_L_isAmong_11 (fn_retci rl_L_isAmong_15 rfl (fn_if_ne_f rl_L_cheapest_14 (by decide +kernel) (fn_aload_n rl_L_cheapest_19 rfl (fn_get rl_L_cheapest_20 hp_1 rfl (fn_aload_n rl_L_cheapest_23 rfl (fn_get rl_L_cheapest_24 hp_1 rfl (fn_get rl_L_cheapest_27 hp_2 rfl (fn_virt (as := [.ref 34, .ref 3]) (r := []) (ls' := [.ref 34, .ref 3]) rl_L_cheapest_30 rfl hp_34 rfl rfl pl_P_copyFrom rfl rfl (fn_aload_n rl_P_copyFrom_0 rfl (fn_get rl_P_copyFrom_1 hp_3 rfl (fn_iconst rl_P_copyFrom_4 (fn_aload_n rl_P_copyFrom_5 rfl (fn_get rl_P_copyFrom_6 hp_34 rfl (fn_iconst rl_P_copyFrom_9 (fn_sipush rl_P_copyFrom_10 (fn_copy rl_P_copyFrom_13 rfl hp_4 hp_35 hps_35 (fun k927 => fn_retcv rl_P_copyFrom_16 (fn_aload_n rl_L_cheapest_33 rfl (fn_get rl_L_cheapest_34 hp_1 rfl (fn_virt (as := [.ref 26]) (r := []) (ls' := [.ref 26, .null, .null, .null, .null]) rl_L_cheapest_37 rfl hp_26 rfl rfl pl_J_weighHomes rfl rfl (k927))))) ⟨by decide +kernel, k929⟩)))))))))))))))))) k931))) k933))))))))))) k935)))))))) k937))) k939)))))))))))))) k941))) k0)))))))))))
set_option maxRecDepth 100000 in
set_option maxHeartbeats 4000000 in
theorem sg_L_cheapest_40r {L : Nat} {xs : Nat → Int32} {A V : Nat → Nat → Int32} {K : Nat → Option Nat} {T : am_H} {v : Option Int32} {h' : am_H} {v1 v2 v3 : Int32} (k0 :
    am_fin [(z_L_cheapest, 49, [.ref 1, .int v1, .int v2, .int v3, .int 0, .int (-1), .int 0, .null], [])] (hp L xs A V K T) v h') : am_fin [(z_L_cheapest, 40, [.ref 1, .int v1, .int v2, .int v3, .null, .null, .null, .null], [])] (hp L xs A V K T) v h' :=
  fn_iconst rl_L_cheapest_40 (fn_istore (ls' := [.ref 1, .int v1, .int v2, .int v3, .int 0, .null, .null, .null]) rl_L_cheapest_41 rfl rfl (fn_iconst rl_L_cheapest_43 (fn_istore (ls' := [.ref 1, .int v1, .int v2, .int v3, .int 0, .int (-1), .null, .null]) rl_L_cheapest_44 rfl rfl (fn_iconst rl_L_cheapest_46 (fn_istore (ls' := [.ref 1, .int v1, .int v2, .int v3, .int 0, .int (-1), .int 0, .null]) rl_L_cheapest_47 rfl rfl (k0))))))
set_option maxRecDepth 100000 in
set_option maxHeartbeats 4000000 in
theorem sg_L_cheapest_49 {L : Nat} {xs : Nat → Int32} {A V : Nat → Nat → Int32} {K : Nat → Option Nat} {T : am_H} {v : Option Int32} {h' : am_H} {v1 v2 v3 v4 v5 v6 : Int32} (k0 :
    if 6 ≤ v6 then (
      if v3 = 0 then (
        v = some v4 ∧ h' = hp L xs A V K T)
      else (
        v = some v5 ∧ h' = hp L xs A V K T))
    else (
      am_fin [(z_P_put, 0, [.ref 34, .int v6, .int v1, .int v2, .null, .null], []), (z_L_cheapest, 67, [.ref 1, .int v1, .int v2, .int v3, .int v4, .int v5, .int v6, .null], [])] (hp L xs A V K T) v h')) : am_fin [(z_L_cheapest, 49, [.ref 1, .int v1, .int v2, .int v3, .int v4, .int v5, .int v6, .null], [])] (hp L xs A V K T) v h' :=
  fn_iload rl_L_cheapest_49 rfl (fn_bipush rl_L_cheapest_51 (fn_icmp_ge rl_L_cheapest_53 (fun k944 => fn_iload_n rl_L_cheapest_112 rfl (fn_if_ne rl_L_cheapest_113 (fun k942 => fn_iload rl_L_cheapest_116 rfl (fn_goto rl_L_cheapest_118 (fn_reti rl_L_cheapest_123 rfl k942))) (fun k943 => fn_iload rl_L_cheapest_121 rfl (fn_reti rl_L_cheapest_123 rfl k943)) k944)) (fun k945 => fn_aload_n rl_L_cheapest_56 rfl (fn_get rl_L_cheapest_57 hp_1 rfl (fn_iload rl_L_cheapest_60 rfl (fn_iload_n rl_L_cheapest_62 rfl (fn_iload_n rl_L_cheapest_63 rfl (fn_virt (as := [.ref 34, .int v6, .int v1, .int v2]) (r := []) (ls' := [.ref 34, .int v6, .int v1, .int v2, .null, .null]) rl_L_cheapest_64 rfl hp_34 rfl rfl pl_P_put rfl rfl (k945))))))) k0))
set_option maxRecDepth 100000 in
set_option maxHeartbeats 4000000 in
theorem sg_L_cheapest_67r {L : Nat} {xs : Nat → Int32} {A V : Nat → Nat → Int32} {K : Nat → Option Nat} {T : am_H} {v : Option Int32} {h' : am_H} {v1 v2 v3 v4 v5 v6 r : Int32} (k0 :
    am_fin [(z_J_weighPlaces, 0, [.ref 26, .ref 34], []), (z_L_cheapest, 79, [.ref 1, .int v1, .int v2, .int v3, .int v4, .int v5, .int v6, .null], [])] (hp L xs A V K T) v h') : am_fin [(z_L_cheapest, 67, [.ref 1, .int v1, .int v2, .int v3, .int v4, .int v5, .int v6, .null], [.int r])] (hp L xs A V K T) v h' :=
  fn_pop_int rl_L_cheapest_67 (fn_aload_n rl_L_cheapest_68 rfl (fn_get rl_L_cheapest_69 hp_1 rfl (fn_aload_n rl_L_cheapest_72 rfl (fn_get rl_L_cheapest_73 hp_1 rfl (fn_virt (as := [.ref 26, .ref 34]) (r := []) (ls' := [.ref 26, .ref 34]) rl_L_cheapest_76 rfl hp_26 rfl rfl pl_J_weighPlaces rfl rfl (k0))))))
set_option maxRecDepth 100000 in
set_option maxHeartbeats 4000000 in
theorem sg_L_cheapest_79r {L : Nat} {xs : Nat → Int32} {A V : Nat → Nat → Int32} {K : Nat → Option Nat} {T : am_H} {v : Option Int32} {h' : am_H} {v1 v2 v3 v4 v5 v6 : Int32} (k0 :
    am_fin [(z_L_owedAsIf, 0, [.ref 1, .null, .null], []), (z_L_cheapest, 83, [.ref 1, .int v1, .int v2, .int v3, .int v4, .int v5, .int v6, .null], [])] (hp L xs A V K T) v h') : am_fin [(z_L_cheapest, 79, [.ref 1, .int v1, .int v2, .int v3, .int v4, .int v5, .int v6, .null], [])] (hp L xs A V K T) v h' :=
  fn_aload_n rl_L_cheapest_79 rfl (fn_virt (as := [.ref 1]) (r := []) (ls' := [.ref 1, .null, .null]) rl_L_cheapest_80 rfl hp_1 rfl rfl pl_L_owedAsIf rfl rfl (k0))
set_option maxRecDepth 100000 in
set_option maxHeartbeats 4000000 in
theorem sg_L_cheapest_83r {L : Nat} {xs : Nat → Int32} {A V : Nat → Nat → Int32} {K : Nat → Option Nat} {T : am_H} {v : Option Int32} {h' : am_H} {v1 v2 v3 v4 v5 v6 r : Int32} (k0 :
    if v5 = (-1) then (
      am_fin [(z_L_cheapest, 49, [.ref 1, .int v1, .int v2, .int v3, .int v6, .int r, .int (v6 + 1), .int r], [])] (hp L xs A V K T) v h')
    else (
      if v5 ≤ r then (
        am_fin [(z_L_cheapest, 49, [.ref 1, .int v1, .int v2, .int v3, .int v4, .int v5, .int (v6 + 1), .int r], [])] (hp L xs A V K T) v h')
      else (
        am_fin [(z_L_cheapest, 49, [.ref 1, .int v1, .int v2, .int v3, .int v6, .int r, .int (v6 + 1), .int r], [])] (hp L xs A V K T) v h'))) : am_fin [(z_L_cheapest, 83, [.ref 1, .int v1, .int v2, .int v3, .int v4, .int v5, .int v6, .null], [.int r])] (hp L xs A V K T) v h' :=
  fn_istore (ls' := [.ref 1, .int v1, .int v2, .int v3, .int v4, .int v5, .int v6, .int r]) rl_L_cheapest_83 rfl rfl (fn_iload rl_L_cheapest_85 rfl (fn_iconst rl_L_cheapest_87 (fn_icmp_eq rl_L_cheapest_88 (fun k948 => fn_iload rl_L_cheapest_98 rfl (fn_istore (ls' := [.ref 1, .int v1, .int v2, .int v3, .int v6, .int v5, .int v6, .int r]) rl_L_cheapest_100 rfl rfl (fn_iload rl_L_cheapest_102 rfl (fn_istore (ls' := [.ref 1, .int v1, .int v2, .int v3, .int v6, .int r, .int v6, .int r]) rl_L_cheapest_104 rfl rfl (fn_iinc (ls' := [.ref 1, .int v1, .int v2, .int v3, .int v6, .int r, .int (v6 + 1), .int r]) rl_L_cheapest_106 rfl rfl rfl (fn_goto rl_L_cheapest_109 (k948))))))) (fun k949 => fn_iload rl_L_cheapest_91 rfl (fn_iload rl_L_cheapest_93 rfl (fn_icmp_ge rl_L_cheapest_95 (fun k946 => fn_iinc (ls' := [.ref 1, .int v1, .int v2, .int v3, .int v4, .int v5, .int (v6 + 1), .int r]) rl_L_cheapest_106 rfl rfl rfl (fn_goto rl_L_cheapest_109 (k946))) (fun k947 => fn_iload rl_L_cheapest_98 rfl (fn_istore (ls' := [.ref 1, .int v1, .int v2, .int v3, .int v6, .int v5, .int v6, .int r]) rl_L_cheapest_100 rfl rfl (fn_iload rl_L_cheapest_102 rfl (fn_istore (ls' := [.ref 1, .int v1, .int v2, .int v3, .int v6, .int r, .int v6, .int r]) rl_L_cheapest_104 rfl rfl (fn_iinc (ls' := [.ref 1, .int v1, .int v2, .int v3, .int v6, .int r, .int (v6 + 1), .int r]) rl_L_cheapest_106 rfl rfl rfl (fn_goto rl_L_cheapest_109 (k947))))))) k949))) k0)))
set_option maxRecDepth 100000 in
set_option maxHeartbeats 4000000 in
theorem sg_L_cheapest_49b {L : Nat} {xs : Nat → Int32} {A V : Nat → Nat → Int32} {K : Nat → Option Nat} {T : am_H} {v : Option Int32} {h' : am_H} {v1 v2 v3 v4 v5 v6 v7 : Int32} (k0 :
    if 6 ≤ v6 then (
      if v3 = 0 then (
        v = some v4 ∧ h' = hp L xs A V K T)
      else (
        v = some v5 ∧ h' = hp L xs A V K T))
    else (
      am_fin [(z_P_put, 0, [.ref 34, .int v6, .int v1, .int v2, .null, .null], []), (z_L_cheapest, 67, [.ref 1, .int v1, .int v2, .int v3, .int v4, .int v5, .int v6, .int v7], [])] (hp L xs A V K T) v h')) : am_fin [(z_L_cheapest, 49, [.ref 1, .int v1, .int v2, .int v3, .int v4, .int v5, .int v6, .int v7], [])] (hp L xs A V K T) v h' :=
  fn_iload rl_L_cheapest_49 rfl (fn_bipush rl_L_cheapest_51 (fn_icmp_ge rl_L_cheapest_53 (fun k952 => fn_iload_n rl_L_cheapest_112 rfl (fn_if_ne rl_L_cheapest_113 (fun k950 => fn_iload rl_L_cheapest_116 rfl (fn_goto rl_L_cheapest_118 (fn_reti rl_L_cheapest_123 rfl k950))) (fun k951 => fn_iload rl_L_cheapest_121 rfl (fn_reti rl_L_cheapest_123 rfl k951)) k952)) (fun k953 => fn_aload_n rl_L_cheapest_56 rfl (fn_get rl_L_cheapest_57 hp_1 rfl (fn_iload rl_L_cheapest_60 rfl (fn_iload_n rl_L_cheapest_62 rfl (fn_iload_n rl_L_cheapest_63 rfl (fn_virt (as := [.ref 34, .int v6, .int v1, .int v2]) (r := []) (ls' := [.ref 34, .int v6, .int v1, .int v2, .null, .null]) rl_L_cheapest_64 rfl hp_34 rfl rfl pl_P_put rfl rfl (k953))))))) k0))
set_option maxRecDepth 100000 in
set_option maxHeartbeats 4000000 in
theorem sg_L_cheapest_67rb {L : Nat} {xs : Nat → Int32} {A V : Nat → Nat → Int32} {K : Nat → Option Nat} {T : am_H} {v : Option Int32} {h' : am_H} {v1 v2 v3 v4 v5 v6 v7 r : Int32} (k0 :
    am_fin [(z_J_weighPlaces, 0, [.ref 26, .ref 34], []), (z_L_cheapest, 79, [.ref 1, .int v1, .int v2, .int v3, .int v4, .int v5, .int v6, .int v7], [])] (hp L xs A V K T) v h') : am_fin [(z_L_cheapest, 67, [.ref 1, .int v1, .int v2, .int v3, .int v4, .int v5, .int v6, .int v7], [.int r])] (hp L xs A V K T) v h' :=
  fn_pop_int rl_L_cheapest_67 (fn_aload_n rl_L_cheapest_68 rfl (fn_get rl_L_cheapest_69 hp_1 rfl (fn_aload_n rl_L_cheapest_72 rfl (fn_get rl_L_cheapest_73 hp_1 rfl (fn_virt (as := [.ref 26, .ref 34]) (r := []) (ls' := [.ref 26, .ref 34]) rl_L_cheapest_76 rfl hp_26 rfl rfl pl_J_weighPlaces rfl rfl (k0))))))
set_option maxRecDepth 100000 in
set_option maxHeartbeats 4000000 in
theorem sg_L_cheapest_79rb {L : Nat} {xs : Nat → Int32} {A V : Nat → Nat → Int32} {K : Nat → Option Nat} {T : am_H} {v : Option Int32} {h' : am_H} {v1 v2 v3 v4 v5 v6 v7 : Int32} (k0 :
    am_fin [(z_L_owedAsIf, 0, [.ref 1, .null, .null], []), (z_L_cheapest, 83, [.ref 1, .int v1, .int v2, .int v3, .int v4, .int v5, .int v6, .int v7], [])] (hp L xs A V K T) v h') : am_fin [(z_L_cheapest, 79, [.ref 1, .int v1, .int v2, .int v3, .int v4, .int v5, .int v6, .int v7], [])] (hp L xs A V K T) v h' :=
  fn_aload_n rl_L_cheapest_79 rfl (fn_virt (as := [.ref 1]) (r := []) (ls' := [.ref 1, .null, .null]) rl_L_cheapest_80 rfl hp_1 rfl rfl pl_L_owedAsIf rfl rfl (k0))
