set_option maxRecDepth 100000 in
set_option maxHeartbeats 4000000 in
theorem sg_P_countOf_5_0 {L : Nat} {xs : Nat → Int32} {A V : Nat → Nat → Int32} {K : Nat → Option Nat} {T : am_H} {v : Option Int32} {h' : am_H} {a1 a2 a3 : Int32} (k0 :
    am_fin [(z_P_countOf, 6, [.ref 5, .int a1, .int a2, .int a3, .int 0, .int a2], [])] (hp L xs A V K T) v h') : am_fin [(z_P_countOf, 0, [.ref 5, .int a1, .int a2, .int a3, .null, .null], [])] (hp L xs A V K T) v h' :=
  fn_iconst rl_P_countOf_0 (fn_istore (ls' := [.ref 5, .int a1, .int a2, .int a3, .int 0, .null]) rl_P_countOf_1 rfl rfl (fn_iload_n rl_P_countOf_3 rfl (fn_istore (ls' := [.ref 5, .int a1, .int a2, .int a3, .int 0, .int a2]) rl_P_countOf_4 rfl rfl (k0))))
set_option maxRecDepth 100000 in
set_option maxHeartbeats 4000000 in
theorem sg_P_countOf_5_6 {L : Nat} {xs : Nat → Int32} {A V : Nat → Nat → Int32} {K : Nat → Option Nat} {T : am_H} {v : Option Int32} {h' : am_H} {v1 v2 v3 v4 v5 : Int32} (k0 :
    if v3 < v5 then (
      v = some v4 ∧ h' = hp L xs A V K T)
    else (
      am_fin [(z_P_landOn, 0, [.ref 5, .int v5], []), (z_P_countOf, 18, [.ref 5, .int v1, .int v2, .int v3, .int v4, .int v5], [])] (hp L xs A V K T) v h')) : am_fin [(z_P_countOf, 6, [.ref 5, .int v1, .int v2, .int v3, .int v4, .int v5], [])] (hp L xs A V K T) v h' :=
  fn_iload rl_P_countOf_6 rfl (fn_iload_n rl_P_countOf_8 rfl (fn_icmp_gt rl_P_countOf_9 (fun k2136 => fn_iload rl_P_countOf_31 rfl (fn_reti rl_P_countOf_33 rfl k2136)) (fun k2137 => fn_aload_n rl_P_countOf_12 rfl (fn_iload rl_P_countOf_13 rfl (fn_virt (as := [.ref 5, .int v5]) (r := []) (ls' := [.ref 5, .int v5]) rl_P_countOf_15 rfl hp_5 rfl rfl pl_P_landOn rfl rfl (k2137)))) k0))
set_option maxRecDepth 100000 in
set_option maxHeartbeats 4000000 in
theorem sg_P_countOf_5_18r {L : Nat} {xs : Nat → Int32} {A V : Nat → Nat → Int32} {K : Nat → Option Nat} {T : am_H} {v : Option Int32} {h' : am_H} {v1 v2 v3 v4 v5 r : Int32} (k0 :
    if r = v1 then (
      am_fin [(z_P_countOf, 6, [.ref 5, .int v1, .int v2, .int v3, .int (v4 + 1), .int (v5 + 1)], [])] (hp L xs A V K T) v h')
    else (
      am_fin [(z_P_countOf, 6, [.ref 5, .int v1, .int v2, .int v3, .int v4, .int (v5 + 1)], [])] (hp L xs A V K T) v h')) : am_fin [(z_P_countOf, 18, [.ref 5, .int v1, .int v2, .int v3, .int v4, .int v5], [.int r])] (hp L xs A V K T) v h' :=
  fn_iload_n rl_P_countOf_18 rfl (fn_icmp_ne rl_P_countOf_19 (fun k2138 => fn_iinc (ls' := [.ref 5, .int v1, .int v2, .int v3, .int (v4 + 1), .int v5]) rl_P_countOf_22 rfl rfl rfl (fn_iinc (ls' := [.ref 5, .int v1, .int v2, .int v3, .int (v4 + 1), .int (v5 + 1)]) rl_P_countOf_25 rfl rfl rfl (fn_goto rl_P_countOf_28 (k2138)))) (fun k2139 => fn_iinc (ls' := [.ref 5, .int v1, .int v2, .int v3, .int v4, .int (v5 + 1)]) rl_P_countOf_25 rfl rfl rfl (fn_goto rl_P_countOf_28 (k2139))) k0)
set_option maxRecDepth 100000 in
set_option maxHeartbeats 4000000 in
theorem sg_P_rowsOf_3_0 {L : Nat} {xs : Nat → Int32} {A V : Nat → Nat → Int32} {K : Nat → Option Nat} {T : am_H} {v : Option Int32} {h' : am_H} {a1 a2 a3 : Int32} (k0 :
    am_fin [(z_P_rowsOf, 6, [.ref 3, .int a1, .int a2, .int a3, .int 0, .int a2], [])] (hp L xs A V K T) v h') : am_fin [(z_P_rowsOf, 0, [.ref 3, .int a1, .int a2, .int a3, .null, .null], [])] (hp L xs A V K T) v h' :=
  fn_iconst rl_P_rowsOf_0 (fn_istore (ls' := [.ref 3, .int a1, .int a2, .int a3, .int 0, .null]) rl_P_rowsOf_1 rfl rfl (fn_iload_n rl_P_rowsOf_3 rfl (fn_istore (ls' := [.ref 3, .int a1, .int a2, .int a3, .int 0, .int a2]) rl_P_rowsOf_4 rfl rfl (k0))))
set_option maxRecDepth 100000 in
set_option maxHeartbeats 4000000 in
theorem sg_P_rowsOf_3_6 {L : Nat} {xs : Nat → Int32} {A V : Nat → Nat → Int32} {K : Nat → Option Nat} {T : am_H} {v : Option Int32} {h' : am_H} {v1 v2 v3 v4 v5 : Int32} (k0 :
    if v3 < v5 then (
      v = some v4 ∧ h' = hp L xs A V K T)
    else (
      am_fin [(z_P_landOn, 0, [.ref 3, .int v5], []), (z_P_rowsOf, 18, [.ref 3, .int v1, .int v2, .int v3, .int v4, .int v5], [])] (hp L xs A V K T) v h')) : am_fin [(z_P_rowsOf, 6, [.ref 3, .int v1, .int v2, .int v3, .int v4, .int v5], [])] (hp L xs A V K T) v h' :=
  fn_iload rl_P_rowsOf_6 rfl (fn_iload_n rl_P_rowsOf_8 rfl (fn_icmp_gt rl_P_rowsOf_9 (fun k2140 => fn_iload rl_P_rowsOf_49 rfl (fn_reti rl_P_rowsOf_51 rfl k2140)) (fun k2141 => fn_aload_n rl_P_rowsOf_12 rfl (fn_iload rl_P_rowsOf_13 rfl (fn_virt (as := [.ref 3, .int v5]) (r := []) (ls' := [.ref 3, .int v5]) rl_P_rowsOf_15 rfl hp_3 rfl rfl pl_P_landOn rfl rfl (k2141)))) k0))
set_option maxRecDepth 100000 in
set_option maxHeartbeats 4000000 in
theorem sg_P_rowsOf_3_18r {L : Nat} {xs : Nat → Int32} {A V : Nat → Nat → Int32} {K : Nat → Option Nat} {T : am_H} {v : Option Int32} {h' : am_H} {v1 v2 v3 v4 v5 r : Int32} (k0 :
    if r = v1 then (
      if v5 = v2 then (
        am_fin [(z_P_rowsOf, 6, [.ref 3, .int v1, .int v2, .int v3, .int (v4 + 1), .int (v5 + 1)], [])] (hp L xs A V K T) v h')
      else (
        am_fin [(z_P_landOn, 0, [.ref 3, .int (v5 - 1)], []), (z_P_rowsOf, 36, [.ref 3, .int v1, .int v2, .int v3, .int v4, .int v5], [])] (hp L xs A V K T) v h'))
    else (
      am_fin [(z_P_rowsOf, 6, [.ref 3, .int v1, .int v2, .int v3, .int v4, .int (v5 + 1)], [])] (hp L xs A V K T) v h')) : am_fin [(z_P_rowsOf, 18, [.ref 3, .int v1, .int v2, .int v3, .int v4, .int v5], [.int r])] (hp L xs A V K T) v h' :=
  fn_iload_n rl_P_rowsOf_18 rfl (fn_icmp_ne rl_P_rowsOf_19 (fun k2144 => fn_iload rl_P_rowsOf_22 rfl (fn_iload_n rl_P_rowsOf_24 rfl (fn_icmp_eq rl_P_rowsOf_25 (fun k2142 => fn_iinc (ls' := [.ref 3, .int v1, .int v2, .int v3, .int (v4 + 1), .int v5]) rl_P_rowsOf_40 rfl rfl rfl (fn_iinc (ls' := [.ref 3, .int v1, .int v2, .int v3, .int (v4 + 1), .int (v5 + 1)]) rl_P_rowsOf_43 rfl rfl rfl (fn_goto rl_P_rowsOf_46 (k2142)))) (fun k2143 => fn_aload_n rl_P_rowsOf_28 rfl (fn_iload rl_P_rowsOf_29 rfl (fn_iconst rl_P_rowsOf_31 (fn_isub rl_P_rowsOf_32 (fn_virt (as := [.ref 3, .int (v5 - 1)]) (r := []) (ls' := [.ref 3, .int (v5 - 1)]) rl_P_rowsOf_33 rfl hp_3 rfl rfl pl_P_landOn rfl rfl (k2143)))))) k2144))) (fun k2145 => fn_iinc (ls' := [.ref 3, .int v1, .int v2, .int v3, .int v4, .int (v5 + 1)]) rl_P_rowsOf_43 rfl rfl rfl (fn_goto rl_P_rowsOf_46 (k2145))) k0)
set_option maxRecDepth 100000 in
set_option maxHeartbeats 4000000 in
theorem sg_P_rowsOf_3_36r {L : Nat} {xs : Nat → Int32} {A V : Nat → Nat → Int32} {K : Nat → Option Nat} {T : am_H} {v : Option Int32} {h' : am_H} {v1 v2 v3 v4 v5 r : Int32} (k0 :
    if r = v1 then (
      am_fin [(z_P_rowsOf, 6, [.ref 3, .int v1, .int v2, .int v3, .int v4, .int (v5 + 1)], [])] (hp L xs A V K T) v h')
    else (
      am_fin [(z_P_rowsOf, 6, [.ref 3, .int v1, .int v2, .int v3, .int (v4 + 1), .int (v5 + 1)], [])] (hp L xs A V K T) v h')) : am_fin [(z_P_rowsOf, 36, [.ref 3, .int v1, .int v2, .int v3, .int v4, .int v5], [.int r])] (hp L xs A V K T) v h' :=
  fn_iload_n rl_P_rowsOf_36 rfl (fn_icmp_eq rl_P_rowsOf_37 (fun k2146 => fn_iinc (ls' := [.ref 3, .int v1, .int v2, .int v3, .int v4, .int (v5 + 1)]) rl_P_rowsOf_43 rfl rfl rfl (fn_goto rl_P_rowsOf_46 (k2146))) (fun k2147 => fn_iinc (ls' := [.ref 3, .int v1, .int v2, .int v3, .int (v4 + 1), .int v5]) rl_P_rowsOf_40 rfl rfl rfl (fn_iinc (ls' := [.ref 3, .int v1, .int v2, .int v3, .int (v4 + 1), .int (v5 + 1)]) rl_P_rowsOf_43 rfl rfl rfl (fn_goto rl_P_rowsOf_46 (k2147)))) k0)
set_option maxRecDepth 100000 in
set_option maxHeartbeats 4000000 in
theorem sg_P_longestRow_3_0 {L : Nat} {xs : Nat → Int32} {A V : Nat → Nat → Int32} {K : Nat → Option Nat} {T : am_H} {v : Option Int32} {h' : am_H} {a1 a2 a3 : Int32} (k0 :
    am_fin [(z_P_longestRow, 9, [.ref 3, .int a1, .int a2, .int a3, .int 0, .int 0, .int a2], [])] (hp L xs A V K T) v h') : am_fin [(z_P_longestRow, 0, [.ref 3, .int a1, .int a2, .int a3, .null, .null, .null], [])] (hp L xs A V K T) v h' :=
  fn_iconst rl_P_longestRow_0 (fn_istore (ls' := [.ref 3, .int a1, .int a2, .int a3, .int 0, .null, .null]) rl_P_longestRow_1 rfl rfl (fn_iconst rl_P_longestRow_3 (fn_istore (ls' := [.ref 3, .int a1, .int a2, .int a3, .int 0, .int 0, .null]) rl_P_longestRow_4 rfl rfl (fn_iload_n rl_P_longestRow_6 rfl (fn_istore (ls' := [.ref 3, .int a1, .int a2, .int a3, .int 0, .int 0, .int a2]) rl_P_longestRow_7 rfl rfl (k0))))))
set_option maxRecDepth 100000 in
set_option maxHeartbeats 4000000 in
theorem sg_P_longestRow_3_9 {L : Nat} {xs : Nat → Int32} {A V : Nat → Nat → Int32} {K : Nat → Option Nat} {T : am_H} {v : Option Int32} {h' : am_H} {v1 v2 v3 v4 v5 v6 : Int32} (k0 :
    if v3 < v6 then (
      v = some v4 ∧ h' = hp L xs A V K T)
    else (
      am_fin [(z_P_landOn, 0, [.ref 3, .int v6], []), (z_P_longestRow, 21, [.ref 3, .int v1, .int v2, .int v3, .int v4, .int v5, .int v6], [])] (hp L xs A V K T) v h')) : am_fin [(z_P_longestRow, 9, [.ref 3, .int v1, .int v2, .int v3, .int v4, .int v5, .int v6], [])] (hp L xs A V K T) v h' :=
  fn_iload rl_P_longestRow_9 rfl (fn_iload_n rl_P_longestRow_11 rfl (fn_icmp_gt rl_P_longestRow_12 (fun k2148 => fn_iload rl_P_longestRow_50 rfl (fn_reti rl_P_longestRow_52 rfl k2148)) (fun k2149 => fn_aload_n rl_P_longestRow_15 rfl (fn_iload rl_P_longestRow_16 rfl (fn_virt (as := [.ref 3, .int v6]) (r := []) (ls' := [.ref 3, .int v6]) rl_P_longestRow_18 rfl hp_3 rfl rfl pl_P_landOn rfl rfl (k2149)))) k0))
set_option maxRecDepth 100000 in
set_option maxHeartbeats 4000000 in
theorem sg_P_longestRow_3_21r {L : Nat} {xs : Nat → Int32} {A V : Nat → Nat → Int32} {K : Nat → Option Nat} {T : am_H} {v : Option Int32} {h' : am_H} {v1 v2 v3 v4 v5 v6 r : Int32} (k0 :
    if r = v1 then (
      am_fin [(z_P_longestRow, 9, [.ref 3, .int v1, .int v2, .int v3, .int (if v4 < (v5 + 1) then (v5 + 1) else v4 : Int32), .int (v5 + 1), .int (v6 + 1)], [])] (hp L xs A V K T) v h')
    else (
      am_fin [(z_P_longestRow, 9, [.ref 3, .int v1, .int v2, .int v3, .int (if v4 < 0 then 0 else v4 : Int32), .int 0, .int (v6 + 1)], [])] (hp L xs A V K T) v h')) : am_fin [(z_P_longestRow, 21, [.ref 3, .int v1, .int v2, .int v3, .int v4, .int v5, .int v6], [.int r])] (hp L xs A V K T) v h' :=
  fn_iload_n rl_P_longestRow_21 rfl (fn_icmp_ne rl_P_longestRow_22 (fun k2150 => fn_iload rl_P_longestRow_25 rfl (fn_iconst rl_P_longestRow_27 (fn_iadd rl_P_longestRow_28 (fn_goto rl_P_longestRow_29 (fn_istore (ls' := [.ref 3, .int v1, .int v2, .int v3, .int v4, .int (v5 + 1), .int v6]) rl_P_longestRow_33 rfl rfl (fn_iload rl_P_longestRow_35 rfl (fn_iload rl_P_longestRow_37 rfl (fn_max rl_P_longestRow_39 rfl (fn_istore (ls' := [.ref 3, .int v1, .int v2, .int v3, .int (if v4 < (v5 + 1) then (v5 + 1) else v4 : Int32), .int (v5 + 1), .int v6]) rl_P_longestRow_42 rfl rfl (fn_iinc (ls' := [.ref 3, .int v1, .int v2, .int v3, .int (if v4 < (v5 + 1) then (v5 + 1) else v4 : Int32), .int (v5 + 1), .int (v6 + 1)]) rl_P_longestRow_44 rfl rfl rfl (fn_goto rl_P_longestRow_47 (k2150)))))))))))) (fun k2151 => fn_iconst rl_P_longestRow_32 (fn_istore (ls' := [.ref 3, .int v1, .int v2, .int v3, .int v4, .int 0, .int v6]) rl_P_longestRow_33 rfl rfl (fn_iload rl_P_longestRow_35 rfl (fn_iload rl_P_longestRow_37 rfl (fn_max rl_P_longestRow_39 rfl (fn_istore (ls' := [.ref 3, .int v1, .int v2, .int v3, .int (if v4 < 0 then 0 else v4 : Int32), .int 0, .int v6]) rl_P_longestRow_42 rfl rfl (fn_iinc (ls' := [.ref 3, .int v1, .int v2, .int v3, .int (if v4 < 0 then 0 else v4 : Int32), .int 0, .int (v6 + 1)]) rl_P_longestRow_44 rfl rfl rfl (fn_goto rl_P_longestRow_47 (k2151))))))))) k0)
set_option maxRecDepth 100000 in
set_option maxHeartbeats 4000000 in
theorem sg_O_read_3_0 {L : Nat} {xs : Nat → Int32} {A V : Nat → Nat → Int32} {K : Nat → Option Nat} {T : am_H} {v : Option Int32} {h' : am_H} {a2 : Int32} (k0 :
    ¬ (a2 < 0 ∨ 6 ≤ a2.toNatClampNeg) ∧ (
    ¬ (a2 < 0 ∨ 6 ≤ a2.toNatClampNeg) ∧ (
    am_fin [(z_O_read, 28, [.ref 30, .ref 3, .int a2, .int 0], [])] (hp L xs A (upV (upV V 30 4 ((A 11) a2.toNatClampNeg)) 30 5 ((A 12) a2.toNatClampNeg)) K T) v h'))) : am_fin [(z_O_read, 0, [.ref 30, .ref 3, .int a2, .null], [])] (hp L xs A V K T) v h' :=
  fn_aload_n rl_O_read_0 rfl (fn_aload_n rl_O_read_1 rfl (fn_get rl_O_read_2 hp_30 rfl (fn_get rl_O_read_5 hp_10 rfl (fn_iload_n rl_O_read_8 rfl (fn_iald rl_O_read_9 hp_11 (fun k2153 => fn_put rl_O_read_10 hp_30 rfl hpv_30_4 (fn_aload_n rl_O_read_13 rfl (fn_aload_n rl_O_read_14 rfl (fn_get rl_O_read_15 hp_30 rfl (fn_get rl_O_read_18 hp_10 rfl (fn_iload_n rl_O_read_21 rfl (fn_iald rl_O_read_22 hp_12 (fun k2152 => fn_put rl_O_read_23 hp_30 rfl hpv_30_5 (fn_iconst rl_O_read_26 (fn_istore_n (ls' := [.ref 30, .ref 3, .int a2, .int 0]) rl_O_read_27 rfl rfl (k2152)))) k2153))))))) k0)))))
set_option maxRecDepth 100000 in
set_option maxHeartbeats 4000000 in
theorem sg_O_read_3_28 {L : Nat} {xs : Nat → Int32} {A V : Nat → Nat → Int32} {K : Nat → Option Nat} {T : am_H} {v : Option Int32} {h' : am_H} {v2 v3 : Int32} (k0 :
    if 1080 ≤ v3 then (
      v = none ∧ h' = hp L xs A V K T)
    else (
      ¬ (v3 < 0 ∨ 1081 ≤ v3.toNatClampNeg) ∧ (
      ¬ (v3 < 0 ∨ 1080 ≤ v3.toNatClampNeg) ∧ (
      if ((A 4) v3.toNatClampNeg) = v2 then (
        ¬ ((v3 + 1) < 0 ∨ 1081 ≤ (v3 + 1).toNatClampNeg) ∧ (
        am_fin [(z_O_read, 28, [.ref 30, .ref 3, .int v2, .int (v3 + 1)], [])] (hp L xs (upA A 31 (upd (A 31) (v3 + 1).toNatClampNeg (((A 31) v3.toNatClampNeg) + 1))) V K T) v h'))
      else (
        ¬ ((v3 + 1) < 0 ∨ 1081 ≤ (v3 + 1).toNatClampNeg) ∧ (
        am_fin [(z_O_read, 28, [.ref 30, .ref 3, .int v2, .int (v3 + 1)], [])] (hp L xs (upA A 31 (upd (A 31) (v3 + 1).toNatClampNeg (((A 31) v3.toNatClampNeg) + 0))) V K T) v h')))))) : am_fin [(z_O_read, 28, [.ref 30, .ref 3, .int v2, .int v3], [])] (hp L xs A V K T) v h' :=
  fn_iload_n rl_O_read_28 rfl (fn_sipush rl_O_read_29 (fn_icmp_ge rl_O_read_32 (fun k2160 => fn_retv rl_O_read_71 k2160) (fun k2161 => fn_aload_n rl_O_read_35 rfl (fn_get rl_O_read_36 hp_30 rfl (fn_iload_n rl_O_read_39 rfl (fn_iconst rl_O_read_40 (fn_iadd rl_O_read_41 (fn_aload_n rl_O_read_42 rfl (fn_get rl_O_read_43 hp_30 rfl (fn_iload_n rl_O_read_46 rfl (fn_iald rl_O_read_47 hp_31 (fun k2159 => fn_aload_n rl_O_read_48 rfl (fn_get rl_O_read_49 hp_3 rfl (fn_iload_n rl_O_read_52 rfl (fn_iald rl_O_read_53 hp_4 (fun k2158 => fn_iload_n rl_O_read_54 rfl (fn_icmp_ne rl_O_read_55 (fun k2156 => fn_iconst rl_O_read_58 (fn_goto rl_O_read_59 (fn_iadd rl_O_read_63 (fn_iast rl_O_read_64 hp_31 hps_31 (fun k2154 => fn_iinc (ls' := [.ref 30, .ref 3, .int v2, .int (v3 + 1)]) rl_O_read_65 rfl rfl rfl (fn_goto rl_O_read_68 (k2154))) k2156)))) (fun k2157 => fn_iconst rl_O_read_62 (fn_iadd rl_O_read_63 (fn_iast rl_O_read_64 hp_31 hps_31 (fun k2155 => fn_iinc (ls' := [.ref 30, .ref 3, .int v2, .int (v3 + 1)]) rl_O_read_65 rfl rfl rfl (fn_goto rl_O_read_68 (k2155))) k2157))) k2158)) k2159)))) k2161))))))))) k0))
set_option maxRecDepth 100000 in
set_option maxHeartbeats 4000000 in
theorem sg_O_beyond_0 {L : Nat} {xs : Nat → Int32} {A V : Nat → Nat → Int32} {K : Nat → Option Nat} {T : am_H} {v : Option Int32} {h' : am_H} {a1 : Int32} (k0 :
    if (V 30 4) = 0 then (
      v = some 0 ∧ h' = hp L xs A V K T)
    else (
      am_fin [(z_O_isThere, 0, [.ref 30, .int a1], []), (z_O_beyond, 12, [.ref 30, .int a1], [])] (hp L xs A V K T) v h')) : am_fin [(z_O_beyond, 0, [.ref 30, .int a1], [])] (hp L xs A V K T) v h' :=
  fn_aload_n rl_O_beyond_0 rfl (fn_get rl_O_beyond_1 hp_30 rfl (fn_if_eq rl_O_beyond_4 (fun k2162 => fn_iconst rl_O_beyond_15 (fn_reti rl_O_beyond_16 rfl k2162)) (fun k2163 => fn_aload_n rl_O_beyond_7 rfl (fn_iload_n rl_O_beyond_8 rfl (fn_virt (as := [.ref 30, .int a1]) (r := []) (ls' := [.ref 30, .int a1]) rl_O_beyond_9 rfl hp_30 rfl rfl pl_O_isThere rfl rfl (k2163)))) k0))
set_option maxRecDepth 100000 in
set_option maxHeartbeats 4000000 in
theorem sg_O_beyond_12r {L : Nat} {xs : Nat → Int32} {A V : Nat → Nat → Int32} {K : Nat → Option Nat} {T : am_H} {v : Option Int32} {h' : am_H} {v1 r : Int32} (k0 :
    if r = 0 then (
      v = some 0 ∧ h' = hp L xs A V K T)
    else (
      am_fin [(z_O_between, 0, [.ref 30, .int ((v1 - (V 30 4)) + 1), .int v1, .null], []), (z_O_beyond, 30, [.ref 30, .int v1], [])] (hp L xs A V K T) v h')) : am_fin [(z_O_beyond, 12, [.ref 30, .int v1], [.int r])] (hp L xs A V K T) v h' :=
  fn_if_ne rl_O_beyond_12 (fun k2164 => fn_iconst rl_O_beyond_15 (fn_reti rl_O_beyond_16 rfl k2164)) (fun k2165 => fn_aload_n rl_O_beyond_17 rfl (fn_iload_n rl_O_beyond_18 rfl (fn_aload_n rl_O_beyond_19 rfl (fn_get rl_O_beyond_20 hp_30 rfl (fn_isub rl_O_beyond_23 (fn_iconst rl_O_beyond_24 (fn_iadd rl_O_beyond_25 (fn_iload_n rl_O_beyond_26 rfl (fn_virt (as := [.ref 30, .int ((v1 - (V 30 4)) + 1), .int v1]) (r := []) (ls' := [.ref 30, .int ((v1 - (V 30 4)) + 1), .int v1, .null]) rl_O_beyond_27 rfl hp_30 rfl rfl pl_O_between rfl rfl (k2165)))))))))) k0
set_option maxRecDepth 100000 in
set_option maxHeartbeats 4000000 in
theorem sg_O_beyond_30r {L : Nat} {xs : Nat → Int32} {A V : Nat → Nat → Int32} {K : Nat → Option Nat} {T : am_H} {v : Option Int32} {h' : am_H} {v1 r : Int32} (k0 :
    v = some (if (r - (V 30 5)) < 0 then 0 else (r - (V 30 5)) : Int32) ∧ h' = hp L xs A V K T) : am_fin [(z_O_beyond, 30, [.ref 30, .int v1], [.int r])] (hp L xs A V K T) v h' :=
  fn_aload_n rl_O_beyond_30 rfl (fn_get rl_O_beyond_31 hp_30 rfl (fn_isub rl_O_beyond_34 (fn_iconst rl_O_beyond_35 (fn_max rl_O_beyond_36 rfl (fn_reti rl_O_beyond_39 rfl k0)))))
set_option maxRecDepth 100000 in
set_option maxHeartbeats 4000000 in
theorem sg_P_lastOfStay_3_0 {L : Nat} {xs : Nat → Int32} {A V : Nat → Nat → Int32} {K : Nat → Option Nat} {T : am_H} {v : Option Int32} {h' : am_H} {a1 : Int32} (k0 :
    am_fin [(z_P_landOn, 0, [.ref 3, .int a1], []), (z_P_lastOfStay, 7, [.ref 3, .int a1, .int a1, .null, .null], [])] (hp L xs A V K T) v h') : am_fin [(z_P_lastOfStay, 0, [.ref 3, .int a1, .null, .null, .null], [])] (hp L xs A V K T) v h' :=
  fn_iload_n rl_P_lastOfStay_0 rfl (fn_istore_n (ls' := [.ref 3, .int a1, .int a1, .null, .null]) rl_P_lastOfStay_1 rfl rfl (fn_aload_n rl_P_lastOfStay_2 rfl (fn_iload_n rl_P_lastOfStay_3 rfl (fn_virt (as := [.ref 3, .int a1]) (r := []) (ls' := [.ref 3, .int a1]) rl_P_lastOfStay_4 rfl hp_3 rfl rfl pl_P_landOn rfl rfl (k0)))))
set_option maxRecDepth 100000 in
set_option maxHeartbeats 4000000 in
theorem sg_P_lastOfStay_3_7r {L : Nat} {xs : Nat → Int32} {A V : Nat → Nat → Int32} {K : Nat → Option Nat} {T : am_H} {v : Option Int32} {h' : am_H} {v1 v2 r : Int32} (k0 :
    am_fin [(z_P_lastOfStay, 13, [.ref 3, .int v1, .int v2, .int r, .int (v1 + 1)], [])] (hp L xs A V K T) v h') : am_fin [(z_P_lastOfStay, 7, [.ref 3, .int v1, .int v2, .null, .null], [.int r])] (hp L xs A V K T) v h' :=
  fn_istore_n (ls' := [.ref 3, .int v1, .int v2, .int r, .null]) rl_P_lastOfStay_7 rfl rfl (fn_iload_n rl_P_lastOfStay_8 rfl (fn_iconst rl_P_lastOfStay_9 (fn_iadd rl_P_lastOfStay_10 (fn_istore (ls' := [.ref 3, .int v1, .int v2, .int r, .int (v1 + 1)]) rl_P_lastOfStay_11 rfl rfl (k0)))))
set_option maxRecDepth 100000 in
set_option maxHeartbeats 4000000 in
theorem sg_P_lastOfStay_3_13 {L : Nat} {xs : Nat → Int32} {A V : Nat → Nat → Int32} {K : Nat → Option Nat} {T : am_H} {v : Option Int32} {h' : am_H} {v1 v2 v3 v4 : Int32} (k0 :
    if 1080 ≤ v4 then (
      v = some v2 ∧ h' = hp L xs A V K T)
    else (
      ¬ (v4 < 0 ∨ 1080 ≤ v4.toNatClampNeg) ∧ (
      if ((A 4) v4.toNatClampNeg) = v3 then (
        am_fin [(z_P_lastOfStay, 13, [.ref 3, .int v1, .int v4, .int v3, .int (v4 + 1)], [])] (hp L xs A V K T) v h')
      else (
        v = some v2 ∧ h' = hp L xs A V K T)))) : am_fin [(z_P_lastOfStay, 13, [.ref 3, .int v1, .int v2, .int v3, .int v4], [])] (hp L xs A V K T) v h' :=
  fn_iload rl_P_lastOfStay_13 rfl (fn_sipush rl_P_lastOfStay_15 (fn_icmp_ge rl_P_lastOfStay_18 (fun k2169 => fn_iload_n rl_P_lastOfStay_41 rfl (fn_reti rl_P_lastOfStay_42 rfl k2169)) (fun k2170 => fn_aload_n rl_P_lastOfStay_21 rfl (fn_get rl_P_lastOfStay_22 hp_3 rfl (fn_iload rl_P_lastOfStay_25 rfl (fn_iald rl_P_lastOfStay_27 hp_4 (fun k2168 => fn_iload_n rl_P_lastOfStay_28 rfl (fn_icmp_ne rl_P_lastOfStay_29 (fun k2166 => fn_iload rl_P_lastOfStay_32 rfl (fn_istore_n (ls' := [.ref 3, .int v1, .int v4, .int v3, .int v4]) rl_P_lastOfStay_34 rfl rfl (fn_iinc (ls' := [.ref 3, .int v1, .int v4, .int v3, .int (v4 + 1)]) rl_P_lastOfStay_35 rfl rfl rfl (fn_goto rl_P_lastOfStay_38 (k2166))))) (fun k2167 => fn_iload_n rl_P_lastOfStay_41 rfl (fn_reti rl_P_lastOfStay_42 rfl k2167)) k2168)) k2170)))) k0))
set_option maxRecDepth 100000 in
set_option maxHeartbeats 4000000 in
theorem sg_J_weigh_3_0 {L : Nat} {xs : Nat → Int32} {A V : Nat → Nat → Int32} {K : Nat → Option Nat} {T : am_H} {v : Option Int32} {h' : am_H} (k0 :
    am_fin [(z_J_weighHomes, 0, [.ref 26, .null, .null, .null, .null], []), (z_J_weigh, 4, [.ref 26, .ref 3], [])] (hp L xs A V K T) v h') : am_fin [(z_J_weigh, 0, [.ref 26, .ref 3], [])] (hp L xs A V K T) v h' :=
  fn_aload_n rl_J_weigh_0 rfl (fn_virt (as := [.ref 26]) (r := []) (ls' := [.ref 26, .null, .null, .null, .null]) rl_J_weigh_1 rfl hp_26 rfl rfl pl_J_weighHomes rfl rfl (k0))
set_option maxRecDepth 100000 in
set_option maxHeartbeats 4000000 in
theorem sg_J_weigh_3_4r {L : Nat} {xs : Nat → Int32} {A V : Nat → Nat → Int32} {K : Nat → Option Nat} {T : am_H} {v : Option Int32} {h' : am_H} (k0 :
    am_fin [(z_J_weighPlaces, 0, [.ref 26, .ref 3], []), (z_J_weigh, 9, [.ref 26, .ref 3], [])] (hp L xs A V K T) v h') : am_fin [(z_J_weigh, 4, [.ref 26, .ref 3], [])] (hp L xs A V K T) v h' :=
  fn_aload_n rl_J_weigh_4 rfl (fn_aload_n rl_J_weigh_5 rfl (fn_virt (as := [.ref 26, .ref 3]) (r := []) (ls' := [.ref 26, .ref 3]) rl_J_weigh_6 rfl hp_26 rfl rfl pl_J_weighPlaces rfl rfl (k0)))
set_option maxRecDepth 100000 in
set_option maxHeartbeats 4000000 in
theorem sg_J_weigh_3_9r {L : Nat} {xs : Nat → Int32} {A V : Nat → Nat → Int32} {K : Nat → Option Nat} {T : am_H} {v : Option Int32} {h' : am_H} (k0 :
    v = none ∧ h' = hp L xs A V K T) : am_fin [(z_J_weigh, 9, [.ref 26, .ref 3], [])] (hp L xs A V K T) v h' :=
  fn_retv rl_J_weigh_9 k0
set_option maxRecDepth 100000 in
set_option maxHeartbeats 4000000 in
theorem sg_J_greatest_0 {L : Nat} {xs : Nat → Int32} {A V : Nat → Nat → Int32} {K : Nat → Option Nat} {T : am_H} {v : Option Int32} {h' : am_H} {a1 a2 a3 : Int32} (k0 :
    ¬ (((a1 * 3) + a3) < 0 ∨ 18 ≤ ((a1 * 3) + a3).toNatClampNeg) ∧ (
    if a2 = 0 then (
      v = some ((A 27) ((a1 * 3) + a3).toNatClampNeg) ∧ h' = hp L xs A V K T)
    else (
      if a2 = 1 then (
        if 31 ≤ ((A 27) ((a1 * 3) + a3).toNatClampNeg) then (
          if a3 ≤ 0 then (
            if a3 ≤ 1 then (
              if (((6 * ((A 27) ((a1 * 3) + a3).toNatClampNeg)) + 0) + 0) < 2160 then (
                v = some ((((6 * ((A 27) ((a1 * 3) + a3).toNatClampNeg)) + 0) + 0) / 6) ∧ h' = hp L xs A V K T)
              else (
                v = some 360 ∧ h' = hp L xs A V K T))
            else (
              ¬ ((((a1 * 3) + a3) - 2) < 0 ∨ 18 ≤ (((a1 * 3) + a3) - 2).toNatClampNeg) ∧ (
              if (((6 * ((A 27) ((a1 * 3) + a3).toNatClampNeg)) + 0) + ((A 27) (((a1 * 3) + a3) - 2).toNatClampNeg)) < 2160 then (
                v = some ((((6 * ((A 27) ((a1 * 3) + a3).toNatClampNeg)) + 0) + ((A 27) (((a1 * 3) + a3) - 2).toNatClampNeg)) / 6) ∧ h' = hp L xs A V K T)
              else (
                v = some 360 ∧ h' = hp L xs A V K T))))
          else (
            ¬ ((((a1 * 3) + a3) - 1) < 0 ∨ 18 ≤ (((a1 * 3) + a3) - 1).toNatClampNeg) ∧ (
            if a3 ≤ 1 then (
              if (((6 * ((A 27) ((a1 * 3) + a3).toNatClampNeg)) + (2 * ((A 27) (((a1 * 3) + a3) - 1).toNatClampNeg))) + 0) < 2160 then (
                v = some ((((6 * ((A 27) ((a1 * 3) + a3).toNatClampNeg)) + (2 * ((A 27) (((a1 * 3) + a3) - 1).toNatClampNeg))) + 0) / 6) ∧ h' = hp L xs A V K T)
              else (
                v = some 360 ∧ h' = hp L xs A V K T))
            else (
              ¬ ((((a1 * 3) + a3) - 2) < 0 ∨ 18 ≤ (((a1 * 3) + a3) - 2).toNatClampNeg) ∧ (
              if (((6 * ((A 27) ((a1 * 3) + a3).toNatClampNeg)) + (2 * ((A 27) (((a1 * 3) + a3) - 1).toNatClampNeg))) + ((A 27) (((a1 * 3) + a3) - 2).toNatClampNeg)) < 2160 then (
                v = some ((((6 * ((A 27) ((a1 * 3) + a3).toNatClampNeg)) + (2 * ((A 27) (((a1 * 3) + a3) - 1).toNatClampNeg))) + ((A 27) (((a1 * 3) + a3) - 2).toNatClampNeg)) / 6) ∧ h' = hp L xs A V K T)
              else (
                v = some 360 ∧ h' = hp L xs A V K T))))))
        else (
          v = some 0 ∧ h' = hp L xs A V K T))
      else (
        if ((A 27) ((a1 * 3) + a3).toNatClampNeg) = 0 then (
          v = some 0 ∧ h' = hp L xs A V K T)
        else (
          ¬ (((a1 * 3) + a3) < 0 ∨ 18 ≤ ((a1 * 3) + a3).toNatClampNeg) ∧ (
          v = some ((A 28) ((a1 * 3) + a3).toNatClampNeg) ∧ h' = hp L xs A V K T)))))) : am_fin [(z_J_greatest, 0, [.ref 26, .int a1, .int a2, .int a3, .null, .null, .null], [])] (hp L xs A V K T) v h' :=
  fn_iload_n rl_J_greatest_0 rfl (fn_iconst rl_J_greatest_1 (fn_imul rl_J_greatest_2 (fn_iload_n rl_J_greatest_3 rfl (fn_iadd rl_J_greatest_4 (fn_istore (ls' := [.ref 26, .int a1, .int a2, .int a3, .int ((a1 * 3) + a3), .null, .null]) rl_J_greatest_5 rfl rfl (fn_aload_n rl_J_greatest_7 rfl (fn_get rl_J_greatest_8 hp_26 rfl (fn_iload rl_J_greatest_11 rfl (fn_iald rl_J_greatest_13 hp_27 (fun k2197 => fn_istore (ls' := [.ref 26, .int a1, .int a2, .int a3, .int ((a1 * 3) + a3), .int ((A 27) ((a1 * 3) + a3).toNatClampNeg), .null]) rl_J_greatest_14 rfl rfl (fn_iload_n rl_J_greatest_16 rfl (fn_if_ne rl_J_greatest_17 (fun k2195 => fn_iload rl_J_greatest_20 rfl (fn_reti rl_J_greatest_22 rfl k2195)) (fun k2196 => fn_iload_n rl_J_greatest_23 rfl (fn_iconst rl_J_greatest_24 (fn_icmp_eq rl_J_greatest_25 (fun k2193 => fn_iload rl_J_greatest_45 rfl (fn_bipush rl_J_greatest_47 (fn_icmp_ge rl_J_greatest_49 (fun k2188 => fn_bipush rl_J_greatest_54 (fn_iload rl_J_greatest_56 rfl (fn_imul rl_J_greatest_58 (fn_istore (ls' := [.ref 26, .int a1, .int a2, .int a3, .int ((a1 * 3) + a3), .int ((A 27) ((a1 * 3) + a3).toNatClampNeg), .int (6 * ((A 27) ((a1 * 3) + a3).toNatClampNeg))]) rl_J_greatest_59 rfl rfl (fn_iload rl_J_greatest_61 rfl (fn_iload_n rl_J_greatest_63 rfl (fn_if_le rl_J_greatest_64 (fun k2186 => fn_iconst rl_J_greatest_81 (fn_iadd rl_J_greatest_82 (fn_istore (ls' := [.ref 26, .int a1, .int a2, .int a3, .int ((a1 * 3) + a3), .int ((A 27) ((a1 * 3) + a3).toNatClampNeg), .int ((6 * ((A 27) ((a1 * 3) + a3).toNatClampNeg)) + 0)]) rl_J_greatest_83 rfl rfl (fn_iload rl_J_greatest_85 rfl (fn_iload_n rl_J_greatest_87 rfl (fn_iconst rl_J_greatest_88 (fn_icmp_le rl_J_greatest_89 (fun k2176 => fn_iconst rl_J_greatest_104 (fn_iadd rl_J_greatest_105 (fn_istore (ls' := [.ref 26, .int a1, .int a2, .int a3, .int ((a1 * 3) + a3), .int ((A 27) ((a1 * 3) + a3).toNatClampNeg), .int (((6 * ((A 27) ((a1 * 3) + a3).toNatClampNeg)) + 0) + 0)]) rl_J_greatest_106 rfl rfl (fn_iload rl_J_greatest_108 rfl (fn_sipush rl_J_greatest_110 (fn_icmp_lt rl_J_greatest_113 (fun k2171 => fn_iload rl_J_greatest_122 rfl (fn_bipush rl_J_greatest_124 (fn_idiv rl_J_greatest_126 (by decide +kernel) (fn_reti rl_J_greatest_127 rfl k2171)))) (fun k2172 => fn_sipush rl_J_greatest_116 (fn_goto rl_J_greatest_119 (fn_reti rl_J_greatest_127 rfl k2172))) k2176)))))) (fun k2177 => fn_aload_n rl_J_greatest_92 rfl (fn_get rl_J_greatest_93 hp_26 rfl (fn_iload rl_J_greatest_96 rfl (fn_iconst rl_J_greatest_98 (fn_isub rl_J_greatest_99 (fn_iald rl_J_greatest_100 hp_27 (fun k2175 => fn_goto rl_J_greatest_101 (fn_iadd rl_J_greatest_105 (fn_istore (ls' := [.ref 26, .int a1, .int a2, .int a3, .int ((a1 * 3) + a3), .int ((A 27) ((a1 * 3) + a3).toNatClampNeg), .int (((6 * ((A 27) ((a1 * 3) + a3).toNatClampNeg)) + 0) + ((A 27) (((a1 * 3) + a3) - 2).toNatClampNeg))]) rl_J_greatest_106 rfl rfl (fn_iload rl_J_greatest_108 rfl (fn_sipush rl_J_greatest_110 (fn_icmp_lt rl_J_greatest_113 (fun k2173 => fn_iload rl_J_greatest_122 rfl (fn_bipush rl_J_greatest_124 (fn_idiv rl_J_greatest_126 (by decide +kernel) (fn_reti rl_J_greatest_127 rfl k2173)))) (fun k2174 => fn_sipush rl_J_greatest_116 (fn_goto rl_J_greatest_119 (fn_reti rl_J_greatest_127 rfl k2174))) k2175)))))) k2177)))))) k2186))))))) (fun k2187 => fn_iconst rl_J_greatest_67 (fn_aload_n rl_J_greatest_68 rfl (fn_get rl_J_greatest_69 hp_26 rfl (fn_iload rl_J_greatest_72 rfl (fn_iconst rl_J_greatest_74 (fn_isub rl_J_greatest_75 (fn_iald rl_J_greatest_76 hp_27 (fun k2185 => fn_imul rl_J_greatest_77 (fn_goto rl_J_greatest_78 (fn_iadd rl_J_greatest_82 (fn_istore (ls' := [.ref 26, .int a1, .int a2, .int a3, .int ((a1 * 3) + a3), .int ((A 27) ((a1 * 3) + a3).toNatClampNeg), .int ((6 * ((A 27) ((a1 * 3) + a3).toNatClampNeg)) + (2 * ((A 27) (((a1 * 3) + a3) - 1).toNatClampNeg)))]) rl_J_greatest_83 rfl rfl (fn_iload rl_J_greatest_85 rfl (fn_iload_n rl_J_greatest_87 rfl (fn_iconst rl_J_greatest_88 (fn_icmp_le rl_J_greatest_89 (fun k2183 => fn_iconst rl_J_greatest_104 (fn_iadd rl_J_greatest_105 (fn_istore (ls' := [.ref 26, .int a1, .int a2, .int a3, .int ((a1 * 3) + a3), .int ((A 27) ((a1 * 3) + a3).toNatClampNeg), .int (((6 * ((A 27) ((a1 * 3) + a3).toNatClampNeg)) + (2 * ((A 27) (((a1 * 3) + a3) - 1).toNatClampNeg))) + 0)]) rl_J_greatest_106 rfl rfl (fn_iload rl_J_greatest_108 rfl (fn_sipush rl_J_greatest_110 (fn_icmp_lt rl_J_greatest_113 (fun k2178 => fn_iload rl_J_greatest_122 rfl (fn_bipush rl_J_greatest_124 (fn_idiv rl_J_greatest_126 (by decide +kernel) (fn_reti rl_J_greatest_127 rfl k2178)))) (fun k2179 => fn_sipush rl_J_greatest_116 (fn_goto rl_J_greatest_119 (fn_reti rl_J_greatest_127 rfl k2179))) k2183)))))) (fun k2184 => fn_aload_n rl_J_greatest_92 rfl (fn_get rl_J_greatest_93 hp_26 rfl (fn_iload rl_J_greatest_96 rfl (fn_iconst rl_J_greatest_98 (fn_isub rl_J_greatest_99 (fn_iald rl_J_greatest_100 hp_27 (fun k2182 => fn_goto rl_J_greatest_101 (fn_iadd rl_J_greatest_105 (fn_istore (ls' := [.ref 26, .int a1, .int a2, .int a3, .int ((a1 * 3) + a3), .int ((A 27) ((a1 * 3) + a3).toNatClampNeg), .int (((6 * ((A 27) ((a1 * 3) + a3).toNatClampNeg)) + (2 * ((A 27) (((a1 * 3) + a3) - 1).toNatClampNeg))) + ((A 27) (((a1 * 3) + a3) - 2).toNatClampNeg))]) rl_J_greatest_106 rfl rfl (fn_iload rl_J_greatest_108 rfl (fn_sipush rl_J_greatest_110 (fn_icmp_lt rl_J_greatest_113 (fun k2180 => fn_iload rl_J_greatest_122 rfl (fn_bipush rl_J_greatest_124 (fn_idiv rl_J_greatest_126 (by decide +kernel) (fn_reti rl_J_greatest_127 rfl k2180)))) (fun k2181 => fn_sipush rl_J_greatest_116 (fn_goto rl_J_greatest_119 (fn_reti rl_J_greatest_127 rfl k2181))) k2182)))))) k2184)))))) k2185)))))))) k2187))))))) k2188))))))) (fun k2189 => fn_iconst rl_J_greatest_52 (fn_reti rl_J_greatest_53 rfl k2189)) k2193))) (fun k2194 => fn_iload rl_J_greatest_28 rfl (fn_if_ne rl_J_greatest_30 (fun k2191 => fn_iconst rl_J_greatest_33 (fn_goto rl_J_greatest_34 (fn_reti rl_J_greatest_44 rfl k2191))) (fun k2192 => fn_aload_n rl_J_greatest_37 rfl (fn_get rl_J_greatest_38 hp_26 rfl (fn_iload rl_J_greatest_41 rfl (fn_iald rl_J_greatest_43 hp_28 (fun k2190 => fn_reti rl_J_greatest_44 rfl k2190) k2192)))) k2194)) k2196))) k2197))) k0)))))))))
set_option maxRecDepth 100000 in
set_option maxHeartbeats 4000000 in
theorem sg_O_between_0 {L : Nat} {xs : Nat → Int32} {A V : Nat → Nat → Int32} {K : Nat → Option Nat} {T : am_H} {v : Option Int32} {h' : am_H} {a1 a2 : Int32} (k0 :
    if a2 < (if a1 < 0 then 0 else a1 : Int32) then (
      v = some 0 ∧ h' = hp L xs A V K T)
    else (
      if 1080 ≤ a2 then (
        v = some 0 ∧ h' = hp L xs A V K T)
      else (
        ¬ ((a2 + 1) < 0 ∨ 1081 ≤ (a2 + 1).toNatClampNeg) ∧ (
        ¬ ((if a1 < 0 then 0 else a1 : Int32) < 0 ∨ 1081 ≤ (if a1 < 0 then 0 else a1 : Int32).toNatClampNeg) ∧ (
        v = some (((A 31) (a2 + 1).toNatClampNeg) - ((A 31) (if a1 < 0 then 0 else a1 : Int32).toNatClampNeg)) ∧ h' = hp L xs A V K T))))) : am_fin [(z_O_between, 0, [.ref 30, .int a1, .int a2, .null], [])] (hp L xs A V K T) v h' :=
  fn_iload_n rl_O_between_0 rfl (fn_iconst rl_O_between_1 (fn_max rl_O_between_2 rfl (fn_istore_n (ls' := [.ref 30, .int a1, .int a2, .int (if a1 < 0 then 0 else a1 : Int32)]) rl_O_between_5 rfl rfl (fn_iload_n rl_O_between_6 rfl (fn_iload_n rl_O_between_7 rfl (fn_icmp_gt rl_O_between_8 (fun k2202 => fn_iconst rl_O_between_36 (fn_reti rl_O_between_37 rfl k2202)) (fun k2203 => fn_iload_n rl_O_between_11 rfl (fn_sipush rl_O_between_12 (fn_icmp_ge rl_O_between_15 (fun k2200 => fn_iconst rl_O_between_36 (fn_reti rl_O_between_37 rfl k2200)) (fun k2201 => fn_aload_n rl_O_between_18 rfl (fn_get rl_O_between_19 hp_30 rfl (fn_iload_n rl_O_between_22 rfl (fn_iconst rl_O_between_23 (fn_iadd rl_O_between_24 (fn_iald rl_O_between_25 hp_31 (fun k2199 => fn_aload_n rl_O_between_26 rfl (fn_get rl_O_between_27 hp_30 rfl (fn_iload_n rl_O_between_30 rfl (fn_iald rl_O_between_31 hp_31 (fun k2198 => fn_isub rl_O_between_32 (fn_goto rl_O_between_33 (fn_reti rl_O_between_37 rfl k2198))) k2199)))) k2201)))))) k2203))) k0))))))
set_option maxRecDepth 100000 in
set_option maxHeartbeats 4000000 in
theorem sg_J_landsAbove_0 {L : Nat} {xs : Nat → Int32} {A V : Nat → Nat → Int32} {K : Nat → Option Nat} {T : am_H} {v : Option Int32} {h' : am_H} {a1 a2 : Int32} (k0 :
    ¬ (((a1 * 3) + a2) < 0 ∨ 18 ≤ ((a1 * 3) + a2).toNatClampNeg) ∧ (
    am_fin [(z_J_landsAbove, 17, [.ref 26, .int a1, .int a2, .int ((A 27) ((a1 * 3) + a2).toNatClampNeg), .int 0, .int 0, .null], [])] (hp L xs A V K T) v h')) : am_fin [(z_J_landsAbove, 0, [.ref 26, .int a1, .int a2, .null, .null, .null, .null], [])] (hp L xs A V K T) v h' :=
  fn_aload_n rl_J_landsAbove_0 rfl (fn_get rl_J_landsAbove_1 hp_26 rfl (fn_iload_n rl_J_landsAbove_4 rfl (fn_iload_n rl_J_landsAbove_5 rfl (fn_stat (as := [.int a1, .int a2]) (r := [.ref 27]) (ls' := [.int a1, .int a2]) rl_J_landsAbove_6 rfl rfl rfl rfl pl_L_spot rfl rfl (fn_iload_n rl_L_spot_0 rfl (fn_iconst rl_L_spot_1 (fn_imul rl_L_spot_2 (fn_iload_n rl_L_spot_3 rfl (fn_iadd rl_L_spot_4 (fn_retci rl_L_spot_5 rfl (fn_iald rl_J_landsAbove_9 hp_27 (fun k2204 => fn_istore_n (ls' := [.ref 26, .int a1, .int a2, .int ((A 27) ((a1 * 3) + a2).toNatClampNeg), .null, .null, .null]) rl_J_landsAbove_10 rfl rfl (fn_iconst rl_J_landsAbove_11 (fn_istore (ls' := [.ref 26, .int a1, .int a2, .int ((A 27) ((a1 * 3) + a2).toNatClampNeg), .int 0, .null, .null]) rl_J_landsAbove_12 rfl rfl (fn_iconst rl_J_landsAbove_14 (fn_istore (ls' := [.ref 26, .int a1, .int a2, .int ((A 27) ((a1 * 3) + a2).toNatClampNeg), .int 0, .int 0, .null]) rl_J_landsAbove_15 rfl rfl (k2204)))))) k0)))))))))))
set_option maxRecDepth 100000 in
set_option maxHeartbeats 4000000 in
theorem sg_J_landsAbove_17 {L : Nat} {xs : Nat → Int32} {A V : Nat → Nat → Int32} {K : Nat → Option Nat} {T : am_H} {v : Option Int32} {h' : am_H} {v1 v2 v3 v4 v5 : Int32} (k0 :
    if 6 ≤ v5 then (
      v = some v4 ∧ h' = hp L xs A V K T)
    else (
      ¬ (((v5 * 3) + v2) < 0 ∨ 18 ≤ ((v5 * 3) + v2).toNatClampNeg) ∧ (
      if v3 < ((A 27) ((v5 * 3) + v2).toNatClampNeg) then (
        am_fin [(z_J_landsAbove, 17, [.ref 26, .int v1, .int v2, .int v3, .int (v4 + 1), .int (v5 + 1), .int ((A 27) ((v5 * 3) + v2).toNatClampNeg)], [])] (hp L xs A V K T) v h')
      else (
        if ((A 27) ((v5 * 3) + v2).toNatClampNeg) = v3 then (
          if v1 ≤ v5 then (
            am_fin [(z_J_landsAbove, 17, [.ref 26, .int v1, .int v2, .int v3, .int v4, .int (v5 + 1), .int ((A 27) ((v5 * 3) + v2).toNatClampNeg)], [])] (hp L xs A V K T) v h')
          else (
            am_fin [(z_J_landsAbove, 17, [.ref 26, .int v1, .int v2, .int v3, .int (v4 + 1), .int (v5 + 1), .int ((A 27) ((v5 * 3) + v2).toNatClampNeg)], [])] (hp L xs A V K T) v h'))
        else (
          am_fin [(z_J_landsAbove, 17, [.ref 26, .int v1, .int v2, .int v3, .int v4, .int (v5 + 1), .int ((A 27) ((v5 * 3) + v2).toNatClampNeg)], [])] (hp L xs A V K T) v h'))))) : am_fin [(z_J_landsAbove, 17, [.ref 26, .int v1, .int v2, .int v3, .int v4, .int v5, .null], [])] (hp L xs A V K T) v h' :=
  fn_iload rl_J_landsAbove_17 rfl (fn_bipush rl_J_landsAbove_19 (fn_icmp_ge rl_J_landsAbove_21 (fun k2212 => fn_iload rl_J_landsAbove_64 rfl (fn_reti rl_J_landsAbove_66 rfl k2212)) (fun k2213 => fn_aload_n rl_J_landsAbove_24 rfl (fn_get rl_J_landsAbove_25 hp_26 rfl (fn_iload rl_J_landsAbove_28 rfl (fn_iload_n rl_J_landsAbove_30 rfl (fn_stat (as := [.int v5, .int v2]) (r := [.ref 27]) (ls' := [.int v5, .int v2]) rl_J_landsAbove_31 rfl rfl rfl rfl pl_L_spot rfl rfl (fn_iload_n rl_L_spot_0 rfl (fn_iconst rl_L_spot_1 (fn_imul rl_L_spot_2 (fn_iload_n rl_L_spot_3 rfl (fn_iadd rl_L_spot_4 (fn_retci rl_L_spot_5 rfl (fn_iald rl_J_landsAbove_34 hp_27 (fun k2211 => fn_istore (ls' := [.ref 26, .int v1, .int v2, .int v3, .int v4, .int v5, .int ((A 27) ((v5 * 3) + v2).toNatClampNeg)]) rl_J_landsAbove_35 rfl rfl (fn_iload rl_J_landsAbove_37 rfl (fn_iload_n rl_J_landsAbove_39 rfl (fn_icmp_gt rl_J_landsAbove_40 (fun k2209 => fn_iinc (ls' := [.ref 26, .int v1, .int v2, .int v3, .int (v4 + 1), .int v5, .int ((A 27) ((v5 * 3) + v2).toNatClampNeg)]) rl_J_landsAbove_55 rfl rfl rfl (fn_iinc (ls' := [.ref 26, .int v1, .int v2, .int v3, .int (v4 + 1), .int (v5 + 1), .int ((A 27) ((v5 * 3) + v2).toNatClampNeg)]) rl_J_landsAbove_58 rfl rfl rfl (fn_goto rl_J_landsAbove_61 (k2209)))) (fun k2210 => fn_iload rl_J_landsAbove_43 rfl (fn_iload_n rl_J_landsAbove_45 rfl (fn_icmp_ne rl_J_landsAbove_46 (fun k2207 => fn_iload rl_J_landsAbove_49 rfl (fn_iload_n rl_J_landsAbove_51 rfl (fn_icmp_ge rl_J_landsAbove_52 (fun k2205 => fn_iinc (ls' := [.ref 26, .int v1, .int v2, .int v3, .int v4, .int (v5 + 1), .int ((A 27) ((v5 * 3) + v2).toNatClampNeg)]) rl_J_landsAbove_58 rfl rfl rfl (fn_goto rl_J_landsAbove_61 (k2205))) (fun k2206 => fn_iinc (ls' := [.ref 26, .int v1, .int v2, .int v3, .int (v4 + 1), .int v5, .int ((A 27) ((v5 * 3) + v2).toNatClampNeg)]) rl_J_landsAbove_55 rfl rfl rfl (fn_iinc (ls' := [.ref 26, .int v1, .int v2, .int v3, .int (v4 + 1), .int (v5 + 1), .int ((A 27) ((v5 * 3) + v2).toNatClampNeg)]) rl_J_landsAbove_58 rfl rfl rfl (fn_goto rl_J_landsAbove_61 (k2206)))) k2207))) (fun k2208 => fn_iinc (ls' := [.ref 26, .int v1, .int v2, .int v3, .int v4, .int (v5 + 1), .int ((A 27) ((v5 * 3) + v2).toNatClampNeg)]) rl_J_landsAbove_58 rfl rfl rfl (fn_goto rl_J_landsAbove_61 (k2208))) k2210))) k2211)))) k2213)))))))))))) k0))
set_option maxRecDepth 100000 in
set_option maxHeartbeats 4000000 in
theorem sg_P_put_34_0 {L : Nat} {xs : Nat → Int32} {A V : Nat → Nat → Int32} {K : Nat → Option Nat} {T : am_H} {v : Option Int32} {h' : am_H} {a1 a2 a3 : Int32} (k0 :
    am_fin [(z_P_put, 10, [.ref 34, .int a1, .int a2, .int a3, .int 0, .int (if a2 < 0 then 0 else a2 : Int32)], [])] (hp L xs A V K T) v h') : am_fin [(z_P_put, 0, [.ref 34, .int a1, .int a2, .int a3, .null, .null], [])] (hp L xs A V K T) v h' :=
  fn_iconst rl_P_put_0 (fn_istore (ls' := [.ref 34, .int a1, .int a2, .int a3, .int 0, .null]) rl_P_put_1 rfl rfl (fn_iload_n rl_P_put_3 rfl (fn_iconst rl_P_put_4 (fn_max rl_P_put_5 rfl (fn_istore (ls' := [.ref 34, .int a1, .int a2, .int a3, .int 0, .int (if a2 < 0 then 0 else a2 : Int32)]) rl_P_put_8 rfl rfl (k0))))))
set_option maxRecDepth 100000 in
set_option maxHeartbeats 4000000 in
theorem sg_P_put_34_10 {L : Nat} {xs : Nat → Int32} {A V : Nat → Nat → Int32} {K : Nat → Option Nat} {T : am_H} {v : Option Int32} {h' : am_H} {v1 v2 v3 v4 v5 : Int32} (k0 :
    if v3 < v5 then (
      v = some v4 ∧ h' = hp L xs A V K T)
    else (
      if 1080 ≤ v5 then (
        v = some v4 ∧ h' = hp L xs A V K T)
      else (
        ¬ (v5 < 0 ∨ 1080 ≤ v5.toNatClampNeg) ∧ (
        if ((A 35) v5.toNatClampNeg) = v1 then (
          am_fin [(z_P_put, 10, [.ref 34, .int v1, .int v2, .int v3, .int v4, .int (v5 + 1)], [])] (hp L xs A V K T) v h')
        else (
          ¬ (v5 < 0 ∨ 1080 ≤ v5.toNatClampNeg) ∧ (
          am_fin [(z_P_put, 10, [.ref 34, .int v1, .int v2, .int v3, .int (v4 + 1), .int (v5 + 1)], [])] (hp L xs (upA A 35 (upd (A 35) v5.toNatClampNeg v1)) V K T) v h')))))) : am_fin [(z_P_put, 10, [.ref 34, .int v1, .int v2, .int v3, .int v4, .int v5], [])] (hp L xs A V K T) v h' :=
  fn_iload rl_P_put_10 rfl (fn_iload_n rl_P_put_12 rfl (fn_icmp_gt rl_P_put_13 (fun k2220 => fn_iload rl_P_put_52 rfl (fn_reti rl_P_put_54 rfl k2220)) (fun k2221 => fn_iload rl_P_put_16 rfl (fn_sipush rl_P_put_18 (fn_icmp_ge rl_P_put_21 (fun k2218 => fn_iload rl_P_put_52 rfl (fn_reti rl_P_put_54 rfl k2218)) (fun k2219 => fn_aload_n rl_P_put_24 rfl (fn_get rl_P_put_25 hp_34 rfl (fn_iload rl_P_put_28 rfl (fn_iald rl_P_put_30 hp_35 (fun k2217 => fn_iload_n rl_P_put_31 rfl (fn_icmp_eq rl_P_put_32 (fun k2215 => fn_iinc (ls' := [.ref 34, .int v1, .int v2, .int v3, .int v4, .int (v5 + 1)]) rl_P_put_46 rfl rfl rfl (fn_goto rl_P_put_49 (k2215))) (fun k2216 => fn_aload_n rl_P_put_35 rfl (fn_get rl_P_put_36 hp_34 rfl (fn_iload rl_P_put_39 rfl (fn_iload_n rl_P_put_41 rfl (fn_iast rl_P_put_42 hp_35 hps_35 (fun k2214 => fn_iinc (ls' := [.ref 34, .int v1, .int v2, .int v3, .int (v4 + 1), .int v5]) rl_P_put_43 rfl rfl rfl (fn_iinc (ls' := [.ref 34, .int v1, .int v2, .int v3, .int (v4 + 1), .int (v5 + 1)]) rl_P_put_46 rfl rfl rfl (fn_goto rl_P_put_49 (k2214)))) k2216))))) k2217)) k2219)))) k2221))) k0))
set_option maxRecDepth 100000 in
set_option maxHeartbeats 4000000 in
theorem sg_P_becomeLike_3_34_0 {L : Nat} {xs : Nat → Int32} {A V : Nat → Nat → Int32} {K : Nat → Option Nat} {T : am_H} {v : Option Int32} {h' : am_H} (k0 :
    am_fin [(z_P_becomeLike, 4, [.ref 3, .ref 34, .int 0, .int 0], [])] (hp L xs A V K T) v h') : am_fin [(z_P_becomeLike, 0, [.ref 3, .ref 34, .null, .null], [])] (hp L xs A V K T) v h' :=
  fn_iconst rl_P_becomeLike_0 (fn_istore_n (ls' := [.ref 3, .ref 34, .int 0, .null]) rl_P_becomeLike_1 rfl rfl (fn_iconst rl_P_becomeLike_2 (fn_istore_n (ls' := [.ref 3, .ref 34, .int 0, .int 0]) rl_P_becomeLike_3 rfl rfl (k0))))
set_option maxRecDepth 100000 in
set_option maxHeartbeats 4000000 in
theorem sg_P_becomeLike_3_34_4 {L : Nat} {xs : Nat → Int32} {A V : Nat → Nat → Int32} {K : Nat → Option Nat} {T : am_H} {v : Option Int32} {h' : am_H} {v2 v3 : Int32} (k0 :
    if 1080 ≤ v3 then (
      v = some v2 ∧ h' = hp L xs A V K T)
    else (
      ¬ (v3 < 0 ∨ 1080 ≤ v3.toNatClampNeg) ∧ (
      ¬ (v3 < 0 ∨ 1080 ≤ v3.toNatClampNeg) ∧ (
      if ((A 4) v3.toNatClampNeg) = ((A 35) v3.toNatClampNeg) then (
        am_fin [(z_P_becomeLike, 4, [.ref 3, .ref 34, .int v2, .int (v3 + 1)], [])] (hp L xs A V K T) v h')
      else (
        ¬ (v3 < 0 ∨ 1080 ≤ v3.toNatClampNeg) ∧ (
        ¬ (v3 < 0 ∨ 1080 ≤ v3.toNatClampNeg) ∧ (
        am_fin [(z_P_becomeLike, 4, [.ref 3, .ref 34, .int (v2 + 1), .int (v3 + 1)], [])] (hp L xs (upA A 4 (upd (A 4) v3.toNatClampNeg ((A 35) v3.toNatClampNeg))) V K T) v h'))))))) : am_fin [(z_P_becomeLike, 4, [.ref 3, .ref 34, .int v2, .int v3], [])] (hp L xs A V K T) v h' :=
  fn_iload_n rl_P_becomeLike_4 rfl (fn_sipush rl_P_becomeLike_5 (fn_icmp_ge rl_P_becomeLike_8 (fun k2228 => fn_iload_n rl_P_becomeLike_47 rfl (fn_reti rl_P_becomeLike_48 rfl k2228)) (fun k2229 => fn_aload_n rl_P_becomeLike_11 rfl (fn_get rl_P_becomeLike_12 hp_3 rfl (fn_iload_n rl_P_becomeLike_15 rfl (fn_iald rl_P_becomeLike_16 hp_4 (fun k2227 => fn_aload_n rl_P_becomeLike_17 rfl (fn_get rl_P_becomeLike_18 hp_34 rfl (fn_iload_n rl_P_becomeLike_21 rfl (fn_iald rl_P_becomeLike_22 hp_35 (fun k2226 => fn_icmp_eq rl_P_becomeLike_23 (fun k2224 => fn_iinc (ls' := [.ref 3, .ref 34, .int v2, .int (v3 + 1)]) rl_P_becomeLike_41 rfl rfl rfl (fn_goto rl_P_becomeLike_44 (k2224))) (fun k2225 => fn_aload_n rl_P_becomeLike_26 rfl (fn_get rl_P_becomeLike_27 hp_3 rfl (fn_iload_n rl_P_becomeLike_30 rfl (fn_aload_n rl_P_becomeLike_31 rfl (fn_get rl_P_becomeLike_32 hp_34 rfl (fn_iload_n rl_P_becomeLike_35 rfl (fn_iald rl_P_becomeLike_36 hp_35 (fun k2223 => fn_iast rl_P_becomeLike_37 hp_4 hps_4 (fun k2222 => fn_iinc (ls' := [.ref 3, .ref 34, .int (v2 + 1), .int v3]) rl_P_becomeLike_38 rfl rfl rfl (fn_iinc (ls' := [.ref 3, .ref 34, .int (v2 + 1), .int (v3 + 1)]) rl_P_becomeLike_41 rfl rfl rfl (fn_goto rl_P_becomeLike_44 (k2222)))) k2223) k2225))))))) k2226) k2227)))) k2229)))) k0))
set_option maxRecDepth 100000 in
set_option maxHeartbeats 4000000 in
theorem sg_J_isClaiming_0 {L : Nat} {xs : Nat → Int32} {A V : Nat → Nat → Int32} {K : Nat → Option Nat} {T : am_H} {v : Option Int32} {h' : am_H} {a1 a2 : Int32} (k0 :
    am_fin [(z_J_holdingBits, 0, [.ref 26, .int a1, .int a2, .null, .null, .null], []), (z_J_isClaiming, 6, [.ref 26, .int a1, .int a2], [])] (hp L xs A V K T) v h') : am_fin [(z_J_isClaiming, 0, [.ref 26, .int a1, .int a2], [])] (hp L xs A V K T) v h' :=
  fn_aload_n rl_J_isClaiming_0 rfl (fn_iload_n rl_J_isClaiming_1 rfl (fn_iload_n rl_J_isClaiming_2 rfl (fn_virt (as := [.ref 26, .int a1, .int a2]) (r := []) (ls' := [.ref 26, .int a1, .int a2, .null, .null, .null]) rl_J_isClaiming_3 rfl hp_26 rfl rfl pl_J_holdingBits rfl rfl (k0))))
set_option maxRecDepth 100000 in
set_option maxHeartbeats 4000000 in
theorem sg_J_isClaiming_6r {L : Nat} {xs : Nat → Int32} {A V : Nat → Nat → Int32} {K : Nat → Option Nat} {T : am_H} {v : Option Int32} {h' : am_H} {v1 v2 r : Int32} (k0 :
    if r = 0 then (
      v = some 0 ∧ h' = hp L xs A V K T)
    else (
      v = some 1 ∧ h' = hp L xs A V K T)) : am_fin [(z_J_isClaiming, 6, [.ref 26, .int v1, .int v2], [.int r])] (hp L xs A V K T) v h' :=
  fn_if_eq rl_J_isClaiming_6 (fun k2230 => fn_iconst rl_J_isClaiming_13 (fn_reti rl_J_isClaiming_14 rfl k2230)) (fun k2231 => fn_iconst rl_J_isClaiming_9 (fn_goto rl_J_isClaiming_10 (fn_reti rl_J_isClaiming_14 rfl k2231))) k0
set_option maxRecDepth 100000 in
set_option maxHeartbeats 4000000 in
theorem sg_J_claimBits_0 {L : Nat} {xs : Nat → Int32} {A V : Nat → Nat → Int32} {K : Nat → Option Nat} {T : am_H} {v : Option Int32} {h' : am_H} {a1 : Int32} (k0 :
    am_fin [(z_J_claimBits, 4, [.ref 26, .int a1, .int 0, .int 0], [])] (hp L xs A V K T) v h') : am_fin [(z_J_claimBits, 0, [.ref 26, .int a1, .null, .null], [])] (hp L xs A V K T) v h' :=
  fn_iconst rl_J_claimBits_0 (fn_istore_n (ls' := [.ref 26, .int a1, .int 0, .null]) rl_J_claimBits_1 rfl rfl (fn_iconst rl_J_claimBits_2 (fn_istore_n (ls' := [.ref 26, .int a1, .int 0, .int 0]) rl_J_claimBits_3 rfl rfl (k0))))
set_option maxRecDepth 100000 in
set_option maxHeartbeats 4000000 in
theorem sg_J_claimBits_4 {L : Nat} {xs : Nat → Int32} {A V : Nat → Nat → Int32} {K : Nat → Option Nat} {T : am_H} {v : Option Int32} {h' : am_H} {v1 v2 v3 : Int32} (k0 :
    if 6 ≤ v3 then (
      v = some v2 ∧ h' = hp L xs A V K T)
    else (
      am_fin [(z_J_holdingBits, 0, [.ref 26, .int v3, .int v1, .null, .null, .null], []), (z_J_claimBits, 17, [.ref 26, .int v1, .int v2, .int v3], [.int v2])] (hp L xs A V K T) v h')) : am_fin [(z_J_claimBits, 4, [.ref 26, .int v1, .int v2, .int v3], [])] (hp L xs A V K T) v h' :=
  fn_iload_n rl_J_claimBits_4 rfl (fn_bipush rl_J_claimBits_5 (fn_icmp_ge rl_J_claimBits_7 (fun k2232 => fn_iload_n rl_J_claimBits_35 rfl (fn_reti rl_J_claimBits_36 rfl k2232)) (fun k2233 => fn_iload_n rl_J_claimBits_10 rfl (fn_aload_n rl_J_claimBits_11 rfl (fn_iload_n rl_J_claimBits_12 rfl (fn_iload_n rl_J_claimBits_13 rfl (fn_virt (as := [.ref 26, .int v3, .int v1]) (r := [.int v2]) (ls' := [.ref 26, .int v3, .int v1, .null, .null, .null]) rl_J_claimBits_14 rfl hp_26 rfl rfl pl_J_holdingBits rfl rfl (k2233)))))) k0))
set_option maxRecDepth 100000 in
set_option maxHeartbeats 4000000 in
theorem sg_J_claimBits_17r {L : Nat} {xs : Nat → Int32} {A V : Nat → Nat → Int32} {K : Nat → Option Nat} {T : am_H} {v : Option Int32} {h' : am_H} {v1 v2 v3 s0 r : Int32} (k0 :
    if r = 0 then (
      am_fin [(z_J_claimBits, 4, [.ref 26, .int v1, .int (s0 ||| 0), .int (v3 + 1)], [])] (hp L xs A V K T) v h')
    else (
      am_fin [(z_J_claimBits, 4, [.ref 26, .int v1, .int (s0 ||| ((1 : Int32) <<< (v3 &&& 31 : Int32))), .int (v3 + 1)], [])] (hp L xs A V K T) v h')) : am_fin [(z_J_claimBits, 17, [.ref 26, .int v1, .int v2, .int v3], [.int r, .int s0])] (hp L xs A V K T) v h' :=
  fn_if_eq rl_J_claimBits_17 (fun k2234 => fn_iconst rl_J_claimBits_26 (fn_ior rl_J_claimBits_27 (fn_istore_n (ls' := [.ref 26, .int v1, .int (s0 ||| 0), .int v3]) rl_J_claimBits_28 rfl rfl (fn_iinc (ls' := [.ref 26, .int v1, .int (s0 ||| 0), .int (v3 + 1)]) rl_J_claimBits_29 rfl rfl rfl (fn_goto rl_J_claimBits_32 (k2234)))))) (fun k2235 => fn_iconst rl_J_claimBits_20 (fn_iload_n rl_J_claimBits_21 rfl (fn_ishl rl_J_claimBits_22 (fn_goto rl_J_claimBits_23 (fn_ior rl_J_claimBits_27 (fn_istore_n (ls' := [.ref 26, .int v1, .int (s0 ||| ((1 : Int32) <<< (v3 &&& 31 : Int32))), .int v3]) rl_J_claimBits_28 rfl rfl (fn_iinc (ls' := [.ref 26, .int v1, .int (s0 ||| ((1 : Int32) <<< (v3 &&& 31 : Int32))), .int (v3 + 1)]) rl_J_claimBits_29 rfl rfl rfl (fn_goto rl_J_claimBits_32 (k2235))))))))) k0
set_option maxRecDepth 100000 in
set_option maxHeartbeats 4000000 in
theorem sg_J_beaten_0 {L : Nat} {xs : Nat → Int32} {A V : Nat → Nat → Int32} {K : Nat → Option Nat} {T : am_H} {v : Option Int32} {h' : am_H} {a1 a2 a3 : Int32} (k0 :
    am_fin [(z_J_beaten, 6, [.ref 26, .int a1, .int a2, .int a3, .int 0, .int 0], [])] (hp L xs A V K T) v h') : am_fin [(z_J_beaten, 0, [.ref 26, .int a1, .int a2, .int a3, .null, .null], [])] (hp L xs A V K T) v h' :=
  fn_iconst rl_J_beaten_0 (fn_istore (ls' := [.ref 26, .int a1, .int a2, .int a3, .int 0, .null]) rl_J_beaten_1 rfl rfl (fn_iconst rl_J_beaten_3 (fn_istore (ls' := [.ref 26, .int a1, .int a2, .int a3, .int 0, .int 0]) rl_J_beaten_4 rfl rfl (k0))))
set_option maxRecDepth 100000 in
set_option maxHeartbeats 4000000 in
theorem sg_J_beaten_6 {L : Nat} {xs : Nat → Int32} {A V : Nat → Nat → Int32} {K : Nat → Option Nat} {T : am_H} {v : Option Int32} {h' : am_H} {v1 v2 v3 v4 v5 : Int32} (k0 :
    if 6 ≤ v5 then (
      v = some v4 ∧ h' = hp L xs A V K T)
    else (
      if v5 = v1 then (
        am_fin [(z_J_beaten, 6, [.ref 26, .int v1, .int v2, .int v3, .int v4, .int (v5 + 1)], [])] (hp L xs A V K T) v h')
      else (
        if (((v2 : Int32) >>> (v5 &&& 31 : Int32)) &&& 1) = 1 then (
          am_fin [(z_J_answerOf, 0, [.ref 26, .int v1, .int v5, .int v3, .null, .null, .null], []), (z_J_beaten, 36, [.ref 26, .int v1, .int v2, .int v3, .int v4, .int v5], [])] (hp L xs A V K T) v h')
        else (
          am_fin [(z_J_beaten, 6, [.ref 26, .int v1, .int v2, .int v3, .int v4, .int (v5 + 1)], [])] (hp L xs A V K T) v h')))) : am_fin [(z_J_beaten, 6, [.ref 26, .int v1, .int v2, .int v3, .int v4, .int v5], [])] (hp L xs A V K T) v h' :=
  fn_iload rl_J_beaten_6 rfl (fn_bipush rl_J_beaten_8 (fn_icmp_ge rl_J_beaten_10 (fun k2240 => fn_iload rl_J_beaten_61 rfl (fn_reti rl_J_beaten_63 rfl k2240)) (fun k2241 => fn_iload rl_J_beaten_13 rfl (fn_iload_n rl_J_beaten_15 rfl (fn_icmp_eq rl_J_beaten_16 (fun k2238 => fn_iinc (ls' := [.ref 26, .int v1, .int v2, .int v3, .int v4, .int (v5 + 1)]) rl_J_beaten_55 rfl rfl rfl (fn_goto rl_J_beaten_58 (k2238))) (fun k2239 => fn_iload_n rl_J_beaten_19 rfl (fn_iload rl_J_beaten_20 rfl (fn_stat (as := [.int v2, .int v5]) (r := []) (ls' := [.int v2, .int v5]) rl_J_beaten_22 rfl rfl rfl rfl pl_L_hasBit rfl rfl (fn_iload_n rl_L_hasBit_0 rfl (fn_iload_n rl_L_hasBit_1 rfl (fn_ishr rl_L_hasBit_2 (fn_iconst rl_L_hasBit_3 (fn_iand rl_L_hasBit_4 (fn_iconst rl_L_hasBit_5 (fn_icmp_ne rl_L_hasBit_6 (fun k2236 => fn_iconst rl_L_hasBit_9 (fn_goto rl_L_hasBit_10 (fn_retci rl_L_hasBit_14 rfl (fn_if_eq_f rl_J_beaten_25 (by decide +kernel) (fn_aload_n rl_J_beaten_28 rfl (fn_iload_n rl_J_beaten_29 rfl (fn_iload rl_J_beaten_30 rfl (fn_iload_n rl_J_beaten_32 rfl (fn_virt (as := [.ref 26, .int v1, .int v5, .int v3]) (r := []) (ls' := [.ref 26, .int v1, .int v5, .int v3, .null, .null, .null]) rl_J_beaten_33 rfl hp_26 rfl rfl pl_J_answerOf rfl rfl (k2236)))))))))) (fun k2237 => fn_iconst rl_L_hasBit_13 (fn_retci rl_L_hasBit_14 rfl (fn_if_eq_t rl_J_beaten_25 (by decide +kernel) (fn_iinc (ls' := [.ref 26, .int v1, .int v2, .int v3, .int v4, .int (v5 + 1)]) rl_J_beaten_55 rfl rfl rfl (fn_goto rl_J_beaten_58 (k2237)))))) k2239)))))))))) k2241))) k0))
set_option maxRecDepth 100000 in
set_option maxHeartbeats 4000000 in
theorem sg_J_beaten_36r {L : Nat} {xs : Nat → Int32} {A V : Nat → Nat → Int32} {K : Nat → Option Nat} {T : am_H} {v : Option Int32} {h' : am_H} {v1 v2 v3 v4 v5 r : Int32} (k0 :
    if r = v1 then (
      am_fin [(z_J_answerOf, 0, [.ref 26, .int v5, .int v1, .int v3, .null, .null, .null], []), (z_J_beaten, 48, [.ref 26, .int v1, .int v2, .int v3, .int v4, .int v5], [])] (hp L xs A V K T) v h')
    else (
      am_fin [(z_J_beaten, 6, [.ref 26, .int v1, .int v2, .int v3, .int v4, .int (v5 + 1)], [])] (hp L xs A V K T) v h')) : am_fin [(z_J_beaten, 36, [.ref 26, .int v1, .int v2, .int v3, .int v4, .int v5], [.int r])] (hp L xs A V K T) v h' :=
  fn_iload_n rl_J_beaten_36 rfl (fn_icmp_ne rl_J_beaten_37 (fun k2242 => fn_aload_n rl_J_beaten_40 rfl (fn_iload rl_J_beaten_41 rfl (fn_iload_n rl_J_beaten_43 rfl (fn_iload_n rl_J_beaten_44 rfl (fn_virt (as := [.ref 26, .int v5, .int v1, .int v3]) (r := []) (ls' := [.ref 26, .int v5, .int v1, .int v3, .null, .null, .null]) rl_J_beaten_45 rfl hp_26 rfl rfl pl_J_answerOf rfl rfl (k2242)))))) (fun k2243 => fn_iinc (ls' := [.ref 26, .int v1, .int v2, .int v3, .int v4, .int (v5 + 1)]) rl_J_beaten_55 rfl rfl rfl (fn_goto rl_J_beaten_58 (k2243))) k0)
set_option maxRecDepth 100000 in
set_option maxHeartbeats 4000000 in
theorem sg_J_beaten_48r {L : Nat} {xs : Nat → Int32} {A V : Nat → Nat → Int32} {K : Nat → Option Nat} {T : am_H} {v : Option Int32} {h' : am_H} {v1 v2 v3 v4 v5 r : Int32} (k0 :
    if r = v1 then (
      am_fin [(z_J_beaten, 6, [.ref 26, .int v1, .int v2, .int v3, .int (v4 + 1), .int (v5 + 1)], [])] (hp L xs A V K T) v h')
    else (
      am_fin [(z_J_beaten, 6, [.ref 26, .int v1, .int v2, .int v3, .int v4, .int (v5 + 1)], [])] (hp L xs A V K T) v h')) : am_fin [(z_J_beaten, 48, [.ref 26, .int v1, .int v2, .int v3, .int v4, .int v5], [.int r])] (hp L xs A V K T) v h' :=
  fn_iload_n rl_J_beaten_48 rfl (fn_icmp_ne rl_J_beaten_49 (fun k2244 => fn_iinc (ls' := [.ref 26, .int v1, .int v2, .int v3, .int (v4 + 1), .int v5]) rl_J_beaten_52 rfl rfl rfl (fn_iinc (ls' := [.ref 26, .int v1, .int v2, .int v3, .int (v4 + 1), .int (v5 + 1)]) rl_J_beaten_55 rfl rfl rfl (fn_goto rl_J_beaten_58 (k2244)))) (fun k2245 => fn_iinc (ls' := [.ref 26, .int v1, .int v2, .int v3, .int v4, .int (v5 + 1)]) rl_J_beaten_55 rfl rfl rfl (fn_goto rl_J_beaten_58 (k2245))) k0)
set_option maxRecDepth 100000 in
set_option maxHeartbeats 4000000 in
theorem sg_P_stayCount_3_0 {L : Nat} {xs : Nat → Int32} {A V : Nat → Nat → Int32} {K : Nat → Option Nat} {T : am_H} {v : Option Int32} {h' : am_H} (k0 :
    am_fin [(z_P_stayCount, 4, [.ref 3, .int 0, .int 0], [])] (hp L xs A V K T) v h') : am_fin [(z_P_stayCount, 0, [.ref 3, .null, .null], [])] (hp L xs A V K T) v h' :=
  fn_iconst rl_P_stayCount_0 (fn_istore_n (ls' := [.ref 3, .int 0, .null]) rl_P_stayCount_1 rfl rfl (fn_iconst rl_P_stayCount_2 (fn_istore_n (ls' := [.ref 3, .int 0, .int 0]) rl_P_stayCount_3 rfl rfl (k0))))
set_option maxRecDepth 100000 in
set_option maxHeartbeats 4000000 in
theorem sg_P_stayCount_3_4 {L : Nat} {xs : Nat → Int32} {A V : Nat → Nat → Int32} {K : Nat → Option Nat} {T : am_H} {v : Option Int32} {h' : am_H} {v1 v2 : Int32} (k0 :
    if 1080 ≤ v2 then (
      v = some v1 ∧ h' = hp L xs A V K T)
    else (
      am_fin [(z_P_startsStay, 0, [.ref 3, .int v2], []), (z_P_stayCount, 16, [.ref 3, .int v1, .int v2], [])] (hp L xs A V K T) v h')) : am_fin [(z_P_stayCount, 4, [.ref 3, .int v1, .int v2], [])] (hp L xs A V K T) v h' :=
  fn_iload_n rl_P_stayCount_4 rfl (fn_sipush rl_P_stayCount_5 (fn_icmp_ge rl_P_stayCount_8 (fun k2246 => fn_iload_n rl_P_stayCount_28 rfl (fn_reti rl_P_stayCount_29 rfl k2246)) (fun k2247 => fn_aload_n rl_P_stayCount_11 rfl (fn_iload_n rl_P_stayCount_12 rfl (fn_virt (as := [.ref 3, .int v2]) (r := []) (ls' := [.ref 3, .int v2]) rl_P_stayCount_13 rfl hp_3 rfl rfl pl_P_startsStay rfl rfl (k2247)))) k0))
set_option maxRecDepth 100000 in
set_option maxHeartbeats 4000000 in
theorem sg_P_stayCount_3_16r {L : Nat} {xs : Nat → Int32} {A V : Nat → Nat → Int32} {K : Nat → Option Nat} {T : am_H} {v : Option Int32} {h' : am_H} {v1 v2 r : Int32} (k0 :
    if r = 0 then (
      am_fin [(z_P_stayCount, 4, [.ref 3, .int v1, .int (v2 + 1)], [])] (hp L xs A V K T) v h')
    else (
      am_fin [(z_P_stayCount, 4, [.ref 3, .int (v1 + 1), .int (v2 + 1)], [])] (hp L xs A V K T) v h')) : am_fin [(z_P_stayCount, 16, [.ref 3, .int v1, .int v2], [.int r])] (hp L xs A V K T) v h' :=
  fn_if_eq rl_P_stayCount_16 (fun k2248 => fn_iinc (ls' := [.ref 3, .int v1, .int (v2 + 1)]) rl_P_stayCount_22 rfl rfl rfl (fn_goto rl_P_stayCount_25 (k2248))) (fun k2249 => fn_iinc (ls' := [.ref 3, .int (v1 + 1), .int v2]) rl_P_stayCount_19 rfl rfl rfl (fn_iinc (ls' := [.ref 3, .int (v1 + 1), .int (v2 + 1)]) rl_P_stayCount_22 rfl rfl rfl (fn_goto rl_P_stayCount_25 (k2249)))) k0
set_option maxRecDepth 100000 in
set_option maxHeartbeats 4000000 in
theorem sg_P_landOn_7_0 {L : Nat} {xs : Nat → Int32} {A V : Nat → Nat → Int32} {K : Nat → Option Nat} {T : am_H} {v : Option Int32} {h' : am_H} {a1 : Int32} (k0 :
    if a1 < 0 then (
      v = some (-1) ∧ h' = hp L xs A V K T)
    else (
      if 1080 ≤ a1 then (
        v = some (-1) ∧ h' = hp L xs A V K T)
      else (
        ¬ (a1 < 0 ∨ 1080 ≤ a1.toNatClampNeg) ∧ (
        v = some ((A 8) a1.toNatClampNeg) ∧ h' = hp L xs A V K T)))) : am_fin [(z_P_landOn, 0, [.ref 7, .int a1], [])] (hp L xs A V K T) v h' :=
  fn_iload_n rl_P_landOn_0 rfl (fn_if_lt rl_P_landOn_1 (fun k2253 => fn_iconst rl_P_landOn_20 (fn_reti rl_P_landOn_21 rfl k2253)) (fun k2254 => fn_iload_n rl_P_landOn_4 rfl (fn_sipush rl_P_landOn_5 (fn_icmp_ge rl_P_landOn_8 (fun k2251 => fn_iconst rl_P_landOn_20 (fn_reti rl_P_landOn_21 rfl k2251)) (fun k2252 => fn_aload_n rl_P_landOn_11 rfl (fn_get rl_P_landOn_12 hp_7 rfl (fn_iload_n rl_P_landOn_15 rfl (fn_iald rl_P_landOn_16 hp_8 (fun k2250 => fn_goto rl_P_landOn_17 (fn_reti rl_P_landOn_21 rfl k2250)) k2252)))) k2254))) k0)
set_option maxRecDepth 100000 in
set_option maxHeartbeats 4000000 in
theorem sg_J_holdingBits_0 {L : Nat} {xs : Nat → Int32} {A V : Nat → Nat → Int32} {K : Nat → Option Nat} {T : am_H} {v : Option Int32} {h' : am_H} {a1 a2 : Int32} (k0 :
    am_fin [(z_J_holdingBits, 5, [.ref 26, .int a1, .int a2, .int 0, .int 0, .null], [])] (hp L xs A V K T) v h') : am_fin [(z_J_holdingBits, 0, [.ref 26, .int a1, .int a2, .null, .null, .null], [])] (hp L xs A V K T) v h' :=
  fn_iconst rl_J_holdingBits_0 (fn_istore_n (ls' := [.ref 26, .int a1, .int a2, .int 0, .null, .null]) rl_J_holdingBits_1 rfl rfl (fn_iconst rl_J_holdingBits_2 (fn_istore (ls' := [.ref 26, .int a1, .int a2, .int 0, .int 0, .null]) rl_J_holdingBits_3 rfl rfl (k0))))
set_option maxRecDepth 100000 in
set_option maxHeartbeats 4000000 in
theorem sg_J_holdingBits_5 {L : Nat} {xs : Nat → Int32} {A V : Nat → Nat → Int32} {K : Nat → Option Nat} {T : am_H} {v : Option Int32} {h' : am_H} {v1 v2 v3 v4 : Int32} (k0 :
    if 3 ≤ v4 then (
      v = some v3 ∧ h' = hp L xs A V K T)
    else (
      ¬ (((v1 * 3) + v4) < 0 ∨ 18 ≤ ((v1 * 3) + v4).toNatClampNeg) ∧ (
      if ((A 13) ((v1 * 3) + v4).toNatClampNeg) ≤ 0 then (
        am_fin [(z_J_holdingBits, 5, [.ref 26, .int v1, .int v2, .int v3, .int (v4 + 1), .int ((A 13) ((v1 * 3) + v4).toNatClampNeg)], [])] (hp L xs A V K T) v h')
      else (
        am_fin [(z_J_greatest, 0, [.ref 26, .int v1, .int v4, .int v2, .null, .null, .null], []), (z_J_holdingBits, 36, [.ref 26, .int v1, .int v2, .int v3, .int v4, .int ((A 13) ((v1 * 3) + v4).toNatClampNeg)], [])] (hp L xs A V K T) v h')))) : am_fin [(z_J_holdingBits, 5, [.ref 26, .int v1, .int v2, .int v3, .int v4, .null], [])] (hp L xs A V K T) v h' :=
  fn_iload rl_J_holdingBits_5 rfl (fn_iconst rl_J_holdingBits_7 (fn_icmp_ge rl_J_holdingBits_8 (fun k2258 => fn_iload_n rl_J_holdingBits_54 rfl (fn_reti rl_J_holdingBits_55 rfl k2258)) (fun k2259 => fn_aload_n rl_J_holdingBits_11 rfl (fn_get rl_J_holdingBits_12 hp_26 rfl (fn_iload_n rl_J_holdingBits_15 rfl (fn_iload rl_J_holdingBits_16 rfl (fn_virt (as := [.ref 10, .int v1, .int v4]) (r := []) (ls' := [.ref 10, .int v1, .int v4]) rl_J_holdingBits_18 rfl hp_10 rfl rfl pl_R_needed rfl rfl (fn_aload_n rl_R_needed_0 rfl (fn_get rl_R_needed_1 hp_10 rfl (fn_iload_n rl_R_needed_4 rfl (fn_iconst rl_R_needed_5 (fn_imul rl_R_needed_6 (fn_iload_n rl_R_needed_7 rfl (fn_iadd rl_R_needed_8 (fn_iald rl_R_needed_9 hp_13 (fun k2257 => fn_retci rl_R_needed_10 rfl (fn_istore (ls' := [.ref 26, .int v1, .int v2, .int v3, .int v4, .int ((A 13) ((v1 * 3) + v4).toNatClampNeg)]) rl_J_holdingBits_21 rfl rfl (fn_iload rl_J_holdingBits_23 rfl (fn_if_le rl_J_holdingBits_25 (fun k2255 => fn_iinc (ls' := [.ref 26, .int v1, .int v2, .int v3, .int (v4 + 1), .int ((A 13) ((v1 * 3) + v4).toNatClampNeg)]) rl_J_holdingBits_48 rfl rfl rfl (fn_goto rl_J_holdingBits_51 (k2255))) (fun k2256 => fn_aload_n rl_J_holdingBits_28 rfl (fn_iload_n rl_J_holdingBits_29 rfl (fn_iload rl_J_holdingBits_30 rfl (fn_iload_n rl_J_holdingBits_32 rfl (fn_virt (as := [.ref 26, .int v1, .int v4, .int v2]) (r := []) (ls' := [.ref 26, .int v1, .int v4, .int v2, .null, .null, .null]) rl_J_holdingBits_33 rfl hp_26 rfl rfl pl_J_greatest rfl rfl (k2256)))))) k2257)))) k2259))))))))))))) k0))
set_option maxRecDepth 100000 in
set_option maxHeartbeats 4000000 in
theorem sg_J_holdingBits_36r {L : Nat} {xs : Nat → Int32} {A V : Nat → Nat → Int32} {K : Nat → Option Nat} {T : am_H} {v : Option Int32} {h' : am_H} {v1 v2 v3 v4 v5 r : Int32} (k0 :
    if r < v5 then (
      am_fin [(z_J_holdingBits, 5, [.ref 26, .int v1, .int v2, .int v3, .int (v4 + 1), .int v5], [])] (hp L xs A V K T) v h')
    else (
      am_fin [(z_J_holdingBits, 5, [.ref 26, .int v1, .int v2, .int (v3 ||| ((1 : Int32) <<< (v4 &&& 31 : Int32))), .int (v4 + 1), .int v5], [])] (hp L xs A V K T) v h')) : am_fin [(z_J_holdingBits, 36, [.ref 26, .int v1, .int v2, .int v3, .int v4, .int v5], [.int r])] (hp L xs A V K T) v h' :=
  fn_iload rl_J_holdingBits_36 rfl (fn_icmp_lt rl_J_holdingBits_38 (fun k2260 => fn_iinc (ls' := [.ref 26, .int v1, .int v2, .int v3, .int (v4 + 1), .int v5]) rl_J_holdingBits_48 rfl rfl rfl (fn_goto rl_J_holdingBits_51 (k2260))) (fun k2261 => fn_iload_n rl_J_holdingBits_41 rfl (fn_iconst rl_J_holdingBits_42 (fn_iload rl_J_holdingBits_43 rfl (fn_ishl rl_J_holdingBits_45 (fn_ior rl_J_holdingBits_46 (fn_istore_n (ls' := [.ref 26, .int v1, .int v2, .int (v3 ||| ((1 : Int32) <<< (v4 &&& 31 : Int32))), .int v4, .int v5]) rl_J_holdingBits_47 rfl rfl (fn_iinc (ls' := [.ref 26, .int v1, .int v2, .int (v3 ||| ((1 : Int32) <<< (v4 &&& 31 : Int32))), .int (v4 + 1), .int v5]) rl_J_holdingBits_48 rfl rfl rfl (fn_goto rl_J_holdingBits_51 (k2261))))))))) k0)
set_option maxRecDepth 100000 in
set_option maxHeartbeats 4000000 in
theorem sg_J_answerOf_0 {L : Nat} {xs : Nat → Int32} {A V : Nat → Nat → Int32} {K : Nat → Option Nat} {T : am_H} {v : Option Int32} {h' : am_H} {a1 a2 a3 : Int32} (k0 :
    ¬ (((a1 * 6) + a2) < 0 ∨ 36 ≤ ((a1 * 6) + a2).toNatClampNeg) ∧ (
    if ((A 17) ((a1 * 6) + a2).toNatClampNeg) = (-1) then (
      ¬ (a1 < 0 ∨ 6 ≤ a1.toNatClampNeg) ∧ (
      am_fin [(z_J_answerOf, 17, [.ref 26, .int a1, .int a2, .int a3, .int ((A 16) a1.toNatClampNeg), .int 0, .int 0], [])] (hp L xs A V K T) v h'))
    else (
      am_fin [(z_J_answerOf, 17, [.ref 26, .int a1, .int a2, .int a3, .int ((A 17) ((a1 * 6) + a2).toNatClampNeg), .int 0, .int 0], [])] (hp L xs A V K T) v h'))) : am_fin [(z_J_answerOf, 0, [.ref 26, .int a1, .int a2, .int a3, .null, .null, .null], [])] (hp L xs A V K T) v h' :=
  fn_aload_n rl_J_answerOf_0 rfl (fn_get rl_J_answerOf_1 hp_26 rfl (fn_iload_n rl_J_answerOf_4 rfl (fn_iload_n rl_J_answerOf_5 rfl (fn_virt (as := [.ref 10, .int a1, .int a2]) (r := []) (ls' := [.ref 10, .int a1, .int a2, .null]) rl_J_answerOf_6 rfl hp_10 rfl rfl pl_R_answerRow rfl rfl (fn_aload_n rl_R_answerRow_0 rfl (fn_get rl_R_answerRow_1 hp_10 rfl (fn_iload_n rl_R_answerRow_4 rfl (fn_bipush rl_R_answerRow_5 (fn_imul rl_R_answerRow_7 (fn_iload_n rl_R_answerRow_8 rfl (fn_iadd rl_R_answerRow_9 (fn_iald rl_R_answerRow_10 hp_17 (fun k2265 => fn_istore_n (ls' := [.ref 10, .int a1, .int a2, .int ((A 17) ((a1 * 6) + a2).toNatClampNeg)]) rl_R_answerRow_11 rfl rfl (fn_iload_n rl_R_answerRow_12 rfl (fn_iconst rl_R_answerRow_13 (fn_icmp_ne rl_R_answerRow_14 (fun k2263 => fn_aload_n rl_R_answerRow_17 rfl (fn_get rl_R_answerRow_18 hp_10 rfl (fn_iload_n rl_R_answerRow_21 rfl (fn_iald rl_R_answerRow_22 hp_16 (fun k2262 => fn_goto rl_R_answerRow_23 (fn_retci rl_R_answerRow_27 rfl (fn_istore (ls' := [.ref 26, .int a1, .int a2, .int a3, .int ((A 16) a1.toNatClampNeg), .null, .null]) rl_J_answerOf_9 rfl rfl (fn_iconst rl_J_answerOf_11 (fn_istore (ls' := [.ref 26, .int a1, .int a2, .int a3, .int ((A 16) a1.toNatClampNeg), .int 0, .null]) rl_J_answerOf_12 rfl rfl (fn_iconst rl_J_answerOf_14 (fn_istore (ls' := [.ref 26, .int a1, .int a2, .int a3, .int ((A 16) a1.toNatClampNeg), .int 0, .int 0]) rl_J_answerOf_15 rfl rfl (k2262)))))))) k2263)))) (fun k2264 => fn_iload_n rl_R_answerRow_26 rfl (fn_retci rl_R_answerRow_27 rfl (fn_istore (ls' := [.ref 26, .int a1, .int a2, .int a3, .int ((A 17) ((a1 * 6) + a2).toNatClampNeg), .null, .null]) rl_J_answerOf_9 rfl rfl (fn_iconst rl_J_answerOf_11 (fn_istore (ls' := [.ref 26, .int a1, .int a2, .int a3, .int ((A 17) ((a1 * 6) + a2).toNatClampNeg), .int 0, .null]) rl_J_answerOf_12 rfl rfl (fn_iconst rl_J_answerOf_14 (fn_istore (ls' := [.ref 26, .int a1, .int a2, .int a3, .int ((A 17) ((a1 * 6) + a2).toNatClampNeg), .int 0, .int 0]) rl_J_answerOf_15 rfl rfl (k2264)))))))) k2265)))) k0))))))))))))
set_option maxRecDepth 100000 in
set_option maxHeartbeats 4000000 in
theorem sg_J_answerOf_17 {L : Nat} {xs : Nat → Int32} {A V : Nat → Nat → Int32} {K : Nat → Option Nat} {T : am_H} {v : Option Int32} {h' : am_H} {v1 v2 v3 v4 v5 v6 : Int32} (k0 :
    if 4 ≤ v6 then (
      if v5 = 0 then (
        v = some (-2) ∧ h' = hp L xs A V K T)
      else (
        if v5 ≤ 0 then (
          v = some v2 ∧ h' = hp L xs A V K T)
        else (
          v = some v1 ∧ h' = hp L xs A V K T)))
    else (
      if (v4 &&& 7) ≤ v6 then (
        if v5 = 0 then (
          v = some (-2) ∧ h' = hp L xs A V K T)
        else (
          if v5 ≤ 0 then (
            v = some v2 ∧ h' = hp L xs A V K T)
          else (
            v = some v1 ∧ h' = hp L xs A V K T)))
      else (
        if v5 = 0 then (
          am_fin [(z_J_leaning, 0, [.ref 26, .int (((v4 : Int32) >>> ((3 + (2 * v6)) &&& 31 : Int32)) &&& 3), .int v1, .int v2, .int v3, .null, .null], []), (z_J_answerOf, 52, [.ref 26, .int v1, .int v2, .int v3, .int v4, .int v5, .int v6], [])] (hp L xs A V K T) v h')
        else (
          if v5 = 0 then (
            v = some (-2) ∧ h' = hp L xs A V K T)
          else (
            if v5 ≤ 0 then (
              v = some v2 ∧ h' = hp L xs A V K T)
            else (
              v = some v1 ∧ h' = hp L xs A V K T)))))) : am_fin [(z_J_answerOf, 17, [.ref 26, .int v1, .int v2, .int v3, .int v4, .int v5, .int v6], [])] (hp L xs A V K T) v h' :=
  fn_iload rl_J_answerOf_17 rfl (fn_iconst rl_J_answerOf_19 (fn_icmp_ge rl_J_answerOf_20 (fun k2282 => fn_iload rl_J_answerOf_60 rfl (fn_if_ne rl_J_answerOf_62 (fun k2268 => fn_bipush rl_J_answerOf_65 (fn_reti rl_J_answerOf_67 rfl k2268)) (fun k2269 => fn_iload rl_J_answerOf_68 rfl (fn_if_le rl_J_answerOf_70 (fun k2266 => fn_iload_n rl_J_answerOf_77 rfl (fn_reti rl_J_answerOf_78 rfl k2266)) (fun k2267 => fn_iload_n rl_J_answerOf_73 rfl (fn_goto rl_J_answerOf_74 (fn_reti rl_J_answerOf_78 rfl k2267))) k2269)) k2282)) (fun k2283 => fn_iload rl_J_answerOf_23 rfl (fn_iload rl_J_answerOf_25 rfl (fn_stat (as := [.int v4]) (r := [.int v6]) (ls' := [.int v4]) rl_J_answerOf_27 rfl rfl rfl rfl pl_L_rowLength rfl rfl (fn_iload_n rl_L_rowLength_0 rfl (fn_bipush rl_L_rowLength_1 (fn_iand rl_L_rowLength_3 (fn_retci rl_L_rowLength_4 rfl (fn_icmp_ge rl_J_answerOf_30 (fun k2280 => fn_iload rl_J_answerOf_60 rfl (fn_if_ne rl_J_answerOf_62 (fun k2272 => fn_bipush rl_J_answerOf_65 (fn_reti rl_J_answerOf_67 rfl k2272)) (fun k2273 => fn_iload rl_J_answerOf_68 rfl (fn_if_le rl_J_answerOf_70 (fun k2270 => fn_iload_n rl_J_answerOf_77 rfl (fn_reti rl_J_answerOf_78 rfl k2270)) (fun k2271 => fn_iload_n rl_J_answerOf_73 rfl (fn_goto rl_J_answerOf_74 (fn_reti rl_J_answerOf_78 rfl k2271))) k2273)) k2280)) (fun k2281 => fn_iload rl_J_answerOf_33 rfl (fn_if_ne rl_J_answerOf_35 (fun k2278 => fn_aload_n rl_J_answerOf_38 rfl (fn_iload rl_J_answerOf_39 rfl (fn_iload rl_J_answerOf_41 rfl (fn_stat (as := [.int v4, .int v6]) (r := [.ref 26]) (ls' := [.int v4, .int v6]) rl_J_answerOf_43 rfl rfl rfl rfl pl_L_rowLetter rfl rfl (fn_iload_n rl_L_rowLetter_0 rfl (fn_iconst rl_L_rowLetter_1 (fn_iconst rl_L_rowLetter_2 (fn_iload_n rl_L_rowLetter_3 rfl (fn_imul rl_L_rowLetter_4 (fn_iadd rl_L_rowLetter_5 (fn_ishr rl_L_rowLetter_6 (fn_iconst rl_L_rowLetter_7 (fn_iand rl_L_rowLetter_8 (fn_retci rl_L_rowLetter_9 rfl (fn_iload_n rl_J_answerOf_46 rfl (fn_iload_n rl_J_answerOf_47 rfl (fn_iload_n rl_J_answerOf_48 rfl (fn_virt (as := [.ref 26, .int (((v4 : Int32) >>> ((3 + (2 * v6)) &&& 31 : Int32)) &&& 3), .int v1, .int v2, .int v3]) (r := []) (ls' := [.ref 26, .int (((v4 : Int32) >>> ((3 + (2 * v6)) &&& 31 : Int32)) &&& 3), .int v1, .int v2, .int v3, .null, .null]) rl_J_answerOf_49 rfl hp_26 rfl rfl pl_J_leaning rfl rfl (k2278))))))))))))))))))) (fun k2279 => fn_iload rl_J_answerOf_60 rfl (fn_if_ne rl_J_answerOf_62 (fun k2276 => fn_bipush rl_J_answerOf_65 (fn_reti rl_J_answerOf_67 rfl k2276)) (fun k2277 => fn_iload rl_J_answerOf_68 rfl (fn_if_le rl_J_answerOf_70 (fun k2274 => fn_iload_n rl_J_answerOf_77 rfl (fn_reti rl_J_answerOf_78 rfl k2274)) (fun k2275 => fn_iload_n rl_J_answerOf_73 rfl (fn_goto rl_J_answerOf_74 (fn_reti rl_J_answerOf_78 rfl k2275))) k2277)) k2279)) k2281)) k2283)))))))) k0))
set_option maxRecDepth 100000 in
set_option maxHeartbeats 4000000 in
theorem sg_J_answerOf_52r {L : Nat} {xs : Nat → Int32} {A V : Nat → Nat → Int32} {K : Nat → Option Nat} {T : am_H} {v : Option Int32} {h' : am_H} {v1 v2 v3 v4 v5 v6 r : Int32} (k0 :
    am_fin [(z_J_answerOf, 17, [.ref 26, .int v1, .int v2, .int v3, .int v4, .int r, .int (v6 + 1)], [])] (hp L xs A V K T) v h') : am_fin [(z_J_answerOf, 52, [.ref 26, .int v1, .int v2, .int v3, .int v4, .int v5, .int v6], [.int r])] (hp L xs A V K T) v h' :=
  fn_istore (ls' := [.ref 26, .int v1, .int v2, .int v3, .int v4, .int r, .int v6]) rl_J_answerOf_52 rfl rfl (fn_iinc (ls' := [.ref 26, .int v1, .int v2, .int v3, .int v4, .int r, .int (v6 + 1)]) rl_J_answerOf_54 rfl rfl rfl (fn_goto rl_J_answerOf_57 (k0)))
set_option maxRecDepth 100000 in
set_option maxHeartbeats 4000000 in
theorem sg_J_tellingPlace_0 {L : Nat} {xs : Nat → Int32} {A V : Nat → Nat → Int32} {K : Nat → Option Nat} {T : am_H} {v : Option Int32} {h' : am_H} {a1 a2 a3 : Int32} (k0 :
    ¬ (((a1 * 6) + a2) < 0 ∨ 36 ≤ ((a1 * 6) + a2).toNatClampNeg) ∧ (
    if ((A 17) ((a1 * 6) + a2).toNatClampNeg) = (-1) then (
      ¬ (a1 < 0 ∨ 6 ≤ a1.toNatClampNeg) ∧ (
      am_fin [(z_J_tellingPlace, 14, [.ref 26, .int a1, .int a2, .int a3, .int ((A 16) a1.toNatClampNeg), .int 0], [])] (hp L xs A V K T) v h'))
    else (
      am_fin [(z_J_tellingPlace, 14, [.ref 26, .int a1, .int a2, .int a3, .int ((A 17) ((a1 * 6) + a2).toNatClampNeg), .int 0], [])] (hp L xs A V K T) v h'))) : am_fin [(z_J_tellingPlace, 0, [.ref 26, .int a1, .int a2, .int a3, .null, .null], [])] (hp L xs A V K T) v h' :=
  fn_aload_n rl_J_tellingPlace_0 rfl (fn_get rl_J_tellingPlace_1 hp_26 rfl (fn_iload_n rl_J_tellingPlace_4 rfl (fn_iload_n rl_J_tellingPlace_5 rfl (fn_virt (as := [.ref 10, .int a1, .int a2]) (r := []) (ls' := [.ref 10, .int a1, .int a2, .null]) rl_J_tellingPlace_6 rfl hp_10 rfl rfl pl_R_answerRow rfl rfl (fn_aload_n rl_R_answerRow_0 rfl (fn_get rl_R_answerRow_1 hp_10 rfl (fn_iload_n rl_R_answerRow_4 rfl (fn_bipush rl_R_answerRow_5 (fn_imul rl_R_answerRow_7 (fn_iload_n rl_R_answerRow_8 rfl (fn_iadd rl_R_answerRow_9 (fn_iald rl_R_answerRow_10 hp_17 (fun k2287 => fn_istore_n (ls' := [.ref 10, .int a1, .int a2, .int ((A 17) ((a1 * 6) + a2).toNatClampNeg)]) rl_R_answerRow_11 rfl rfl (fn_iload_n rl_R_answerRow_12 rfl (fn_iconst rl_R_answerRow_13 (fn_icmp_ne rl_R_answerRow_14 (fun k2285 => fn_aload_n rl_R_answerRow_17 rfl (fn_get rl_R_answerRow_18 hp_10 rfl (fn_iload_n rl_R_answerRow_21 rfl (fn_iald rl_R_answerRow_22 hp_16 (fun k2284 => fn_goto rl_R_answerRow_23 (fn_retci rl_R_answerRow_27 rfl (fn_istore (ls' := [.ref 26, .int a1, .int a2, .int a3, .int ((A 16) a1.toNatClampNeg), .null]) rl_J_tellingPlace_9 rfl rfl (fn_iconst rl_J_tellingPlace_11 (fn_istore (ls' := [.ref 26, .int a1, .int a2, .int a3, .int ((A 16) a1.toNatClampNeg), .int 0]) rl_J_tellingPlace_12 rfl rfl (k2284)))))) k2285)))) (fun k2286 => fn_iload_n rl_R_answerRow_26 rfl (fn_retci rl_R_answerRow_27 rfl (fn_istore (ls' := [.ref 26, .int a1, .int a2, .int a3, .int ((A 17) ((a1 * 6) + a2).toNatClampNeg), .null]) rl_J_tellingPlace_9 rfl rfl (fn_iconst rl_J_tellingPlace_11 (fn_istore (ls' := [.ref 26, .int a1, .int a2, .int a3, .int ((A 17) ((a1 * 6) + a2).toNatClampNeg), .int 0]) rl_J_tellingPlace_12 rfl rfl (k2286)))))) k2287)))) k0))))))))))))
set_option maxRecDepth 100000 in
set_option maxHeartbeats 4000000 in
theorem sg_J_tellingPlace_14 {L : Nat} {xs : Nat → Int32} {A V : Nat → Nat → Int32} {K : Nat → Option Nat} {T : am_H} {v : Option Int32} {h' : am_H} {v1 v2 v3 v4 v5 : Int32} (k0 :
    if 4 ≤ v5 then (
      v = some (-2) ∧ h' = hp L xs A V K T)
    else (
      if (v4 &&& 7) ≤ v5 then (
        v = some (-2) ∧ h' = hp L xs A V K T)
      else (
        am_fin [(z_J_leaning, 0, [.ref 26, .int (((v4 : Int32) >>> ((3 + (2 * v5)) &&& 31 : Int32)) &&& 3), .int v1, .int v2, .int v3, .null, .null], []), (z_J_tellingPlace, 44, [.ref 26, .int v1, .int v2, .int v3, .int v4, .int v5], [])] (hp L xs A V K T) v h'))) : am_fin [(z_J_tellingPlace, 14, [.ref 26, .int v1, .int v2, .int v3, .int v4, .int v5], [])] (hp L xs A V K T) v h' :=
  fn_iload rl_J_tellingPlace_14 rfl (fn_iconst rl_J_tellingPlace_16 (fn_icmp_ge rl_J_tellingPlace_17 (fun k2290 => fn_bipush rl_J_tellingPlace_56 (fn_reti rl_J_tellingPlace_58 rfl k2290)) (fun k2291 => fn_iload rl_J_tellingPlace_20 rfl (fn_iload rl_J_tellingPlace_22 rfl (fn_stat (as := [.int v4]) (r := [.int v5]) (ls' := [.int v4]) rl_J_tellingPlace_24 rfl rfl rfl rfl pl_L_rowLength rfl rfl (fn_iload_n rl_L_rowLength_0 rfl (fn_bipush rl_L_rowLength_1 (fn_iand rl_L_rowLength_3 (fn_retci rl_L_rowLength_4 rfl (fn_icmp_ge rl_J_tellingPlace_27 (fun k2288 => fn_bipush rl_J_tellingPlace_56 (fn_reti rl_J_tellingPlace_58 rfl k2288)) (fun k2289 => fn_aload_n rl_J_tellingPlace_30 rfl (fn_iload rl_J_tellingPlace_31 rfl (fn_iload rl_J_tellingPlace_33 rfl (fn_stat (as := [.int v4, .int v5]) (r := [.ref 26]) (ls' := [.int v4, .int v5]) rl_J_tellingPlace_35 rfl rfl rfl rfl pl_L_rowLetter rfl rfl (fn_iload_n rl_L_rowLetter_0 rfl (fn_iconst rl_L_rowLetter_1 (fn_iconst rl_L_rowLetter_2 (fn_iload_n rl_L_rowLetter_3 rfl (fn_imul rl_L_rowLetter_4 (fn_iadd rl_L_rowLetter_5 (fn_ishr rl_L_rowLetter_6 (fn_iconst rl_L_rowLetter_7 (fn_iand rl_L_rowLetter_8 (fn_retci rl_L_rowLetter_9 rfl (fn_iload_n rl_J_tellingPlace_38 rfl (fn_iload_n rl_J_tellingPlace_39 rfl (fn_iload_n rl_J_tellingPlace_40 rfl (fn_virt (as := [.ref 26, .int (((v4 : Int32) >>> ((3 + (2 * v5)) &&& 31 : Int32)) &&& 3), .int v1, .int v2, .int v3]) (r := []) (ls' := [.ref 26, .int (((v4 : Int32) >>> ((3 + (2 * v5)) &&& 31 : Int32)) &&& 3), .int v1, .int v2, .int v3, .null, .null]) rl_J_tellingPlace_41 rfl hp_26 rfl rfl pl_J_leaning rfl rfl (k2289))))))))))))))))))) k2291)))))))) k0))
set_option maxRecDepth 100000 in
set_option maxHeartbeats 4000000 in
theorem sg_J_tellingPlace_44r {L : Nat} {xs : Nat → Int32} {A V : Nat → Nat → Int32} {K : Nat → Option Nat} {T : am_H} {v : Option Int32} {h' : am_H} {v1 v2 v3 v4 v5 r : Int32} (k0 :
    if r = 0 then (
      am_fin [(z_J_tellingPlace, 14, [.ref 26, .int v1, .int v2, .int v3, .int v4, .int (v5 + 1)], [])] (hp L xs A V K T) v h')
    else (
      v = some v5 ∧ h' = hp L xs A V K T)) : am_fin [(z_J_tellingPlace, 44, [.ref 26, .int v1, .int v2, .int v3, .int v4, .int v5], [.int r])] (hp L xs A V K T) v h' :=
  fn_if_eq rl_J_tellingPlace_44 (fun k2292 => fn_iinc (ls' := [.ref 26, .int v1, .int v2, .int v3, .int v4, .int (v5 + 1)]) rl_J_tellingPlace_50 rfl rfl rfl (fn_goto rl_J_tellingPlace_53 (k2292))) (fun k2293 => fn_iload rl_J_tellingPlace_47 rfl (fn_reti rl_J_tellingPlace_49 rfl k2293)) k0
set_option maxRecDepth 100000 in
set_option maxHeartbeats 4000000 in
theorem sg_J_livesIn_0 {L : Nat} {xs : Nat → Int32} {A V : Nat → Nat → Int32} {K : Nat → Option Nat} {T : am_H} {v : Option Int32} {h' : am_H} {a1 : Int32} (k0 :
    am_fin [(z_J_claimBits, 0, [.ref 26, .int a1, .null, .null], []), (z_J_livesIn, 5, [.ref 26, .int a1, .null, .null, .null], [])] (hp L xs A V K T) v h') : am_fin [(z_J_livesIn, 0, [.ref 26, .int a1, .null, .null, .null], [])] (hp L xs A V K T) v h' :=
  fn_aload_n rl_J_livesIn_0 rfl (fn_iload_n rl_J_livesIn_1 rfl (fn_virt (as := [.ref 26, .int a1]) (r := []) (ls' := [.ref 26, .int a1, .null, .null]) rl_J_livesIn_2 rfl hp_26 rfl rfl pl_J_claimBits rfl rfl (k0)))
set_option maxRecDepth 100000 in
set_option maxHeartbeats 4000000 in
theorem sg_J_livesIn_5r {L : Nat} {xs : Nat → Int32} {A V : Nat → Nat → Int32} {K : Nat → Option Nat} {T : am_H} {v : Option Int32} {h' : am_H} {v1 r : Int32} (k0 :
    am_fin [(z_J_livesIn, 16, [.ref 26, .int v1, .int r, .int (((((((((r - ((((r : Int32).toUInt32 >>> ((1 : Int32).toUInt32 &&& Int32.toUInt32 31)).toInt32) &&& 1431655765)) &&& 858993459) + (((((r - ((((r : Int32).toUInt32 >>> ((1 : Int32).toUInt32 &&& Int32.toUInt32 31)).toInt32) &&& 1431655765)) : Int32).toUInt32 >>> ((2 : Int32).toUInt32 &&& Int32.toUInt32 31)).toInt32) &&& 858993459)) + ((((((r - ((((r : Int32).toUInt32 >>> ((1 : Int32).toUInt32 &&& Int32.toUInt32 31)).toInt32) &&& 1431655765)) &&& 858993459) + (((((r - ((((r : Int32).toUInt32 >>> ((1 : Int32).toUInt32 &&& Int32.toUInt32 31)).toInt32) &&& 1431655765)) : Int32).toUInt32 >>> ((2 : Int32).toUInt32 &&& Int32.toUInt32 31)).toInt32) &&& 858993459)) : Int32).toUInt32 >>> ((4 : Int32).toUInt32 &&& Int32.toUInt32 31)).toInt32)) &&& 252645135) + ((((((((r - ((((r : Int32).toUInt32 >>> ((1 : Int32).toUInt32 &&& Int32.toUInt32 31)).toInt32) &&& 1431655765)) &&& 858993459) + (((((r - ((((r : Int32).toUInt32 >>> ((1 : Int32).toUInt32 &&& Int32.toUInt32 31)).toInt32) &&& 1431655765)) : Int32).toUInt32 >>> ((2 : Int32).toUInt32 &&& Int32.toUInt32 31)).toInt32) &&& 858993459)) + ((((((r - ((((r : Int32).toUInt32 >>> ((1 : Int32).toUInt32 &&& Int32.toUInt32 31)).toInt32) &&& 1431655765)) &&& 858993459) + (((((r - ((((r : Int32).toUInt32 >>> ((1 : Int32).toUInt32 &&& Int32.toUInt32 31)).toInt32) &&& 1431655765)) : Int32).toUInt32 >>> ((2 : Int32).toUInt32 &&& Int32.toUInt32 31)).toInt32) &&& 858993459)) : Int32).toUInt32 >>> ((4 : Int32).toUInt32 &&& Int32.toUInt32 31)).toInt32)) &&& 252645135) : Int32).toUInt32 >>> ((8 : Int32).toUInt32 &&& Int32.toUInt32 31)).toInt32)) + (((((((((r - ((((r : Int32).toUInt32 >>> ((1 : Int32).toUInt32 &&& Int32.toUInt32 31)).toInt32) &&& 1431655765)) &&& 858993459) + (((((r - ((((r : Int32).toUInt32 >>> ((1 : Int32).toUInt32 &&& Int32.toUInt32 31)).toInt32) &&& 1431655765)) : Int32).toUInt32 >>> ((2 : Int32).toUInt32 &&& Int32.toUInt32 31)).toInt32) &&& 858993459)) + ((((((r - ((((r : Int32).toUInt32 >>> ((1 : Int32).toUInt32 &&& Int32.toUInt32 31)).toInt32) &&& 1431655765)) &&& 858993459) + (((((r - ((((r : Int32).toUInt32 >>> ((1 : Int32).toUInt32 &&& Int32.toUInt32 31)).toInt32) &&& 1431655765)) : Int32).toUInt32 >>> ((2 : Int32).toUInt32 &&& Int32.toUInt32 31)).toInt32) &&& 858993459)) : Int32).toUInt32 >>> ((4 : Int32).toUInt32 &&& Int32.toUInt32 31)).toInt32)) &&& 252645135) + ((((((((r - ((((r : Int32).toUInt32 >>> ((1 : Int32).toUInt32 &&& Int32.toUInt32 31)).toInt32) &&& 1431655765)) &&& 858993459) + (((((r - ((((r : Int32).toUInt32 >>> ((1 : Int32).toUInt32 &&& Int32.toUInt32 31)).toInt32) &&& 1431655765)) : Int32).toUInt32 >>> ((2 : Int32).toUInt32 &&& Int32.toUInt32 31)).toInt32) &&& 858993459)) + ((((((r - ((((r : Int32).toUInt32 >>> ((1 : Int32).toUInt32 &&& Int32.toUInt32 31)).toInt32) &&& 1431655765)) &&& 858993459) + (((((r - ((((r : Int32).toUInt32 >>> ((1 : Int32).toUInt32 &&& Int32.toUInt32 31)).toInt32) &&& 1431655765)) : Int32).toUInt32 >>> ((2 : Int32).toUInt32 &&& Int32.toUInt32 31)).toInt32) &&& 858993459)) : Int32).toUInt32 >>> ((4 : Int32).toUInt32 &&& Int32.toUInt32 31)).toInt32)) &&& 252645135) : Int32).toUInt32 >>> ((8 : Int32).toUInt32 &&& Int32.toUInt32 31)).toInt32)) : Int32).toUInt32 >>> ((16 : Int32).toUInt32 &&& Int32.toUInt32 31)).toInt32)) &&& 63) - 1), .int 0], [])] (hp L xs A V K T) v h') : am_fin [(z_J_livesIn, 5, [.ref 26, .int v1, .null, .null, .null], [.int r])] (hp L xs A V K T) v h' :=
  fn_istore_n (ls' := [.ref 26, .int v1, .int r, .null, .null]) rl_J_livesIn_5 rfl rfl (fn_iload_n rl_J_livesIn_6 rfl (fn_stat (as := [.int r]) (r := []) (ls' := [.int r]) rl_J_livesIn_7 rfl rfl rfl rfl pl_X_bitCount rfl rfl (fn_iload_n rl_X_bitCount_0 rfl (fn_iload_n rl_X_bitCount_1 rfl (fn_iconst rl_X_bitCount_2 (fn_iushr rl_X_bitCount_3 (fn_ldc_w rl_X_bitCount_4 (fn_iand rl_X_bitCount_7 (fn_isub rl_X_bitCount_8 (fn_istore_n (ls' := [.int (r - ((((r : Int32).toUInt32 >>> ((1 : Int32).toUInt32 &&& Int32.toUInt32 31)).toInt32) &&& 1431655765))]) rl_X_bitCount_9 rfl rfl (fn_iload_n rl_X_bitCount_10 rfl (fn_ldc_w rl_X_bitCount_11 (fn_iand rl_X_bitCount_14 (fn_iload_n rl_X_bitCount_15 rfl (fn_iconst rl_X_bitCount_16 (fn_iushr rl_X_bitCount_17 (fn_ldc_w rl_X_bitCount_18 (fn_iand rl_X_bitCount_21 (fn_iadd rl_X_bitCount_22 (fn_istore_n (ls' := [.int (((r - ((((r : Int32).toUInt32 >>> ((1 : Int32).toUInt32 &&& Int32.toUInt32 31)).toInt32) &&& 1431655765)) &&& 858993459) + (((((r - ((((r : Int32).toUInt32 >>> ((1 : Int32).toUInt32 &&& Int32.toUInt32 31)).toInt32) &&& 1431655765)) : Int32).toUInt32 >>> ((2 : Int32).toUInt32 &&& Int32.toUInt32 31)).toInt32) &&& 858993459))]) rl_X_bitCount_23 rfl rfl (fn_iload_n rl_X_bitCount_24 rfl (fn_iload_n rl_X_bitCount_25 rfl (fn_iconst rl_X_bitCount_26 (fn_iushr rl_X_bitCount_27 (fn_iadd rl_X_bitCount_28 (fn_ldc_w rl_X_bitCount_29 (fn_iand rl_X_bitCount_32 (fn_istore_n (ls' := [.int (((((r - ((((r : Int32).toUInt32 >>> ((1 : Int32).toUInt32 &&& Int32.toUInt32 31)).toInt32) &&& 1431655765)) &&& 858993459) + (((((r - ((((r : Int32).toUInt32 >>> ((1 : Int32).toUInt32 &&& Int32.toUInt32 31)).toInt32) &&& 1431655765)) : Int32).toUInt32 >>> ((2 : Int32).toUInt32 &&& Int32.toUInt32 31)).toInt32) &&& 858993459)) + ((((((r - ((((r : Int32).toUInt32 >>> ((1 : Int32).toUInt32 &&& Int32.toUInt32 31)).toInt32) &&& 1431655765)) &&& 858993459) + (((((r - ((((r : Int32).toUInt32 >>> ((1 : Int32).toUInt32 &&& Int32.toUInt32 31)).toInt32) &&& 1431655765)) : Int32).toUInt32 >>> ((2 : Int32).toUInt32 &&& Int32.toUInt32 31)).toInt32) &&& 858993459)) : Int32).toUInt32 >>> ((4 : Int32).toUInt32 &&& Int32.toUInt32 31)).toInt32)) &&& 252645135)]) rl_X_bitCount_33 rfl rfl (fn_iload_n rl_X_bitCount_34 rfl (fn_iload_n rl_X_bitCount_35 rfl (fn_bipush rl_X_bitCount_36 (fn_iushr rl_X_bitCount_38 (fn_iadd rl_X_bitCount_39 (fn_istore_n (ls' := [.int ((((((r - ((((r : Int32).toUInt32 >>> ((1 : Int32).toUInt32 &&& Int32.toUInt32 31)).toInt32) &&& 1431655765)) &&& 858993459) + (((((r - ((((r : Int32).toUInt32 >>> ((1 : Int32).toUInt32 &&& Int32.toUInt32 31)).toInt32) &&& 1431655765)) : Int32).toUInt32 >>> ((2 : Int32).toUInt32 &&& Int32.toUInt32 31)).toInt32) &&& 858993459)) + ((((((r - ((((r : Int32).toUInt32 >>> ((1 : Int32).toUInt32 &&& Int32.toUInt32 31)).toInt32) &&& 1431655765)) &&& 858993459) + (((((r - ((((r : Int32).toUInt32 >>> ((1 : Int32).toUInt32 &&& Int32.toUInt32 31)).toInt32) &&& 1431655765)) : Int32).toUInt32 >>> ((2 : Int32).toUInt32 &&& Int32.toUInt32 31)).toInt32) &&& 858993459)) : Int32).toUInt32 >>> ((4 : Int32).toUInt32 &&& Int32.toUInt32 31)).toInt32)) &&& 252645135) + ((((((((r - ((((r : Int32).toUInt32 >>> ((1 : Int32).toUInt32 &&& Int32.toUInt32 31)).toInt32) &&& 1431655765)) &&& 858993459) + (((((r - ((((r : Int32).toUInt32 >>> ((1 : Int32).toUInt32 &&& Int32.toUInt32 31)).toInt32) &&& 1431655765)) : Int32).toUInt32 >>> ((2 : Int32).toUInt32 &&& Int32.toUInt32 31)).toInt32) &&& 858993459)) + ((((((r - ((((r : Int32).toUInt32 >>> ((1 : Int32).toUInt32 &&& Int32.toUInt32 31)).toInt32) &&& 1431655765)) &&& 858993459) + (((((r - ((((r : Int32).toUInt32 >>> ((1 : Int32).toUInt32 &&& Int32.toUInt32 31)).toInt32) &&& 1431655765)) : Int32).toUInt32 >>> ((2 : Int32).toUInt32 &&& Int32.toUInt32 31)).toInt32) &&& 858993459)) : Int32).toUInt32 >>> ((4 : Int32).toUInt32 &&& Int32.toUInt32 31)).toInt32)) &&& 252645135) : Int32).toUInt32 >>> ((8 : Int32).toUInt32 &&& Int32.toUInt32 31)).toInt32))]) rl_X_bitCount_40 rfl rfl (fn_iload_n rl_X_bitCount_41 rfl (fn_iload_n rl_X_bitCount_42 rfl (fn_bipush rl_X_bitCount_43 (fn_iushr rl_X_bitCount_45 (fn_iadd rl_X_bitCount_46 (fn_istore_n (ls' := [.int (((((((r - ((((r : Int32).toUInt32 >>> ((1 : Int32).toUInt32 &&& Int32.toUInt32 31)).toInt32) &&& 1431655765)) &&& 858993459) + (((((r - ((((r : Int32).toUInt32 >>> ((1 : Int32).toUInt32 &&& Int32.toUInt32 31)).toInt32) &&& 1431655765)) : Int32).toUInt32 >>> ((2 : Int32).toUInt32 &&& Int32.toUInt32 31)).toInt32) &&& 858993459)) + ((((((r - ((((r : Int32).toUInt32 >>> ((1 : Int32).toUInt32 &&& Int32.toUInt32 31)).toInt32) &&& 1431655765)) &&& 858993459) + (((((r - ((((r : Int32).toUInt32 >>> ((1 : Int32).toUInt32 &&& Int32.toUInt32 31)).toInt32) &&& 1431655765)) : Int32).toUInt32 >>> ((2 : Int32).toUInt32 &&& Int32.toUInt32 31)).toInt32) &&& 858993459)) : Int32).toUInt32 >>> ((4 : Int32).toUInt32 &&& Int32.toUInt32 31)).toInt32)) &&& 252645135) + ((((((((r - ((((r : Int32).toUInt32 >>> ((1 : Int32).toUInt32 &&& Int32.toUInt32 31)).toInt32) &&& 1431655765)) &&& 858993459) + (((((r - ((((r : Int32).toUInt32 >>> ((1 : Int32).toUInt32 &&& Int32.toUInt32 31)).toInt32) &&& 1431655765)) : Int32).toUInt32 >>> ((2 : Int32).toUInt32 &&& Int32.toUInt32 31)).toInt32) &&& 858993459)) + ((((((r - ((((r : Int32).toUInt32 >>> ((1 : Int32).toUInt32 &&& Int32.toUInt32 31)).toInt32) &&& 1431655765)) &&& 858993459) + (((((r - ((((r : Int32).toUInt32 >>> ((1 : Int32).toUInt32 &&& Int32.toUInt32 31)).toInt32) &&& 1431655765)) : Int32).toUInt32 >>> ((2 : Int32).toUInt32 &&& Int32.toUInt32 31)).toInt32) &&& 858993459)) : Int32).toUInt32 >>> ((4 : Int32).toUInt32 &&& Int32.toUInt32 31)).toInt32)) &&& 252645135) : Int32).toUInt32 >>> ((8 : Int32).toUInt32 &&& Int32.toUInt32 31)).toInt32)) + (((((((((r - ((((r : Int32).toUInt32 >>> ((1 : Int32).toUInt32 &&& Int32.toUInt32 31)).toInt32) &&& 1431655765)) &&& 858993459) + (((((r - ((((r : Int32).toUInt32 >>> ((1 : Int32).toUInt32 &&& Int32.toUInt32 31)).toInt32) &&& 1431655765)) : Int32).toUInt32 >>> ((2 : Int32).toUInt32 &&& Int32.toUInt32 31)).toInt32) &&& 858993459)) + ((((((r - ((((r : Int32).toUInt32 >>> ((1 : Int32).toUInt32 &&& Int32.toUInt32 31)).toInt32) &&& 1431655765)) &&& 858993459) + (((((r - ((((r : Int32).toUInt32 >>> ((1 : Int32).toUInt32 &&& Int32.toUInt32 31)).toInt32) &&& 1431655765)) : Int32).toUInt32 >>> ((2 : Int32).toUInt32 &&& Int32.toUInt32 31)).toInt32) &&& 858993459)) : Int32).toUInt32 >>> ((4 : Int32).toUInt32 &&& Int32.toUInt32 31)).toInt32)) &&& 252645135) + ((((((((r - ((((r : Int32).toUInt32 >>> ((1 : Int32).toUInt32 &&& Int32.toUInt32 31)).toInt32) &&& 1431655765)) &&& 858993459) + (((((r - ((((r : Int32).toUInt32 >>> ((1 : Int32).toUInt32 &&& Int32.toUInt32 31)).toInt32) &&& 1431655765)) : Int32).toUInt32 >>> ((2 : Int32).toUInt32 &&& Int32.toUInt32 31)).toInt32) &&& 858993459)) + ((((((r - ((((r : Int32).toUInt32 >>> ((1 : Int32).toUInt32 &&& Int32.toUInt32 31)).toInt32) &&& 1431655765)) &&& 858993459) + (((((r - ((((r : Int32).toUInt32 >>> ((1 : Int32).toUInt32 &&& Int32.toUInt32 31)).toInt32) &&& 1431655765)) : Int32).toUInt32 >>> ((2 : Int32).toUInt32 &&& Int32.toUInt32 31)).toInt32) &&& 858993459)) : Int32).toUInt32 >>> ((4 : Int32).toUInt32 &&& Int32.toUInt32 31)).toInt32)) &&& 252645135) : Int32).toUInt32 >>> ((8 : Int32).toUInt32 &&& Int32.toUInt32 31)).toInt32)) : Int32).toUInt32 >>> ((16 : Int32).toUInt32 &&& Int32.toUInt32 31)).toInt32))]) rl_X_bitCount_47 rfl rfl (fn_iload_n rl_X_bitCount_48 rfl (fn_bipush rl_X_bitCount_49 (fn_iand rl_X_bitCount_51 (fn_retci rl_X_bitCount_52 rfl (fn_iconst rl_J_livesIn_10 (fn_isub rl_J_livesIn_11 (fn_istore_n (ls' := [.ref 26, .int v1, .int r, .int (((((((((r - ((((r : Int32).toUInt32 >>> ((1 : Int32).toUInt32 &&& Int32.toUInt32 31)).toInt32) &&& 1431655765)) &&& 858993459) + (((((r - ((((r : Int32).toUInt32 >>> ((1 : Int32).toUInt32 &&& Int32.toUInt32 31)).toInt32) &&& 1431655765)) : Int32).toUInt32 >>> ((2 : Int32).toUInt32 &&& Int32.toUInt32 31)).toInt32) &&& 858993459)) + ((((((r - ((((r : Int32).toUInt32 >>> ((1 : Int32).toUInt32 &&& Int32.toUInt32 31)).toInt32) &&& 1431655765)) &&& 858993459) + (((((r - ((((r : Int32).toUInt32 >>> ((1 : Int32).toUInt32 &&& Int32.toUInt32 31)).toInt32) &&& 1431655765)) : Int32).toUInt32 >>> ((2 : Int32).toUInt32 &&& Int32.toUInt32 31)).toInt32) &&& 858993459)) : Int32).toUInt32 >>> ((4 : Int32).toUInt32 &&& Int32.toUInt32 31)).toInt32)) &&& 252645135) + ((((((((r - ((((r : Int32).toUInt32 >>> ((1 : Int32).toUInt32 &&& Int32.toUInt32 31)).toInt32) &&& 1431655765)) &&& 858993459) + (((((r - ((((r : Int32).toUInt32 >>> ((1 : Int32).toUInt32 &&& Int32.toUInt32 31)).toInt32) &&& 1431655765)) : Int32).toUInt32 >>> ((2 : Int32).toUInt32 &&& Int32.toUInt32 31)).toInt32) &&& 858993459)) + ((((((r - ((((r : Int32).toUInt32 >>> ((1 : Int32).toUInt32 &&& Int32.toUInt32 31)).toInt32) &&& 1431655765)) &&& 858993459) + (((((r - ((((r : Int32).toUInt32 >>> ((1 : Int32).toUInt32 &&& Int32.toUInt32 31)).toInt32) &&& 1431655765)) : Int32).toUInt32 >>> ((2 : Int32).toUInt32 &&& Int32.toUInt32 31)).toInt32) &&& 858993459)) : Int32).toUInt32 >>> ((4 : Int32).toUInt32 &&& Int32.toUInt32 31)).toInt32)) &&& 252645135) : Int32).toUInt32 >>> ((8 : Int32).toUInt32 &&& Int32.toUInt32 31)).toInt32)) + (((((((((r - ((((r : Int32).toUInt32 >>> ((1 : Int32).toUInt32 &&& Int32.toUInt32 31)).toInt32) &&& 1431655765)) &&& 858993459) + (((((r - ((((r : Int32).toUInt32 >>> ((1 : Int32).toUInt32 &&& Int32.toUInt32 31)).toInt32) &&& 1431655765)) : Int32).toUInt32 >>> ((2 : Int32).toUInt32 &&& Int32.toUInt32 31)).toInt32) &&& 858993459)) + ((((((r - ((((r : Int32).toUInt32 >>> ((1 : Int32).toUInt32 &&& Int32.toUInt32 31)).toInt32) &&& 1431655765)) &&& 858993459) + (((((r - ((((r : Int32).toUInt32 >>> ((1 : Int32).toUInt32 &&& Int32.toUInt32 31)).toInt32) &&& 1431655765)) : Int32).toUInt32 >>> ((2 : Int32).toUInt32 &&& Int32.toUInt32 31)).toInt32) &&& 858993459)) : Int32).toUInt32 >>> ((4 : Int32).toUInt32 &&& Int32.toUInt32 31)).toInt32)) &&& 252645135) + ((((((((r - ((((r : Int32).toUInt32 >>> ((1 : Int32).toUInt32 &&& Int32.toUInt32 31)).toInt32) &&& 1431655765)) &&& 858993459) + (((((r - ((((r : Int32).toUInt32 >>> ((1 : Int32).toUInt32 &&& Int32.toUInt32 31)).toInt32) &&& 1431655765)) : Int32).toUInt32 >>> ((2 : Int32).toUInt32 &&& Int32.toUInt32 31)).toInt32) &&& 858993459)) + ((((((r - ((((r : Int32).toUInt32 >>> ((1 : Int32).toUInt32 &&& Int32.toUInt32 31)).toInt32) &&& 1431655765)) &&& 858993459) + (((((r - ((((r : Int32).toUInt32 >>> ((1 : Int32).toUInt32 &&& Int32.toUInt32 31)).toInt32) &&& 1431655765)) : Int32).toUInt32 >>> ((2 : Int32).toUInt32 &&& Int32.toUInt32 31)).toInt32) &&& 858993459)) : Int32).toUInt32 >>> ((4 : Int32).toUInt32 &&& Int32.toUInt32 31)).toInt32)) &&& 252645135) : Int32).toUInt32 >>> ((8 : Int32).toUInt32 &&& Int32.toUInt32 31)).toInt32)) : Int32).toUInt32 >>> ((16 : Int32).toUInt32 &&& Int32.toUInt32 31)).toInt32)) &&& 63) - 1), .null]) rl_J_livesIn_12 rfl rfl (fn_iconst rl_J_livesIn_13 (fn_istore (ls' := [.ref 26, .int v1, .int r, .int (((((((((r - ((((r : Int32).toUInt32 >>> ((1 : Int32).toUInt32 &&& Int32.toUInt32 31)).toInt32) &&& 1431655765)) &&& 858993459) + (((((r - ((((r : Int32).toUInt32 >>> ((1 : Int32).toUInt32 &&& Int32.toUInt32 31)).toInt32) &&& 1431655765)) : Int32).toUInt32 >>> ((2 : Int32).toUInt32 &&& Int32.toUInt32 31)).toInt32) &&& 858993459)) + ((((((r - ((((r : Int32).toUInt32 >>> ((1 : Int32).toUInt32 &&& Int32.toUInt32 31)).toInt32) &&& 1431655765)) &&& 858993459) + (((((r - ((((r : Int32).toUInt32 >>> ((1 : Int32).toUInt32 &&& Int32.toUInt32 31)).toInt32) &&& 1431655765)) : Int32).toUInt32 >>> ((2 : Int32).toUInt32 &&& Int32.toUInt32 31)).toInt32) &&& 858993459)) : Int32).toUInt32 >>> ((4 : Int32).toUInt32 &&& Int32.toUInt32 31)).toInt32)) &&& 252645135) + ((((((((r - ((((r : Int32).toUInt32 >>> ((1 : Int32).toUInt32 &&& Int32.toUInt32 31)).toInt32) &&& 1431655765)) &&& 858993459) + (((((r - ((((r : Int32).toUInt32 >>> ((1 : Int32).toUInt32 &&& Int32.toUInt32 31)).toInt32) &&& 1431655765)) : Int32).toUInt32 >>> ((2 : Int32).toUInt32 &&& Int32.toUInt32 31)).toInt32) &&& 858993459)) + ((((((r - ((((r : Int32).toUInt32 >>> ((1 : Int32).toUInt32 &&& Int32.toUInt32 31)).toInt32) &&& 1431655765)) &&& 858993459) + (((((r - ((((r : Int32).toUInt32 >>> ((1 : Int32).toUInt32 &&& Int32.toUInt32 31)).toInt32) &&& 1431655765)) : Int32).toUInt32 >>> ((2 : Int32).toUInt32 &&& Int32.toUInt32 31)).toInt32) &&& 858993459)) : Int32).toUInt32 >>> ((4 : Int32).toUInt32 &&& Int32.toUInt32 31)).toInt32)) &&& 252645135) : Int32).toUInt32 >>> ((8 : Int32).toUInt32 &&& Int32.toUInt32 31)).toInt32)) + (((((((((r - ((((r : Int32).toUInt32 >>> ((1 : Int32).toUInt32 &&& Int32.toUInt32 31)).toInt32) &&& 1431655765)) &&& 858993459) + (((((r - ((((r : Int32).toUInt32 >>> ((1 : Int32).toUInt32 &&& Int32.toUInt32 31)).toInt32) &&& 1431655765)) : Int32).toUInt32 >>> ((2 : Int32).toUInt32 &&& Int32.toUInt32 31)).toInt32) &&& 858993459)) + ((((((r - ((((r : Int32).toUInt32 >>> ((1 : Int32).toUInt32 &&& Int32.toUInt32 31)).toInt32) &&& 1431655765)) &&& 858993459) + (((((r - ((((r : Int32).toUInt32 >>> ((1 : Int32).toUInt32 &&& Int32.toUInt32 31)).toInt32) &&& 1431655765)) : Int32).toUInt32 >>> ((2 : Int32).toUInt32 &&& Int32.toUInt32 31)).toInt32) &&& 858993459)) : Int32).toUInt32 >>> ((4 : Int32).toUInt32 &&& Int32.toUInt32 31)).toInt32)) &&& 252645135) + ((((((((r - ((((r : Int32).toUInt32 >>> ((1 : Int32).toUInt32 &&& Int32.toUInt32 31)).toInt32) &&& 1431655765)) &&& 858993459) + (((((r - ((((r : Int32).toUInt32 >>> ((1 : Int32).toUInt32 &&& Int32.toUInt32 31)).toInt32) &&& 1431655765)) : Int32).toUInt32 >>> ((2 : Int32).toUInt32 &&& Int32.toUInt32 31)).toInt32) &&& 858993459)) + ((((((r - ((((r : Int32).toUInt32 >>> ((1 : Int32).toUInt32 &&& Int32.toUInt32 31)).toInt32) &&& 1431655765)) &&& 858993459) + (((((r - ((((r : Int32).toUInt32 >>> ((1 : Int32).toUInt32 &&& Int32.toUInt32 31)).toInt32) &&& 1431655765)) : Int32).toUInt32 >>> ((2 : Int32).toUInt32 &&& Int32.toUInt32 31)).toInt32) &&& 858993459)) : Int32).toUInt32 >>> ((4 : Int32).toUInt32 &&& Int32.toUInt32 31)).toInt32)) &&& 252645135) : Int32).toUInt32 >>> ((8 : Int32).toUInt32 &&& Int32.toUInt32 31)).toInt32)) : Int32).toUInt32 >>> ((16 : Int32).toUInt32 &&& Int32.toUInt32 31)).toInt32)) &&& 63) - 1), .int 0]) rl_J_livesIn_14 rfl rfl (k0))))))))))))))))))))))))))))))))))))))))))))))))))
set_option maxRecDepth 100000 in
set_option maxHeartbeats 4000000 in
theorem sg_J_livesIn_16 {L : Nat} {xs : Nat → Int32} {A V : Nat → Nat → Int32} {K : Nat → Option Nat} {T : am_H} {v : Option Int32} {h' : am_H} {v1 v2 v3 v4 : Int32} (k0 :
    if 6 ≤ v4 then (
      v = some (-2) ∧ h' = hp L xs A V K T)
    else (
      if (((v2 : Int32) >>> (v4 &&& 31 : Int32)) &&& 1) = 1 then (
        am_fin [(z_J_beaten, 0, [.ref 26, .int v4, .int v2, .int v1, .null, .null], []), (z_J_livesIn, 40, [.ref 26, .int v1, .int v2, .int v3, .int v4], [])] (hp L xs A V K T) v h')
      else (
        am_fin [(z_J_livesIn, 16, [.ref 26, .int v1, .int v2, .int v3, .int (v4 + 1)], [])] (hp L xs A V K T) v h'))) : am_fin [(z_J_livesIn, 16, [.ref 26, .int v1, .int v2, .int v3, .int v4], [])] (hp L xs A V K T) v h' :=
  fn_iload rl_J_livesIn_16 rfl (fn_bipush rl_J_livesIn_18 (fn_icmp_ge rl_J_livesIn_20 (fun k2296 => fn_bipush rl_J_livesIn_53 (fn_reti rl_J_livesIn_55 rfl k2296)) (fun k2297 => fn_iload_n rl_J_livesIn_23 rfl (fn_iload rl_J_livesIn_24 rfl (fn_stat (as := [.int v2, .int v4]) (r := []) (ls' := [.int v2, .int v4]) rl_J_livesIn_26 rfl rfl rfl rfl pl_L_hasBit rfl rfl (fn_iload_n rl_L_hasBit_0 rfl (fn_iload_n rl_L_hasBit_1 rfl (fn_ishr rl_L_hasBit_2 (fn_iconst rl_L_hasBit_3 (fn_iand rl_L_hasBit_4 (fn_iconst rl_L_hasBit_5 (fn_icmp_ne rl_L_hasBit_6 (fun k2294 => fn_iconst rl_L_hasBit_9 (fn_goto rl_L_hasBit_10 (fn_retci rl_L_hasBit_14 rfl (fn_if_eq_f rl_J_livesIn_29 (by decide +kernel) (fn_aload_n rl_J_livesIn_32 rfl (fn_iload rl_J_livesIn_33 rfl (fn_iload_n rl_J_livesIn_35 rfl (fn_iload_n rl_J_livesIn_36 rfl (fn_virt (as := [.ref 26, .int v4, .int v2, .int v1]) (r := []) (ls' := [.ref 26, .int v4, .int v2, .int v1, .null, .null]) rl_J_livesIn_37 rfl hp_26 rfl rfl pl_J_beaten rfl rfl (k2294)))))))))) (fun k2295 => fn_iconst rl_L_hasBit_13 (fn_retci rl_L_hasBit_14 rfl (fn_if_eq_t rl_J_livesIn_29 (by decide +kernel) (fn_iinc (ls' := [.ref 26, .int v1, .int v2, .int v3, .int (v4 + 1)]) rl_J_livesIn_47 rfl rfl rfl (fn_goto rl_J_livesIn_50 (k2295)))))) k2297)))))))))) k0))
set_option maxRecDepth 100000 in
set_option maxHeartbeats 4000000 in
theorem sg_J_livesIn_40r {L : Nat} {xs : Nat → Int32} {A V : Nat → Nat → Int32} {K : Nat → Option Nat} {T : am_H} {v : Option Int32} {h' : am_H} {v1 v2 v3 v4 r : Int32} (k0 :
    if r = v3 then (
      v = some v4 ∧ h' = hp L xs A V K T)
    else (
      am_fin [(z_J_livesIn, 16, [.ref 26, .int v1, .int v2, .int v3, .int (v4 + 1)], [])] (hp L xs A V K T) v h')) : am_fin [(z_J_livesIn, 40, [.ref 26, .int v1, .int v2, .int v3, .int v4], [.int r])] (hp L xs A V K T) v h' :=
  fn_iload_n rl_J_livesIn_40 rfl (fn_icmp_ne rl_J_livesIn_41 (fun k2298 => fn_iload rl_J_livesIn_44 rfl (fn_reti rl_J_livesIn_46 rfl k2298)) (fun k2299 => fn_iinc (ls' := [.ref 26, .int v1, .int v2, .int v3, .int (v4 + 1)]) rl_J_livesIn_47 rfl rfl rfl (fn_goto rl_J_livesIn_50 (k2299))) k0)
set_option maxRecDepth 100000 in
set_option maxHeartbeats 4000000 in
theorem sg_J_isPairOf_0 {L : Nat} {xs : Nat → Int32} {A V : Nat → Nat → Int32} {K : Nat → Option Nat} {T : am_H} {v : Option Int32} {h' : am_H} {a1 a2 a3 a4 : Int32} (k0 :
    am_fin [(z_J_answerOf, 0, [.ref 26, .int a1, .int a2, .int a3, .null, .null, .null], []), (z_J_isPairOf, 7, [.ref 26, .int a1, .int a2, .int a3, .int a4, .null, .null], [])] (hp L xs A V K T) v h') : am_fin [(z_J_isPairOf, 0, [.ref 26, .int a1, .int a2, .int a3, .int a4, .null, .null], [])] (hp L xs A V K T) v h' :=
  fn_aload_n rl_J_isPairOf_0 rfl (fn_iload_n rl_J_isPairOf_1 rfl (fn_iload_n rl_J_isPairOf_2 rfl (fn_iload_n rl_J_isPairOf_3 rfl (fn_virt (as := [.ref 26, .int a1, .int a2, .int a3]) (r := []) (ls' := [.ref 26, .int a1, .int a2, .int a3, .null, .null, .null]) rl_J_isPairOf_4 rfl hp_26 rfl rfl pl_J_answerOf rfl rfl (k0)))))
set_option maxRecDepth 100000 in
set_option maxHeartbeats 4000000 in
theorem sg_J_isPairOf_7r {L : Nat} {xs : Nat → Int32} {A V : Nat → Nat → Int32} {K : Nat → Option Nat} {T : am_H} {v : Option Int32} {h' : am_H} {v1 v2 v3 v4 r : Int32} (k0 :
    am_fin [(z_J_answerOf, 0, [.ref 26, .int v2, .int v1, .int v3, .null, .null, .null], []), (z_J_isPairOf, 16, [.ref 26, .int v1, .int v2, .int v3, .int v4, .int r, .null], [])] (hp L xs A V K T) v h') : am_fin [(z_J_isPairOf, 7, [.ref 26, .int v1, .int v2, .int v3, .int v4, .null, .null], [.int r])] (hp L xs A V K T) v h' :=
  fn_istore (ls' := [.ref 26, .int v1, .int v2, .int v3, .int v4, .int r, .null]) rl_J_isPairOf_7 rfl rfl (fn_aload_n rl_J_isPairOf_9 rfl (fn_iload_n rl_J_isPairOf_10 rfl (fn_iload_n rl_J_isPairOf_11 rfl (fn_iload_n rl_J_isPairOf_12 rfl (fn_virt (as := [.ref 26, .int v2, .int v1, .int v3]) (r := []) (ls' := [.ref 26, .int v2, .int v1, .int v3, .null, .null, .null]) rl_J_isPairOf_13 rfl hp_26 rfl rfl pl_J_answerOf rfl rfl (k0))))))
set_option maxRecDepth 100000 in
set_option maxHeartbeats 4000000 in
theorem sg_J_isPairOf_16r {L : Nat} {xs : Nat → Int32} {A V : Nat → Nat → Int32} {K : Nat → Option Nat} {T : am_H} {v : Option Int32} {h' : am_H} {v1 v2 v3 v4 v5 r : Int32} (k0 :
    if v4 = 1 then (
      if v5 = r then (
        v = some 0 ∧ h' = hp L xs A V K T)
      else (
        v = some 1 ∧ h' = hp L xs A V K T))
    else (
      if v4 = 0 then (
        v = some 1 ∧ h' = hp L xs A V K T)
      else (
        if v5 = (-2) then (
          if r = (-2) then (
            v = some 1 ∧ h' = hp L xs A V K T)
          else (
            v = some 0 ∧ h' = hp L xs A V K T))
        else (
          v = some 0 ∧ h' = hp L xs A V K T)))) : am_fin [(z_J_isPairOf, 16, [.ref 26, .int v1, .int v2, .int v3, .int v4, .int v5, .null], [.int r])] (hp L xs A V K T) v h' :=
  fn_istore (ls' := [.ref 26, .int v1, .int v2, .int v3, .int v4, .int v5, .int r]) rl_J_isPairOf_16 rfl rfl (fn_iload rl_J_isPairOf_18 rfl (fn_iconst rl_J_isPairOf_20 (fn_icmp_ne rl_J_isPairOf_21 (fun k2308 => fn_iload rl_J_isPairOf_24 rfl (fn_iload rl_J_isPairOf_26 rfl (fn_icmp_eq rl_J_isPairOf_28 (fun k2300 => fn_iconst rl_J_isPairOf_35 (fn_reti rl_J_isPairOf_36 rfl k2300)) (fun k2301 => fn_iconst rl_J_isPairOf_31 (fn_goto rl_J_isPairOf_32 (fn_reti rl_J_isPairOf_36 rfl k2301))) k2308))) (fun k2309 => fn_iload rl_J_isPairOf_37 rfl (fn_if_eq rl_J_isPairOf_39 (fun k2306 => fn_iconst rl_J_isPairOf_56 (fn_goto rl_J_isPairOf_57 (fn_reti rl_J_isPairOf_61 rfl k2306))) (fun k2307 => fn_iload rl_J_isPairOf_42 rfl (fn_bipush rl_J_isPairOf_44 (fn_icmp_ne rl_J_isPairOf_46 (fun k2304 => fn_iload rl_J_isPairOf_49 rfl (fn_bipush rl_J_isPairOf_51 (fn_icmp_ne rl_J_isPairOf_53 (fun k2302 => fn_iconst rl_J_isPairOf_56 (fn_goto rl_J_isPairOf_57 (fn_reti rl_J_isPairOf_61 rfl k2302))) (fun k2303 => fn_iconst rl_J_isPairOf_60 (fn_reti rl_J_isPairOf_61 rfl k2303)) k2304))) (fun k2305 => fn_iconst rl_J_isPairOf_60 (fn_reti rl_J_isPairOf_61 rfl k2305)) k2307))) k2309)) k0)))
set_option maxRecDepth 100000 in
set_option maxHeartbeats 4000000 in
theorem sg_J_splitFrom_3_0 {L : Nat} {xs : Nat → Int32} {A V : Nat → Nat → Int32} {K : Nat → Option Nat} {T : am_H} {v : Option Int32} {h' : am_H} {a1 a2 : Int32} (k0 :
    if a2 ≤ 0 then (
      am_fin [(z_J_splitFrom, 24, [.ref 26, .int a1, .int a2, .ref 3, .int (a2 * 360)], [])] (hp L xs A V K T) v h')
    else (
      am_fin [(z_J_isClaiming, 0, [.ref 26, .int a1, .int (a2 - 1)], []), (z_J_splitFrom, 18, [.ref 26, .int a1, .int a2, .ref 3, .int (a2 * 360)], [])] (hp L xs A V K T) v h')) : am_fin [(z_J_splitFrom, 0, [.ref 26, .int a1, .int a2, .ref 3, .null], [])] (hp L xs A V K T) v h' :=
  fn_iload_n rl_J_splitFrom_0 rfl (fn_stat (as := [.int a2]) (r := []) (ls' := [.int a2]) rl_J_splitFrom_1 rfl rfl rfl rfl pl_L_firstOf rfl rfl (fn_iload_n rl_L_firstOf_0 rfl (fn_sipush rl_L_firstOf_1 (fn_imul rl_L_firstOf_4 (fn_retci rl_L_firstOf_5 rfl (fn_istore (ls' := [.ref 26, .int a1, .int a2, .ref 3, .int (a2 * 360)]) rl_J_splitFrom_4 rfl rfl (fn_iload_n rl_J_splitFrom_6 rfl (fn_if_le rl_J_splitFrom_7 (fun k2310 => k2310) (fun k2311 => fn_aload_n rl_J_splitFrom_10 rfl (fn_iload_n rl_J_splitFrom_11 rfl (fn_iload_n rl_J_splitFrom_12 rfl (fn_iconst rl_J_splitFrom_13 (fn_isub rl_J_splitFrom_14 (fn_virt (as := [.ref 26, .int a1, .int (a2 - 1)]) (r := []) (ls' := [.ref 26, .int a1, .int (a2 - 1)]) rl_J_splitFrom_15 rfl hp_26 rfl rfl pl_J_isClaiming rfl rfl (k2311))))))) k0))))))))
set_option maxRecDepth 100000 in
set_option maxHeartbeats 4000000 in
theorem sg_J_splitFrom_3_24 {L : Nat} {xs : Nat → Int32} {A V : Nat → Nat → Int32} {K : Nat → Option Nat} {T : am_H} {v : Option Int32} {h' : am_H} {v1 v2 v4 : Int32} (k0 :
    if (((v2 * 360) + 360) - 1) ≤ v4 then (
      v = some v4 ∧ h' = hp L xs A V K T)
    else (
      am_fin [(z_J_isBound, 0, [.ref 26, .int v1, .int v4, .ref 3], []), (z_J_splitFrom, 41, [.ref 26, .int v1, .int v2, .ref 3, .int v4], [])] (hp L xs A V K T) v h')) : am_fin [(z_J_splitFrom, 24, [.ref 26, .int v1, .int v2, .ref 3, .int v4], [])] (hp L xs A V K T) v h' :=
  fn_iload rl_J_splitFrom_24 rfl (fn_iload_n rl_J_splitFrom_26 rfl (fn_stat (as := [.int v2]) (r := [.int v4]) (ls' := [.int v2]) rl_J_splitFrom_27 rfl rfl rfl rfl pl_L_lastOf rfl rfl (fn_iload_n rl_L_lastOf_0 rfl (fn_sipush rl_L_lastOf_1 (fn_imul rl_L_lastOf_4 (fn_sipush rl_L_lastOf_5 (fn_iadd rl_L_lastOf_8 (fn_iconst rl_L_lastOf_9 (fn_isub rl_L_lastOf_10 (fn_retci rl_L_lastOf_11 rfl (fn_icmp_ge rl_J_splitFrom_30 (fun k2312 => fn_iload rl_J_splitFrom_50 rfl (fn_reti rl_J_splitFrom_52 rfl k2312)) (fun k2313 => fn_aload_n rl_J_splitFrom_33 rfl (fn_iload_n rl_J_splitFrom_34 rfl (fn_iload rl_J_splitFrom_35 rfl (fn_aload_n rl_J_splitFrom_37 rfl (fn_virt (as := [.ref 26, .int v1, .int v4, .ref 3]) (r := []) (ls' := [.ref 26, .int v1, .int v4, .ref 3]) rl_J_splitFrom_38 rfl hp_26 rfl rfl pl_J_isBound rfl rfl (k2313)))))) k0)))))))))))
set_option maxRecDepth 100000 in
set_option maxHeartbeats 4000000 in
theorem sg_J_splitFrom_3_41r {L : Nat} {xs : Nat → Int32} {A V : Nat → Nat → Int32} {K : Nat → Option Nat} {T : am_H} {v : Option Int32} {h' : am_H} {v1 v2 v4 r : Int32} (k0 :
    if r = 0 then (
      am_fin [(z_J_splitFrom, 24, [.ref 26, .int v1, .int v2, .ref 3, .int (v4 + 1)], [])] (hp L xs A V K T) v h')
    else (
      v = some v4 ∧ h' = hp L xs A V K T)) : am_fin [(z_J_splitFrom, 41, [.ref 26, .int v1, .int v2, .ref 3, .int v4], [.int r])] (hp L xs A V K T) v h' :=
  fn_if_ne rl_J_splitFrom_41 (fun k2314 => fn_iinc (ls' := [.ref 26, .int v1, .int v2, .ref 3, .int (v4 + 1)]) rl_J_splitFrom_44 rfl rfl rfl (fn_goto rl_J_splitFrom_47 (k2314))) (fun k2315 => fn_iload rl_J_splitFrom_50 rfl (fn_reti rl_J_splitFrom_52 rfl k2315)) k0
set_option maxRecDepth 100000 in
set_option maxHeartbeats 4000000 in
theorem sg_J_splitFrom_3_18r {L : Nat} {xs : Nat → Int32} {A V : Nat → Nat → Int32} {K : Nat → Option Nat} {T : am_H} {v : Option Int32} {h' : am_H} {v1 v2 v4 r : Int32} (k0 :
    if r = 0 then (
      am_fin [(z_J_splitFrom, 24, [.ref 26, .int v1, .int v2, .ref 3, .int v4], [])] (hp L xs A V K T) v h')
    else (
      v = some v4 ∧ h' = hp L xs A V K T)) : am_fin [(z_J_splitFrom, 18, [.ref 26, .int v1, .int v2, .ref 3, .int v4], [.int r])] (hp L xs A V K T) v h' :=
  fn_if_eq rl_J_splitFrom_18 (fun k2316 => k2316) (fun k2317 => fn_iload rl_J_splitFrom_21 rfl (fn_reti rl_J_splitFrom_23 rfl k2317)) k0
set_option maxRecDepth 100000 in
set_option maxHeartbeats 4000000 in
theorem sg_J_splitTill_3_0 {L : Nat} {xs : Nat → Int32} {A V : Nat → Nat → Int32} {K : Nat → Option Nat} {T : am_H} {v : Option Int32} {h' : am_H} {a1 a2 : Int32} (k0 :
    if 2 ≤ a2 then (
      am_fin [(z_J_splitTill, 25, [.ref 26, .int a1, .int a2, .ref 3, .int (((a2 * 360) + 360) - 1)], [])] (hp L xs A V K T) v h')
    else (
      am_fin [(z_J_isClaiming, 0, [.ref 26, .int a1, .int (a2 + 1)], []), (z_J_splitTill, 19, [.ref 26, .int a1, .int a2, .ref 3, .int (((a2 * 360) + 360) - 1)], [])] (hp L xs A V K T) v h')) : am_fin [(z_J_splitTill, 0, [.ref 26, .int a1, .int a2, .ref 3, .null], [])] (hp L xs A V K T) v h' :=
  fn_iload_n rl_J_splitTill_0 rfl (fn_stat (as := [.int a2]) (r := []) (ls' := [.int a2]) rl_J_splitTill_1 rfl rfl rfl rfl pl_L_lastOf rfl rfl (fn_iload_n rl_L_lastOf_0 rfl (fn_sipush rl_L_lastOf_1 (fn_imul rl_L_lastOf_4 (fn_sipush rl_L_lastOf_5 (fn_iadd rl_L_lastOf_8 (fn_iconst rl_L_lastOf_9 (fn_isub rl_L_lastOf_10 (fn_retci rl_L_lastOf_11 rfl (fn_istore (ls' := [.ref 26, .int a1, .int a2, .ref 3, .int (((a2 * 360) + 360) - 1)]) rl_J_splitTill_4 rfl rfl (fn_iload_n rl_J_splitTill_6 rfl (fn_iconst rl_J_splitTill_7 (fn_icmp_ge rl_J_splitTill_8 (fun k2318 => k2318) (fun k2319 => fn_aload_n rl_J_splitTill_11 rfl (fn_iload_n rl_J_splitTill_12 rfl (fn_iload_n rl_J_splitTill_13 rfl (fn_iconst rl_J_splitTill_14 (fn_iadd rl_J_splitTill_15 (fn_virt (as := [.ref 26, .int a1, .int (a2 + 1)]) (r := []) (ls' := [.ref 26, .int a1, .int (a2 + 1)]) rl_J_splitTill_16 rfl hp_26 rfl rfl pl_J_isClaiming rfl rfl (k2319))))))) k0)))))))))))))
set_option maxRecDepth 100000 in
set_option maxHeartbeats 4000000 in
theorem sg_J_splitTill_3_25 {L : Nat} {xs : Nat → Int32} {A V : Nat → Nat → Int32} {K : Nat → Option Nat} {T : am_H} {v : Option Int32} {h' : am_H} {v1 v2 v4 : Int32} (k0 :
    if v4 ≤ (v2 * 360) then (
      v = some v4 ∧ h' = hp L xs A V K T)
    else (
      am_fin [(z_J_isBound, 0, [.ref 26, .int v1, .int v4, .ref 3], []), (z_J_splitTill, 42, [.ref 26, .int v1, .int v2, .ref 3, .int v4], [])] (hp L xs A V K T) v h')) : am_fin [(z_J_splitTill, 25, [.ref 26, .int v1, .int v2, .ref 3, .int v4], [])] (hp L xs A V K T) v h' :=
  fn_iload rl_J_splitTill_25 rfl (fn_iload_n rl_J_splitTill_27 rfl (fn_stat (as := [.int v2]) (r := [.int v4]) (ls' := [.int v2]) rl_J_splitTill_28 rfl rfl rfl rfl pl_L_firstOf rfl rfl (fn_iload_n rl_L_firstOf_0 rfl (fn_sipush rl_L_firstOf_1 (fn_imul rl_L_firstOf_4 (fn_retci rl_L_firstOf_5 rfl (fn_icmp_le rl_J_splitTill_31 (fun k2320 => fn_iload rl_J_splitTill_51 rfl (fn_reti rl_J_splitTill_53 rfl k2320)) (fun k2321 => fn_aload_n rl_J_splitTill_34 rfl (fn_iload_n rl_J_splitTill_35 rfl (fn_iload rl_J_splitTill_36 rfl (fn_aload_n rl_J_splitTill_38 rfl (fn_virt (as := [.ref 26, .int v1, .int v4, .ref 3]) (r := []) (ls' := [.ref 26, .int v1, .int v4, .ref 3]) rl_J_splitTill_39 rfl hp_26 rfl rfl pl_J_isBound rfl rfl (k2321)))))) k0)))))))
set_option maxRecDepth 100000 in
set_option maxHeartbeats 4000000 in
theorem sg_J_splitTill_3_42r {L : Nat} {xs : Nat → Int32} {A V : Nat → Nat → Int32} {K : Nat → Option Nat} {T : am_H} {v : Option Int32} {h' : am_H} {v1 v2 v4 r : Int32} (k0 :
    if r = 0 then (
      am_fin [(z_J_splitTill, 25, [.ref 26, .int v1, .int v2, .ref 3, .int (v4 + (-1))], [])] (hp L xs A V K T) v h')
    else (
      v = some v4 ∧ h' = hp L xs A V K T)) : am_fin [(z_J_splitTill, 42, [.ref 26, .int v1, .int v2, .ref 3, .int v4], [.int r])] (hp L xs A V K T) v h' :=
  fn_if_ne rl_J_splitTill_42 (fun k2322 => fn_iinc (ls' := [.ref 26, .int v1, .int v2, .ref 3, .int (v4 + (-1))]) rl_J_splitTill_45 rfl rfl rfl (fn_goto rl_J_splitTill_48 (k2322))) (fun k2323 => fn_iload rl_J_splitTill_51 rfl (fn_reti rl_J_splitTill_53 rfl k2323)) k0
set_option maxRecDepth 100000 in
set_option maxHeartbeats 4000000 in
theorem sg_J_splitTill_3_19r {L : Nat} {xs : Nat → Int32} {A V : Nat → Nat → Int32} {K : Nat → Option Nat} {T : am_H} {v : Option Int32} {h' : am_H} {v1 v2 v4 r : Int32} (k0 :
    if r = 0 then (
      am_fin [(z_J_splitTill, 25, [.ref 26, .int v1, .int v2, .ref 3, .int v4], [])] (hp L xs A V K T) v h')
    else (
      v = some v4 ∧ h' = hp L xs A V K T)) : am_fin [(z_J_splitTill, 19, [.ref 26, .int v1, .int v2, .ref 3, .int v4], [.int r])] (hp L xs A V K T) v h' :=
  fn_if_eq rl_J_splitTill_19 (fun k2324 => k2324) (fun k2325 => fn_iload rl_J_splitTill_22 rfl (fn_reti rl_J_splitTill_24 rfl k2325)) k0
set_option maxRecDepth 100000 in
set_option maxHeartbeats 4000000 in
theorem sg_J_owedIn_3_0 {L : Nat} {xs : Nat → Int32} {A V : Nat → Nat → Int32} {K : Nat → Option Nat} {T : am_H} {v : Option Int32} {h' : am_H} {a1 : Int32} (k0 :
    am_fin [(z_J_livesIn, 0, [.ref 26, .int a1, .null, .null, .null], []), (z_J_owedIn, 5, [.ref 26, .int a1, .ref 3, .null, .null, .null, .null, .null, .null], [])] (hp L xs A V K T) v h') : am_fin [(z_J_owedIn, 0, [.ref 26, .int a1, .ref 3, .null, .null, .null, .null, .null, .null], [])] (hp L xs A V K T) v h' :=
  fn_aload_n rl_J_owedIn_0 rfl (fn_iload_n rl_J_owedIn_1 rfl (fn_virt (as := [.ref 26, .int a1]) (r := []) (ls' := [.ref 26, .int a1, .null, .null, .null]) rl_J_owedIn_2 rfl hp_26 rfl rfl pl_J_livesIn rfl rfl (k0)))
set_option maxRecDepth 100000 in
set_option maxHeartbeats 4000000 in
theorem sg_J_owedIn_3_5r {L : Nat} {xs : Nat → Int32} {A V : Nat → Nat → Int32} {K : Nat → Option Nat} {T : am_H} {v : Option Int32} {h' : am_H} {v1 r : Int32} (k0 :
    if r = (-2) then (
      if r = (-2) then (
        am_fin [(z_J_owedIn, 55, [.ref 26, .int v1, .ref 3, .int r, .int 1080, .int (-1), .int 0, .int (v1 * 360), .null], [])] (hp L xs A V K T) v h')
      else (
        am_fin [(z_J_splitTill, 0, [.ref 26, .int r, .int v1, .ref 3, .null], []), (z_J_owedIn, 44, [.ref 26, .int v1, .ref 3, .int r, .int 1080, .null, .null, .null, .null], [])] (hp L xs A V K T) v h'))
    else (
      am_fin [(z_J_splitFrom, 0, [.ref 26, .int r, .int v1, .ref 3, .null], []), (z_J_owedIn, 25, [.ref 26, .int v1, .ref 3, .int r, .null, .null, .null, .null, .null], [])] (hp L xs A V K T) v h')) : am_fin [(z_J_owedIn, 5, [.ref 26, .int v1, .ref 3, .null, .null, .null, .null, .null, .null], [.int r])] (hp L xs A V K T) v h' :=
  fn_istore_n (ls' := [.ref 26, .int v1, .ref 3, .int r, .null, .null, .null, .null, .null]) rl_J_owedIn_5 rfl rfl (fn_iload_n rl_J_owedIn_6 rfl (fn_bipush rl_J_owedIn_7 (fn_icmp_ne rl_J_owedIn_9 (fun k2328 => fn_sipush rl_J_owedIn_12 (fn_goto rl_J_owedIn_15 (fn_istore (ls' := [.ref 26, .int v1, .ref 3, .int r, .int 1080, .null, .null, .null, .null]) rl_J_owedIn_25 rfl rfl (fn_iload_n rl_J_owedIn_27 rfl (fn_bipush rl_J_owedIn_28 (fn_icmp_ne rl_J_owedIn_30 (fun k2326 => fn_iconst rl_J_owedIn_33 (fn_goto rl_J_owedIn_34 (fn_istore (ls' := [.ref 26, .int v1, .ref 3, .int r, .int 1080, .int (-1), .null, .null, .null]) rl_J_owedIn_44 rfl rfl (fn_iconst rl_J_owedIn_46 (fn_istore (ls' := [.ref 26, .int v1, .ref 3, .int r, .int 1080, .int (-1), .int 0, .null, .null]) rl_J_owedIn_47 rfl rfl (fn_iload_n rl_J_owedIn_49 rfl (fn_stat (as := [.int v1]) (r := []) (ls' := [.int v1]) rl_J_owedIn_50 rfl rfl rfl rfl pl_L_firstOf rfl rfl (fn_iload_n rl_L_firstOf_0 rfl (fn_sipush rl_L_firstOf_1 (fn_imul rl_L_firstOf_4 (fn_retci rl_L_firstOf_5 rfl (fn_istore (ls' := [.ref 26, .int v1, .ref 3, .int r, .int 1080, .int (-1), .int 0, .int (v1 * 360), .null]) rl_J_owedIn_53 rfl rfl (k2326))))))))))))) (fun k2327 => fn_aload_n rl_J_owedIn_37 rfl (fn_iload_n rl_J_owedIn_38 rfl (fn_iload_n rl_J_owedIn_39 rfl (fn_aload_n rl_J_owedIn_40 rfl (fn_virt (as := [.ref 26, .int r, .int v1, .ref 3]) (r := []) (ls' := [.ref 26, .int r, .int v1, .ref 3, .null]) rl_J_owedIn_41 rfl hp_26 rfl rfl pl_J_splitTill rfl rfl (k2327)))))) k2328)))))) (fun k2329 => fn_aload_n rl_J_owedIn_18 rfl (fn_iload_n rl_J_owedIn_19 rfl (fn_iload_n rl_J_owedIn_20 rfl (fn_aload_n rl_J_owedIn_21 rfl (fn_virt (as := [.ref 26, .int r, .int v1, .ref 3]) (r := []) (ls' := [.ref 26, .int r, .int v1, .ref 3, .null]) rl_J_owedIn_22 rfl hp_26 rfl rfl pl_J_splitFrom rfl rfl (k2329)))))) k0)))
set_option maxRecDepth 100000 in
set_option maxHeartbeats 4000000 in
theorem sg_J_owedIn_3_55 {L : Nat} {xs : Nat → Int32} {A V : Nat → Nat → Int32} {K : Nat → Option Nat} {T : am_H} {v : Option Int32} {h' : am_H} {v1 v3 v4 v5 v6 v7 : Int32} (k0 :
    if (((v1 * 360) + 360) - 1) < v7 then (
      v = some v6 ∧ h' = hp L xs A V K T)
    else (
      if v7 < v4 then (
        am_fin [(z_P_landOn, 0, [.ref 3, .int v7], []), (z_J_owedIn, 86, [.ref 26, .int v1, .ref 3, .int v3, .int v4, .int v5, .int v6, .int v7, .null], [])] (hp L xs A V K T) v h')
      else (
        if v5 < v7 then (
          am_fin [(z_P_landOn, 0, [.ref 3, .int v7], []), (z_J_owedIn, 86, [.ref 26, .int v1, .ref 3, .int v3, .int v4, .int v5, .int v6, .int v7, .null], [])] (hp L xs A V K T) v h')
        else (
          if v3 < 0 then (
            am_fin [(z_J_owedIn, 55, [.ref 26, .int v1, .ref 3, .int v3, .int v4, .int v5, .int (v6 + 0), .int (v7 + 1), .int v3], [])] (hp L xs A V K T) v h')
          else (
            if 5 < v3 then (
              am_fin [(z_J_owedIn, 55, [.ref 26, .int v1, .ref 3, .int v3, .int v4, .int v5, .int (v6 + 0), .int (v7 + 1), .int v3], [])] (hp L xs A V K T) v h')
            else (
              ¬ (v3 < 0 ∨ 6 ≤ v3.toNatClampNeg) ∧ (
              am_fin [(z_J_owedIn, 55, [.ref 26, .int v1, .ref 3, .int v3, .int v4, .int v5, .int (v6 + ((A 14) v3.toNatClampNeg)), .int (v7 + 1), .int v3], [])] (hp L xs A V K T) v h'))))))) : am_fin [(z_J_owedIn, 55, [.ref 26, .int v1, .ref 3, .int v3, .int v4, .int v5, .int v6, .int v7, .null], [])] (hp L xs A V K T) v h' :=
  fn_iload rl_J_owedIn_55 rfl (fn_iload_n rl_J_owedIn_57 rfl (fn_stat (as := [.int v1]) (r := [.int v7]) (ls' := [.int v1]) rl_J_owedIn_58 rfl rfl rfl rfl pl_L_lastOf rfl rfl (fn_iload_n rl_L_lastOf_0 rfl (fn_sipush rl_L_lastOf_1 (fn_imul rl_L_lastOf_4 (fn_sipush rl_L_lastOf_5 (fn_iadd rl_L_lastOf_8 (fn_iconst rl_L_lastOf_9 (fn_isub rl_L_lastOf_10 (fn_retci rl_L_lastOf_11 rfl (fn_icmp_gt rl_J_owedIn_61 (fun k2339 => fn_iload rl_J_owedIn_121 rfl (fn_reti rl_J_owedIn_123 rfl k2339)) (fun k2340 => fn_iload rl_J_owedIn_64 rfl (fn_iload rl_J_owedIn_66 rfl (fn_iload rl_J_owedIn_68 rfl (fn_stat (as := [.int v7, .int v4, .int v5]) (r := []) (ls' := [.int v7, .int v4, .int v5]) rl_J_owedIn_70 rfl rfl rfl rfl pl_L_isAmong rfl rfl (fn_iload_n rl_L_isAmong_0 rfl (fn_iload_n rl_L_isAmong_1 rfl (fn_icmp_lt rl_L_isAmong_2 (fun k2337 => fn_iconst rl_L_isAmong_14 (fn_retci rl_L_isAmong_15 rfl (fn_if_eq_t rl_J_owedIn_73 (by decide +kernel) (fn_aload_n rl_J_owedIn_80 rfl (fn_iload rl_J_owedIn_81 rfl (fn_virt (as := [.ref 3, .int v7]) (r := []) (ls' := [.ref 3, .int v7]) rl_J_owedIn_83 rfl hp_3 rfl rfl pl_P_landOn rfl rfl (k2337))))))) (fun k2338 => fn_iload_n rl_L_isAmong_5 rfl (fn_iload_n rl_L_isAmong_6 rfl (fn_icmp_gt rl_L_isAmong_7 (fun k2335 => fn_iconst rl_L_isAmong_14 (fn_retci rl_L_isAmong_15 rfl (fn_if_eq_t rl_J_owedIn_73 (by decide +kernel) (fn_aload_n rl_J_owedIn_80 rfl (fn_iload rl_J_owedIn_81 rfl (fn_virt (as := [.ref 3, .int v7]) (r := []) (ls' := [.ref 3, .int v7]) rl_J_owedIn_83 rfl hp_3 rfl rfl pl_P_landOn rfl rfl (k2335))))))) (fun k2336 => fn_iconst rl_L_isAmong_10 (fn_goto rl_L_isAmong_11 (fn_retci rl_L_isAmong_15 rfl (fn_if_eq_f rl_J_owedIn_73 (by decide +kernel) (fn_iload_n rl_J_owedIn_76 rfl (fn_goto rl_J_owedIn_77 (fn_istore (ls' := [.ref 26, .int v1, .ref 3, .int v3, .int v4, .int v5, .int v6, .int v7, .int v3]) rl_J_owedIn_86 rfl rfl (fn_iload rl_J_owedIn_88 rfl (fn_iload rl_J_owedIn_90 rfl (fn_stat (as := [.int v3]) (r := [.int v6]) (ls' := [.int v3]) rl_J_owedIn_92 rfl rfl rfl rfl pl_L_isLand rfl rfl (fn_iload_n rl_L_isLand_0 rfl (fn_iconst rl_L_isLand_1 (fn_iconst rl_L_isLand_2 (fn_stat (as := [.int v3, .int 0, .int 5]) (r := []) (ls' := [.int v3, .int 0, .int 5]) rl_L_isLand_3 rfl rfl rfl rfl pl_L_isAmong rfl rfl (fn_iload_n rl_L_isAmong_0 rfl (fn_iload_n rl_L_isAmong_1 rfl (fn_icmp_lt rl_L_isAmong_2 (fun k2333 => fn_iconst rl_L_isAmong_14 (fn_retci rl_L_isAmong_15 rfl (fn_retci rl_L_isLand_6 rfl (fn_if_eq_t rl_J_owedIn_95 (by decide +kernel) (fn_iconst rl_J_owedIn_111 (fn_iadd rl_J_owedIn_112 (fn_istore (ls' := [.ref 26, .int v1, .ref 3, .int v3, .int v4, .int v5, .int (v6 + 0), .int v7, .int v3]) rl_J_owedIn_113 rfl rfl (fn_iinc (ls' := [.ref 26, .int v1, .ref 3, .int v3, .int v4, .int v5, .int (v6 + 0), .int (v7 + 1), .int v3]) rl_J_owedIn_115 rfl rfl rfl (fn_goto rl_J_owedIn_118 (k2333)))))))))) (fun k2334 => fn_iload_n rl_L_isAmong_5 rfl (fn_iload_n rl_L_isAmong_6 rfl (fn_icmp_gt rl_L_isAmong_7 (fun k2331 => fn_iconst rl_L_isAmong_14 (fn_retci rl_L_isAmong_15 rfl (fn_retci rl_L_isLand_6 rfl (fn_if_eq_t rl_J_owedIn_95 (by decide +kernel) (fn_iconst rl_J_owedIn_111 (fn_iadd rl_J_owedIn_112 (fn_istore (ls' := [.ref 26, .int v1, .ref 3, .int v3, .int v4, .int v5, .int (v6 + 0), .int v7, .int v3]) rl_J_owedIn_113 rfl rfl (fn_iinc (ls' := [.ref 26, .int v1, .ref 3, .int v3, .int v4, .int v5, .int (v6 + 0), .int (v7 + 1), .int v3]) rl_J_owedIn_115 rfl rfl rfl (fn_goto rl_J_owedIn_118 (k2331)))))))))) (fun k2332 => fn_iconst rl_L_isAmong_10 (fn_goto rl_L_isAmong_11 (fn_retci rl_L_isAmong_15 rfl (fn_retci rl_L_isLand_6 rfl (fn_if_eq_f rl_J_owedIn_95 (by decide +kernel) (fn_aload_n rl_J_owedIn_98 rfl (fn_get rl_J_owedIn_99 hp_26 rfl (fn_get rl_J_owedIn_102 hp_10 rfl (fn_iload rl_J_owedIn_105 rfl (fn_iald rl_J_owedIn_107 hp_14 (fun k2330 => fn_goto rl_J_owedIn_108 (fn_iadd rl_J_owedIn_112 (fn_istore (ls' := [.ref 26, .int v1, .ref 3, .int v3, .int v4, .int v5, .int (v6 + ((A 14) v3.toNatClampNeg)), .int v7, .int v3]) rl_J_owedIn_113 rfl rfl (fn_iinc (ls' := [.ref 26, .int v1, .ref 3, .int v3, .int v4, .int v5, .int (v6 + ((A 14) v3.toNatClampNeg)), .int (v7 + 1), .int v3]) rl_J_owedIn_115 rfl rfl rfl (fn_goto rl_J_owedIn_118 (k2330)))))) k2332)))))))))) k2334))) k2336))))))))))))))))) k2338))) k2340))))))) k0)))))))))))
set_option maxRecDepth 100000 in
set_option maxHeartbeats 4000000 in
theorem sg_J_owedIn_3_86r {L : Nat} {xs : Nat → Int32} {A V : Nat → Nat → Int32} {K : Nat → Option Nat} {T : am_H} {v : Option Int32} {h' : am_H} {v1 v3 v4 v5 v6 v7 r : Int32} (k0 :
    if r < 0 then (
      am_fin [(z_J_owedIn, 55, [.ref 26, .int v1, .ref 3, .int v3, .int v4, .int v5, .int (v6 + 0), .int (v7 + 1), .int r], [])] (hp L xs A V K T) v h')
    else (
      if 5 < r then (
        am_fin [(z_J_owedIn, 55, [.ref 26, .int v1, .ref 3, .int v3, .int v4, .int v5, .int (v6 + 0), .int (v7 + 1), .int r], [])] (hp L xs A V K T) v h')
      else (
        ¬ (r < 0 ∨ 6 ≤ r.toNatClampNeg) ∧ (
        am_fin [(z_J_owedIn, 55, [.ref 26, .int v1, .ref 3, .int v3, .int v4, .int v5, .int (v6 + ((A 14) r.toNatClampNeg)), .int (v7 + 1), .int r], [])] (hp L xs A V K T) v h')))) : am_fin [(z_J_owedIn, 86, [.ref 26, .int v1, .ref 3, .int v3, .int v4, .int v5, .int v6, .int v7, .null], [.int r])] (hp L xs A V K T) v h' :=
  fn_istore (ls' := [.ref 26, .int v1, .ref 3, .int v3, .int v4, .int v5, .int v6, .int v7, .int r]) rl_J_owedIn_86 rfl rfl (fn_iload rl_J_owedIn_88 rfl (fn_iload rl_J_owedIn_90 rfl (fn_stat (as := [.int r]) (r := [.int v6]) (ls' := [.int r]) rl_J_owedIn_92 rfl rfl rfl rfl pl_L_isLand rfl rfl (fn_iload_n rl_L_isLand_0 rfl (fn_iconst rl_L_isLand_1 (fn_iconst rl_L_isLand_2 (fn_stat (as := [.int r, .int 0, .int 5]) (r := []) (ls' := [.int r, .int 0, .int 5]) rl_L_isLand_3 rfl rfl rfl rfl pl_L_isAmong rfl rfl (fn_iload_n rl_L_isAmong_0 rfl (fn_iload_n rl_L_isAmong_1 rfl (fn_icmp_lt rl_L_isAmong_2 (fun k2344 => fn_iconst rl_L_isAmong_14 (fn_retci rl_L_isAmong_15 rfl (fn_retci rl_L_isLand_6 rfl (fn_if_eq_t rl_J_owedIn_95 (by decide +kernel) (fn_iconst rl_J_owedIn_111 (fn_iadd rl_J_owedIn_112 (fn_istore (ls' := [.ref 26, .int v1, .ref 3, .int v3, .int v4, .int v5, .int (v6 + 0), .int v7, .int r]) rl_J_owedIn_113 rfl rfl (fn_iinc (ls' := [.ref 26, .int v1, .ref 3, .int v3, .int v4, .int v5, .int (v6 + 0), .int (v7 + 1), .int r]) rl_J_owedIn_115 rfl rfl rfl (fn_goto rl_J_owedIn_118 (k2344)))))))))) (fun k2345 => fn_iload_n rl_L_isAmong_5 rfl (fn_iload_n rl_L_isAmong_6 rfl (fn_icmp_gt rl_L_isAmong_7 (fun k2342 => fn_iconst rl_L_isAmong_14 (fn_retci rl_L_isAmong_15 rfl (fn_retci rl_L_isLand_6 rfl (fn_if_eq_t rl_J_owedIn_95 (by decide +kernel) (fn_iconst rl_J_owedIn_111 (fn_iadd rl_J_owedIn_112 (fn_istore (ls' := [.ref 26, .int v1, .ref 3, .int v3, .int v4, .int v5, .int (v6 + 0), .int v7, .int r]) rl_J_owedIn_113 rfl rfl (fn_iinc (ls' := [.ref 26, .int v1, .ref 3, .int v3, .int v4, .int v5, .int (v6 + 0), .int (v7 + 1), .int r]) rl_J_owedIn_115 rfl rfl rfl (fn_goto rl_J_owedIn_118 (k2342)))))))))) (fun k2343 => fn_iconst rl_L_isAmong_10 (fn_goto rl_L_isAmong_11 (fn_retci rl_L_isAmong_15 rfl (fn_retci rl_L_isLand_6 rfl (fn_if_eq_f rl_J_owedIn_95 (by decide +kernel) (fn_aload_n rl_J_owedIn_98 rfl (fn_get rl_J_owedIn_99 hp_26 rfl (fn_get rl_J_owedIn_102 hp_10 rfl (fn_iload rl_J_owedIn_105 rfl (fn_iald rl_J_owedIn_107 hp_14 (fun k2341 => fn_goto rl_J_owedIn_108 (fn_iadd rl_J_owedIn_112 (fn_istore (ls' := [.ref 26, .int v1, .ref 3, .int v3, .int v4, .int v5, .int (v6 + ((A 14) r.toNatClampNeg)), .int v7, .int r]) rl_J_owedIn_113 rfl rfl (fn_iinc (ls' := [.ref 26, .int v1, .ref 3, .int v3, .int v4, .int v5, .int (v6 + ((A 14) r.toNatClampNeg)), .int (v7 + 1), .int r]) rl_J_owedIn_115 rfl rfl rfl (fn_goto rl_J_owedIn_118 (k2341)))))) k2343)))))))))) k2345))) k0))))))))))
set_option maxRecDepth 100000 in
set_option maxHeartbeats 4000000 in
theorem sg_J_owedIn_3_44r {L : Nat} {xs : Nat → Int32} {A V : Nat → Nat → Int32} {K : Nat → Option Nat} {T : am_H} {v : Option Int32} {h' : am_H} {v1 v3 v4 r : Int32} (k0 :
    am_fin [(z_J_owedIn, 55, [.ref 26, .int v1, .ref 3, .int v3, .int v4, .int r, .int 0, .int (v1 * 360), .null], [])] (hp L xs A V K T) v h') : am_fin [(z_J_owedIn, 44, [.ref 26, .int v1, .ref 3, .int v3, .int v4, .null, .null, .null, .null], [.int r])] (hp L xs A V K T) v h' :=
  fn_istore (ls' := [.ref 26, .int v1, .ref 3, .int v3, .int v4, .int r, .null, .null, .null]) rl_J_owedIn_44 rfl rfl (fn_iconst rl_J_owedIn_46 (fn_istore (ls' := [.ref 26, .int v1, .ref 3, .int v3, .int v4, .int r, .int 0, .null, .null]) rl_J_owedIn_47 rfl rfl (fn_iload_n rl_J_owedIn_49 rfl (fn_stat (as := [.int v1]) (r := []) (ls' := [.int v1]) rl_J_owedIn_50 rfl rfl rfl rfl pl_L_firstOf rfl rfl (fn_iload_n rl_L_firstOf_0 rfl (fn_sipush rl_L_firstOf_1 (fn_imul rl_L_firstOf_4 (fn_retci rl_L_firstOf_5 rfl (fn_istore (ls' := [.ref 26, .int v1, .ref 3, .int v3, .int v4, .int r, .int 0, .int (v1 * 360), .null]) rl_J_owedIn_53 rfl rfl (k0))))))))))
set_option maxRecDepth 100000 in
set_option maxHeartbeats 4000000 in
theorem sg_J_owedIn_3_25r {L : Nat} {xs : Nat → Int32} {A V : Nat → Nat → Int32} {K : Nat → Option Nat} {T : am_H} {v : Option Int32} {h' : am_H} {v1 v3 r : Int32} (k0 :
    if v3 = (-2) then (
      am_fin [(z_J_owedIn, 55, [.ref 26, .int v1, .ref 3, .int v3, .int r, .int (-1), .int 0, .int (v1 * 360), .null], [])] (hp L xs A V K T) v h')
    else (
      am_fin [(z_J_splitTill, 0, [.ref 26, .int v3, .int v1, .ref 3, .null], []), (z_J_owedIn, 44, [.ref 26, .int v1, .ref 3, .int v3, .int r, .null, .null, .null, .null], [])] (hp L xs A V K T) v h')) : am_fin [(z_J_owedIn, 25, [.ref 26, .int v1, .ref 3, .int v3, .null, .null, .null, .null, .null], [.int r])] (hp L xs A V K T) v h' :=
  fn_istore (ls' := [.ref 26, .int v1, .ref 3, .int v3, .int r, .null, .null, .null, .null]) rl_J_owedIn_25 rfl rfl (fn_iload_n rl_J_owedIn_27 rfl (fn_bipush rl_J_owedIn_28 (fn_icmp_ne rl_J_owedIn_30 (fun k2346 => fn_iconst rl_J_owedIn_33 (fn_goto rl_J_owedIn_34 (fn_istore (ls' := [.ref 26, .int v1, .ref 3, .int v3, .int r, .int (-1), .null, .null, .null]) rl_J_owedIn_44 rfl rfl (fn_iconst rl_J_owedIn_46 (fn_istore (ls' := [.ref 26, .int v1, .ref 3, .int v3, .int r, .int (-1), .int 0, .null, .null]) rl_J_owedIn_47 rfl rfl (fn_iload_n rl_J_owedIn_49 rfl (fn_stat (as := [.int v1]) (r := []) (ls' := [.int v1]) rl_J_owedIn_50 rfl rfl rfl rfl pl_L_firstOf rfl rfl (fn_iload_n rl_L_firstOf_0 rfl (fn_sipush rl_L_firstOf_1 (fn_imul rl_L_firstOf_4 (fn_retci rl_L_firstOf_5 rfl (fn_istore (ls' := [.ref 26, .int v1, .ref 3, .int v3, .int r, .int (-1), .int 0, .int (v1 * 360), .null]) rl_J_owedIn_53 rfl rfl (k2346))))))))))))) (fun k2347 => fn_aload_n rl_J_owedIn_37 rfl (fn_iload_n rl_J_owedIn_38 rfl (fn_iload_n rl_J_owedIn_39 rfl (fn_aload_n rl_J_owedIn_40 rfl (fn_virt (as := [.ref 26, .int v3, .int v1, .ref 3]) (r := []) (ls' := [.ref 26, .int v3, .int v1, .ref 3, .null]) rl_J_owedIn_41 rfl hp_26 rfl rfl pl_J_splitTill rfl rfl (k2347)))))) k0)))
set_option maxRecDepth 100000 in
set_option maxHeartbeats 4000000 in
theorem sg_O_fillUp_0 {L : Nat} {xs : Nat → Int32} {A V : Nat → Nat → Int32} {K : Nat → Option Nat} {T : am_H} {v : Option Int32} {h' : am_H} {a1 a2 : Int32} (k0 :
    if (V 30 4) = 0 then (
      v = some (a2 - a1) ∧ h' = hp L xs A V K T)
    else (
      am_fin [(z_X_fill, 0, [.ref 33, .int (-1), .null, .null], []), (z_O_fillUp, 19, [.ref 30, .int a1, .int a2, .null, .null, .null, .null], [])] (hp L xs A V K T) v h')) : am_fin [(z_O_fillUp, 0, [.ref 30, .int a1, .int a2, .null, .null, .null, .null], [])] (hp L xs A V K T) v h' :=
  fn_aload_n rl_O_fillUp_0 rfl (fn_get rl_O_fillUp_1 hp_30 rfl (fn_if_ne rl_O_fillUp_4 (fun k2348 => fn_iload_n rl_O_fillUp_7 rfl (fn_iload_n rl_O_fillUp_8 rfl (fn_isub rl_O_fillUp_9 (fn_reti rl_O_fillUp_10 rfl k2348)))) (fun k2349 => fn_aload_n rl_O_fillUp_11 rfl (fn_get rl_O_fillUp_12 hp_30 rfl (fn_iconst rl_O_fillUp_15 (fn_stat (as := [.ref 33, .int (-1)]) (r := []) (ls' := [.ref 33, .int (-1), .null, .null]) rl_O_fillUp_16 rfl rfl rfl rfl pl_X_fill rfl rfl (k2349))))) k0))
set_option maxRecDepth 100000 in
set_option maxHeartbeats 4000000 in
theorem sg_O_fillUp_19r {L : Nat} {xs : Nat → Int32} {A V : Nat → Nat → Int32} {K : Nat → Option Nat} {T : am_H} {v : Option Int32} {h' : am_H} {v1 v2 : Int32} (k0 :
    am_fin [(z_O_fillUp, 21, [.ref 30, .int v1, .int v2, .int v1, .null, .null, .null], [])] (hp L xs A V K T) v h') : am_fin [(z_O_fillUp, 19, [.ref 30, .int v1, .int v2, .null, .null, .null, .null], [])] (hp L xs A V K T) v h' :=
  fn_iload_n rl_O_fillUp_19 rfl (fn_istore_n (ls' := [.ref 30, .int v1, .int v2, .int v1, .null, .null, .null]) rl_O_fillUp_20 rfl rfl (k0))
set_option maxRecDepth 100000 in
set_option maxHeartbeats 4000000 in
theorem sg_O_fillUp_21 {L : Nat} {xs : Nat → Int32} {A V : Nat → Nat → Int32} {K : Nat → Option Nat} {T : am_H} {v : Option Int32} {h' : am_H} {v1 v2 v3 : Int32} (k0 :
    if ((v1 + (V 30 4)) - 1) ≤ v3 then (
      am_fin [(z_O_fillUp, 56, [.ref 30, .int v1, .int v2, .int 0, .int 0, .int (-1), .int v1], [])] (hp L xs A V K T) v h')
    else (
      am_fin [(z_O_noteShutter, 0, [.ref 30, .int v3, .int 0, .null, .null], []), (z_O_fillUp, 39, [.ref 30, .int v1, .int v2, .int v3, .null, .null, .null], [])] (hp L xs A V K T) v h')) : am_fin [(z_O_fillUp, 21, [.ref 30, .int v1, .int v2, .int v3, .null, .null, .null], [])] (hp L xs A V K T) v h' :=
  fn_iload_n rl_O_fillUp_21 rfl (fn_iload_n rl_O_fillUp_22 rfl (fn_aload_n rl_O_fillUp_23 rfl (fn_get rl_O_fillUp_24 hp_30 rfl (fn_iadd rl_O_fillUp_27 (fn_iconst rl_O_fillUp_28 (fn_isub rl_O_fillUp_29 (fn_icmp_ge rl_O_fillUp_30 (fun k2350 => fn_iconst rl_O_fillUp_45 (fn_istore_n (ls' := [.ref 30, .int v1, .int v2, .int 0, .null, .null, .null]) rl_O_fillUp_46 rfl rfl (fn_iconst rl_O_fillUp_47 (fn_istore (ls' := [.ref 30, .int v1, .int v2, .int 0, .int 0, .null, .null]) rl_O_fillUp_48 rfl rfl (fn_iconst rl_O_fillUp_50 (fn_istore (ls' := [.ref 30, .int v1, .int v2, .int 0, .int 0, .int (-1), .null]) rl_O_fillUp_51 rfl rfl (fn_iload_n rl_O_fillUp_53 rfl (fn_istore (ls' := [.ref 30, .int v1, .int v2, .int 0, .int 0, .int (-1), .int v1]) rl_O_fillUp_54 rfl rfl (k2350))))))))) (fun k2351 => fn_aload_n rl_O_fillUp_33 rfl (fn_iload_n rl_O_fillUp_34 rfl (fn_iconst rl_O_fillUp_35 (fn_virt (as := [.ref 30, .int v3, .int 0]) (r := []) (ls' := [.ref 30, .int v3, .int 0, .null, .null]) rl_O_fillUp_36 rfl hp_30 rfl rfl pl_O_noteShutter rfl rfl (k2351))))) k0)))))))
set_option maxRecDepth 100000 in
set_option maxHeartbeats 4000000 in
theorem sg_O_fillUp_56 {L : Nat} {xs : Nat → Int32} {A V : Nat → Nat → Int32} {K : Nat → Option Nat} {T : am_H} {v : Option Int32} {h' : am_H} {v1 v2 v3 v4 v5 v6 : Int32} (k0 :
    if v2 ≤ v6 then (
      v = some v3 ∧ h' = hp L xs A V K T)
    else (
      am_fin [(z_O_noteShutter, 0, [.ref 30, .int ((v6 + (V 30 4)) - 1), .int v4, .null, .null], []), (z_O_fillUp, 77, [.ref 30, .int v1, .int v2, .int v3, .int v4, .int v5, .int v6], [])] (hp L xs A V K T) v h')) : am_fin [(z_O_fillUp, 56, [.ref 30, .int v1, .int v2, .int v3, .int v4, .int v5, .int v6], [])] (hp L xs A V K T) v h' :=
  fn_iload rl_O_fillUp_56 rfl (fn_iload_n rl_O_fillUp_58 rfl (fn_icmp_ge rl_O_fillUp_59 (fun k2352 => fn_iload_n rl_O_fillUp_152 rfl (fn_reti rl_O_fillUp_153 rfl k2352)) (fun k2353 => fn_aload_n rl_O_fillUp_62 rfl (fn_iload rl_O_fillUp_63 rfl (fn_aload_n rl_O_fillUp_65 rfl (fn_get rl_O_fillUp_66 hp_30 rfl (fn_iadd rl_O_fillUp_69 (fn_iconst rl_O_fillUp_70 (fn_isub rl_O_fillUp_71 (fn_iload rl_O_fillUp_72 rfl (fn_virt (as := [.ref 30, .int ((v6 + (V 30 4)) - 1), .int v4]) (r := []) (ls' := [.ref 30, .int ((v6 + (V 30 4)) - 1), .int v4, .null, .null]) rl_O_fillUp_74 rfl hp_30 rfl rfl pl_O_noteShutter rfl rfl (k2353)))))))))) k0))
set_option maxRecDepth 100000 in
set_option maxHeartbeats 4000000 in
theorem sg_O_fillUp_77r {L : Nat} {xs : Nat → Int32} {A V : Nat → Nat → Int32} {K : Nat → Option Nat} {T : am_H} {v : Option Int32} {h' : am_H} {v1 v2 v3 v4 v5 v6 : Int32} (k0 :
    ¬ ((if 720 < v4 then 720 else v4 : Int32) < 0 ∨ 721 ≤ (if 720 < v4 then 720 else v4 : Int32).toNatClampNeg) ∧ (
    ¬ (v6 < 0 ∨ 1080 ≤ v6.toNatClampNeg) ∧ (
    am_fin [(z_O_isThere, 0, [.ref 30, .int v6], []), (z_O_fillUp, 112, [.ref 30, .int v1, .int v2, .int v3, .int v4, .int (if v5 < ((A 33) (if 720 < v4 then 720 else v4 : Int32).toNatClampNeg) then ((A 33) (if 720 < v4 then 720 else v4 : Int32).toNatClampNeg) else v5 : Int32), .int v6], [])] (hp L xs (upA A 32 (upd (A 32) v6.toNatClampNeg v4)) V K T) v h'))) : am_fin [(z_O_fillUp, 77, [.ref 30, .int v1, .int v2, .int v3, .int v4, .int v5, .int v6], [])] (hp L xs A V K T) v h' :=
  fn_iload rl_O_fillUp_77 rfl (fn_aload_n rl_O_fillUp_79 rfl (fn_get rl_O_fillUp_80 hp_30 rfl (fn_iload rl_O_fillUp_83 rfl (fn_sipush rl_O_fillUp_85 (fn_min rl_O_fillUp_88 rfl (fn_iald rl_O_fillUp_91 hp_33 (fun k2355 => fn_max rl_O_fillUp_92 rfl (fn_istore (ls' := [.ref 30, .int v1, .int v2, .int v3, .int v4, .int (if v5 < ((A 33) (if 720 < v4 then 720 else v4 : Int32).toNatClampNeg) then ((A 33) (if 720 < v4 then 720 else v4 : Int32).toNatClampNeg) else v5 : Int32), .int v6]) rl_O_fillUp_95 rfl rfl (fn_aload_n rl_O_fillUp_97 rfl (fn_get rl_O_fillUp_98 hp_30 rfl (fn_iload rl_O_fillUp_101 rfl (fn_iload rl_O_fillUp_103 rfl (fn_iast rl_O_fillUp_105 hp_32 hps_32 (fun k2354 => fn_aload_n rl_O_fillUp_106 rfl (fn_iload rl_O_fillUp_107 rfl (fn_virt (as := [.ref 30, .int v6]) (r := []) (ls' := [.ref 30, .int v6]) rl_O_fillUp_109 rfl hp_30 rfl rfl pl_O_isThere rfl rfl (k2354)))) k2355))))))) k0))))))
set_option maxRecDepth 100000 in
set_option maxHeartbeats 4000000 in
theorem sg_O_fillUp_112r {L : Nat} {xs : Nat → Int32} {A V : Nat → Nat → Int32} {K : Nat → Option Nat} {T : am_H} {v : Option Int32} {h' : am_H} {v1 v2 v3 v4 v5 v6 r : Int32} (k0 :
    if r = 0 then (
      if v6 ≤ v5 then (
        am_fin [(z_O_fillUp, 56, [.ref 30, .int v1, .int v2, .int v3, .int v4, .int v5, .int (v6 + 1)], [])] (hp L xs A V K T) v h')
      else (
        am_fin [(z_O_hasRoom, 0, [.ref 30, .int v6, .int v1, .int v4, .null, .null], []), (z_O_fillUp, 137, [.ref 30, .int v1, .int v2, .int v3, .int v4, .int v5, .int v6], [])] (hp L xs A V K T) v h'))
    else (
      am_fin [(z_O_fillUp, 56, [.ref 30, .int v1, .int v2, .int (v3 + 1), .int v4, .int v5, .int (v6 + 1)], [])] (hp L xs A V K T) v h')) : am_fin [(z_O_fillUp, 112, [.ref 30, .int v1, .int v2, .int v3, .int v4, .int v5, .int v6], [.int r])] (hp L xs A V K T) v h' :=
  fn_if_eq rl_O_fillUp_112 (fun k2358 => fn_iload rl_O_fillUp_121 rfl (fn_iload rl_O_fillUp_123 rfl (fn_icmp_le rl_O_fillUp_125 (fun k2356 => fn_iinc (ls' := [.ref 30, .int v1, .int v2, .int v3, .int v4, .int v5, .int (v6 + 1)]) rl_O_fillUp_146 rfl rfl rfl (fn_goto rl_O_fillUp_149 (k2356))) (fun k2357 => fn_aload_n rl_O_fillUp_128 rfl (fn_iload rl_O_fillUp_129 rfl (fn_iload_n rl_O_fillUp_131 rfl (fn_iload rl_O_fillUp_132 rfl (fn_virt (as := [.ref 30, .int v6, .int v1, .int v4]) (r := []) (ls' := [.ref 30, .int v6, .int v1, .int v4, .null, .null]) rl_O_fillUp_134 rfl hp_30 rfl rfl pl_O_hasRoom rfl rfl (k2357)))))) k2358))) (fun k2359 => fn_iinc (ls' := [.ref 30, .int v1, .int v2, .int (v3 + 1), .int v4, .int v5, .int v6]) rl_O_fillUp_115 rfl rfl rfl (fn_goto rl_O_fillUp_118 (fn_iinc (ls' := [.ref 30, .int v1, .int v2, .int (v3 + 1), .int v4, .int v5, .int (v6 + 1)]) rl_O_fillUp_146 rfl rfl rfl (fn_goto rl_O_fillUp_149 (k2359))))) k0
set_option maxRecDepth 100000 in
set_option maxHeartbeats 4000000 in
theorem sg_O_fillUp_137r {L : Nat} {xs : Nat → Int32} {A V : Nat → Nat → Int32} {K : Nat → Option Nat} {T : am_H} {v : Option Int32} {h' : am_H} {v1 v2 v3 v4 v5 v6 r : Int32} (k0 :
    if r = 0 then (
      am_fin [(z_O_fillUp, 56, [.ref 30, .int v1, .int v2, .int v3, .int v4, .int v5, .int (v6 + 1)], [])] (hp L xs A V K T) v h')
    else (
      am_fin [(z_O_fillUp, 56, [.ref 30, .int v1, .int v2, .int (v3 + 1), .int (v4 + 1), .int v5, .int (v6 + 1)], [])] (hp L xs A V K T) v h')) : am_fin [(z_O_fillUp, 137, [.ref 30, .int v1, .int v2, .int v3, .int v4, .int v5, .int v6], [.int r])] (hp L xs A V K T) v h' :=
  fn_if_eq rl_O_fillUp_137 (fun k2360 => fn_iinc (ls' := [.ref 30, .int v1, .int v2, .int v3, .int v4, .int v5, .int (v6 + 1)]) rl_O_fillUp_146 rfl rfl rfl (fn_goto rl_O_fillUp_149 (k2360))) (fun k2361 => fn_iinc (ls' := [.ref 30, .int v1, .int v2, .int v3, .int (v4 + 1), .int v5, .int v6]) rl_O_fillUp_140 rfl rfl rfl (fn_iinc (ls' := [.ref 30, .int v1, .int v2, .int (v3 + 1), .int (v4 + 1), .int v5, .int v6]) rl_O_fillUp_143 rfl rfl rfl (fn_iinc (ls' := [.ref 30, .int v1, .int v2, .int (v3 + 1), .int (v4 + 1), .int v5, .int (v6 + 1)]) rl_O_fillUp_146 rfl rfl rfl (fn_goto rl_O_fillUp_149 (k2361))))) k0
set_option maxRecDepth 100000 in
set_option maxHeartbeats 4000000 in
theorem sg_O_fillUp_39r {L : Nat} {xs : Nat → Int32} {A V : Nat → Nat → Int32} {K : Nat → Option Nat} {T : am_H} {v : Option Int32} {h' : am_H} {v1 v2 v3 : Int32} (k0 :
    am_fin [(z_O_fillUp, 21, [.ref 30, .int v1, .int v2, .int (v3 + 1), .null, .null, .null], [])] (hp L xs A V K T) v h') : am_fin [(z_O_fillUp, 39, [.ref 30, .int v1, .int v2, .int v3, .null, .null, .null], [])] (hp L xs A V K T) v h' :=
  fn_iinc (ls' := [.ref 30, .int v1, .int v2, .int (v3 + 1), .null, .null, .null]) rl_O_fillUp_39 rfl rfl rfl (fn_goto rl_O_fillUp_42 (k0))
set_option maxRecDepth 100000 in
set_option maxHeartbeats 4000000 in
theorem sg_O_isTooLong_0 {L : Nat} {xs : Nat → Int32} {A V : Nat → Nat → Int32} {K : Nat → Option Nat} {T : am_H} {v : Option Int32} {h' : am_H} {a1 a2 : Int32} (k0 :
    if (V 30 4) ≤ 0 then (
      v = some 0 ∧ h' = hp L xs A V K T)
    else (
      am_fin [(z_O_between, 0, [.ref 30, .int ((a2 - (V 30 4)) + 1), .int (a1 - 1), .null], []), (z_O_isTooLong, 35, [.ref 30, .int a1, .int a2, .int ((a2 - (V 30 4)) + 1), .int ((a2 - (if a1 < ((a2 - (V 30 4)) + 1) then ((a2 - (V 30 4)) + 1) else a1 : Int32)) + 1)], [])] (hp L xs A V K T) v h')) : am_fin [(z_O_isTooLong, 0, [.ref 30, .int a1, .int a2, .null, .null], [])] (hp L xs A V K T) v h' :=
  fn_iload_n rl_O_isTooLong_0 rfl (fn_aload_n rl_O_isTooLong_1 rfl (fn_get rl_O_isTooLong_2 hp_30 rfl (fn_isub rl_O_isTooLong_5 (fn_iconst rl_O_isTooLong_6 (fn_iadd rl_O_isTooLong_7 (fn_istore_n (ls' := [.ref 30, .int a1, .int a2, .int ((a2 - (V 30 4)) + 1), .null]) rl_O_isTooLong_8 rfl rfl (fn_iload_n rl_O_isTooLong_9 rfl (fn_iload_n rl_O_isTooLong_10 rfl (fn_iload_n rl_O_isTooLong_11 rfl (fn_max rl_O_isTooLong_12 rfl (fn_isub rl_O_isTooLong_15 (fn_iconst rl_O_isTooLong_16 (fn_iadd rl_O_isTooLong_17 (fn_istore (ls' := [.ref 30, .int a1, .int a2, .int ((a2 - (V 30 4)) + 1), .int ((a2 - (if a1 < ((a2 - (V 30 4)) + 1) then ((a2 - (V 30 4)) + 1) else a1 : Int32)) + 1)]) rl_O_isTooLong_18 rfl rfl (fn_aload_n rl_O_isTooLong_20 rfl (fn_get rl_O_isTooLong_21 hp_30 rfl (fn_if_le rl_O_isTooLong_24 (fun k2362 => fn_iconst rl_O_isTooLong_49 (fn_reti rl_O_isTooLong_50 rfl k2362)) (fun k2363 => fn_aload_n rl_O_isTooLong_27 rfl (fn_iload_n rl_O_isTooLong_28 rfl (fn_iload_n rl_O_isTooLong_29 rfl (fn_iconst rl_O_isTooLong_30 (fn_isub rl_O_isTooLong_31 (fn_virt (as := [.ref 30, .int ((a2 - (V 30 4)) + 1), .int (a1 - 1)]) (r := []) (ls' := [.ref 30, .int ((a2 - (V 30 4)) + 1), .int (a1 - 1), .null]) rl_O_isTooLong_32 rfl hp_30 rfl rfl pl_O_between rfl rfl (k2363))))))) k0)))))))))))))))))
set_option maxRecDepth 100000 in
set_option maxHeartbeats 4000000 in
theorem sg_O_isTooLong_35r {L : Nat} {xs : Nat → Int32} {A V : Nat → Nat → Int32} {K : Nat → Option Nat} {T : am_H} {v : Option Int32} {h' : am_H} {v1 v2 v3 v4 r : Int32} (k0 :
    if (r + v4) ≤ (V 30 5) then (
      v = some 0 ∧ h' = hp L xs A V K T)
    else (
      v = some 1 ∧ h' = hp L xs A V K T)) : am_fin [(z_O_isTooLong, 35, [.ref 30, .int v1, .int v2, .int v3, .int v4], [.int r])] (hp L xs A V K T) v h' :=
  fn_iload rl_O_isTooLong_35 rfl (fn_iadd rl_O_isTooLong_37 (fn_aload_n rl_O_isTooLong_38 rfl (fn_get rl_O_isTooLong_39 hp_30 rfl (fn_icmp_le rl_O_isTooLong_42 (fun k2364 => fn_iconst rl_O_isTooLong_49 (fn_reti rl_O_isTooLong_50 rfl k2364)) (fun k2365 => fn_iconst rl_O_isTooLong_45 (fn_goto rl_O_isTooLong_46 (fn_reti rl_O_isTooLong_50 rfl k2365))) k0))))
set_option maxRecDepth 100000 in
set_option maxHeartbeats 4000000 in
theorem sg_J_needOf_0 {L : Nat} {xs : Nat → Int32} {A V : Nat → Nat → Int32} {K : Nat → Option Nat} {T : am_H} {v : Option Int32} {h' : am_H} {a1 a2 : Int32} (k0 :
    ¬ (((a1 * 3) + a2) < 0 ∨ 18 ≤ ((a1 * 3) + a2).toNatClampNeg) ∧ (
    am_fin [(z_J_needOf, 21, [.ref 26, .int a1, .int a2, .int ((a1 * 3) + a2), .int ((A 27) ((a1 * 3) + a2).toNatClampNeg), .int (-2), .int 0], [])] (hp L xs A V K T) v h')) : am_fin [(z_J_needOf, 0, [.ref 26, .int a1, .int a2, .null, .null, .null, .null], [])] (hp L xs A V K T) v h' :=
  fn_iload_n rl_J_needOf_0 rfl (fn_iload_n rl_J_needOf_1 rfl (fn_stat (as := [.int a1, .int a2]) (r := []) (ls' := [.int a1, .int a2]) rl_J_needOf_2 rfl rfl rfl rfl pl_L_spot rfl rfl (fn_iload_n rl_L_spot_0 rfl (fn_iconst rl_L_spot_1 (fn_imul rl_L_spot_2 (fn_iload_n rl_L_spot_3 rfl (fn_iadd rl_L_spot_4 (fn_retci rl_L_spot_5 rfl (fn_istore_n (ls' := [.ref 26, .int a1, .int a2, .int ((a1 * 3) + a2), .null, .null, .null]) rl_J_needOf_5 rfl rfl (fn_aload_n rl_J_needOf_6 rfl (fn_get rl_J_needOf_7 hp_26 rfl (fn_iload_n rl_J_needOf_10 rfl (fn_iald rl_J_needOf_11 hp_27 (fun k2366 => fn_istore (ls' := [.ref 26, .int a1, .int a2, .int ((a1 * 3) + a2), .int ((A 27) ((a1 * 3) + a2).toNatClampNeg), .null, .null]) rl_J_needOf_12 rfl rfl (fn_bipush rl_J_needOf_14 (fn_istore (ls' := [.ref 26, .int a1, .int a2, .int ((a1 * 3) + a2), .int ((A 27) ((a1 * 3) + a2).toNatClampNeg), .int (-2), .null]) rl_J_needOf_16 rfl rfl (fn_iconst rl_J_needOf_18 (fn_istore (ls' := [.ref 26, .int a1, .int a2, .int ((a1 * 3) + a2), .int ((A 27) ((a1 * 3) + a2).toNatClampNeg), .int (-2), .int 0]) rl_J_needOf_19 rfl rfl (k2366)))))) k0)))))))))))))
set_option maxRecDepth 100000 in
set_option maxHeartbeats 4000000 in
theorem sg_J_needOf_21 {L : Nat} {xs : Nat → Int32} {A V : Nat → Nat → Int32} {K : Nat → Option Nat} {T : am_H} {v : Option Int32} {h' : am_H} {v1 v2 v3 v4 v5 v6 : Int32} (k0 :
    if (360 - v4) < v6 then (
      ¬ (v3 < 0 ∨ 18 ≤ v3.toNatClampNeg) ∧ (
      v = some v5 ∧ h' = hp L xs (upA A 27 (upd (A 27) v3.toNatClampNeg v4)) V K T))
    else (
      if v5 = (-2) then (
        ¬ (v3 < 0 ∨ 18 ≤ v3.toNatClampNeg) ∧ (
        am_fin [(z_J_isClaiming, 0, [.ref 26, .int v1, .int v2], []), (z_J_needOf, 56, [.ref 26, .int v1, .int v2, .int v3, .int v4, .int v5, .int v6], [])] (hp L xs (upA A 27 (upd (A 27) v3.toNatClampNeg (v4 + v6))) V K T) v h'))
      else (
        ¬ (v3 < 0 ∨ 18 ≤ v3.toNatClampNeg) ∧ (
        v = some v5 ∧ h' = hp L xs (upA A 27 (upd (A 27) v3.toNatClampNeg v4)) V K T)))) : am_fin [(z_J_needOf, 21, [.ref 26, .int v1, .int v2, .int v3, .int v4, .int v5, .int v6], [])] (hp L xs A V K T) v h' :=
  fn_iload rl_J_needOf_21 rfl (fn_sipush rl_J_needOf_23 (fn_iload rl_J_needOf_26 rfl (fn_isub rl_J_needOf_28 (fn_icmp_gt rl_J_needOf_29 (fun k2372 => fn_aload_n rl_J_needOf_69 rfl (fn_get rl_J_needOf_70 hp_26 rfl (fn_iload_n rl_J_needOf_73 rfl (fn_iload rl_J_needOf_74 rfl (fn_iast rl_J_needOf_76 hp_27 hps_27 (fun k2367 => fn_iload rl_J_needOf_77 rfl (fn_reti rl_J_needOf_79 rfl k2367)) k2372))))) (fun k2373 => fn_iload rl_J_needOf_32 rfl (fn_bipush rl_J_needOf_34 (fn_icmp_ne rl_J_needOf_36 (fun k2370 => fn_aload_n rl_J_needOf_39 rfl (fn_get rl_J_needOf_40 hp_26 rfl (fn_iload_n rl_J_needOf_43 rfl (fn_iload rl_J_needOf_44 rfl (fn_iload rl_J_needOf_46 rfl (fn_iadd rl_J_needOf_48 (fn_iast rl_J_needOf_49 hp_27 hps_27 (fun k2368 => fn_aload_n rl_J_needOf_50 rfl (fn_iload_n rl_J_needOf_51 rfl (fn_iload_n rl_J_needOf_52 rfl (fn_virt (as := [.ref 26, .int v1, .int v2]) (r := []) (ls' := [.ref 26, .int v1, .int v2]) rl_J_needOf_53 rfl hp_26 rfl rfl pl_J_isClaiming rfl rfl (k2368))))) k2370))))))) (fun k2371 => fn_aload_n rl_J_needOf_69 rfl (fn_get rl_J_needOf_70 hp_26 rfl (fn_iload_n rl_J_needOf_73 rfl (fn_iload rl_J_needOf_74 rfl (fn_iast rl_J_needOf_76 hp_27 hps_27 (fun k2369 => fn_iload rl_J_needOf_77 rfl (fn_reti rl_J_needOf_79 rfl k2369)) k2371))))) k2373))) k0))))
set_option maxRecDepth 100000 in
set_option maxHeartbeats 4000000 in
theorem sg_J_needOf_56r {L : Nat} {xs : Nat → Int32} {A V : Nat → Nat → Int32} {K : Nat → Option Nat} {T : am_H} {v : Option Int32} {h' : am_H} {v1 v2 v3 v4 v5 v6 r : Int32} (k0 :
    if r = 0 then (
      am_fin [(z_J_needOf, 21, [.ref 26, .int v1, .int v2, .int v3, .int v4, .int v5, .int (v6 + 1)], [])] (hp L xs A V K T) v h')
    else (
      am_fin [(z_J_needOf, 21, [.ref 26, .int v1, .int v2, .int v3, .int v4, .int v6, .int (v6 + 1)], [])] (hp L xs A V K T) v h')) : am_fin [(z_J_needOf, 56, [.ref 26, .int v1, .int v2, .int v3, .int v4, .int v5, .int v6], [.int r])] (hp L xs A V K T) v h' :=
  fn_if_eq rl_J_needOf_56 (fun k2374 => fn_iinc (ls' := [.ref 26, .int v1, .int v2, .int v3, .int v4, .int v5, .int (v6 + 1)]) rl_J_needOf_63 rfl rfl rfl (fn_goto rl_J_needOf_66 (k2374))) (fun k2375 => fn_iload rl_J_needOf_59 rfl (fn_istore (ls' := [.ref 26, .int v1, .int v2, .int v3, .int v4, .int v6, .int v6]) rl_J_needOf_61 rfl rfl (fn_iinc (ls' := [.ref 26, .int v1, .int v2, .int v3, .int v4, .int v6, .int (v6 + 1)]) rl_J_needOf_63 rfl rfl rfl (fn_goto rl_J_needOf_66 (k2375))))) k0
set_option maxRecDepth 100000 in
set_option maxHeartbeats 4000000 in
theorem sg_J_livesIfMoved_0 {L : Nat} {xs : Nat → Int32} {A V : Nat → Nat → Int32} {K : Nat → Option Nat} {T : am_H} {v : Option Int32} {h' : am_H} {a1 a2 a3 : Int32} (k0 :
    if a1 < 0 then (
      if a2 < 0 then (
        am_fin [(z_J_livesIn, 0, [.ref 26, .int a3, .null, .null, .null], []), (z_J_livesIfMoved, 19, [.ref 26, .int a1, .int a2, .int a3, .null], [])] (hp L xs A V K T) v h')
      else (
        if 5 < a2 then (
          am_fin [(z_J_livesIn, 0, [.ref 26, .int a3, .null, .null, .null], []), (z_J_livesIfMoved, 19, [.ref 26, .int a1, .int a2, .int a3, .null], [])] (hp L xs A V K T) v h')
        else (
          ¬ (((a2 * 3) + a3) < 0 ∨ 18 ≤ ((a2 * 3) + a3).toNatClampNeg) ∧ (
          ¬ (((a2 * 3) + a3) < 0 ∨ 18 ≤ ((a2 * 3) + a3).toNatClampNeg) ∧ (
          am_fin [(z_J_livesIn, 0, [.ref 26, .int a3, .null, .null, .null], []), (z_J_livesIfMoved, 19, [.ref 26, .int a1, .int a2, .int a3, .null], [])] (hp L xs (upA A 27 (upd (A 27) ((a2 * 3) + a3).toNatClampNeg (((A 27) ((a2 * 3) + a3).toNatClampNeg) + 1))) V K T) v h')))))
    else (
      if 5 < a1 then (
        if a2 < 0 then (
          am_fin [(z_J_livesIn, 0, [.ref 26, .int a3, .null, .null, .null], []), (z_J_livesIfMoved, 19, [.ref 26, .int a1, .int a2, .int a3, .null], [])] (hp L xs A V K T) v h')
        else (
          if 5 < a2 then (
            am_fin [(z_J_livesIn, 0, [.ref 26, .int a3, .null, .null, .null], []), (z_J_livesIfMoved, 19, [.ref 26, .int a1, .int a2, .int a3, .null], [])] (hp L xs A V K T) v h')
          else (
            ¬ (((a2 * 3) + a3) < 0 ∨ 18 ≤ ((a2 * 3) + a3).toNatClampNeg) ∧ (
            ¬ (((a2 * 3) + a3) < 0 ∨ 18 ≤ ((a2 * 3) + a3).toNatClampNeg) ∧ (
            am_fin [(z_J_livesIn, 0, [.ref 26, .int a3, .null, .null, .null], []), (z_J_livesIfMoved, 19, [.ref 26, .int a1, .int a2, .int a3, .null], [])] (hp L xs (upA A 27 (upd (A 27) ((a2 * 3) + a3).toNatClampNeg (((A 27) ((a2 * 3) + a3).toNatClampNeg) + 1))) V K T) v h')))))
      else (
        ¬ (((a1 * 3) + a3) < 0 ∨ 18 ≤ ((a1 * 3) + a3).toNatClampNeg) ∧ (
        ¬ (((a1 * 3) + a3) < 0 ∨ 18 ≤ ((a1 * 3) + a3).toNatClampNeg) ∧ (
        if a2 < 0 then (
          am_fin [(z_J_livesIn, 0, [.ref 26, .int a3, .null, .null, .null], []), (z_J_livesIfMoved, 19, [.ref 26, .int a1, .int a2, .int a3, .null], [])] (hp L xs (upA A 27 (upd (A 27) ((a1 * 3) + a3).toNatClampNeg (((A 27) ((a1 * 3) + a3).toNatClampNeg) + (-1)))) V K T) v h')
        else (
          if 5 < a2 then (
            am_fin [(z_J_livesIn, 0, [.ref 26, .int a3, .null, .null, .null], []), (z_J_livesIfMoved, 19, [.ref 26, .int a1, .int a2, .int a3, .null], [])] (hp L xs (upA A 27 (upd (A 27) ((a1 * 3) + a3).toNatClampNeg (((A 27) ((a1 * 3) + a3).toNatClampNeg) + (-1)))) V K T) v h')
          else (
            ¬ (((a2 * 3) + a3) < 0 ∨ 18 ≤ ((a2 * 3) + a3).toNatClampNeg) ∧ (
            ¬ (((a2 * 3) + a3) < 0 ∨ 18 ≤ ((a2 * 3) + a3).toNatClampNeg) ∧ (
            am_fin [(z_J_livesIn, 0, [.ref 26, .int a3, .null, .null, .null], []), (z_J_livesIfMoved, 19, [.ref 26, .int a1, .int a2, .int a3, .null], [])] (hp L xs (upA (upA A 27 (upd (A 27) ((a1 * 3) + a3).toNatClampNeg (((A 27) ((a1 * 3) + a3).toNatClampNeg) + (-1)))) 27 (upd ((upA A 27 (upd (A 27) ((a1 * 3) + a3).toNatClampNeg (((A 27) ((a1 * 3) + a3).toNatClampNeg) + (-1)))) 27) ((a2 * 3) + a3).toNatClampNeg ((((upA A 27 (upd (A 27) ((a1 * 3) + a3).toNatClampNeg (((A 27) ((a1 * 3) + a3).toNatClampNeg) + (-1)))) 27) ((a2 * 3) + a3).toNatClampNeg) + 1))) V K T) v h'))))))))) : am_fin [(z_J_livesIfMoved, 0, [.ref 26, .int a1, .int a2, .int a3, .null], [])] (hp L xs A V K T) v h' :=
  fn_aload_n rl_J_livesIfMoved_0 rfl (fn_iload_n rl_J_livesIfMoved_1 rfl (fn_iload_n rl_J_livesIfMoved_2 rfl (fn_iconst rl_J_livesIfMoved_3 (fn_virt (as := [.ref 26, .int a1, .int a3, .int (-1)]) (r := []) (ls' := [.ref 26, .int a1, .int a3, .int (-1)]) rl_J_livesIfMoved_4 rfl hp_26 rfl rfl pl_J_shift rfl rfl (fn_iload_n rl_J_shift_0 rfl (fn_stat (as := [.int a1]) (r := []) (ls' := [.int a1]) rl_J_shift_1 rfl rfl rfl rfl pl_L_isLand rfl rfl (fn_iload_n rl_L_isLand_0 rfl (fn_iconst rl_L_isLand_1 (fn_iconst rl_L_isLand_2 (fn_stat (as := [.int a1, .int 0, .int 5]) (r := []) (ls' := [.int a1, .int 0, .int 5]) rl_L_isLand_3 rfl rfl rfl rfl pl_L_isAmong rfl rfl (fn_iload_n rl_L_isAmong_0 rfl (fn_iload_n rl_L_isAmong_1 rfl (fn_icmp_lt rl_L_isAmong_2 (fun k2398 => fn_iconst rl_L_isAmong_14 (fn_retci rl_L_isAmong_15 rfl (fn_retci rl_L_isLand_6 rfl (fn_if_eq_t rl_J_shift_4 (by decide +kernel) (fn_retcv rl_J_shift_21 (fn_aload_n rl_J_livesIfMoved_7 rfl (fn_iload_n rl_J_livesIfMoved_8 rfl (fn_iload_n rl_J_livesIfMoved_9 rfl (fn_iconst rl_J_livesIfMoved_10 (fn_virt (as := [.ref 26, .int a2, .int a3, .int 1]) (r := []) (ls' := [.ref 26, .int a2, .int a3, .int 1]) rl_J_livesIfMoved_11 rfl hp_26 rfl rfl pl_J_shift rfl rfl (fn_iload_n rl_J_shift_0 rfl (fn_stat (as := [.int a2]) (r := []) (ls' := [.int a2]) rl_J_shift_1 rfl rfl rfl rfl pl_L_isLand rfl rfl (fn_iload_n rl_L_isLand_0 rfl (fn_iconst rl_L_isLand_1 (fn_iconst rl_L_isLand_2 (fn_stat (as := [.int a2, .int 0, .int 5]) (r := []) (ls' := [.int a2, .int 0, .int 5]) rl_L_isLand_3 rfl rfl rfl rfl pl_L_isAmong rfl rfl (fn_iload_n rl_L_isAmong_0 rfl (fn_iload_n rl_L_isAmong_1 rfl (fn_icmp_lt rl_L_isAmong_2 (fun k2380 => fn_iconst rl_L_isAmong_14 (fn_retci rl_L_isAmong_15 rfl (fn_retci rl_L_isLand_6 rfl (fn_if_eq_t rl_J_shift_4 (by decide +kernel) (fn_retcv rl_J_shift_21 (fn_aload_n rl_J_livesIfMoved_14 rfl (fn_iload_n rl_J_livesIfMoved_15 rfl (fn_virt (as := [.ref 26, .int a3]) (r := []) (ls' := [.ref 26, .int a3, .null, .null, .null]) rl_J_livesIfMoved_16 rfl hp_26 rfl rfl pl_J_livesIn rfl rfl (k2380))))))))) (fun k2381 => fn_iload_n rl_L_isAmong_5 rfl (fn_iload_n rl_L_isAmong_6 rfl (fn_icmp_gt rl_L_isAmong_7 (fun k2378 => fn_iconst rl_L_isAmong_14 (fn_retci rl_L_isAmong_15 rfl (fn_retci rl_L_isLand_6 rfl (fn_if_eq_t rl_J_shift_4 (by decide +kernel) (fn_retcv rl_J_shift_21 (fn_aload_n rl_J_livesIfMoved_14 rfl (fn_iload_n rl_J_livesIfMoved_15 rfl (fn_virt (as := [.ref 26, .int a3]) (r := []) (ls' := [.ref 26, .int a3, .null, .null, .null]) rl_J_livesIfMoved_16 rfl hp_26 rfl rfl pl_J_livesIn rfl rfl (k2378))))))))) (fun k2379 => fn_iconst rl_L_isAmong_10 (fn_goto rl_L_isAmong_11 (fn_retci rl_L_isAmong_15 rfl (fn_retci rl_L_isLand_6 rfl (fn_if_eq_f rl_J_shift_4 (by decide +kernel) (fn_aload_n rl_J_shift_7 rfl (fn_get rl_J_shift_8 hp_26 rfl (fn_iload_n rl_J_shift_11 rfl (fn_iload_n rl_J_shift_12 rfl (fn_stat (as := [.int a2, .int a3]) (r := [.ref 27]) (ls' := [.int a2, .int a3]) rl_J_shift_13 rfl rfl rfl rfl pl_L_spot rfl rfl (fn_iload_n rl_L_spot_0 rfl (fn_iconst rl_L_spot_1 (fn_imul rl_L_spot_2 (fn_iload_n rl_L_spot_3 rfl (fn_iadd rl_L_spot_4 (fn_retci rl_L_spot_5 rfl (fn_dup2 rl_J_shift_16 (fn_iald rl_J_shift_17 hp_27 (fun k2377 => fn_iload_n rl_J_shift_18 rfl (fn_iadd rl_J_shift_19 (fn_iast rl_J_shift_20 hp_27 hps_27 (fun k2376 => fn_retcv rl_J_shift_21 (fn_aload_n rl_J_livesIfMoved_14 rfl (fn_iload_n rl_J_livesIfMoved_15 rfl (fn_virt (as := [.ref 26, .int a3]) (r := []) (ls' := [.ref 26, .int a3, .null, .null, .null]) rl_J_livesIfMoved_16 rfl hp_26 rfl rfl pl_J_livesIn rfl rfl (k2376))))) k2377))) k2379)))))))))))))))))) k2381))) k2398))))))))))))))))))) (fun k2399 => fn_iload_n rl_L_isAmong_5 rfl (fn_iload_n rl_L_isAmong_6 rfl (fn_icmp_gt rl_L_isAmong_7 (fun k2396 => fn_iconst rl_L_isAmong_14 (fn_retci rl_L_isAmong_15 rfl (fn_retci rl_L_isLand_6 rfl (fn_if_eq_t rl_J_shift_4 (by decide +kernel) (fn_retcv rl_J_shift_21 (fn_aload_n rl_J_livesIfMoved_7 rfl (fn_iload_n rl_J_livesIfMoved_8 rfl (fn_iload_n rl_J_livesIfMoved_9 rfl (fn_iconst rl_J_livesIfMoved_10 (fn_virt (as := [.ref 26, .int a2, .int a3, .int 1]) (r := []) (ls' := [.ref 26, .int a2, .int a3, .int 1]) rl_J_livesIfMoved_11 rfl hp_26 rfl rfl pl_J_shift rfl rfl (fn_iload_n rl_J_shift_0 rfl (fn_stat (as := [.int a2]) (r := []) (ls' := [.int a2]) rl_J_shift_1 rfl rfl rfl rfl pl_L_isLand rfl rfl (fn_iload_n rl_L_isLand_0 rfl (fn_iconst rl_L_isLand_1 (fn_iconst rl_L_isLand_2 (fn_stat (as := [.int a2, .int 0, .int 5]) (r := []) (ls' := [.int a2, .int 0, .int 5]) rl_L_isLand_3 rfl rfl rfl rfl pl_L_isAmong rfl rfl (fn_iload_n rl_L_isAmong_0 rfl (fn_iload_n rl_L_isAmong_1 rfl (fn_icmp_lt rl_L_isAmong_2 (fun k2386 => fn_iconst rl_L_isAmong_14 (fn_retci rl_L_isAmong_15 rfl (fn_retci rl_L_isLand_6 rfl (fn_if_eq_t rl_J_shift_4 (by decide +kernel) (fn_retcv rl_J_shift_21 (fn_aload_n rl_J_livesIfMoved_14 rfl (fn_iload_n rl_J_livesIfMoved_15 rfl (fn_virt (as := [.ref 26, .int a3]) (r := []) (ls' := [.ref 26, .int a3, .null, .null, .null]) rl_J_livesIfMoved_16 rfl hp_26 rfl rfl pl_J_livesIn rfl rfl (k2386))))))))) (fun k2387 => fn_iload_n rl_L_isAmong_5 rfl (fn_iload_n rl_L_isAmong_6 rfl (fn_icmp_gt rl_L_isAmong_7 (fun k2384 => fn_iconst rl_L_isAmong_14 (fn_retci rl_L_isAmong_15 rfl (fn_retci rl_L_isLand_6 rfl (fn_if_eq_t rl_J_shift_4 (by decide +kernel) (fn_retcv rl_J_shift_21 (fn_aload_n rl_J_livesIfMoved_14 rfl (fn_iload_n rl_J_livesIfMoved_15 rfl (fn_virt (as := [.ref 26, .int a3]) (r := []) (ls' := [.ref 26, .int a3, .null, .null, .null]) rl_J_livesIfMoved_16 rfl hp_26 rfl rfl pl_J_livesIn rfl rfl (k2384))))))))) (fun k2385 => fn_iconst rl_L_isAmong_10 (fn_goto rl_L_isAmong_11 (fn_retci rl_L_isAmong_15 rfl (fn_retci rl_L_isLand_6 rfl (fn_if_eq_f rl_J_shift_4 (by decide +kernel) (fn_aload_n rl_J_shift_7 rfl (fn_get rl_J_shift_8 hp_26 rfl (fn_iload_n rl_J_shift_11 rfl (fn_iload_n rl_J_shift_12 rfl (fn_stat (as := [.int a2, .int a3]) (r := [.ref 27]) (ls' := [.int a2, .int a3]) rl_J_shift_13 rfl rfl rfl rfl pl_L_spot rfl rfl (fn_iload_n rl_L_spot_0 rfl (fn_iconst rl_L_spot_1 (fn_imul rl_L_spot_2 (fn_iload_n rl_L_spot_3 rfl (fn_iadd rl_L_spot_4 (fn_retci rl_L_spot_5 rfl (fn_dup2 rl_J_shift_16 (fn_iald rl_J_shift_17 hp_27 (fun k2383 => fn_iload_n rl_J_shift_18 rfl (fn_iadd rl_J_shift_19 (fn_iast rl_J_shift_20 hp_27 hps_27 (fun k2382 => fn_retcv rl_J_shift_21 (fn_aload_n rl_J_livesIfMoved_14 rfl (fn_iload_n rl_J_livesIfMoved_15 rfl (fn_virt (as := [.ref 26, .int a3]) (r := []) (ls' := [.ref 26, .int a3, .null, .null, .null]) rl_J_livesIfMoved_16 rfl hp_26 rfl rfl pl_J_livesIn rfl rfl (k2382))))) k2383))) k2385)))))))))))))))))) k2387))) k2396))))))))))))))))))) (fun k2397 => fn_iconst rl_L_isAmong_10 (fn_goto rl_L_isAmong_11 (fn_retci rl_L_isAmong_15 rfl (fn_retci rl_L_isLand_6 rfl (fn_if_eq_f rl_J_shift_4 (by decide +kernel) (fn_aload_n rl_J_shift_7 rfl (fn_get rl_J_shift_8 hp_26 rfl (fn_iload_n rl_J_shift_11 rfl (fn_iload_n rl_J_shift_12 rfl (fn_stat (as := [.int a1, .int a3]) (r := [.ref 27]) (ls' := [.int a1, .int a3]) rl_J_shift_13 rfl rfl rfl rfl pl_L_spot rfl rfl (fn_iload_n rl_L_spot_0 rfl (fn_iconst rl_L_spot_1 (fn_imul rl_L_spot_2 (fn_iload_n rl_L_spot_3 rfl (fn_iadd rl_L_spot_4 (fn_retci rl_L_spot_5 rfl (fn_dup2 rl_J_shift_16 (fn_iald rl_J_shift_17 hp_27 (fun k2395 => fn_iload_n rl_J_shift_18 rfl (fn_iadd rl_J_shift_19 (fn_iast rl_J_shift_20 hp_27 hps_27 (fun k2394 => fn_retcv rl_J_shift_21 (fn_aload_n rl_J_livesIfMoved_7 rfl (fn_iload_n rl_J_livesIfMoved_8 rfl (fn_iload_n rl_J_livesIfMoved_9 rfl (fn_iconst rl_J_livesIfMoved_10 (fn_virt (as := [.ref 26, .int a2, .int a3, .int 1]) (r := []) (ls' := [.ref 26, .int a2, .int a3, .int 1]) rl_J_livesIfMoved_11 rfl hp_26 rfl rfl pl_J_shift rfl rfl (fn_iload_n rl_J_shift_0 rfl (fn_stat (as := [.int a2]) (r := []) (ls' := [.int a2]) rl_J_shift_1 rfl rfl rfl rfl pl_L_isLand rfl rfl (fn_iload_n rl_L_isLand_0 rfl (fn_iconst rl_L_isLand_1 (fn_iconst rl_L_isLand_2 (fn_stat (as := [.int a2, .int 0, .int 5]) (r := []) (ls' := [.int a2, .int 0, .int 5]) rl_L_isLand_3 rfl rfl rfl rfl pl_L_isAmong rfl rfl (fn_iload_n rl_L_isAmong_0 rfl (fn_iload_n rl_L_isAmong_1 rfl (fn_icmp_lt rl_L_isAmong_2 (fun k2392 => fn_iconst rl_L_isAmong_14 (fn_retci rl_L_isAmong_15 rfl (fn_retci rl_L_isLand_6 rfl (fn_if_eq_t rl_J_shift_4 (by decide +kernel) (fn_retcv rl_J_shift_21 (fn_aload_n rl_J_livesIfMoved_14 rfl (fn_iload_n rl_J_livesIfMoved_15 rfl (fn_virt (as := [.ref 26, .int a3]) (r := []) (ls' := [.ref 26, .int a3, .null, .null, .null]) rl_J_livesIfMoved_16 rfl hp_26 rfl rfl pl_J_livesIn rfl rfl (k2392))))))))) (fun k2393 => fn_iload_n rl_L_isAmong_5 rfl (fn_iload_n rl_L_isAmong_6 rfl (fn_icmp_gt rl_L_isAmong_7 (fun k2390 => fn_iconst rl_L_isAmong_14 (fn_retci rl_L_isAmong_15 rfl (fn_retci rl_L_isLand_6 rfl (fn_if_eq_t rl_J_shift_4 (by decide +kernel) (fn_retcv rl_J_shift_21 (fn_aload_n rl_J_livesIfMoved_14 rfl (fn_iload_n rl_J_livesIfMoved_15 rfl (fn_virt (as := [.ref 26, .int a3]) (r := []) (ls' := [.ref 26, .int a3, .null, .null, .null]) rl_J_livesIfMoved_16 rfl hp_26 rfl rfl pl_J_livesIn rfl rfl (k2390))))))))) (fun k2391 => fn_iconst rl_L_isAmong_10 (fn_goto rl_L_isAmong_11 (fn_retci rl_L_isAmong_15 rfl (fn_retci rl_L_isLand_6 rfl (fn_if_eq_f rl_J_shift_4 (by decide +kernel) (fn_aload_n rl_J_shift_7 rfl (fn_get rl_J_shift_8 hp_26 rfl (fn_iload_n rl_J_shift_11 rfl (fn_iload_n rl_J_shift_12 rfl (fn_stat (as := [.int a2, .int a3]) (r := [.ref 27]) (ls' := [.int a2, .int a3]) rl_J_shift_13 rfl rfl rfl rfl pl_L_spot rfl rfl (fn_iload_n rl_L_spot_0 rfl (fn_iconst rl_L_spot_1 (fn_imul rl_L_spot_2 (fn_iload_n rl_L_spot_3 rfl (fn_iadd rl_L_spot_4 (fn_retci rl_L_spot_5 rfl (fn_dup2 rl_J_shift_16 (fn_iald rl_J_shift_17 hp_27 (fun k2389 => fn_iload_n rl_J_shift_18 rfl (fn_iadd rl_J_shift_19 (fn_iast rl_J_shift_20 hp_27 hps_27 (fun k2388 => fn_retcv rl_J_shift_21 (fn_aload_n rl_J_livesIfMoved_14 rfl (fn_iload_n rl_J_livesIfMoved_15 rfl (fn_virt (as := [.ref 26, .int a3]) (r := []) (ls' := [.ref 26, .int a3, .null, .null, .null]) rl_J_livesIfMoved_16 rfl hp_26 rfl rfl pl_J_livesIn rfl rfl (k2388))))) k2389))) k2391)))))))))))))))))) k2393))) k2394))))))))))))))) k2395))) k2397)))))))))))))))))) k2399))) k0)))))))))))))
