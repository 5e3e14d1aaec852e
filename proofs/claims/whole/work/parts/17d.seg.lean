set_option maxRecDepth 100000 in
set_option maxHeartbeats 4000000 in
theorem sg_M_need_0 {L : Nat} {xs : Nat → Int32} {A V : Nat → Nat → Int32} {K : Nat → Option Nat} {T : am_H} {v : Option Int32} {h' : am_H} {a1 a2 : Int32} (k0 :
    if (lg_cmp ((a1 : Int32).toInt64) ((0 : Int32).toInt64)) < 0 then (
      v = some (-1) ∧ h' = hp L xs A V K T)
    else (
      if 0 < (lg_cmp ((a1 : Int32).toInt64) ((5 : Int32).toInt64)) then (
        v = some (-1) ∧ h' = hp L xs A V K T)
      else (
        if (lg_cmp ((a2 : Int32).toInt64) ((0 : Int32).toInt64)) < 0 then (
          v = some (-1) ∧ h' = hp L xs A V K T)
        else (
          if 0 < (lg_cmp ((a2 : Int32).toInt64) ((2 : Int32).toInt64)) then (
            v = some (-1) ∧ h' = hp L xs A V K T)
          else (
            am_fin [(z_M_laysCounts, 0, [.ref 36, .null, .null, .null], []), (z_M_need, 20, [.ref 36, .int a1, .int a2], [])] (hp L xs A V K T) v h'))))) : am_fin [(z_M_need, 0, [.ref 36, .int a1, .int a2], [])] (hp L xs A V K T) v h' :=
  fn_iload_n rl_M_need_0 rfl (fn_stat (as := [.int a1]) (r := []) (ls' := [.int a1]) rl_M_need_1 rfl rfl rfl rfl pl_M_isLand rfl rfl (fn_iload_n rl_M_isLand_0 rfl (fn_i2l rl_M_isLand_1 (fn_lconst rl_M_isLand_2 (fn_ldc2_w rl_M_isLand_3 (fn_stat (as := [.long ((a1 : Int32).toInt64), .long ((0 : Int32).toInt64), .long ((5 : Int32).toInt64)]) (r := []) (ls' := [.long ((a1 : Int32).toInt64), .null, .long ((0 : Int32).toInt64), .null, .long ((5 : Int32).toInt64), .null]) rl_M_isLand_6 rfl rfl rfl rfl pl_M_in rfl rfl (fn_lload_n rl_M_in_0 rfl (fn_lload_n rl_M_in_1 rfl (fn_lcmp rl_M_in_2 (fn_if_lt rl_M_in_3 (fun k1999 => fn_iconst rl_M_in_17 (fn_retci rl_M_in_18 rfl (fn_retci rl_M_isLand_9 rfl (fn_if_eq_t rl_M_need_4 (by decide +kernel) (fn_iconst rl_M_need_14 (fn_reti rl_M_need_15 rfl k1999)))))) (fun k2000 => fn_lload_n rl_M_in_6 rfl (fn_lload rl_M_in_7 rfl (fn_lcmp rl_M_in_9 (fn_if_gt rl_M_in_10 (fun k1997 => fn_iconst rl_M_in_17 (fn_retci rl_M_in_18 rfl (fn_retci rl_M_isLand_9 rfl (fn_if_eq_t rl_M_need_4 (by decide +kernel) (fn_iconst rl_M_need_14 (fn_reti rl_M_need_15 rfl k1997)))))) (fun k1998 => fn_iconst rl_M_in_13 (fn_goto rl_M_in_14 (fn_retci rl_M_in_18 rfl (fn_retci rl_M_isLand_9 rfl (fn_if_eq_f rl_M_need_4 (by decide +kernel) (fn_iload_n rl_M_need_7 rfl (fn_stat (as := [.int a2]) (r := []) (ls' := [.int a2]) rl_M_need_8 rfl rfl rfl rfl pl_M_isYear rfl rfl (fn_iload_n rl_M_isYear_0 rfl (fn_i2l rl_M_isYear_1 (fn_lconst rl_M_isYear_2 (fn_ldc2_w rl_M_isYear_3 (fn_stat (as := [.long ((a2 : Int32).toInt64), .long ((0 : Int32).toInt64), .long ((2 : Int32).toInt64)]) (r := []) (ls' := [.long ((a2 : Int32).toInt64), .null, .long ((0 : Int32).toInt64), .null, .long ((2 : Int32).toInt64), .null]) rl_M_isYear_6 rfl rfl rfl rfl pl_M_in rfl rfl (fn_lload_n rl_M_in_0 rfl (fn_lload_n rl_M_in_1 rfl (fn_lcmp rl_M_in_2 (fn_if_lt rl_M_in_3 (fun k1995 => fn_iconst rl_M_in_17 (fn_retci rl_M_in_18 rfl (fn_retci rl_M_isYear_9 rfl (fn_if_ne_t rl_M_need_11 (by decide +kernel) (fn_iconst rl_M_need_14 (fn_reti rl_M_need_15 rfl k1995)))))) (fun k1996 => fn_lload_n rl_M_in_6 rfl (fn_lload rl_M_in_7 rfl (fn_lcmp rl_M_in_9 (fn_if_gt rl_M_in_10 (fun k1993 => fn_iconst rl_M_in_17 (fn_retci rl_M_in_18 rfl (fn_retci rl_M_isYear_9 rfl (fn_if_ne_t rl_M_need_11 (by decide +kernel) (fn_iconst rl_M_need_14 (fn_reti rl_M_need_15 rfl k1993)))))) (fun k1994 => fn_iconst rl_M_in_13 (fn_goto rl_M_in_14 (fn_retci rl_M_in_18 rfl (fn_retci rl_M_isYear_9 rfl (fn_if_ne_f rl_M_need_11 (by decide +kernel) (fn_aload_n rl_M_need_16 rfl (fn_virt (as := [.ref 36]) (r := []) (ls' := [.ref 36, .null, .null, .null]) rl_M_need_17 rfl hp_36 rfl rfl pl_M_laysCounts rfl rfl (k1994)))))))) k1996)))) k1998)))))))))))))))) k2000)))) k0))))))))))
set_option maxRecDepth 100000 in
set_option maxHeartbeats 4000000 in
theorem sg_M_need_20r {L : Nat} {xs : Nat → Int32} {A V : Nat → Nat → Int32} {K : Nat → Option Nat} {T : am_H} {v : Option Int32} {h' : am_H} {v1 v2 : Int32} (k0 :
    am_fin [(z_M_needs, 0, [.ref 36, .int v1, .int v2, .null, .null, .null], []), (z_M_need, 26, [.ref 36, .int v1, .int v2], [])] (hp L xs A V K T) v h') : am_fin [(z_M_need, 20, [.ref 36, .int v1, .int v2], [])] (hp L xs A V K T) v h' :=
  fn_aload_n rl_M_need_20 rfl (fn_iload_n rl_M_need_21 rfl (fn_iload_n rl_M_need_22 rfl (fn_virt (as := [.ref 36, .int v1, .int v2]) (r := []) (ls' := [.ref 36, .int v1, .int v2, .null, .null, .null]) rl_M_need_23 rfl hp_36 rfl rfl pl_M_needs rfl rfl (k0))))
set_option maxRecDepth 100000 in
set_option maxHeartbeats 4000000 in
theorem sg_M_need_26r {L : Nat} {xs : Nat → Int32} {A V : Nat → Nat → Int32} {K : Nat → Option Nat} {T : am_H} {v : Option Int32} {h' : am_H} {v1 v2 r : Int32} (k0 :
    v = some r ∧ h' = hp L xs A V K T) : am_fin [(z_M_need, 26, [.ref 36, .int v1, .int v2], [.int r])] (hp L xs A V K T) v h' :=
  fn_reti rl_M_need_26 rfl k0
set_option maxRecDepth 100000 in
set_option maxHeartbeats 4000000 in
theorem sg_M_moved_0 {L : Nat} {xs : Nat → Int32} {A V : Nat → Nat → Int32} {K : Nat → Option Nat} {T : am_H} {v : Option Int32} {h' : am_H} {a1 a2 : Int32} (k0 :
    if (lg_cmp ((a1 : Int32).toInt64) ((0 : Int32).toInt64)) < 0 then (
      v = some (-1) ∧ h' = hp L xs A V K T)
    else (
      if 0 < (lg_cmp ((a1 : Int32).toInt64) ((1079 : Int32).toInt64)) then (
        v = some (-1) ∧ h' = hp L xs A V K T)
      else (
        if (lg_cmp ((a2 : Int32).toInt64) (((-1) : Int32).toInt64)) < 0 then (
          v = some (-1) ∧ h' = hp L xs A V K T)
        else (
          if 0 < (lg_cmp ((a2 : Int32).toInt64) ((5 : Int32).toInt64)) then (
            v = some (-1) ∧ h' = hp L xs A V K T)
          else (
            am_fin [(z_M_laysCounts, 0, [.ref 36, .null, .null, .null], []), (z_M_moved, 20, [.ref 36, .int a1, .int a2], [])] (hp L xs A V K T) v h'))))) : am_fin [(z_M_moved, 0, [.ref 36, .int a1, .int a2], [])] (hp L xs A V K T) v h' :=
  fn_iload_n rl_M_moved_0 rfl (fn_stat (as := [.int a1]) (r := []) (ls' := [.int a1]) rl_M_moved_1 rfl rfl rfl rfl pl_M_isDay rfl rfl (fn_iload_n rl_M_isDay_0 rfl (fn_i2l rl_M_isDay_1 (fn_lconst rl_M_isDay_2 (fn_ldc2_w rl_M_isDay_3 (fn_stat (as := [.long ((a1 : Int32).toInt64), .long ((0 : Int32).toInt64), .long ((1079 : Int32).toInt64)]) (r := []) (ls' := [.long ((a1 : Int32).toInt64), .null, .long ((0 : Int32).toInt64), .null, .long ((1079 : Int32).toInt64), .null]) rl_M_isDay_6 rfl rfl rfl rfl pl_M_in rfl rfl (fn_lload_n rl_M_in_0 rfl (fn_lload_n rl_M_in_1 rfl (fn_lcmp rl_M_in_2 (fn_if_lt rl_M_in_3 (fun k2007 => fn_iconst rl_M_in_17 (fn_retci rl_M_in_18 rfl (fn_retci rl_M_isDay_9 rfl (fn_if_eq_t rl_M_moved_4 (by decide +kernel) (fn_iconst rl_M_moved_14 (fn_reti rl_M_moved_15 rfl k2007)))))) (fun k2008 => fn_lload_n rl_M_in_6 rfl (fn_lload rl_M_in_7 rfl (fn_lcmp rl_M_in_9 (fn_if_gt rl_M_in_10 (fun k2005 => fn_iconst rl_M_in_17 (fn_retci rl_M_in_18 rfl (fn_retci rl_M_isDay_9 rfl (fn_if_eq_t rl_M_moved_4 (by decide +kernel) (fn_iconst rl_M_moved_14 (fn_reti rl_M_moved_15 rfl k2005)))))) (fun k2006 => fn_iconst rl_M_in_13 (fn_goto rl_M_in_14 (fn_retci rl_M_in_18 rfl (fn_retci rl_M_isDay_9 rfl (fn_if_eq_f rl_M_moved_4 (by decide +kernel) (fn_iload_n rl_M_moved_7 rfl (fn_stat (as := [.int a2]) (r := []) (ls' := [.int a2]) rl_M_moved_8 rfl rfl rfl rfl pl_M_isPlace rfl rfl (fn_iload_n rl_M_isPlace_0 rfl (fn_i2l rl_M_isPlace_1 (fn_ldc2_w rl_M_isPlace_2 (fn_ldc2_w rl_M_isPlace_5 (fn_stat (as := [.long ((a2 : Int32).toInt64), .long (((-1) : Int32).toInt64), .long ((5 : Int32).toInt64)]) (r := []) (ls' := [.long ((a2 : Int32).toInt64), .null, .long (((-1) : Int32).toInt64), .null, .long ((5 : Int32).toInt64), .null]) rl_M_isPlace_8 rfl rfl rfl rfl pl_M_in rfl rfl (fn_lload_n rl_M_in_0 rfl (fn_lload_n rl_M_in_1 rfl (fn_lcmp rl_M_in_2 (fn_if_lt rl_M_in_3 (fun k2003 => fn_iconst rl_M_in_17 (fn_retci rl_M_in_18 rfl (fn_retci rl_M_isPlace_11 rfl (fn_if_ne_t rl_M_moved_11 (by decide +kernel) (fn_iconst rl_M_moved_14 (fn_reti rl_M_moved_15 rfl k2003)))))) (fun k2004 => fn_lload_n rl_M_in_6 rfl (fn_lload rl_M_in_7 rfl (fn_lcmp rl_M_in_9 (fn_if_gt rl_M_in_10 (fun k2001 => fn_iconst rl_M_in_17 (fn_retci rl_M_in_18 rfl (fn_retci rl_M_isPlace_11 rfl (fn_if_ne_t rl_M_moved_11 (by decide +kernel) (fn_iconst rl_M_moved_14 (fn_reti rl_M_moved_15 rfl k2001)))))) (fun k2002 => fn_iconst rl_M_in_13 (fn_goto rl_M_in_14 (fn_retci rl_M_in_18 rfl (fn_retci rl_M_isPlace_11 rfl (fn_if_ne_f rl_M_moved_11 (by decide +kernel) (fn_aload_n rl_M_moved_16 rfl (fn_virt (as := [.ref 36]) (r := []) (ls' := [.ref 36, .null, .null, .null]) rl_M_moved_17 rfl hp_36 rfl rfl pl_M_laysCounts rfl rfl (k2002)))))))) k2004)))) k2006)))))))))))))))) k2008)))) k0))))))))))
set_option maxRecDepth 100000 in
set_option maxHeartbeats 4000000 in
theorem sg_M_moved_20r {L : Nat} {xs : Nat → Int32} {A V : Nat → Nat → Int32} {K : Nat → Option Nat} {T : am_H} {v : Option Int32} {h' : am_H} {v1 v2 : Int32} (k0 :
    am_fin [(z_M_livesBy, 0, [.ref 36, .int v1, .int v2, .null, .null], []), (z_M_moved, 26, [.ref 36, .int v1, .int v2], [])] (hp L xs A V K T) v h') : am_fin [(z_M_moved, 20, [.ref 36, .int v1, .int v2], [])] (hp L xs A V K T) v h' :=
  fn_aload_n rl_M_moved_20 rfl (fn_iload_n rl_M_moved_21 rfl (fn_iload_n rl_M_moved_22 rfl (fn_virt (as := [.ref 36, .int v1, .int v2]) (r := []) (ls' := [.ref 36, .int v1, .int v2, .null, .null]) rl_M_moved_23 rfl hp_36 rfl rfl pl_M_livesBy rfl rfl (k0))))
set_option maxRecDepth 100000 in
set_option maxHeartbeats 4000000 in
theorem sg_M_moved_26r {L : Nat} {xs : Nat → Int32} {A V : Nat → Nat → Int32} {K : Nat → Option Nat} {T : am_H} {v : Option Int32} {h' : am_H} {v1 v2 r : Int32} (k0 :
    v = some r ∧ h' = hp L xs A V K T) : am_fin [(z_M_moved, 26, [.ref 36, .int v1, .int v2], [.int r])] (hp L xs A V K T) v h' :=
  fn_reti rl_M_moved_26 rfl k0
set_option maxRecDepth 100000 in
set_option maxHeartbeats 4000000 in
theorem sg_M_loose_0 {L : Nat} {xs : Nat → Int32} {A V : Nat → Nat → Int32} {K : Nat → Option Nat} {T : am_H} {v : Option Int32} {h' : am_H} {a1 a2 : Int32} (k0 :
    if (lg_cmp ((a1 : Int32).toInt64) ((0 : Int32).toInt64)) < 0 then (
      v = some (-1) ∧ h' = hp L xs A V K T)
    else (
      if 0 < (lg_cmp ((a1 : Int32).toInt64) ((2 : Int32).toInt64)) then (
        v = some (-1) ∧ h' = hp L xs A V K T)
      else (
        if (lg_cmp ((a2 : Int32).toInt64) ((0 : Int32).toInt64)) < 0 then (
          v = some (-1) ∧ h' = hp L xs A V K T)
        else (
          if 0 < (lg_cmp ((a2 : Int32).toInt64) ((1 : Int32).toInt64)) then (
            v = some (-1) ∧ h' = hp L xs A V K T)
          else (
            am_fin [(z_M_laysCounts, 0, [.ref 36, .null, .null, .null], []), (z_M_loose, 23, [.ref 36, .int a1, .int a2, .null, .null, .null, .null, .null], [])] (hp L xs A V K T) v h'))))) : am_fin [(z_M_loose, 0, [.ref 36, .int a1, .int a2, .null, .null, .null, .null, .null], [])] (hp L xs A V K T) v h' :=
  fn_iload_n rl_M_loose_0 rfl (fn_stat (as := [.int a1]) (r := []) (ls' := [.int a1]) rl_M_loose_1 rfl rfl rfl rfl pl_M_isYear rfl rfl (fn_iload_n rl_M_isYear_0 rfl (fn_i2l rl_M_isYear_1 (fn_lconst rl_M_isYear_2 (fn_ldc2_w rl_M_isYear_3 (fn_stat (as := [.long ((a1 : Int32).toInt64), .long ((0 : Int32).toInt64), .long ((2 : Int32).toInt64)]) (r := []) (ls' := [.long ((a1 : Int32).toInt64), .null, .long ((0 : Int32).toInt64), .null, .long ((2 : Int32).toInt64), .null]) rl_M_isYear_6 rfl rfl rfl rfl pl_M_in rfl rfl (fn_lload_n rl_M_in_0 rfl (fn_lload_n rl_M_in_1 rfl (fn_lcmp rl_M_in_2 (fn_if_lt rl_M_in_3 (fun k2015 => fn_iconst rl_M_in_17 (fn_retci rl_M_in_18 rfl (fn_retci rl_M_isYear_9 rfl (fn_if_eq_t rl_M_loose_4 (by decide +kernel) (fn_iconst rl_M_loose_17 (fn_reti rl_M_loose_18 rfl k2015)))))) (fun k2016 => fn_lload_n rl_M_in_6 rfl (fn_lload rl_M_in_7 rfl (fn_lcmp rl_M_in_9 (fn_if_gt rl_M_in_10 (fun k2013 => fn_iconst rl_M_in_17 (fn_retci rl_M_in_18 rfl (fn_retci rl_M_isYear_9 rfl (fn_if_eq_t rl_M_loose_4 (by decide +kernel) (fn_iconst rl_M_loose_17 (fn_reti rl_M_loose_18 rfl k2013)))))) (fun k2014 => fn_iconst rl_M_in_13 (fn_goto rl_M_in_14 (fn_retci rl_M_in_18 rfl (fn_retci rl_M_isYear_9 rfl (fn_if_eq_f rl_M_loose_4 (by decide +kernel) (fn_iload_n rl_M_loose_7 rfl (fn_i2l rl_M_loose_8 (fn_lconst rl_M_loose_9 (fn_lconst rl_M_loose_10 (fn_stat (as := [.long ((a2 : Int32).toInt64), .long ((0 : Int32).toInt64), .long ((1 : Int32).toInt64)]) (r := []) (ls' := [.long ((a2 : Int32).toInt64), .null, .long ((0 : Int32).toInt64), .null, .long ((1 : Int32).toInt64), .null]) rl_M_loose_11 rfl rfl rfl rfl pl_M_in rfl rfl (fn_lload_n rl_M_in_0 rfl (fn_lload_n rl_M_in_1 rfl (fn_lcmp rl_M_in_2 (fn_if_lt rl_M_in_3 (fun k2011 => fn_iconst rl_M_in_17 (fn_retci rl_M_in_18 rfl (fn_if_ne_t rl_M_loose_14 (by decide +kernel) (fn_iconst rl_M_loose_17 (fn_reti rl_M_loose_18 rfl k2011))))) (fun k2012 => fn_lload_n rl_M_in_6 rfl (fn_lload rl_M_in_7 rfl (fn_lcmp rl_M_in_9 (fn_if_gt rl_M_in_10 (fun k2009 => fn_iconst rl_M_in_17 (fn_retci rl_M_in_18 rfl (fn_if_ne_t rl_M_loose_14 (by decide +kernel) (fn_iconst rl_M_loose_17 (fn_reti rl_M_loose_18 rfl k2009))))) (fun k2010 => fn_iconst rl_M_in_13 (fn_goto rl_M_in_14 (fn_retci rl_M_in_18 rfl (fn_if_ne_f rl_M_loose_14 (by decide +kernel) (fn_aload_n rl_M_loose_19 rfl (fn_virt (as := [.ref 36]) (r := []) (ls' := [.ref 36, .null, .null, .null]) rl_M_loose_20 rfl hp_36 rfl rfl pl_M_laysCounts rfl rfl (k2010))))))) k2012)))) k2014)))))))))))))) k2016)))) k0))))))))))
set_option maxRecDepth 100000 in
set_option maxHeartbeats 4000000 in
theorem sg_M_loose_23r {L : Nat} {xs : Nat → Int32} {A V : Nat → Nat → Int32} {K : Nat → Option Nat} {T : am_H} {v : Option Int32} {h' : am_H} {v1 v2 : Int32} (k0 :
    am_fin [(z_M_livesNow, 0, [.ref 36, .int v1, .null, .null, .null, .null], []), (z_M_loose, 28, [.ref 36, .int v1, .int v2, .null, .null, .null, .null, .null], [])] (hp L xs A V K T) v h') : am_fin [(z_M_loose, 23, [.ref 36, .int v1, .int v2, .null, .null, .null, .null, .null], [])] (hp L xs A V K T) v h' :=
  fn_aload_n rl_M_loose_23 rfl (fn_iload_n rl_M_loose_24 rfl (fn_virt (as := [.ref 36, .int v1]) (r := []) (ls' := [.ref 36, .int v1, .null, .null, .null, .null]) rl_M_loose_25 rfl hp_36 rfl rfl pl_M_livesNow rfl rfl (k0)))
set_option maxRecDepth 100000 in
set_option maxHeartbeats 4000000 in
theorem sg_M_loose_28r {L : Nat} {xs : Nat → Int32} {A V : Nat → Nat → Int32} {K : Nat → Option Nat} {T : am_H} {v : Option Int32} {h' : am_H} {v1 v2 r : Int32} (k0 :
    am_fin [(z_M_loose, 32, [.ref 36, .int v1, .int v2, .int r, .int 0, .null, .null, .null], [])] (hp L xs A V K T) v h') : am_fin [(z_M_loose, 28, [.ref 36, .int v1, .int v2, .null, .null, .null, .null, .null], [.int r])] (hp L xs A V K T) v h' :=
  fn_istore_n (ls' := [.ref 36, .int v1, .int v2, .int r, .null, .null, .null, .null]) rl_M_loose_28 rfl rfl (fn_iconst rl_M_loose_29 (fn_istore (ls' := [.ref 36, .int v1, .int v2, .int r, .int 0, .null, .null, .null]) rl_M_loose_30 rfl rfl (k0)))
set_option maxRecDepth 100000 in
set_option maxHeartbeats 4000000 in
theorem sg_M_loose_32 {L : Nat} {xs : Nat → Int32} {A V : Nat → Nat → Int32} {K : Nat → Option Nat} {T : am_H} {v : Option Int32} {h' : am_H} {v1 v2 v3 v4 : Int32} (k0 :
    if 7 ≤ v4 then (
      am_fin [(z_M_loose, 67, [.ref 36, .int v1, .int v2, .int v3, .int 0, .int (-2), .int (360 * v1), .null], [])] (hp L xs A V K T) v h')
    else (
      ¬ (v4 < 0 ∨ 7 ≤ v4.toNatClampNeg) ∧ (
      am_fin [(z_M_loose, 32, [.ref 36, .int v1, .int v2, .int v3, .int (v4 + 1), .null, .null, .null], [])] (hp L xs (upA A 49 (upd (A 49) v4.toNatClampNeg 0)) V K T) v h'))) : am_fin [(z_M_loose, 32, [.ref 36, .int v1, .int v2, .int v3, .int v4, .null, .null, .null], [])] (hp L xs A V K T) v h' :=
  fn_iload rl_M_loose_32 rfl (fn_bipush rl_M_loose_34 (fn_icmp_ge rl_M_loose_36 (fun k2018 => fn_iconst rl_M_loose_53 (fn_istore (ls' := [.ref 36, .int v1, .int v2, .int v3, .int 0, .null, .null, .null]) rl_M_loose_54 rfl rfl (fn_bipush rl_M_loose_56 (fn_istore (ls' := [.ref 36, .int v1, .int v2, .int v3, .int 0, .int (-2), .null, .null]) rl_M_loose_58 rfl rfl (fn_sipush rl_M_loose_60 (fn_iload_n rl_M_loose_63 rfl (fn_imul rl_M_loose_64 (fn_istore (ls' := [.ref 36, .int v1, .int v2, .int v3, .int 0, .int (-2), .int (360 * v1), .null]) rl_M_loose_65 rfl rfl (k2018))))))))) (fun k2019 => fn_aload_n rl_M_loose_39 rfl (fn_get rl_M_loose_40 hp_36 rfl (fn_iload rl_M_loose_43 rfl (fn_iconst rl_M_loose_45 (fn_iast rl_M_loose_46 hp_49 hps_49 (fun k2017 => fn_iinc (ls' := [.ref 36, .int v1, .int v2, .int v3, .int (v4 + 1), .null, .null, .null]) rl_M_loose_47 rfl rfl rfl (fn_goto rl_M_loose_50 (k2017))) k2019))))) k0))
set_option maxRecDepth 100000 in
set_option maxHeartbeats 4000000 in
theorem sg_M_loose_67 {L : Nat} {xs : Nat → Int32} {A V : Nat → Nat → Int32} {K : Nat → Option Nat} {T : am_H} {v : Option Int32} {h' : am_H} {v1 v2 v3 v4 v5 v6 : Int32} (k0 :
    if ((360 * v1) + 360) ≤ v6 then (
      if v2 = 0 then (
        v = some v4 ∧ h' = hp L xs A V K T)
      else (
        v = some v5 ∧ h' = hp L xs A V K T))
    else (
      ¬ (v6 < 0 ∨ 1080 ≤ v6.toNatClampNeg) ∧ (
      ¬ ((((A 37) v6.toNatClampNeg) + 1) < 0 ∨ 7 ≤ (((A 37) v6.toNatClampNeg) + 1).toNatClampNeg) ∧ (
      if ((A 49) (((A 37) v6.toNatClampNeg) + 1).toNatClampNeg) = 0 then (
        am_fin [(z_M_loosens, 0, [.ref 36, .int v6, .int v3, .null], []), (z_M_loose, 115, [.ref 36, .int v1, .int v2, .int v3, .int v4, .int v5, .int v6, .int (((A 37) v6.toNatClampNeg) + 1)], [.int (((A 37) v6.toNatClampNeg) + 1), .ref 49])] (hp L xs A V K T) v h')
      else (
        ¬ ((((A 37) v6.toNatClampNeg) + 1) < 0 ∨ 7 ≤ (((A 37) v6.toNatClampNeg) + 1).toNatClampNeg) ∧ (
        if ((A 49) (((A 37) v6.toNatClampNeg) + 1).toNatClampNeg) = 1 then (
          am_fin [(z_M_loose, 67, [.ref 36, .int v1, .int v2, .int v3, .int v4, .int v5, .int (v6 + 1), .int (((A 37) v6.toNatClampNeg) + 1)], [])] (hp L xs A V K T) v h')
        else (
          if v4 = 0 then (
            am_fin [(z_M_loose, 67, [.ref 36, .int v1, .int v2, .int v3, .int (v4 + 1), .int v6, .int (v6 + 1), .int (((A 37) v6.toNatClampNeg) + 1)], [])] (hp L xs A V K T) v h')
          else (
            am_fin [(z_M_loose, 67, [.ref 36, .int v1, .int v2, .int v3, .int (v4 + 1), .int v5, .int (v6 + 1), .int (((A 37) v6.toNatClampNeg) + 1)], [])] (hp L xs A V K T) v h')))))))) : am_fin [(z_M_loose, 67, [.ref 36, .int v1, .int v2, .int v3, .int v4, .int v5, .int v6, .null], [])] (hp L xs A V K T) v h' :=
  fn_iload rl_M_loose_67 rfl (fn_sipush rl_M_loose_69 (fn_iload_n rl_M_loose_72 rfl (fn_imul rl_M_loose_73 (fn_sipush rl_M_loose_74 (fn_iadd rl_M_loose_77 (fn_icmp_ge rl_M_loose_78 (fun k2031 => fn_iload_n rl_M_loose_164 rfl (fn_if_ne rl_M_loose_165 (fun k2020 => fn_iload rl_M_loose_168 rfl (fn_goto rl_M_loose_170 (fn_reti rl_M_loose_175 rfl k2020))) (fun k2021 => fn_iload rl_M_loose_173 rfl (fn_reti rl_M_loose_175 rfl k2021)) k2031)) (fun k2032 => fn_aload_n rl_M_loose_81 rfl (fn_get rl_M_loose_82 hp_36 rfl (fn_iload rl_M_loose_85 rfl (fn_iald rl_M_loose_87 hp_37 (fun k2030 => fn_iconst rl_M_loose_88 (fn_iadd rl_M_loose_89 (fn_istore (ls' := [.ref 36, .int v1, .int v2, .int v3, .int v4, .int v5, .int v6, .int (((A 37) v6.toNatClampNeg) + 1)]) rl_M_loose_90 rfl rfl (fn_aload_n rl_M_loose_92 rfl (fn_get rl_M_loose_93 hp_36 rfl (fn_iload rl_M_loose_96 rfl (fn_iald rl_M_loose_98 hp_49 (fun k2029 => fn_if_ne rl_M_loose_99 (fun k2027 => fn_aload_n rl_M_loose_102 rfl (fn_get rl_M_loose_103 hp_36 rfl (fn_iload rl_M_loose_106 rfl (fn_aload_n rl_M_loose_108 rfl (fn_iload rl_M_loose_109 rfl (fn_iload_n rl_M_loose_111 rfl (fn_virt (as := [.ref 36, .int v6, .int v3]) (r := [.int (((A 37) v6.toNatClampNeg) + 1), .ref 49]) (ls' := [.ref 36, .int v6, .int v3, .null]) rl_M_loose_112 rfl hp_36 rfl rfl pl_M_loosens rfl rfl (k2027)))))))) (fun k2028 => fn_aload_n rl_M_loose_124 rfl (fn_get rl_M_loose_125 hp_36 rfl (fn_iload rl_M_loose_128 rfl (fn_iald rl_M_loose_130 hp_49 (fun k2026 => fn_iconst rl_M_loose_131 (fn_icmp_ne rl_M_loose_132 (fun k2024 => fn_goto rl_M_loose_135 (fn_iinc (ls' := [.ref 36, .int v1, .int v2, .int v3, .int v4, .int v5, .int (v6 + 1), .int (((A 37) v6.toNatClampNeg) + 1)]) rl_M_loose_158 rfl rfl rfl (fn_goto rl_M_loose_161 (k2024)))) (fun k2025 => fn_iload rl_M_loose_138 rfl (fn_if_ne rl_M_loose_140 (fun k2022 => fn_iload rl_M_loose_143 rfl (fn_goto rl_M_loose_145 (fn_istore (ls' := [.ref 36, .int v1, .int v2, .int v3, .int v4, .int v6, .int v6, .int (((A 37) v6.toNatClampNeg) + 1)]) rl_M_loose_150 rfl rfl (fn_iload rl_M_loose_152 rfl (fn_iconst rl_M_loose_154 (fn_iadd rl_M_loose_155 (fn_istore (ls' := [.ref 36, .int v1, .int v2, .int v3, .int (v4 + 1), .int v6, .int v6, .int (((A 37) v6.toNatClampNeg) + 1)]) rl_M_loose_156 rfl rfl (fn_iinc (ls' := [.ref 36, .int v1, .int v2, .int v3, .int (v4 + 1), .int v6, .int (v6 + 1), .int (((A 37) v6.toNatClampNeg) + 1)]) rl_M_loose_158 rfl rfl rfl (fn_goto rl_M_loose_161 (k2022)))))))))) (fun k2023 => fn_iload rl_M_loose_148 rfl (fn_istore (ls' := [.ref 36, .int v1, .int v2, .int v3, .int v4, .int v5, .int v6, .int (((A 37) v6.toNatClampNeg) + 1)]) rl_M_loose_150 rfl rfl (fn_iload rl_M_loose_152 rfl (fn_iconst rl_M_loose_154 (fn_iadd rl_M_loose_155 (fn_istore (ls' := [.ref 36, .int v1, .int v2, .int v3, .int (v4 + 1), .int v5, .int v6, .int (((A 37) v6.toNatClampNeg) + 1)]) rl_M_loose_156 rfl rfl (fn_iinc (ls' := [.ref 36, .int v1, .int v2, .int v3, .int (v4 + 1), .int v5, .int (v6 + 1), .int (((A 37) v6.toNatClampNeg) + 1)]) rl_M_loose_158 rfl rfl rfl (fn_goto rl_M_loose_161 (k2023))))))))) k2025)) k2026)) k2028)))) k2029) k2030))))))) k2032)))) k0))))))
set_option maxRecDepth 100000 in
set_option maxHeartbeats 4000000 in
theorem sg_M_loose_115r {L : Nat} {xs : Nat → Int32} {A V : Nat → Nat → Int32} {K : Nat → Option Nat} {T : am_H} {v : Option Int32} {h' : am_H} {v1 v2 v3 v4 v5 v6 v7 s1 r : Int32} (k0 :
    if r = 0 then (
      ¬ (s1 < 0 ∨ 7 ≤ s1.toNatClampNeg) ∧ (
      ¬ (v7 < 0 ∨ 7 ≤ v7.toNatClampNeg) ∧ (
      if (((upA A 49 (upd (A 49) s1.toNatClampNeg 1)) 49) v7.toNatClampNeg) = 1 then (
        am_fin [(z_M_loose, 67, [.ref 36, .int v1, .int v2, .int v3, .int v4, .int v5, .int (v6 + 1), .int v7], [])] (hp L xs (upA A 49 (upd (A 49) s1.toNatClampNeg 1)) V K T) v h')
      else (
        if v4 = 0 then (
          am_fin [(z_M_loose, 67, [.ref 36, .int v1, .int v2, .int v3, .int (v4 + 1), .int v6, .int (v6 + 1), .int v7], [])] (hp L xs (upA A 49 (upd (A 49) s1.toNatClampNeg 1)) V K T) v h')
        else (
          am_fin [(z_M_loose, 67, [.ref 36, .int v1, .int v2, .int v3, .int (v4 + 1), .int v5, .int (v6 + 1), .int v7], [])] (hp L xs (upA A 49 (upd (A 49) s1.toNatClampNeg 1)) V K T) v h')))))
    else (
      ¬ (s1 < 0 ∨ 7 ≤ s1.toNatClampNeg) ∧ (
      ¬ (v7 < 0 ∨ 7 ≤ v7.toNatClampNeg) ∧ (
      if (((upA A 49 (upd (A 49) s1.toNatClampNeg 2)) 49) v7.toNatClampNeg) = 1 then (
        am_fin [(z_M_loose, 67, [.ref 36, .int v1, .int v2, .int v3, .int v4, .int v5, .int (v6 + 1), .int v7], [])] (hp L xs (upA A 49 (upd (A 49) s1.toNatClampNeg 2)) V K T) v h')
      else (
        if v4 = 0 then (
          am_fin [(z_M_loose, 67, [.ref 36, .int v1, .int v2, .int v3, .int (v4 + 1), .int v6, .int (v6 + 1), .int v7], [])] (hp L xs (upA A 49 (upd (A 49) s1.toNatClampNeg 2)) V K T) v h')
        else (
          am_fin [(z_M_loose, 67, [.ref 36, .int v1, .int v2, .int v3, .int (v4 + 1), .int v5, .int (v6 + 1), .int v7], [])] (hp L xs (upA A 49 (upd (A 49) s1.toNatClampNeg 2)) V K T) v h')))))) : am_fin [(z_M_loose, 115, [.ref 36, .int v1, .int v2, .int v3, .int v4, .int v5, .int v6, .int v7], [.int r, .int s1, .ref 49])] (hp L xs A V K T) v h' :=
  fn_if_eq rl_M_loose_115 (fun k2045 => fn_iconst rl_M_loose_122 (fn_iast rl_M_loose_123 hp_49 hps_49 (fun k2038 => fn_aload_n rl_M_loose_124 rfl (fn_get rl_M_loose_125 hp_36 rfl (fn_iload rl_M_loose_128 rfl (fn_iald rl_M_loose_130 hp_49 (fun k2037 => fn_iconst rl_M_loose_131 (fn_icmp_ne rl_M_loose_132 (fun k2035 => fn_goto rl_M_loose_135 (fn_iinc (ls' := [.ref 36, .int v1, .int v2, .int v3, .int v4, .int v5, .int (v6 + 1), .int v7]) rl_M_loose_158 rfl rfl rfl (fn_goto rl_M_loose_161 (k2035)))) (fun k2036 => fn_iload rl_M_loose_138 rfl (fn_if_ne rl_M_loose_140 (fun k2033 => fn_iload rl_M_loose_143 rfl (fn_goto rl_M_loose_145 (fn_istore (ls' := [.ref 36, .int v1, .int v2, .int v3, .int v4, .int v6, .int v6, .int v7]) rl_M_loose_150 rfl rfl (fn_iload rl_M_loose_152 rfl (fn_iconst rl_M_loose_154 (fn_iadd rl_M_loose_155 (fn_istore (ls' := [.ref 36, .int v1, .int v2, .int v3, .int (v4 + 1), .int v6, .int v6, .int v7]) rl_M_loose_156 rfl rfl (fn_iinc (ls' := [.ref 36, .int v1, .int v2, .int v3, .int (v4 + 1), .int v6, .int (v6 + 1), .int v7]) rl_M_loose_158 rfl rfl rfl (fn_goto rl_M_loose_161 (k2033)))))))))) (fun k2034 => fn_iload rl_M_loose_148 rfl (fn_istore (ls' := [.ref 36, .int v1, .int v2, .int v3, .int v4, .int v5, .int v6, .int v7]) rl_M_loose_150 rfl rfl (fn_iload rl_M_loose_152 rfl (fn_iconst rl_M_loose_154 (fn_iadd rl_M_loose_155 (fn_istore (ls' := [.ref 36, .int v1, .int v2, .int v3, .int (v4 + 1), .int v5, .int v6, .int v7]) rl_M_loose_156 rfl rfl (fn_iinc (ls' := [.ref 36, .int v1, .int v2, .int v3, .int (v4 + 1), .int v5, .int (v6 + 1), .int v7]) rl_M_loose_158 rfl rfl rfl (fn_goto rl_M_loose_161 (k2034))))))))) k2036)) k2037)) k2038)))) k2045)) (fun k2046 => fn_iconst rl_M_loose_118 (fn_goto rl_M_loose_119 (fn_iast rl_M_loose_123 hp_49 hps_49 (fun k2044 => fn_aload_n rl_M_loose_124 rfl (fn_get rl_M_loose_125 hp_36 rfl (fn_iload rl_M_loose_128 rfl (fn_iald rl_M_loose_130 hp_49 (fun k2043 => fn_iconst rl_M_loose_131 (fn_icmp_ne rl_M_loose_132 (fun k2041 => fn_goto rl_M_loose_135 (fn_iinc (ls' := [.ref 36, .int v1, .int v2, .int v3, .int v4, .int v5, .int (v6 + 1), .int v7]) rl_M_loose_158 rfl rfl rfl (fn_goto rl_M_loose_161 (k2041)))) (fun k2042 => fn_iload rl_M_loose_138 rfl (fn_if_ne rl_M_loose_140 (fun k2039 => fn_iload rl_M_loose_143 rfl (fn_goto rl_M_loose_145 (fn_istore (ls' := [.ref 36, .int v1, .int v2, .int v3, .int v4, .int v6, .int v6, .int v7]) rl_M_loose_150 rfl rfl (fn_iload rl_M_loose_152 rfl (fn_iconst rl_M_loose_154 (fn_iadd rl_M_loose_155 (fn_istore (ls' := [.ref 36, .int v1, .int v2, .int v3, .int (v4 + 1), .int v6, .int v6, .int v7]) rl_M_loose_156 rfl rfl (fn_iinc (ls' := [.ref 36, .int v1, .int v2, .int v3, .int (v4 + 1), .int v6, .int (v6 + 1), .int v7]) rl_M_loose_158 rfl rfl rfl (fn_goto rl_M_loose_161 (k2039)))))))))) (fun k2040 => fn_iload rl_M_loose_148 rfl (fn_istore (ls' := [.ref 36, .int v1, .int v2, .int v3, .int v4, .int v5, .int v6, .int v7]) rl_M_loose_150 rfl rfl (fn_iload rl_M_loose_152 rfl (fn_iconst rl_M_loose_154 (fn_iadd rl_M_loose_155 (fn_istore (ls' := [.ref 36, .int v1, .int v2, .int v3, .int (v4 + 1), .int v5, .int v6, .int v7]) rl_M_loose_156 rfl rfl (fn_iinc (ls' := [.ref 36, .int v1, .int v2, .int v3, .int (v4 + 1), .int v5, .int (v6 + 1), .int v7]) rl_M_loose_158 rfl rfl rfl (fn_goto rl_M_loose_161 (k2040))))))))) k2042)) k2043)) k2044)))) k2046))) k0
set_option maxRecDepth 100000 in
set_option maxHeartbeats 4000000 in
theorem sg_M_loose_67b {L : Nat} {xs : Nat → Int32} {A V : Nat → Nat → Int32} {K : Nat → Option Nat} {T : am_H} {v : Option Int32} {h' : am_H} {v1 v2 v3 v4 v5 v6 v7 : Int32} (k0 :
    if ((360 * v1) + 360) ≤ v6 then (
      if v2 = 0 then (
        v = some v4 ∧ h' = hp L xs A V K T)
      else (
        v = some v5 ∧ h' = hp L xs A V K T))
    else (
      ¬ (v6 < 0 ∨ 1080 ≤ v6.toNatClampNeg) ∧ (
      ¬ ((((A 37) v6.toNatClampNeg) + 1) < 0 ∨ 7 ≤ (((A 37) v6.toNatClampNeg) + 1).toNatClampNeg) ∧ (
      if ((A 49) (((A 37) v6.toNatClampNeg) + 1).toNatClampNeg) = 0 then (
        am_fin [(z_M_loosens, 0, [.ref 36, .int v6, .int v3, .null], []), (z_M_loose, 115, [.ref 36, .int v1, .int v2, .int v3, .int v4, .int v5, .int v6, .int (((A 37) v6.toNatClampNeg) + 1)], [.int (((A 37) v6.toNatClampNeg) + 1), .ref 49])] (hp L xs A V K T) v h')
      else (
        ¬ ((((A 37) v6.toNatClampNeg) + 1) < 0 ∨ 7 ≤ (((A 37) v6.toNatClampNeg) + 1).toNatClampNeg) ∧ (
        if ((A 49) (((A 37) v6.toNatClampNeg) + 1).toNatClampNeg) = 1 then (
          am_fin [(z_M_loose, 67, [.ref 36, .int v1, .int v2, .int v3, .int v4, .int v5, .int (v6 + 1), .int (((A 37) v6.toNatClampNeg) + 1)], [])] (hp L xs A V K T) v h')
        else (
          if v4 = 0 then (
            am_fin [(z_M_loose, 67, [.ref 36, .int v1, .int v2, .int v3, .int (v4 + 1), .int v6, .int (v6 + 1), .int (((A 37) v6.toNatClampNeg) + 1)], [])] (hp L xs A V K T) v h')
          else (
            am_fin [(z_M_loose, 67, [.ref 36, .int v1, .int v2, .int v3, .int (v4 + 1), .int v5, .int (v6 + 1), .int (((A 37) v6.toNatClampNeg) + 1)], [])] (hp L xs A V K T) v h')))))))) : am_fin [(z_M_loose, 67, [.ref 36, .int v1, .int v2, .int v3, .int v4, .int v5, .int v6, .int v7], [])] (hp L xs A V K T) v h' :=
  fn_iload rl_M_loose_67 rfl (fn_sipush rl_M_loose_69 (fn_iload_n rl_M_loose_72 rfl (fn_imul rl_M_loose_73 (fn_sipush rl_M_loose_74 (fn_iadd rl_M_loose_77 (fn_icmp_ge rl_M_loose_78 (fun k2058 => fn_iload_n rl_M_loose_164 rfl (fn_if_ne rl_M_loose_165 (fun k2047 => fn_iload rl_M_loose_168 rfl (fn_goto rl_M_loose_170 (fn_reti rl_M_loose_175 rfl k2047))) (fun k2048 => fn_iload rl_M_loose_173 rfl (fn_reti rl_M_loose_175 rfl k2048)) k2058)) (fun k2059 => fn_aload_n rl_M_loose_81 rfl (fn_get rl_M_loose_82 hp_36 rfl (fn_iload rl_M_loose_85 rfl (fn_iald rl_M_loose_87 hp_37 (fun k2057 => fn_iconst rl_M_loose_88 (fn_iadd rl_M_loose_89 (fn_istore (ls' := [.ref 36, .int v1, .int v2, .int v3, .int v4, .int v5, .int v6, .int (((A 37) v6.toNatClampNeg) + 1)]) rl_M_loose_90 rfl rfl (fn_aload_n rl_M_loose_92 rfl (fn_get rl_M_loose_93 hp_36 rfl (fn_iload rl_M_loose_96 rfl (fn_iald rl_M_loose_98 hp_49 (fun k2056 => fn_if_ne rl_M_loose_99 (fun k2054 => fn_aload_n rl_M_loose_102 rfl (fn_get rl_M_loose_103 hp_36 rfl (fn_iload rl_M_loose_106 rfl (fn_aload_n rl_M_loose_108 rfl (fn_iload rl_M_loose_109 rfl (fn_iload_n rl_M_loose_111 rfl (fn_virt (as := [.ref 36, .int v6, .int v3]) (r := [.int (((A 37) v6.toNatClampNeg) + 1), .ref 49]) (ls' := [.ref 36, .int v6, .int v3, .null]) rl_M_loose_112 rfl hp_36 rfl rfl pl_M_loosens rfl rfl (k2054)))))))) (fun k2055 => fn_aload_n rl_M_loose_124 rfl (fn_get rl_M_loose_125 hp_36 rfl (fn_iload rl_M_loose_128 rfl (fn_iald rl_M_loose_130 hp_49 (fun k2053 => fn_iconst rl_M_loose_131 (fn_icmp_ne rl_M_loose_132 (fun k2051 => fn_goto rl_M_loose_135 (fn_iinc (ls' := [.ref 36, .int v1, .int v2, .int v3, .int v4, .int v5, .int (v6 + 1), .int (((A 37) v6.toNatClampNeg) + 1)]) rl_M_loose_158 rfl rfl rfl (fn_goto rl_M_loose_161 (k2051)))) (fun k2052 => fn_iload rl_M_loose_138 rfl (fn_if_ne rl_M_loose_140 (fun k2049 => fn_iload rl_M_loose_143 rfl (fn_goto rl_M_loose_145 (fn_istore (ls' := [.ref 36, .int v1, .int v2, .int v3, .int v4, .int v6, .int v6, .int (((A 37) v6.toNatClampNeg) + 1)]) rl_M_loose_150 rfl rfl (fn_iload rl_M_loose_152 rfl (fn_iconst rl_M_loose_154 (fn_iadd rl_M_loose_155 (fn_istore (ls' := [.ref 36, .int v1, .int v2, .int v3, .int (v4 + 1), .int v6, .int v6, .int (((A 37) v6.toNatClampNeg) + 1)]) rl_M_loose_156 rfl rfl (fn_iinc (ls' := [.ref 36, .int v1, .int v2, .int v3, .int (v4 + 1), .int v6, .int (v6 + 1), .int (((A 37) v6.toNatClampNeg) + 1)]) rl_M_loose_158 rfl rfl rfl (fn_goto rl_M_loose_161 (k2049)))))))))) (fun k2050 => fn_iload rl_M_loose_148 rfl (fn_istore (ls' := [.ref 36, .int v1, .int v2, .int v3, .int v4, .int v5, .int v6, .int (((A 37) v6.toNatClampNeg) + 1)]) rl_M_loose_150 rfl rfl (fn_iload rl_M_loose_152 rfl (fn_iconst rl_M_loose_154 (fn_iadd rl_M_loose_155 (fn_istore (ls' := [.ref 36, .int v1, .int v2, .int v3, .int (v4 + 1), .int v5, .int v6, .int (((A 37) v6.toNatClampNeg) + 1)]) rl_M_loose_156 rfl rfl (fn_iinc (ls' := [.ref 36, .int v1, .int v2, .int v3, .int (v4 + 1), .int v5, .int (v6 + 1), .int (((A 37) v6.toNatClampNeg) + 1)]) rl_M_loose_158 rfl rfl rfl (fn_goto rl_M_loose_161 (k2050))))))))) k2052)) k2053)) k2055)))) k2056) k2057))))))) k2059)))) k0))))))
set_option maxRecDepth 100000 in
set_option maxHeartbeats 4000000 in
theorem sg_M_nearest_0 {L : Nat} {xs : Nat → Int32} {A V : Nat → Nat → Int32} {K : Nat → Option Nat} {T : am_H} {v : Option Int32} {h' : am_H} {a1 a2 : Int32} (k0 :
    if (lg_cmp ((a1 : Int32).toInt64) ((0 : Int32).toInt64)) < 0 then (
      v = some (-1) ∧ h' = hp L xs A V K T)
    else (
      if 0 < (lg_cmp ((a1 : Int32).toInt64) ((2 : Int32).toInt64)) then (
        v = some (-1) ∧ h' = hp L xs A V K T)
      else (
        if (lg_cmp ((a2 : Int32).toInt64) ((0 : Int32).toInt64)) < 0 then (
          v = some (-1) ∧ h' = hp L xs A V K T)
        else (
          if 0 < (lg_cmp ((a2 : Int32).toInt64) ((1 : Int32).toInt64)) then (
            v = some (-1) ∧ h' = hp L xs A V K T)
          else (
            am_fin [(z_M_laysCounts, 0, [.ref 36, .null, .null, .null], []), (z_M_nearest, 23, [.ref 36, .int a1, .int a2, .null, .null, .null, .null], [])] (hp L xs A V K T) v h'))))) : am_fin [(z_M_nearest, 0, [.ref 36, .int a1, .int a2, .null, .null, .null, .null], [])] (hp L xs A V K T) v h' :=
  fn_iload_n rl_M_nearest_0 rfl (fn_stat (as := [.int a1]) (r := []) (ls' := [.int a1]) rl_M_nearest_1 rfl rfl rfl rfl pl_M_isYear rfl rfl (fn_iload_n rl_M_isYear_0 rfl (fn_i2l rl_M_isYear_1 (fn_lconst rl_M_isYear_2 (fn_ldc2_w rl_M_isYear_3 (fn_stat (as := [.long ((a1 : Int32).toInt64), .long ((0 : Int32).toInt64), .long ((2 : Int32).toInt64)]) (r := []) (ls' := [.long ((a1 : Int32).toInt64), .null, .long ((0 : Int32).toInt64), .null, .long ((2 : Int32).toInt64), .null]) rl_M_isYear_6 rfl rfl rfl rfl pl_M_in rfl rfl (fn_lload_n rl_M_in_0 rfl (fn_lload_n rl_M_in_1 rfl (fn_lcmp rl_M_in_2 (fn_if_lt rl_M_in_3 (fun k2066 => fn_iconst rl_M_in_17 (fn_retci rl_M_in_18 rfl (fn_retci rl_M_isYear_9 rfl (fn_if_eq_t rl_M_nearest_4 (by decide +kernel) (fn_iconst rl_M_nearest_17 (fn_reti rl_M_nearest_18 rfl k2066)))))) (fun k2067 => fn_lload_n rl_M_in_6 rfl (fn_lload rl_M_in_7 rfl (fn_lcmp rl_M_in_9 (fn_if_gt rl_M_in_10 (fun k2064 => fn_iconst rl_M_in_17 (fn_retci rl_M_in_18 rfl (fn_retci rl_M_isYear_9 rfl (fn_if_eq_t rl_M_nearest_4 (by decide +kernel) (fn_iconst rl_M_nearest_17 (fn_reti rl_M_nearest_18 rfl k2064)))))) (fun k2065 => fn_iconst rl_M_in_13 (fn_goto rl_M_in_14 (fn_retci rl_M_in_18 rfl (fn_retci rl_M_isYear_9 rfl (fn_if_eq_f rl_M_nearest_4 (by decide +kernel) (fn_iload_n rl_M_nearest_7 rfl (fn_i2l rl_M_nearest_8 (fn_lconst rl_M_nearest_9 (fn_lconst rl_M_nearest_10 (fn_stat (as := [.long ((a2 : Int32).toInt64), .long ((0 : Int32).toInt64), .long ((1 : Int32).toInt64)]) (r := []) (ls' := [.long ((a2 : Int32).toInt64), .null, .long ((0 : Int32).toInt64), .null, .long ((1 : Int32).toInt64), .null]) rl_M_nearest_11 rfl rfl rfl rfl pl_M_in rfl rfl (fn_lload_n rl_M_in_0 rfl (fn_lload_n rl_M_in_1 rfl (fn_lcmp rl_M_in_2 (fn_if_lt rl_M_in_3 (fun k2062 => fn_iconst rl_M_in_17 (fn_retci rl_M_in_18 rfl (fn_if_ne_t rl_M_nearest_14 (by decide +kernel) (fn_iconst rl_M_nearest_17 (fn_reti rl_M_nearest_18 rfl k2062))))) (fun k2063 => fn_lload_n rl_M_in_6 rfl (fn_lload rl_M_in_7 rfl (fn_lcmp rl_M_in_9 (fn_if_gt rl_M_in_10 (fun k2060 => fn_iconst rl_M_in_17 (fn_retci rl_M_in_18 rfl (fn_if_ne_t rl_M_nearest_14 (by decide +kernel) (fn_iconst rl_M_nearest_17 (fn_reti rl_M_nearest_18 rfl k2060))))) (fun k2061 => fn_iconst rl_M_in_13 (fn_goto rl_M_in_14 (fn_retci rl_M_in_18 rfl (fn_if_ne_f rl_M_nearest_14 (by decide +kernel) (fn_aload_n rl_M_nearest_19 rfl (fn_virt (as := [.ref 36]) (r := []) (ls' := [.ref 36, .null, .null, .null]) rl_M_nearest_20 rfl hp_36 rfl rfl pl_M_laysCounts rfl rfl (k2061))))))) k2063)))) k2065)))))))))))))) k2067)))) k0))))))))))
set_option maxRecDepth 100000 in
set_option maxHeartbeats 4000000 in
theorem sg_M_nearest_23r {L : Nat} {xs : Nat → Int32} {A V : Nat → Nat → Int32} {K : Nat → Option Nat} {T : am_H} {v : Option Int32} {h' : am_H} {v1 v2 : Int32} (k0 :
    am_fin [(z_M_nearest, 32, [.ref 36, .int v1, .int v2, .int (-2), .int 0, .int 0, .null], [])] (hp L xs A V K T) v h') : am_fin [(z_M_nearest, 23, [.ref 36, .int v1, .int v2, .null, .null, .null, .null], [])] (hp L xs A V K T) v h' :=
  fn_bipush rl_M_nearest_23 (fn_istore_n (ls' := [.ref 36, .int v1, .int v2, .int (-2), .null, .null, .null]) rl_M_nearest_25 rfl rfl (fn_iconst rl_M_nearest_26 (fn_istore (ls' := [.ref 36, .int v1, .int v2, .int (-2), .int 0, .null, .null]) rl_M_nearest_27 rfl rfl (fn_iconst rl_M_nearest_29 (fn_istore (ls' := [.ref 36, .int v1, .int v2, .int (-2), .int 0, .int 0, .null]) rl_M_nearest_30 rfl rfl (k0))))))
set_option maxRecDepth 100000 in
set_option maxHeartbeats 4000000 in
theorem sg_M_nearest_32 {L : Nat} {xs : Nat → Int32} {A V : Nat → Nat → Int32} {K : Nat → Option Nat} {T : am_H} {v : Option Int32} {h' : am_H} {v1 v2 v3 v4 v5 : Int32} (k0 :
    if 6 ≤ v5 then (
      if v2 = 0 then (
        v = some v3 ∧ h' = hp L xs A V K T)
      else (
        if v3 = (-2) then (
          v = some v3 ∧ h' = hp L xs A V K T)
        else (
          v = some v4 ∧ h' = hp L xs A V K T)))
    else (
      am_fin [(z_M_needs, 0, [.ref 36, .int v5, .int v1, .null, .null, .null], []), (z_M_nearest, 46, [.ref 36, .int v1, .int v2, .int v3, .int v4, .int v5, .null], [])] (hp L xs A V K T) v h')) : am_fin [(z_M_nearest, 32, [.ref 36, .int v1, .int v2, .int v3, .int v4, .int v5, .null], [])] (hp L xs A V K T) v h' :=
  fn_iload rl_M_nearest_32 rfl (fn_bipush rl_M_nearest_34 (fn_icmp_ge rl_M_nearest_36 (fun k2072 => fn_iload_n rl_M_nearest_83 rfl (fn_if_eq rl_M_nearest_84 (fun k2070 => fn_iload_n rl_M_nearest_93 rfl (fn_goto rl_M_nearest_94 (fn_reti rl_M_nearest_99 rfl k2070))) (fun k2071 => fn_iload_n rl_M_nearest_87 rfl (fn_bipush rl_M_nearest_88 (fn_icmp_ne rl_M_nearest_90 (fun k2068 => fn_iload_n rl_M_nearest_93 rfl (fn_goto rl_M_nearest_94 (fn_reti rl_M_nearest_99 rfl k2068))) (fun k2069 => fn_iload rl_M_nearest_97 rfl (fn_reti rl_M_nearest_99 rfl k2069)) k2071))) k2072)) (fun k2073 => fn_aload_n rl_M_nearest_39 rfl (fn_iload rl_M_nearest_40 rfl (fn_iload_n rl_M_nearest_42 rfl (fn_virt (as := [.ref 36, .int v5, .int v1]) (r := []) (ls' := [.ref 36, .int v5, .int v1, .null, .null, .null]) rl_M_nearest_43 rfl hp_36 rfl rfl pl_M_needs rfl rfl (k2073))))) k0))
set_option maxRecDepth 100000 in
set_option maxHeartbeats 4000000 in
theorem sg_M_nearest_46r {L : Nat} {xs : Nat → Int32} {A V : Nat → Nat → Int32} {K : Nat → Option Nat} {T : am_H} {v : Option Int32} {h' : am_H} {v1 v2 v3 v4 v5 r : Int32} (k0 :
    if r < 1 then (
      am_fin [(z_M_nearest, 32, [.ref 36, .int v1, .int v2, .int v3, .int v4, .int (v5 + 1), .int r], [])] (hp L xs A V K T) v h')
    else (
      if v3 = (-2) then (
        am_fin [(z_M_nearest, 32, [.ref 36, .int v1, .int v2, .int v5, .int r, .int (v5 + 1), .int r], [])] (hp L xs A V K T) v h')
      else (
        if r < v4 then (
          am_fin [(z_M_nearest, 32, [.ref 36, .int v1, .int v2, .int v5, .int r, .int (v5 + 1), .int r], [])] (hp L xs A V K T) v h')
        else (
          am_fin [(z_M_nearest, 32, [.ref 36, .int v1, .int v2, .int v3, .int v4, .int (v5 + 1), .int r], [])] (hp L xs A V K T) v h')))) : am_fin [(z_M_nearest, 46, [.ref 36, .int v1, .int v2, .int v3, .int v4, .int v5, .null], [.int r])] (hp L xs A V K T) v h' :=
  fn_istore (ls' := [.ref 36, .int v1, .int v2, .int v3, .int v4, .int v5, .int r]) rl_M_nearest_46 rfl rfl (fn_iload rl_M_nearest_48 rfl (fn_iconst rl_M_nearest_50 (fn_icmp_lt rl_M_nearest_51 (fun k2078 => fn_iinc (ls' := [.ref 36, .int v1, .int v2, .int v3, .int v4, .int (v5 + 1), .int r]) rl_M_nearest_77 rfl rfl rfl (fn_goto rl_M_nearest_80 (k2078))) (fun k2079 => fn_iload_n rl_M_nearest_54 rfl (fn_bipush rl_M_nearest_55 (fn_icmp_eq rl_M_nearest_57 (fun k2076 => fn_iload rl_M_nearest_70 rfl (fn_istore_n (ls' := [.ref 36, .int v1, .int v2, .int v5, .int v4, .int v5, .int r]) rl_M_nearest_72 rfl rfl (fn_iload rl_M_nearest_73 rfl (fn_istore (ls' := [.ref 36, .int v1, .int v2, .int v5, .int r, .int v5, .int r]) rl_M_nearest_75 rfl rfl (fn_iinc (ls' := [.ref 36, .int v1, .int v2, .int v5, .int r, .int (v5 + 1), .int r]) rl_M_nearest_77 rfl rfl rfl (fn_goto rl_M_nearest_80 (k2076))))))) (fun k2077 => fn_iload rl_M_nearest_60 rfl (fn_iload rl_M_nearest_62 rfl (fn_icmp_lt rl_M_nearest_64 (fun k2074 => fn_iload rl_M_nearest_70 rfl (fn_istore_n (ls' := [.ref 36, .int v1, .int v2, .int v5, .int v4, .int v5, .int r]) rl_M_nearest_72 rfl rfl (fn_iload rl_M_nearest_73 rfl (fn_istore (ls' := [.ref 36, .int v1, .int v2, .int v5, .int r, .int v5, .int r]) rl_M_nearest_75 rfl rfl (fn_iinc (ls' := [.ref 36, .int v1, .int v2, .int v5, .int r, .int (v5 + 1), .int r]) rl_M_nearest_77 rfl rfl rfl (fn_goto rl_M_nearest_80 (k2074))))))) (fun k2075 => fn_goto rl_M_nearest_67 (fn_iinc (ls' := [.ref 36, .int v1, .int v2, .int v3, .int v4, .int (v5 + 1), .int r]) rl_M_nearest_77 rfl rfl rfl (fn_goto rl_M_nearest_80 (k2075)))) k2077))) k2079))) k0)))
set_option maxRecDepth 100000 in
set_option maxHeartbeats 4000000 in
theorem sg_M_nearest_32b {L : Nat} {xs : Nat → Int32} {A V : Nat → Nat → Int32} {K : Nat → Option Nat} {T : am_H} {v : Option Int32} {h' : am_H} {v1 v2 v3 v4 v5 v6 : Int32} (k0 :
    if 6 ≤ v5 then (
      if v2 = 0 then (
        v = some v3 ∧ h' = hp L xs A V K T)
      else (
        if v3 = (-2) then (
          v = some v3 ∧ h' = hp L xs A V K T)
        else (
          v = some v4 ∧ h' = hp L xs A V K T)))
    else (
      am_fin [(z_M_needs, 0, [.ref 36, .int v5, .int v1, .null, .null, .null], []), (z_M_nearest, 46, [.ref 36, .int v1, .int v2, .int v3, .int v4, .int v5, .int v6], [])] (hp L xs A V K T) v h')) : am_fin [(z_M_nearest, 32, [.ref 36, .int v1, .int v2, .int v3, .int v4, .int v5, .int v6], [])] (hp L xs A V K T) v h' :=
  fn_iload rl_M_nearest_32 rfl (fn_bipush rl_M_nearest_34 (fn_icmp_ge rl_M_nearest_36 (fun k2084 => fn_iload_n rl_M_nearest_83 rfl (fn_if_eq rl_M_nearest_84 (fun k2082 => fn_iload_n rl_M_nearest_93 rfl (fn_goto rl_M_nearest_94 (fn_reti rl_M_nearest_99 rfl k2082))) (fun k2083 => fn_iload_n rl_M_nearest_87 rfl (fn_bipush rl_M_nearest_88 (fn_icmp_ne rl_M_nearest_90 (fun k2080 => fn_iload_n rl_M_nearest_93 rfl (fn_goto rl_M_nearest_94 (fn_reti rl_M_nearest_99 rfl k2080))) (fun k2081 => fn_iload rl_M_nearest_97 rfl (fn_reti rl_M_nearest_99 rfl k2081)) k2083))) k2084)) (fun k2085 => fn_aload_n rl_M_nearest_39 rfl (fn_iload rl_M_nearest_40 rfl (fn_iload_n rl_M_nearest_42 rfl (fn_virt (as := [.ref 36, .int v5, .int v1]) (r := []) (ls' := [.ref 36, .int v5, .int v1, .null, .null, .null]) rl_M_nearest_43 rfl hp_36 rfl rfl pl_M_needs rfl rfl (k2085))))) k0))
set_option maxRecDepth 100000 in
set_option maxHeartbeats 4000000 in
theorem sg_M_nearest_46rb {L : Nat} {xs : Nat → Int32} {A V : Nat → Nat → Int32} {K : Nat → Option Nat} {T : am_H} {v : Option Int32} {h' : am_H} {v1 v2 v3 v4 v5 v6 r : Int32} (k0 :
    if r < 1 then (
      am_fin [(z_M_nearest, 32, [.ref 36, .int v1, .int v2, .int v3, .int v4, .int (v5 + 1), .int r], [])] (hp L xs A V K T) v h')
    else (
      if v3 = (-2) then (
        am_fin [(z_M_nearest, 32, [.ref 36, .int v1, .int v2, .int v5, .int r, .int (v5 + 1), .int r], [])] (hp L xs A V K T) v h')
      else (
        if r < v4 then (
          am_fin [(z_M_nearest, 32, [.ref 36, .int v1, .int v2, .int v5, .int r, .int (v5 + 1), .int r], [])] (hp L xs A V K T) v h')
        else (
          am_fin [(z_M_nearest, 32, [.ref 36, .int v1, .int v2, .int v3, .int v4, .int (v5 + 1), .int r], [])] (hp L xs A V K T) v h')))) : am_fin [(z_M_nearest, 46, [.ref 36, .int v1, .int v2, .int v3, .int v4, .int v5, .int v6], [.int r])] (hp L xs A V K T) v h' :=
  fn_istore (ls' := [.ref 36, .int v1, .int v2, .int v3, .int v4, .int v5, .int r]) rl_M_nearest_46 rfl rfl (fn_iload rl_M_nearest_48 rfl (fn_iconst rl_M_nearest_50 (fn_icmp_lt rl_M_nearest_51 (fun k2090 => fn_iinc (ls' := [.ref 36, .int v1, .int v2, .int v3, .int v4, .int (v5 + 1), .int r]) rl_M_nearest_77 rfl rfl rfl (fn_goto rl_M_nearest_80 (k2090))) (fun k2091 => fn_iload_n rl_M_nearest_54 rfl (fn_bipush rl_M_nearest_55 (fn_icmp_eq rl_M_nearest_57 (fun k2088 => fn_iload rl_M_nearest_70 rfl (fn_istore_n (ls' := [.ref 36, .int v1, .int v2, .int v5, .int v4, .int v5, .int r]) rl_M_nearest_72 rfl rfl (fn_iload rl_M_nearest_73 rfl (fn_istore (ls' := [.ref 36, .int v1, .int v2, .int v5, .int r, .int v5, .int r]) rl_M_nearest_75 rfl rfl (fn_iinc (ls' := [.ref 36, .int v1, .int v2, .int v5, .int r, .int (v5 + 1), .int r]) rl_M_nearest_77 rfl rfl rfl (fn_goto rl_M_nearest_80 (k2088))))))) (fun k2089 => fn_iload rl_M_nearest_60 rfl (fn_iload rl_M_nearest_62 rfl (fn_icmp_lt rl_M_nearest_64 (fun k2086 => fn_iload rl_M_nearest_70 rfl (fn_istore_n (ls' := [.ref 36, .int v1, .int v2, .int v5, .int v4, .int v5, .int r]) rl_M_nearest_72 rfl rfl (fn_iload rl_M_nearest_73 rfl (fn_istore (ls' := [.ref 36, .int v1, .int v2, .int v5, .int r, .int v5, .int r]) rl_M_nearest_75 rfl rfl (fn_iinc (ls' := [.ref 36, .int v1, .int v2, .int v5, .int r, .int (v5 + 1), .int r]) rl_M_nearest_77 rfl rfl rfl (fn_goto rl_M_nearest_80 (k2086))))))) (fun k2087 => fn_goto rl_M_nearest_67 (fn_iinc (ls' := [.ref 36, .int v1, .int v2, .int v3, .int v4, .int (v5 + 1), .int r]) rl_M_nearest_77 rfl rfl rfl (fn_goto rl_M_nearest_80 (k2087)))) k2089))) k2091))) k0)))
set_option maxRecDepth 100000 in
set_option maxHeartbeats 4000000 in
theorem sg_M_instead_0 {L : Nat} {xs : Nat → Int32} {A V : Nat → Nat → Int32} {K : Nat → Option Nat} {T : am_H} {v : Option Int32} {h' : am_H} {a1 a2 a3 a4 a5 : Int32} (k0 :
    if (lg_cmp ((a1 : Int32).toInt64) ((0 : Int32).toInt64)) < 0 then (
      v = some (-1) ∧ h' = hp L xs A V K T)
    else (
      if 0 < (lg_cmp ((a1 : Int32).toInt64) ((5 : Int32).toInt64)) then (
        v = some (-1) ∧ h' = hp L xs A V K T)
      else (
        if (lg_cmp ((a2 : Int32).toInt64) (((-1) : Int32).toInt64)) < 0 then (
          v = some (-1) ∧ h' = hp L xs A V K T)
        else (
          if 0 < (lg_cmp ((a2 : Int32).toInt64) ((5 : Int32).toInt64)) then (
            v = some (-1) ∧ h' = hp L xs A V K T)
          else (
            if a1 = a2 then (
              v = some (-1) ∧ h' = hp L xs A V K T)
            else (
              if (lg_cmp ((a3 : Int32).toInt64) ((0 : Int32).toInt64)) < 0 then (
                v = some (-1) ∧ h' = hp L xs A V K T)
              else (
                if 0 < (lg_cmp ((a3 : Int32).toInt64) ((1079 : Int32).toInt64)) then (
                  v = some (-1) ∧ h' = hp L xs A V K T)
                else (
                  if (lg_cmp ((a4 : Int32).toInt64) ((a3 : Int32).toInt64)) < 0 then (
                    v = some (-1) ∧ h' = hp L xs A V K T)
                  else (
                    if 0 < (lg_cmp ((a4 : Int32).toInt64) ((1079 : Int32).toInt64)) then (
                      v = some (-1) ∧ h' = hp L xs A V K T)
                    else (
                      if (lg_cmp ((a5 : Int32).toInt64) ((0 : Int32).toInt64)) < 0 then (
                        v = some (-1) ∧ h' = hp L xs A V K T)
                      else (
                        if 0 < (lg_cmp ((a5 : Int32).toInt64) ((4 : Int32).toInt64)) then (
                          v = some (-1) ∧ h' = hp L xs A V K T)
                        else (
                          am_fin [(z_M_laysAside, 0, [.ref 36, .null], []), (z_M_instead, 47, [.ref 36, .int a1, .int a2, .int a3, .int a4, .int a5, .null], [])] (hp L xs A V K T) v h')))))))))))) : am_fin [(z_M_instead, 0, [.ref 36, .int a1, .int a2, .int a3, .int a4, .int a5, .null], [])] (hp L xs A V K T) v h' :=
  fn_iload_n rl_M_instead_0 rfl (fn_stat (as := [.int a1]) (r := []) (ls' := [.int a1]) rl_M_instead_1 rfl rfl rfl rfl pl_M_isLand rfl rfl (fn_iload_n rl_M_isLand_0 rfl (fn_i2l rl_M_isLand_1 (fn_lconst rl_M_isLand_2 (fn_ldc2_w rl_M_isLand_3 (fn_stat (as := [.long ((a1 : Int32).toInt64), .long ((0 : Int32).toInt64), .long ((5 : Int32).toInt64)]) (r := []) (ls' := [.long ((a1 : Int32).toInt64), .null, .long ((0 : Int32).toInt64), .null, .long ((5 : Int32).toInt64), .null]) rl_M_isLand_6 rfl rfl rfl rfl pl_M_in rfl rfl (fn_lload_n rl_M_in_0 rfl (fn_lload_n rl_M_in_1 rfl (fn_lcmp rl_M_in_2 (fn_if_lt rl_M_in_3 (fun k2112 => fn_iconst rl_M_in_17 (fn_retci rl_M_in_18 rfl (fn_retci rl_M_isLand_9 rfl (fn_if_eq_t rl_M_instead_4 (by decide +kernel) (fn_iconst rl_M_instead_41 (fn_reti rl_M_instead_42 rfl k2112)))))) (fun k2113 => fn_lload_n rl_M_in_6 rfl (fn_lload rl_M_in_7 rfl (fn_lcmp rl_M_in_9 (fn_if_gt rl_M_in_10 (fun k2110 => fn_iconst rl_M_in_17 (fn_retci rl_M_in_18 rfl (fn_retci rl_M_isLand_9 rfl (fn_if_eq_t rl_M_instead_4 (by decide +kernel) (fn_iconst rl_M_instead_41 (fn_reti rl_M_instead_42 rfl k2110)))))) (fun k2111 => fn_iconst rl_M_in_13 (fn_goto rl_M_in_14 (fn_retci rl_M_in_18 rfl (fn_retci rl_M_isLand_9 rfl (fn_if_eq_f rl_M_instead_4 (by decide +kernel) (fn_iload_n rl_M_instead_7 rfl (fn_stat (as := [.int a2]) (r := []) (ls' := [.int a2]) rl_M_instead_8 rfl rfl rfl rfl pl_M_isPlace rfl rfl (fn_iload_n rl_M_isPlace_0 rfl (fn_i2l rl_M_isPlace_1 (fn_ldc2_w rl_M_isPlace_2 (fn_ldc2_w rl_M_isPlace_5 (fn_stat (as := [.long ((a2 : Int32).toInt64), .long (((-1) : Int32).toInt64), .long ((5 : Int32).toInt64)]) (r := []) (ls' := [.long ((a2 : Int32).toInt64), .null, .long (((-1) : Int32).toInt64), .null, .long ((5 : Int32).toInt64), .null]) rl_M_isPlace_8 rfl rfl rfl rfl pl_M_in rfl rfl (fn_lload_n rl_M_in_0 rfl (fn_lload_n rl_M_in_1 rfl (fn_lcmp rl_M_in_2 (fn_if_lt rl_M_in_3 (fun k2108 => fn_iconst rl_M_in_17 (fn_retci rl_M_in_18 rfl (fn_retci rl_M_isPlace_11 rfl (fn_if_eq_t rl_M_instead_11 (by decide +kernel) (fn_iconst rl_M_instead_41 (fn_reti rl_M_instead_42 rfl k2108)))))) (fun k2109 => fn_lload_n rl_M_in_6 rfl (fn_lload rl_M_in_7 rfl (fn_lcmp rl_M_in_9 (fn_if_gt rl_M_in_10 (fun k2106 => fn_iconst rl_M_in_17 (fn_retci rl_M_in_18 rfl (fn_retci rl_M_isPlace_11 rfl (fn_if_eq_t rl_M_instead_11 (by decide +kernel) (fn_iconst rl_M_instead_41 (fn_reti rl_M_instead_42 rfl k2106)))))) (fun k2107 => fn_iconst rl_M_in_13 (fn_goto rl_M_in_14 (fn_retci rl_M_in_18 rfl (fn_retci rl_M_isPlace_11 rfl (fn_if_eq_f rl_M_instead_11 (by decide +kernel) (fn_iload_n rl_M_instead_14 rfl (fn_iload_n rl_M_instead_15 rfl (fn_icmp_eq rl_M_instead_16 (fun k2104 => fn_iconst rl_M_instead_41 (fn_reti rl_M_instead_42 rfl k2104)) (fun k2105 => fn_iload_n rl_M_instead_19 rfl (fn_iload rl_M_instead_20 rfl (fn_stat (as := [.int a3, .int a4]) (r := []) (ls' := [.int a3, .int a4]) rl_M_instead_22 rfl rfl rfl rfl pl_M_areDays rfl rfl (fn_iload_n rl_M_areDays_0 rfl (fn_stat (as := [.int a3]) (r := []) (ls' := [.int a3]) rl_M_areDays_1 rfl rfl rfl rfl pl_M_isDay rfl rfl (fn_iload_n rl_M_isDay_0 rfl (fn_i2l rl_M_isDay_1 (fn_lconst rl_M_isDay_2 (fn_ldc2_w rl_M_isDay_3 (fn_stat (as := [.long ((a3 : Int32).toInt64), .long ((0 : Int32).toInt64), .long ((1079 : Int32).toInt64)]) (r := []) (ls' := [.long ((a3 : Int32).toInt64), .null, .long ((0 : Int32).toInt64), .null, .long ((1079 : Int32).toInt64), .null]) rl_M_isDay_6 rfl rfl rfl rfl pl_M_in rfl rfl (fn_lload_n rl_M_in_0 rfl (fn_lload_n rl_M_in_1 rfl (fn_lcmp rl_M_in_2 (fn_if_lt rl_M_in_3 (fun k2102 => fn_iconst rl_M_in_17 (fn_retci rl_M_in_18 rfl (fn_retci rl_M_isDay_9 rfl (fn_if_eq_t rl_M_areDays_4 (by decide +kernel) (fn_iconst rl_M_areDays_24 (fn_retci rl_M_areDays_25 rfl (fn_if_eq_t rl_M_instead_25 (by decide +kernel) (fn_iconst rl_M_instead_41 (fn_reti rl_M_instead_42 rfl k2102))))))))) (fun k2103 => fn_lload_n rl_M_in_6 rfl (fn_lload rl_M_in_7 rfl (fn_lcmp rl_M_in_9 (fn_if_gt rl_M_in_10 (fun k2100 => fn_iconst rl_M_in_17 (fn_retci rl_M_in_18 rfl (fn_retci rl_M_isDay_9 rfl (fn_if_eq_t rl_M_areDays_4 (by decide +kernel) (fn_iconst rl_M_areDays_24 (fn_retci rl_M_areDays_25 rfl (fn_if_eq_t rl_M_instead_25 (by decide +kernel) (fn_iconst rl_M_instead_41 (fn_reti rl_M_instead_42 rfl k2100))))))))) (fun k2101 => fn_iconst rl_M_in_13 (fn_goto rl_M_in_14 (fn_retci rl_M_in_18 rfl (fn_retci rl_M_isDay_9 rfl (fn_if_eq_f rl_M_areDays_4 (by decide +kernel) (fn_iload_n rl_M_areDays_7 rfl (fn_i2l rl_M_areDays_8 (fn_iload_n rl_M_areDays_9 rfl (fn_i2l rl_M_areDays_10 (fn_ldc2_w rl_M_areDays_11 (fn_stat (as := [.long ((a4 : Int32).toInt64), .long ((a3 : Int32).toInt64), .long ((1079 : Int32).toInt64)]) (r := []) (ls' := [.long ((a4 : Int32).toInt64), .null, .long ((a3 : Int32).toInt64), .null, .long ((1079 : Int32).toInt64), .null]) rl_M_areDays_14 rfl rfl rfl rfl pl_M_in rfl rfl (fn_lload_n rl_M_in_0 rfl (fn_lload_n rl_M_in_1 rfl (fn_lcmp rl_M_in_2 (fn_if_lt rl_M_in_3 (fun k2098 => fn_iconst rl_M_in_17 (fn_retci rl_M_in_18 rfl (fn_if_eq_t rl_M_areDays_17 (by decide +kernel) (fn_iconst rl_M_areDays_24 (fn_retci rl_M_areDays_25 rfl (fn_if_eq_t rl_M_instead_25 (by decide +kernel) (fn_iconst rl_M_instead_41 (fn_reti rl_M_instead_42 rfl k2098)))))))) (fun k2099 => fn_lload_n rl_M_in_6 rfl (fn_lload rl_M_in_7 rfl (fn_lcmp rl_M_in_9 (fn_if_gt rl_M_in_10 (fun k2096 => fn_iconst rl_M_in_17 (fn_retci rl_M_in_18 rfl (fn_if_eq_t rl_M_areDays_17 (by decide +kernel) (fn_iconst rl_M_areDays_24 (fn_retci rl_M_areDays_25 rfl (fn_if_eq_t rl_M_instead_25 (by decide +kernel) (fn_iconst rl_M_instead_41 (fn_reti rl_M_instead_42 rfl k2096)))))))) (fun k2097 => fn_iconst rl_M_in_13 (fn_goto rl_M_in_14 (fn_retci rl_M_in_18 rfl (fn_if_eq_f rl_M_areDays_17 (by decide +kernel) (fn_iconst rl_M_areDays_20 (fn_goto rl_M_areDays_21 (fn_retci rl_M_areDays_25 rfl (fn_if_eq_f rl_M_instead_25 (by decide +kernel) (fn_iload rl_M_instead_28 rfl (fn_i2l rl_M_instead_30 (fn_lconst rl_M_instead_31 (fn_ldc2_w rl_M_instead_32 (fn_stat (as := [.long ((a5 : Int32).toInt64), .long ((0 : Int32).toInt64), .long ((4 : Int32).toInt64)]) (r := []) (ls' := [.long ((a5 : Int32).toInt64), .null, .long ((0 : Int32).toInt64), .null, .long ((4 : Int32).toInt64), .null]) rl_M_instead_35 rfl rfl rfl rfl pl_M_in rfl rfl (fn_lload_n rl_M_in_0 rfl (fn_lload_n rl_M_in_1 rfl (fn_lcmp rl_M_in_2 (fn_if_lt rl_M_in_3 (fun k2094 => fn_iconst rl_M_in_17 (fn_retci rl_M_in_18 rfl (fn_if_ne_t rl_M_instead_38 (by decide +kernel) (fn_iconst rl_M_instead_41 (fn_reti rl_M_instead_42 rfl k2094))))) (fun k2095 => fn_lload_n rl_M_in_6 rfl (fn_lload rl_M_in_7 rfl (fn_lcmp rl_M_in_9 (fn_if_gt rl_M_in_10 (fun k2092 => fn_iconst rl_M_in_17 (fn_retci rl_M_in_18 rfl (fn_if_ne_t rl_M_instead_38 (by decide +kernel) (fn_iconst rl_M_instead_41 (fn_reti rl_M_instead_42 rfl k2092))))) (fun k2093 => fn_iconst rl_M_in_13 (fn_goto rl_M_in_14 (fn_retci rl_M_in_18 rfl (fn_if_ne_f rl_M_instead_38 (by decide +kernel) (fn_aload_n rl_M_instead_43 rfl (fn_virt (as := [.ref 36]) (r := []) (ls' := [.ref 36, .null]) rl_M_instead_44 rfl hp_36 rfl rfl pl_M_laysAside rfl rfl (k2093))))))) k2095)))) k2097))))))))))))))))) k2099)))) k2101))))))))))))))) k2103)))) k2105)))))))))))))) k2107)))))))) k2109)))) k2111)))))))))))))))) k2113)))) k0))))))))))
set_option maxRecDepth 100000 in
set_option maxHeartbeats 4000000 in
theorem sg_M_instead_47r {L : Nat} {xs : Nat → Int32} {A V : Nat → Nat → Int32} {K : Nat → Option Nat} {T : am_H} {v : Option Int32} {h' : am_H} {v1 v2 v3 v4 v5 : Int32} (k0 :
    am_fin [(z_M_instead, 50, [.ref 36, .int v1, .int v2, .int v3, .int v4, .int v5, .int v3], [])] (hp L xs A V K T) v h') : am_fin [(z_M_instead, 47, [.ref 36, .int v1, .int v2, .int v3, .int v4, .int v5, .null], [])] (hp L xs A V K T) v h' :=
  fn_iload_n rl_M_instead_47 rfl (fn_istore (ls' := [.ref 36, .int v1, .int v2, .int v3, .int v4, .int v5, .int v3]) rl_M_instead_48 rfl rfl (k0))
set_option maxRecDepth 100000 in
set_option maxHeartbeats 4000000 in
theorem sg_M_instead_50 {L : Nat} {xs : Nat → Int32} {A V : Nat → Nat → Int32} {K : Nat → Option Nat} {T : am_H} {v : Option Int32} {h' : am_H} {v1 v2 v3 v4 v5 v6 : Int32} (k0 :
    if v4 < v6 then (
      am_fin [(z_M_asked, 0, [.ref 36, .int v5], []), (z_M_instead, 98, [.ref 36, .int v1, .int v2, .int v3, .int v4, .int v5, .int v6], [])] (hp L xs A V K T) v h')
    else (
      ¬ (v6 < 0 ∨ 1080 ≤ v6.toNatClampNeg) ∧ (
      if ((A 37) v6.toNatClampNeg) = v1 then (
        ¬ (v6 < 0 ∨ 1080 ≤ v6.toNatClampNeg) ∧ (
        am_fin [(z_M_instead, 50, [.ref 36, .int v1, .int v2, .int v3, .int v4, .int v5, .int (v6 + 1)], [])] (hp L xs (upA A 37 (upd (A 37) v6.toNatClampNeg v2)) V K T) v h'))
      else (
        ¬ (v6 < 0 ∨ 1080 ≤ v6.toNatClampNeg) ∧ (
        ¬ (v6 < 0 ∨ 1080 ≤ v6.toNatClampNeg) ∧ (
        am_fin [(z_M_instead, 50, [.ref 36, .int v1, .int v2, .int v3, .int v4, .int v5, .int (v6 + 1)], [])] (hp L xs (upA A 37 (upd (A 37) v6.toNatClampNeg ((A 37) v6.toNatClampNeg))) V K T) v h')))))) : am_fin [(z_M_instead, 50, [.ref 36, .int v1, .int v2, .int v3, .int v4, .int v5, .int v6], [])] (hp L xs A V K T) v h' :=
  fn_iload rl_M_instead_50 rfl (fn_iload rl_M_instead_52 rfl (fn_icmp_gt rl_M_instead_54 (fun k2120 => fn_aload_n rl_M_instead_92 rfl (fn_iload rl_M_instead_93 rfl (fn_virt (as := [.ref 36, .int v5]) (r := []) (ls' := [.ref 36, .int v5]) rl_M_instead_95 rfl hp_36 rfl rfl pl_M_asked rfl rfl (k2120)))) (fun k2121 => fn_aload_n rl_M_instead_57 rfl (fn_get rl_M_instead_58 hp_36 rfl (fn_iload rl_M_instead_61 rfl (fn_aload_n rl_M_instead_63 rfl (fn_get rl_M_instead_64 hp_36 rfl (fn_iload rl_M_instead_67 rfl (fn_iald rl_M_instead_69 hp_37 (fun k2119 => fn_iload_n rl_M_instead_70 rfl (fn_icmp_ne rl_M_instead_71 (fun k2117 => fn_iload_n rl_M_instead_74 rfl (fn_goto rl_M_instead_75 (fn_iast rl_M_instead_85 hp_37 hps_37 (fun k2114 => fn_iinc (ls' := [.ref 36, .int v1, .int v2, .int v3, .int v4, .int v5, .int (v6 + 1)]) rl_M_instead_86 rfl rfl rfl (fn_goto rl_M_instead_89 (k2114))) k2117))) (fun k2118 => fn_aload_n rl_M_instead_78 rfl (fn_get rl_M_instead_79 hp_36 rfl (fn_iload rl_M_instead_82 rfl (fn_iald rl_M_instead_84 hp_37 (fun k2116 => fn_iast rl_M_instead_85 hp_37 hps_37 (fun k2115 => fn_iinc (ls' := [.ref 36, .int v1, .int v2, .int v3, .int v4, .int v5, .int (v6 + 1)]) rl_M_instead_86 rfl rfl rfl (fn_goto rl_M_instead_89 (k2115))) k2116) k2118)))) k2119)) k2121))))))) k0))
set_option maxRecDepth 100000 in
set_option maxHeartbeats 4000000 in
theorem sg_M_instead_98r {L : Nat} {xs : Nat → Int32} {A V : Nat → Nat → Int32} {K : Nat → Option Nat} {T : am_H} {v : Option Int32} {h' : am_H} {v1 v2 v3 v4 v5 v6 r : Int32} (k0 :
    am_fin [(z_M_takesAside, 0, [.ref 36, .null], []), (z_M_instead, 104, [.ref 36, .int v1, .int v2, .int v3, .int v4, .int v5, .int r], [])] (hp L xs A V K T) v h') : am_fin [(z_M_instead, 98, [.ref 36, .int v1, .int v2, .int v3, .int v4, .int v5, .int v6], [.int r])] (hp L xs A V K T) v h' :=
  fn_istore (ls' := [.ref 36, .int v1, .int v2, .int v3, .int v4, .int v5, .int r]) rl_M_instead_98 rfl rfl (fn_aload_n rl_M_instead_100 rfl (fn_virt (as := [.ref 36]) (r := []) (ls' := [.ref 36, .null]) rl_M_instead_101 rfl hp_36 rfl rfl pl_M_takesAside rfl rfl (k0)))
set_option maxRecDepth 100000 in
set_option maxHeartbeats 4000000 in
theorem sg_M_instead_104r {L : Nat} {xs : Nat → Int32} {A V : Nat → Nat → Int32} {K : Nat → Option Nat} {T : am_H} {v : Option Int32} {h' : am_H} {v1 v2 v3 v4 v5 v6 : Int32} (k0 :
    v = some v6 ∧ h' = hp L xs A V K T) : am_fin [(z_M_instead, 104, [.ref 36, .int v1, .int v2, .int v3, .int v4, .int v5, .int v6], [])] (hp L xs A V K T) v h' :=
  fn_iload rl_M_instead_104 rfl (fn_reti rl_M_instead_106 rfl k0)
set_option maxRecDepth 100000 in
set_option maxHeartbeats 4000000 in
theorem sg_M_trip_0 {L : Nat} {xs : Nat → Int32} {A V : Nat → Nat → Int32} {K : Nat → Option Nat} {T : am_H} {v : Option Int32} {h' : am_H} {a1 a2 : Int32} (k0 :
    if (lg_cmp ((a2 : Int32).toInt64) ((0 : Int32).toInt64)) < 0 then (
      v = some (-1) ∧ h' = hp L xs A V K T)
    else (
      if 0 < (lg_cmp ((a2 : Int32).toInt64) ((4 : Int32).toInt64)) then (
        v = some (-1) ∧ h' = hp L xs A V K T)
      else (
        if (lg_cmp ((a1 : Int32).toInt64) ((1 : Int32).toInt64)) < 0 then (
          v = some (-1) ∧ h' = hp L xs A V K T)
        else (
          if 0 < (lg_cmp ((a1 : Int32).toInt64) ((160 : Int32).toInt64)) then (
            v = some (-1) ∧ h' = hp L xs A V K T)
          else (
            if (V 36 7) < a1 then (
              v = some (-1) ∧ h' = hp L xs A V K T)
            else (
              am_fin [(z_M_readsAll, 0, [.ref 36, .int a1, .null, .null], []), (z_M_trip, 27, [.ref 36, .int a1, .int a2, .null, .null], [])] (hp L xs A V K T) v h')))))) : am_fin [(z_M_trip, 0, [.ref 36, .int a1, .int a2, .null, .null], [])] (hp L xs A V K T) v h' :=
  fn_iload_n rl_M_trip_0 rfl (fn_i2l rl_M_trip_1 (fn_lconst rl_M_trip_2 (fn_ldc2_w rl_M_trip_3 (fn_stat (as := [.long ((a2 : Int32).toInt64), .long ((0 : Int32).toInt64), .long ((4 : Int32).toInt64)]) (r := []) (ls' := [.long ((a2 : Int32).toInt64), .null, .long ((0 : Int32).toInt64), .null, .long ((4 : Int32).toInt64), .null]) rl_M_trip_6 rfl rfl rfl rfl pl_M_in rfl rfl (fn_lload_n rl_M_in_0 rfl (fn_lload_n rl_M_in_1 rfl (fn_lcmp rl_M_in_2 (fn_if_lt rl_M_in_3 (fun k2130 => fn_iconst rl_M_in_17 (fn_retci rl_M_in_18 rfl (fn_if_eq_t rl_M_trip_9 (by decide +kernel) (fn_iconst rl_M_trip_20 (fn_reti rl_M_trip_21 rfl k2130))))) (fun k2131 => fn_lload_n rl_M_in_6 rfl (fn_lload rl_M_in_7 rfl (fn_lcmp rl_M_in_9 (fn_if_gt rl_M_in_10 (fun k2128 => fn_iconst rl_M_in_17 (fn_retci rl_M_in_18 rfl (fn_if_eq_t rl_M_trip_9 (by decide +kernel) (fn_iconst rl_M_trip_20 (fn_reti rl_M_trip_21 rfl k2128))))) (fun k2129 => fn_iconst rl_M_in_13 (fn_goto rl_M_in_14 (fn_retci rl_M_in_18 rfl (fn_if_eq_f rl_M_trip_9 (by decide +kernel) (fn_aload_n rl_M_trip_12 rfl (fn_iload_n rl_M_trip_13 rfl (fn_virt (as := [.ref 36, .int a1]) (r := []) (ls' := [.ref 36, .int a1]) rl_M_trip_14 rfl hp_36 rfl rfl pl_M_hasText rfl rfl (fn_iload_n rl_M_hasText_0 rfl (fn_i2l rl_M_hasText_1 (fn_lconst rl_M_hasText_2 (fn_ldc2_w rl_M_hasText_3 (fn_stat (as := [.long ((a1 : Int32).toInt64), .long ((1 : Int32).toInt64), .long ((160 : Int32).toInt64)]) (r := []) (ls' := [.long ((a1 : Int32).toInt64), .null, .long ((1 : Int32).toInt64), .null, .long ((160 : Int32).toInt64), .null]) rl_M_hasText_6 rfl rfl rfl rfl pl_M_in rfl rfl (fn_lload_n rl_M_in_0 rfl (fn_lload_n rl_M_in_1 rfl (fn_lcmp rl_M_in_2 (fn_if_lt rl_M_in_3 (fun k2126 => fn_iconst rl_M_in_17 (fn_retci rl_M_in_18 rfl (fn_if_eq_t rl_M_hasText_9 (by decide +kernel) (fn_iconst rl_M_hasText_24 (fn_retci rl_M_hasText_25 rfl (fn_if_ne_t rl_M_trip_17 (by decide +kernel) (fn_iconst rl_M_trip_20 (fn_reti rl_M_trip_21 rfl k2126)))))))) (fun k2127 => fn_lload_n rl_M_in_6 rfl (fn_lload rl_M_in_7 rfl (fn_lcmp rl_M_in_9 (fn_if_gt rl_M_in_10 (fun k2124 => fn_iconst rl_M_in_17 (fn_retci rl_M_in_18 rfl (fn_if_eq_t rl_M_hasText_9 (by decide +kernel) (fn_iconst rl_M_hasText_24 (fn_retci rl_M_hasText_25 rfl (fn_if_ne_t rl_M_trip_17 (by decide +kernel) (fn_iconst rl_M_trip_20 (fn_reti rl_M_trip_21 rfl k2124)))))))) (fun k2125 => fn_iconst rl_M_in_13 (fn_goto rl_M_in_14 (fn_retci rl_M_in_18 rfl (fn_if_eq_f rl_M_hasText_9 (by decide +kernel) (fn_iload_n rl_M_hasText_12 rfl (fn_aload_n rl_M_hasText_13 rfl (fn_get rl_M_hasText_14 hp_36 rfl (fn_icmp_gt rl_M_hasText_17 (fun k2122 => fn_iconst rl_M_hasText_24 (fn_retci rl_M_hasText_25 rfl (fn_if_ne_t rl_M_trip_17 (by decide +kernel) (fn_iconst rl_M_trip_20 (fn_reti rl_M_trip_21 rfl k2122))))) (fun k2123 => fn_iconst rl_M_hasText_20 (fn_goto rl_M_hasText_21 (fn_retci rl_M_hasText_25 rfl (fn_if_ne_f rl_M_trip_17 (by decide +kernel) (fn_aload_n rl_M_trip_22 rfl (fn_iload_n rl_M_trip_23 rfl (fn_virt (as := [.ref 36, .int a1]) (r := []) (ls' := [.ref 36, .int a1, .null, .null]) rl_M_trip_24 rfl hp_36 rfl rfl pl_M_readsAll rfl rfl (k2123)))))))) k2125)))))))) k2127)))) k2129)))))))))))))))) k2131)))) k0))))))))
set_option maxRecDepth 100000 in
set_option maxHeartbeats 4000000 in
theorem sg_M_trip_27r {L : Nat} {xs : Nat → Int32} {A V : Nat → Nat → Int32} {K : Nat → Option Nat} {T : am_H} {v : Option Int32} {h' : am_H} {v1 v2 r : Int32} (k0 :
    if 0 ≤ r then (
      am_fin [(z_M_laysAside, 0, [.ref 36, .null], []), (z_M_trip, 38, [.ref 36, .int v1, .int v2, .int r, .null], [])] (hp L xs A V K T) v h')
    else (
      v = some r ∧ h' = hp L xs A V K T)) : am_fin [(z_M_trip, 27, [.ref 36, .int v1, .int v2, .null, .null], [.int r])] (hp L xs A V K T) v h' :=
  fn_istore_n (ls' := [.ref 36, .int v1, .int v2, .int r, .null]) rl_M_trip_27 rfl rfl (fn_iload_n rl_M_trip_28 rfl (fn_if_ge rl_M_trip_29 (fun k2132 => fn_aload_n rl_M_trip_34 rfl (fn_virt (as := [.ref 36]) (r := []) (ls' := [.ref 36, .null]) rl_M_trip_35 rfl hp_36 rfl rfl pl_M_laysAside rfl rfl (k2132))) (fun k2133 => fn_iload_n rl_M_trip_32 rfl (fn_reti rl_M_trip_33 rfl k2133)) k0))
set_option maxRecDepth 100000 in
set_option maxHeartbeats 4000000 in
theorem sg_M_trip_38r {L : Nat} {xs : Nat → Int32} {A V : Nat → Nat → Int32} {K : Nat → Option Nat} {T : am_H} {v : Option Int32} {h' : am_H} {v1 v2 v3 : Int32} (k0 :
    am_fin [(z_M_laysStays, 0, [.ref 36, .int v3, .null, .null], []), (z_M_trip, 43, [.ref 36, .int v1, .int v2, .int v3, .null], [])] (hp L xs A V K T) v h') : am_fin [(z_M_trip, 38, [.ref 36, .int v1, .int v2, .int v3, .null], [])] (hp L xs A V K T) v h' :=
  fn_aload_n rl_M_trip_38 rfl (fn_iload_n rl_M_trip_39 rfl (fn_virt (as := [.ref 36, .int v3]) (r := []) (ls' := [.ref 36, .int v3, .null, .null]) rl_M_trip_40 rfl hp_36 rfl rfl pl_M_laysStays rfl rfl (k0)))
set_option maxRecDepth 100000 in
set_option maxHeartbeats 4000000 in
theorem sg_M_trip_43r {L : Nat} {xs : Nat → Int32} {A V : Nat → Nat → Int32} {K : Nat → Option Nat} {T : am_H} {v : Option Int32} {h' : am_H} {v1 v2 v3 : Int32} (k0 :
    am_fin [(z_M_asked, 0, [.ref 36, .int v2], []), (z_M_trip, 48, [.ref 36, .int v1, .int v2, .int v3, .null], [])] (hp L xs A V K T) v h') : am_fin [(z_M_trip, 43, [.ref 36, .int v1, .int v2, .int v3, .null], [])] (hp L xs A V K T) v h' :=
  fn_aload_n rl_M_trip_43 rfl (fn_iload_n rl_M_trip_44 rfl (fn_virt (as := [.ref 36, .int v2]) (r := []) (ls' := [.ref 36, .int v2]) rl_M_trip_45 rfl hp_36 rfl rfl pl_M_asked rfl rfl (k0)))
set_option maxRecDepth 100000 in
set_option maxHeartbeats 4000000 in
theorem sg_M_trip_48r {L : Nat} {xs : Nat → Int32} {A V : Nat → Nat → Int32} {K : Nat → Option Nat} {T : am_H} {v : Option Int32} {h' : am_H} {v1 v2 v3 r : Int32} (k0 :
    am_fin [(z_M_takesAside, 0, [.ref 36, .null], []), (z_M_trip, 54, [.ref 36, .int v1, .int v2, .int v3, .int r], [])] (hp L xs A V K T) v h') : am_fin [(z_M_trip, 48, [.ref 36, .int v1, .int v2, .int v3, .null], [.int r])] (hp L xs A V K T) v h' :=
  fn_istore (ls' := [.ref 36, .int v1, .int v2, .int v3, .int r]) rl_M_trip_48 rfl rfl (fn_aload_n rl_M_trip_50 rfl (fn_virt (as := [.ref 36]) (r := []) (ls' := [.ref 36, .null]) rl_M_trip_51 rfl hp_36 rfl rfl pl_M_takesAside rfl rfl (k0)))
set_option maxRecDepth 100000 in
set_option maxHeartbeats 4000000 in
theorem sg_M_trip_54r {L : Nat} {xs : Nat → Int32} {A V : Nat → Nat → Int32} {K : Nat → Option Nat} {T : am_H} {v : Option Int32} {h' : am_H} {v1 v2 v3 v4 : Int32} (k0 :
    v = some v4 ∧ h' = hp L xs A V K T) : am_fin [(z_M_trip, 54, [.ref 36, .int v1, .int v2, .int v3, .int v4], [])] (hp L xs A V K T) v h' :=
  fn_iload rl_M_trip_54 rfl (fn_reti rl_M_trip_56 rfl k0)
set_option maxRecDepth 100000 in
set_option maxHeartbeats 4000000 in
theorem sg_M_cheapest_0 {L : Nat} {xs : Nat → Int32} {A V : Nat → Nat → Int32} {K : Nat → Option Nat} {T : am_H} {v : Option Int32} {h' : am_H} {a1 a2 a3 : Int32} (k0 :
    if (lg_cmp ((a1 : Int32).toInt64) ((0 : Int32).toInt64)) < 0 then (
      v = some (-1) ∧ h' = hp L xs A V K T)
    else (
      if 0 < (lg_cmp ((a1 : Int32).toInt64) ((1079 : Int32).toInt64)) then (
        v = some (-1) ∧ h' = hp L xs A V K T)
      else (
        if (lg_cmp ((a2 : Int32).toInt64) ((a1 : Int32).toInt64)) < 0 then (
          v = some (-1) ∧ h' = hp L xs A V K T)
        else (
          if 0 < (lg_cmp ((a2 : Int32).toInt64) ((1079 : Int32).toInt64)) then (
            v = some (-1) ∧ h' = hp L xs A V K T)
          else (
            if (lg_cmp ((a3 : Int32).toInt64) ((0 : Int32).toInt64)) < 0 then (
              v = some (-1) ∧ h' = hp L xs A V K T)
            else (
              if 0 < (lg_cmp ((a3 : Int32).toInt64) ((1 : Int32).toInt64)) then (
                v = some (-1) ∧ h' = hp L xs A V K T)
              else (
                am_fin [(z_M_laysAside, 0, [.ref 36, .null], []), (z_M_cheapest, 30, [.ref 36, .int a1, .int a2, .int a3, .int (-1), .int 0, .null, .null], [])] (hp L xs A V K T) v h'))))))) : am_fin [(z_M_cheapest, 0, [.ref 36, .int a1, .int a2, .int a3, .null, .null, .null, .null], [])] (hp L xs A V K T) v h' :=
  fn_iload_n rl_M_cheapest_0 rfl (fn_iload_n rl_M_cheapest_1 rfl (fn_stat (as := [.int a1, .int a2]) (r := []) (ls' := [.int a1, .int a2]) rl_M_cheapest_2 rfl rfl rfl rfl pl_M_areDays rfl rfl (fn_iload_n rl_M_areDays_0 rfl (fn_stat (as := [.int a1]) (r := []) (ls' := [.int a1]) rl_M_areDays_1 rfl rfl rfl rfl pl_M_isDay rfl rfl (fn_iload_n rl_M_isDay_0 rfl (fn_i2l rl_M_isDay_1 (fn_lconst rl_M_isDay_2 (fn_ldc2_w rl_M_isDay_3 (fn_stat (as := [.long ((a1 : Int32).toInt64), .long ((0 : Int32).toInt64), .long ((1079 : Int32).toInt64)]) (r := []) (ls' := [.long ((a1 : Int32).toInt64), .null, .long ((0 : Int32).toInt64), .null, .long ((1079 : Int32).toInt64), .null]) rl_M_isDay_6 rfl rfl rfl rfl pl_M_in rfl rfl (fn_lload_n rl_M_in_0 rfl (fn_lload_n rl_M_in_1 rfl (fn_lcmp rl_M_in_2 (fn_if_lt rl_M_in_3 (fun k2144 => fn_iconst rl_M_in_17 (fn_retci rl_M_in_18 rfl (fn_retci rl_M_isDay_9 rfl (fn_if_eq_t rl_M_areDays_4 (by decide +kernel) (fn_iconst rl_M_areDays_24 (fn_retci rl_M_areDays_25 rfl (fn_if_eq_t rl_M_cheapest_5 (by decide +kernel) (fn_iconst rl_M_cheapest_18 (fn_reti rl_M_cheapest_19 rfl k2144))))))))) (fun k2145 => fn_lload_n rl_M_in_6 rfl (fn_lload rl_M_in_7 rfl (fn_lcmp rl_M_in_9 (fn_if_gt rl_M_in_10 (fun k2142 => fn_iconst rl_M_in_17 (fn_retci rl_M_in_18 rfl (fn_retci rl_M_isDay_9 rfl (fn_if_eq_t rl_M_areDays_4 (by decide +kernel) (fn_iconst rl_M_areDays_24 (fn_retci rl_M_areDays_25 rfl (fn_if_eq_t rl_M_cheapest_5 (by decide +kernel) (fn_iconst rl_M_cheapest_18 (fn_reti rl_M_cheapest_19 rfl k2142))))))))) (fun k2143 => fn_iconst rl_M_in_13 (fn_goto rl_M_in_14 (fn_retci rl_M_in_18 rfl (fn_retci rl_M_isDay_9 rfl (fn_if_eq_f rl_M_areDays_4 (by decide +kernel) (fn_iload_n rl_M_areDays_7 rfl (fn_i2l rl_M_areDays_8 (fn_iload_n rl_M_areDays_9 rfl (fn_i2l rl_M_areDays_10 (fn_ldc2_w rl_M_areDays_11 (fn_stat (as := [.long ((a2 : Int32).toInt64), .long ((a1 : Int32).toInt64), .long ((1079 : Int32).toInt64)]) (r := []) (ls' := [.long ((a2 : Int32).toInt64), .null, .long ((a1 : Int32).toInt64), .null, .long ((1079 : Int32).toInt64), .null]) rl_M_areDays_14 rfl rfl rfl rfl pl_M_in rfl rfl (fn_lload_n rl_M_in_0 rfl (fn_lload_n rl_M_in_1 rfl (fn_lcmp rl_M_in_2 (fn_if_lt rl_M_in_3 (fun k2140 => fn_iconst rl_M_in_17 (fn_retci rl_M_in_18 rfl (fn_if_eq_t rl_M_areDays_17 (by decide +kernel) (fn_iconst rl_M_areDays_24 (fn_retci rl_M_areDays_25 rfl (fn_if_eq_t rl_M_cheapest_5 (by decide +kernel) (fn_iconst rl_M_cheapest_18 (fn_reti rl_M_cheapest_19 rfl k2140)))))))) (fun k2141 => fn_lload_n rl_M_in_6 rfl (fn_lload rl_M_in_7 rfl (fn_lcmp rl_M_in_9 (fn_if_gt rl_M_in_10 (fun k2138 => fn_iconst rl_M_in_17 (fn_retci rl_M_in_18 rfl (fn_if_eq_t rl_M_areDays_17 (by decide +kernel) (fn_iconst rl_M_areDays_24 (fn_retci rl_M_areDays_25 rfl (fn_if_eq_t rl_M_cheapest_5 (by decide +kernel) (fn_iconst rl_M_cheapest_18 (fn_reti rl_M_cheapest_19 rfl k2138)))))))) (fun k2139 => fn_iconst rl_M_in_13 (fn_goto rl_M_in_14 (fn_retci rl_M_in_18 rfl (fn_if_eq_f rl_M_areDays_17 (by decide +kernel) (fn_iconst rl_M_areDays_20 (fn_goto rl_M_areDays_21 (fn_retci rl_M_areDays_25 rfl (fn_if_eq_f rl_M_cheapest_5 (by decide +kernel) (fn_iload_n rl_M_cheapest_8 rfl (fn_i2l rl_M_cheapest_9 (fn_lconst rl_M_cheapest_10 (fn_lconst rl_M_cheapest_11 (fn_stat (as := [.long ((a3 : Int32).toInt64), .long ((0 : Int32).toInt64), .long ((1 : Int32).toInt64)]) (r := []) (ls' := [.long ((a3 : Int32).toInt64), .null, .long ((0 : Int32).toInt64), .null, .long ((1 : Int32).toInt64), .null]) rl_M_cheapest_12 rfl rfl rfl rfl pl_M_in rfl rfl (fn_lload_n rl_M_in_0 rfl (fn_lload_n rl_M_in_1 rfl (fn_lcmp rl_M_in_2 (fn_if_lt rl_M_in_3 (fun k2136 => fn_iconst rl_M_in_17 (fn_retci rl_M_in_18 rfl (fn_if_ne_t rl_M_cheapest_15 (by decide +kernel) (fn_iconst rl_M_cheapest_18 (fn_reti rl_M_cheapest_19 rfl k2136))))) (fun k2137 => fn_lload_n rl_M_in_6 rfl (fn_lload rl_M_in_7 rfl (fn_lcmp rl_M_in_9 (fn_if_gt rl_M_in_10 (fun k2134 => fn_iconst rl_M_in_17 (fn_retci rl_M_in_18 rfl (fn_if_ne_t rl_M_cheapest_15 (by decide +kernel) (fn_iconst rl_M_cheapest_18 (fn_reti rl_M_cheapest_19 rfl k2134))))) (fun k2135 => fn_iconst rl_M_in_13 (fn_goto rl_M_in_14 (fn_retci rl_M_in_18 rfl (fn_if_ne_f rl_M_cheapest_15 (by decide +kernel) (fn_iconst rl_M_cheapest_20 (fn_istore (ls' := [.ref 36, .int a1, .int a2, .int a3, .int (-1), .null, .null, .null]) rl_M_cheapest_21 rfl rfl (fn_iconst rl_M_cheapest_23 (fn_istore (ls' := [.ref 36, .int a1, .int a2, .int a3, .int (-1), .int 0, .null, .null]) rl_M_cheapest_24 rfl rfl (fn_aload_n rl_M_cheapest_26 rfl (fn_virt (as := [.ref 36]) (r := []) (ls' := [.ref 36, .null]) rl_M_cheapest_27 rfl hp_36 rfl rfl pl_M_laysAside rfl rfl (k2135))))))))))) k2137)))) k2139))))))))))))))))) k2141)))) k2143))))))))))))))) k2145)))) k0)))))))))))))
set_option maxRecDepth 100000 in
set_option maxHeartbeats 4000000 in
theorem sg_M_cheapest_30r {L : Nat} {xs : Nat → Int32} {A V : Nat → Nat → Int32} {K : Nat → Option Nat} {T : am_H} {v : Option Int32} {h' : am_H} {v1 v2 v3 v4 v5 : Int32} (k0 :
    am_fin [(z_M_cheapest, 33, [.ref 36, .int v1, .int v2, .int v3, .int v4, .int v5, .int 0, .null], [])] (hp L xs A V K T) v h') : am_fin [(z_M_cheapest, 30, [.ref 36, .int v1, .int v2, .int v3, .int v4, .int v5, .null, .null], [])] (hp L xs A V K T) v h' :=
  fn_iconst rl_M_cheapest_30 (fn_istore (ls' := [.ref 36, .int v1, .int v2, .int v3, .int v4, .int v5, .int 0, .null]) rl_M_cheapest_31 rfl rfl (k0))
set_option maxRecDepth 100000 in
set_option maxHeartbeats 4000000 in
theorem sg_M_cheapest_33 {L : Nat} {xs : Nat → Int32} {A V : Nat → Nat → Int32} {K : Nat → Option Nat} {T : am_H} {v : Option Int32} {h' : am_H} {v1 v2 v3 v4 v5 v6 : Int32} (k0 :
    if 6 ≤ v6 then (
      if v3 = 0 then (
        v = some v4 ∧ h' = hp L xs A V K T)
      else (
        v = some v5 ∧ h' = hp L xs A V K T))
    else (
      am_fin [(z_M_goes, 0, [.ref 36, .int v6, .int v1, .int v2, .null], []), (z_M_cheapest, 48, [.ref 36, .int v1, .int v2, .int v3, .int v4, .int v5, .int v6, .null], [])] (hp L xs A V K T) v h')) : am_fin [(z_M_cheapest, 33, [.ref 36, .int v1, .int v2, .int v3, .int v4, .int v5, .int v6, .null], [])] (hp L xs A V K T) v h' :=
  fn_iload rl_M_cheapest_33 rfl (fn_bipush rl_M_cheapest_35 (fn_icmp_ge rl_M_cheapest_37 (fun k2148 => fn_iload_n rl_M_cheapest_88 rfl (fn_if_ne rl_M_cheapest_89 (fun k2146 => fn_iload rl_M_cheapest_92 rfl (fn_goto rl_M_cheapest_94 (fn_reti rl_M_cheapest_99 rfl k2146))) (fun k2147 => fn_iload rl_M_cheapest_97 rfl (fn_reti rl_M_cheapest_99 rfl k2147)) k2148)) (fun k2149 => fn_aload_n rl_M_cheapest_40 rfl (fn_iload rl_M_cheapest_41 rfl (fn_iload_n rl_M_cheapest_43 rfl (fn_iload_n rl_M_cheapest_44 rfl (fn_virt (as := [.ref 36, .int v6, .int v1, .int v2]) (r := []) (ls' := [.ref 36, .int v6, .int v1, .int v2, .null]) rl_M_cheapest_45 rfl hp_36 rfl rfl pl_M_goes rfl rfl (k2149)))))) k0))
set_option maxRecDepth 100000 in
set_option maxHeartbeats 4000000 in
theorem sg_M_cheapest_48r {L : Nat} {xs : Nat → Int32} {A V : Nat → Nat → Int32} {K : Nat → Option Nat} {T : am_H} {v : Option Int32} {h' : am_H} {v1 v2 v3 v4 v5 v6 : Int32} (k0 :
    am_fin [(z_M_owesAll, 0, [.ref 36, .null, .null], []), (z_M_cheapest, 52, [.ref 36, .int v1, .int v2, .int v3, .int v4, .int v5, .int v6, .null], [])] (hp L xs A V K T) v h') : am_fin [(z_M_cheapest, 48, [.ref 36, .int v1, .int v2, .int v3, .int v4, .int v5, .int v6, .null], [])] (hp L xs A V K T) v h' :=
  fn_aload_n rl_M_cheapest_48 rfl (fn_virt (as := [.ref 36]) (r := []) (ls' := [.ref 36, .null, .null]) rl_M_cheapest_49 rfl hp_36 rfl rfl pl_M_owesAll rfl rfl (k0))
set_option maxRecDepth 100000 in
set_option maxHeartbeats 4000000 in
theorem sg_M_cheapest_52r {L : Nat} {xs : Nat → Int32} {A V : Nat → Nat → Int32} {K : Nat → Option Nat} {T : am_H} {v : Option Int32} {h' : am_H} {v1 v2 v3 v4 v5 v6 r : Int32} (k0 :
    am_fin [(z_M_takesAside, 0, [.ref 36, .null], []), (z_M_cheapest, 58, [.ref 36, .int v1, .int v2, .int v3, .int v4, .int v5, .int v6, .int r], [])] (hp L xs A V K T) v h') : am_fin [(z_M_cheapest, 52, [.ref 36, .int v1, .int v2, .int v3, .int v4, .int v5, .int v6, .null], [.int r])] (hp L xs A V K T) v h' :=
  fn_istore (ls' := [.ref 36, .int v1, .int v2, .int v3, .int v4, .int v5, .int v6, .int r]) rl_M_cheapest_52 rfl rfl (fn_aload_n rl_M_cheapest_54 rfl (fn_virt (as := [.ref 36]) (r := []) (ls' := [.ref 36, .null]) rl_M_cheapest_55 rfl hp_36 rfl rfl pl_M_takesAside rfl rfl (k0)))
set_option maxRecDepth 100000 in
set_option maxHeartbeats 4000000 in
theorem sg_M_cheapest_58r {L : Nat} {xs : Nat → Int32} {A V : Nat → Nat → Int32} {K : Nat → Option Nat} {T : am_H} {v : Option Int32} {h' : am_H} {v1 v2 v3 v4 v5 v6 v7 : Int32} (k0 :
    if v4 = (-1) then (
      am_fin [(z_M_cheapest, 33, [.ref 36, .int v1, .int v2, .int v3, .int v6, .int v7, .int (v6 + 1), .int v7], [])] (hp L xs A V K T) v h')
    else (
      if v7 < v5 then (
        am_fin [(z_M_cheapest, 33, [.ref 36, .int v1, .int v2, .int v3, .int v6, .int v7, .int (v6 + 1), .int v7], [])] (hp L xs A V K T) v h')
      else (
        am_fin [(z_M_cheapest, 33, [.ref 36, .int v1, .int v2, .int v3, .int v4, .int v5, .int (v6 + 1), .int v7], [])] (hp L xs A V K T) v h'))) : am_fin [(z_M_cheapest, 58, [.ref 36, .int v1, .int v2, .int v3, .int v4, .int v5, .int v6, .int v7], [])] (hp L xs A V K T) v h' :=
  fn_iload rl_M_cheapest_58 rfl (fn_iconst rl_M_cheapest_60 (fn_icmp_eq rl_M_cheapest_61 (fun k2152 => fn_iload rl_M_cheapest_74 rfl (fn_istore (ls' := [.ref 36, .int v1, .int v2, .int v3, .int v6, .int v5, .int v6, .int v7]) rl_M_cheapest_76 rfl rfl (fn_iload rl_M_cheapest_78 rfl (fn_istore (ls' := [.ref 36, .int v1, .int v2, .int v3, .int v6, .int v7, .int v6, .int v7]) rl_M_cheapest_80 rfl rfl (fn_iinc (ls' := [.ref 36, .int v1, .int v2, .int v3, .int v6, .int v7, .int (v6 + 1), .int v7]) rl_M_cheapest_82 rfl rfl rfl (fn_goto rl_M_cheapest_85 (k2152))))))) (fun k2153 => fn_iload rl_M_cheapest_64 rfl (fn_iload rl_M_cheapest_66 rfl (fn_icmp_lt rl_M_cheapest_68 (fun k2150 => fn_iload rl_M_cheapest_74 rfl (fn_istore (ls' := [.ref 36, .int v1, .int v2, .int v3, .int v6, .int v5, .int v6, .int v7]) rl_M_cheapest_76 rfl rfl (fn_iload rl_M_cheapest_78 rfl (fn_istore (ls' := [.ref 36, .int v1, .int v2, .int v3, .int v6, .int v7, .int v6, .int v7]) rl_M_cheapest_80 rfl rfl (fn_iinc (ls' := [.ref 36, .int v1, .int v2, .int v3, .int v6, .int v7, .int (v6 + 1), .int v7]) rl_M_cheapest_82 rfl rfl rfl (fn_goto rl_M_cheapest_85 (k2150))))))) (fun k2151 => fn_goto rl_M_cheapest_71 (fn_iinc (ls' := [.ref 36, .int v1, .int v2, .int v3, .int v4, .int v5, .int (v6 + 1), .int v7]) rl_M_cheapest_82 rfl rfl rfl (fn_goto rl_M_cheapest_85 (k2151)))) k2153))) k0))
set_option maxRecDepth 100000 in
set_option maxHeartbeats 4000000 in
theorem sg_M_cheapest_33b {L : Nat} {xs : Nat → Int32} {A V : Nat → Nat → Int32} {K : Nat → Option Nat} {T : am_H} {v : Option Int32} {h' : am_H} {v1 v2 v3 v4 v5 v6 v7 : Int32} (k0 :
    if 6 ≤ v6 then (
      if v3 = 0 then (
        v = some v4 ∧ h' = hp L xs A V K T)
      else (
        v = some v5 ∧ h' = hp L xs A V K T))
    else (
      am_fin [(z_M_goes, 0, [.ref 36, .int v6, .int v1, .int v2, .null], []), (z_M_cheapest, 48, [.ref 36, .int v1, .int v2, .int v3, .int v4, .int v5, .int v6, .int v7], [])] (hp L xs A V K T) v h')) : am_fin [(z_M_cheapest, 33, [.ref 36, .int v1, .int v2, .int v3, .int v4, .int v5, .int v6, .int v7], [])] (hp L xs A V K T) v h' :=
  fn_iload rl_M_cheapest_33 rfl (fn_bipush rl_M_cheapest_35 (fn_icmp_ge rl_M_cheapest_37 (fun k2156 => fn_iload_n rl_M_cheapest_88 rfl (fn_if_ne rl_M_cheapest_89 (fun k2154 => fn_iload rl_M_cheapest_92 rfl (fn_goto rl_M_cheapest_94 (fn_reti rl_M_cheapest_99 rfl k2154))) (fun k2155 => fn_iload rl_M_cheapest_97 rfl (fn_reti rl_M_cheapest_99 rfl k2155)) k2156)) (fun k2157 => fn_aload_n rl_M_cheapest_40 rfl (fn_iload rl_M_cheapest_41 rfl (fn_iload_n rl_M_cheapest_43 rfl (fn_iload_n rl_M_cheapest_44 rfl (fn_virt (as := [.ref 36, .int v6, .int v1, .int v2]) (r := []) (ls' := [.ref 36, .int v6, .int v1, .int v2, .null]) rl_M_cheapest_45 rfl hp_36 rfl rfl pl_M_goes rfl rfl (k2157)))))) k0))
set_option maxRecDepth 100000 in
set_option maxHeartbeats 4000000 in
theorem sg_M_cheapest_48rb {L : Nat} {xs : Nat → Int32} {A V : Nat → Nat → Int32} {K : Nat → Option Nat} {T : am_H} {v : Option Int32} {h' : am_H} {v1 v2 v3 v4 v5 v6 v7 : Int32} (k0 :
    am_fin [(z_M_owesAll, 0, [.ref 36, .null, .null], []), (z_M_cheapest, 52, [.ref 36, .int v1, .int v2, .int v3, .int v4, .int v5, .int v6, .int v7], [])] (hp L xs A V K T) v h') : am_fin [(z_M_cheapest, 48, [.ref 36, .int v1, .int v2, .int v3, .int v4, .int v5, .int v6, .int v7], [])] (hp L xs A V K T) v h' :=
  fn_aload_n rl_M_cheapest_48 rfl (fn_virt (as := [.ref 36]) (r := []) (ls' := [.ref 36, .null, .null]) rl_M_cheapest_49 rfl hp_36 rfl rfl pl_M_owesAll rfl rfl (k0))
set_option maxRecDepth 100000 in
set_option maxHeartbeats 4000000 in
theorem sg_M_cheapest_52rb {L : Nat} {xs : Nat → Int32} {A V : Nat → Nat → Int32} {K : Nat → Option Nat} {T : am_H} {v : Option Int32} {h' : am_H} {v1 v2 v3 v4 v5 v6 v7 r : Int32} (k0 :
    am_fin [(z_M_takesAside, 0, [.ref 36, .null], []), (z_M_cheapest, 58, [.ref 36, .int v1, .int v2, .int v3, .int v4, .int v5, .int v6, .int r], [])] (hp L xs A V K T) v h') : am_fin [(z_M_cheapest, 52, [.ref 36, .int v1, .int v2, .int v3, .int v4, .int v5, .int v6, .int v7], [.int r])] (hp L xs A V K T) v h' :=
  fn_istore (ls' := [.ref 36, .int v1, .int v2, .int v3, .int v4, .int v5, .int v6, .int r]) rl_M_cheapest_52 rfl rfl (fn_aload_n rl_M_cheapest_54 rfl (fn_virt (as := [.ref 36]) (r := []) (ls' := [.ref 36, .null]) rl_M_cheapest_55 rfl hp_36 rfl rfl pl_M_takesAside rfl rfl (k0)))
set_option maxRecDepth 100000 in
set_option maxHeartbeats 4000000 in
theorem sg_M_trade_0 {L : Nat} {xs : Nat → Int32} {A V : Nat → Nat → Int32} {K : Nat → Option Nat} {T : am_H} {v : Option Int32} {h' : am_H} {a1 a2 a3 a4 : Int32} (k0 :
    if (lg_cmp ((a1 : Int32).toInt64) ((0 : Int32).toInt64)) < 0 then (
      v = some (-1) ∧ h' = hp L xs A V K T)
    else (
      if 0 < (lg_cmp ((a1 : Int32).toInt64) ((5 : Int32).toInt64)) then (
        v = some (-1) ∧ h' = hp L xs A V K T)
      else (
        if (lg_cmp ((a2 : Int32).toInt64) ((0 : Int32).toInt64)) < 0 then (
          v = some (-1) ∧ h' = hp L xs A V K T)
        else (
          if 0 < (lg_cmp ((a2 : Int32).toInt64) ((5 : Int32).toInt64)) then (
            v = some (-1) ∧ h' = hp L xs A V K T)
          else (
            if a1 = a2 then (
              v = some (-1) ∧ h' = hp L xs A V K T)
            else (
              if (lg_cmp ((a3 : Int32).toInt64) ((0 : Int32).toInt64)) < 0 then (
                v = some (-1) ∧ h' = hp L xs A V K T)
              else (
                if 0 < (lg_cmp ((a3 : Int32).toInt64) ((1079 : Int32).toInt64)) then (
                  v = some (-1) ∧ h' = hp L xs A V K T)
                else (
                  if (lg_cmp ((a4 : Int32).toInt64) ((a3 : Int32).toInt64)) < 0 then (
                    v = some (-1) ∧ h' = hp L xs A V K T)
                  else (
                    if 0 < (lg_cmp ((a4 : Int32).toInt64) ((1079 : Int32).toInt64)) then (
                      v = some (-1) ∧ h' = hp L xs A V K T)
                    else (
                      am_fin [(z_M_trade, 25, [.ref 36, .int a1, .int a2, .int a3, .int a4, .int 0, .int a3, .null], [])] (hp L xs A V K T) v h')))))))))) : am_fin [(z_M_trade, 0, [.ref 36, .int a1, .int a2, .int a3, .int a4, .null, .null, .null], [])] (hp L xs A V K T) v h' :=
  fn_iload_n rl_M_trade_0 rfl (fn_iload_n rl_M_trade_1 rfl (fn_stat (as := [.int a1, .int a2]) (r := []) (ls' := [.int a1, .int a2]) rl_M_trade_2 rfl rfl rfl rfl pl_M_areTwo rfl rfl (fn_iload_n rl_M_areTwo_0 rfl (fn_stat (as := [.int a1]) (r := []) (ls' := [.int a1]) rl_M_areTwo_1 rfl rfl rfl rfl pl_M_isLand rfl rfl (fn_iload_n rl_M_isLand_0 rfl (fn_i2l rl_M_isLand_1 (fn_lconst rl_M_isLand_2 (fn_ldc2_w rl_M_isLand_3 (fn_stat (as := [.long ((a1 : Int32).toInt64), .long ((0 : Int32).toInt64), .long ((5 : Int32).toInt64)]) (r := []) (ls' := [.long ((a1 : Int32).toInt64), .null, .long ((0 : Int32).toInt64), .null, .long ((5 : Int32).toInt64), .null]) rl_M_isLand_6 rfl rfl rfl rfl pl_M_in rfl rfl (fn_lload_n rl_M_in_0 rfl (fn_lload_n rl_M_in_1 rfl (fn_lcmp rl_M_in_2 (fn_if_lt rl_M_in_3 (fun k2174 => fn_iconst rl_M_in_17 (fn_retci rl_M_in_18 rfl (fn_retci rl_M_isLand_9 rfl (fn_if_eq_t rl_M_areTwo_4 (by decide +kernel) (fn_iconst rl_M_areTwo_23 (fn_retci rl_M_areTwo_24 rfl (fn_if_eq_t rl_M_trade_5 (by decide +kernel) (fn_iconst rl_M_trade_17 (fn_reti rl_M_trade_18 rfl k2174))))))))) (fun k2175 => fn_lload_n rl_M_in_6 rfl (fn_lload rl_M_in_7 rfl (fn_lcmp rl_M_in_9 (fn_if_gt rl_M_in_10 (fun k2172 => fn_iconst rl_M_in_17 (fn_retci rl_M_in_18 rfl (fn_retci rl_M_isLand_9 rfl (fn_if_eq_t rl_M_areTwo_4 (by decide +kernel) (fn_iconst rl_M_areTwo_23 (fn_retci rl_M_areTwo_24 rfl (fn_if_eq_t rl_M_trade_5 (by decide +kernel) (fn_iconst rl_M_trade_17 (fn_reti rl_M_trade_18 rfl k2172))))))))) (fun k2173 => fn_iconst rl_M_in_13 (fn_goto rl_M_in_14 (fn_retci rl_M_in_18 rfl (fn_retci rl_M_isLand_9 rfl (fn_if_eq_f rl_M_areTwo_4 (by decide +kernel) (fn_iload_n rl_M_areTwo_7 rfl (fn_stat (as := [.int a2]) (r := []) (ls' := [.int a2]) rl_M_areTwo_8 rfl rfl rfl rfl pl_M_isLand rfl rfl (fn_iload_n rl_M_isLand_0 rfl (fn_i2l rl_M_isLand_1 (fn_lconst rl_M_isLand_2 (fn_ldc2_w rl_M_isLand_3 (fn_stat (as := [.long ((a2 : Int32).toInt64), .long ((0 : Int32).toInt64), .long ((5 : Int32).toInt64)]) (r := []) (ls' := [.long ((a2 : Int32).toInt64), .null, .long ((0 : Int32).toInt64), .null, .long ((5 : Int32).toInt64), .null]) rl_M_isLand_6 rfl rfl rfl rfl pl_M_in rfl rfl (fn_lload_n rl_M_in_0 rfl (fn_lload_n rl_M_in_1 rfl (fn_lcmp rl_M_in_2 (fn_if_lt rl_M_in_3 (fun k2170 => fn_iconst rl_M_in_17 (fn_retci rl_M_in_18 rfl (fn_retci rl_M_isLand_9 rfl (fn_if_eq_t rl_M_areTwo_11 (by decide +kernel) (fn_iconst rl_M_areTwo_23 (fn_retci rl_M_areTwo_24 rfl (fn_if_eq_t rl_M_trade_5 (by decide +kernel) (fn_iconst rl_M_trade_17 (fn_reti rl_M_trade_18 rfl k2170))))))))) (fun k2171 => fn_lload_n rl_M_in_6 rfl (fn_lload rl_M_in_7 rfl (fn_lcmp rl_M_in_9 (fn_if_gt rl_M_in_10 (fun k2168 => fn_iconst rl_M_in_17 (fn_retci rl_M_in_18 rfl (fn_retci rl_M_isLand_9 rfl (fn_if_eq_t rl_M_areTwo_11 (by decide +kernel) (fn_iconst rl_M_areTwo_23 (fn_retci rl_M_areTwo_24 rfl (fn_if_eq_t rl_M_trade_5 (by decide +kernel) (fn_iconst rl_M_trade_17 (fn_reti rl_M_trade_18 rfl k2168))))))))) (fun k2169 => fn_iconst rl_M_in_13 (fn_goto rl_M_in_14 (fn_retci rl_M_in_18 rfl (fn_retci rl_M_isLand_9 rfl (fn_if_eq_f rl_M_areTwo_11 (by decide +kernel) (fn_iload_n rl_M_areTwo_14 rfl (fn_iload_n rl_M_areTwo_15 rfl (fn_icmp_eq rl_M_areTwo_16 (fun k2166 => fn_iconst rl_M_areTwo_23 (fn_retci rl_M_areTwo_24 rfl (fn_if_eq_t rl_M_trade_5 (by decide +kernel) (fn_iconst rl_M_trade_17 (fn_reti rl_M_trade_18 rfl k2166))))) (fun k2167 => fn_iconst rl_M_areTwo_19 (fn_goto rl_M_areTwo_20 (fn_retci rl_M_areTwo_24 rfl (fn_if_eq_f rl_M_trade_5 (by decide +kernel) (fn_iload_n rl_M_trade_8 rfl (fn_iload rl_M_trade_9 rfl (fn_stat (as := [.int a3, .int a4]) (r := []) (ls' := [.int a3, .int a4]) rl_M_trade_11 rfl rfl rfl rfl pl_M_areDays rfl rfl (fn_iload_n rl_M_areDays_0 rfl (fn_stat (as := [.int a3]) (r := []) (ls' := [.int a3]) rl_M_areDays_1 rfl rfl rfl rfl pl_M_isDay rfl rfl (fn_iload_n rl_M_isDay_0 rfl (fn_i2l rl_M_isDay_1 (fn_lconst rl_M_isDay_2 (fn_ldc2_w rl_M_isDay_3 (fn_stat (as := [.long ((a3 : Int32).toInt64), .long ((0 : Int32).toInt64), .long ((1079 : Int32).toInt64)]) (r := []) (ls' := [.long ((a3 : Int32).toInt64), .null, .long ((0 : Int32).toInt64), .null, .long ((1079 : Int32).toInt64), .null]) rl_M_isDay_6 rfl rfl rfl rfl pl_M_in rfl rfl (fn_lload_n rl_M_in_0 rfl (fn_lload_n rl_M_in_1 rfl (fn_lcmp rl_M_in_2 (fn_if_lt rl_M_in_3 (fun k2164 => fn_iconst rl_M_in_17 (fn_retci rl_M_in_18 rfl (fn_retci rl_M_isDay_9 rfl (fn_if_eq_t rl_M_areDays_4 (by decide +kernel) (fn_iconst rl_M_areDays_24 (fn_retci rl_M_areDays_25 rfl (fn_if_ne_t rl_M_trade_14 (by decide +kernel) (fn_iconst rl_M_trade_17 (fn_reti rl_M_trade_18 rfl k2164))))))))) (fun k2165 => fn_lload_n rl_M_in_6 rfl (fn_lload rl_M_in_7 rfl (fn_lcmp rl_M_in_9 (fn_if_gt rl_M_in_10 (fun k2162 => fn_iconst rl_M_in_17 (fn_retci rl_M_in_18 rfl (fn_retci rl_M_isDay_9 rfl (fn_if_eq_t rl_M_areDays_4 (by decide +kernel) (fn_iconst rl_M_areDays_24 (fn_retci rl_M_areDays_25 rfl (fn_if_ne_t rl_M_trade_14 (by decide +kernel) (fn_iconst rl_M_trade_17 (fn_reti rl_M_trade_18 rfl k2162))))))))) (fun k2163 => fn_iconst rl_M_in_13 (fn_goto rl_M_in_14 (fn_retci rl_M_in_18 rfl (fn_retci rl_M_isDay_9 rfl (fn_if_eq_f rl_M_areDays_4 (by decide +kernel) (fn_iload_n rl_M_areDays_7 rfl (fn_i2l rl_M_areDays_8 (fn_iload_n rl_M_areDays_9 rfl (fn_i2l rl_M_areDays_10 (fn_ldc2_w rl_M_areDays_11 (fn_stat (as := [.long ((a4 : Int32).toInt64), .long ((a3 : Int32).toInt64), .long ((1079 : Int32).toInt64)]) (r := []) (ls' := [.long ((a4 : Int32).toInt64), .null, .long ((a3 : Int32).toInt64), .null, .long ((1079 : Int32).toInt64), .null]) rl_M_areDays_14 rfl rfl rfl rfl pl_M_in rfl rfl (fn_lload_n rl_M_in_0 rfl (fn_lload_n rl_M_in_1 rfl (fn_lcmp rl_M_in_2 (fn_if_lt rl_M_in_3 (fun k2160 => fn_iconst rl_M_in_17 (fn_retci rl_M_in_18 rfl (fn_if_eq_t rl_M_areDays_17 (by decide +kernel) (fn_iconst rl_M_areDays_24 (fn_retci rl_M_areDays_25 rfl (fn_if_ne_t rl_M_trade_14 (by decide +kernel) (fn_iconst rl_M_trade_17 (fn_reti rl_M_trade_18 rfl k2160)))))))) (fun k2161 => fn_lload_n rl_M_in_6 rfl (fn_lload rl_M_in_7 rfl (fn_lcmp rl_M_in_9 (fn_if_gt rl_M_in_10 (fun k2158 => fn_iconst rl_M_in_17 (fn_retci rl_M_in_18 rfl (fn_if_eq_t rl_M_areDays_17 (by decide +kernel) (fn_iconst rl_M_areDays_24 (fn_retci rl_M_areDays_25 rfl (fn_if_ne_t rl_M_trade_14 (by decide +kernel) (fn_iconst rl_M_trade_17 (fn_reti rl_M_trade_18 rfl k2158)))))))) (fun k2159 => fn_iconst rl_M_in_13 (fn_goto rl_M_in_14 (fn_retci rl_M_in_18 rfl (fn_if_eq_f rl_M_areDays_17 (by decide +kernel) (fn_iconst rl_M_areDays_20 (fn_goto rl_M_areDays_21 (fn_retci rl_M_areDays_25 rfl (fn_if_ne_f rl_M_trade_14 (by decide +kernel) (fn_iconst rl_M_trade_19 (fn_istore (ls' := [.ref 36, .int a1, .int a2, .int a3, .int a4, .int 0, .null, .null]) rl_M_trade_20 rfl rfl (fn_iload_n rl_M_trade_22 rfl (fn_istore (ls' := [.ref 36, .int a1, .int a2, .int a3, .int a4, .int 0, .int a3, .null]) rl_M_trade_23 rfl rfl (k2159))))))))))))) k2161)))) k2163))))))))))))))) k2165)))) k2167)))))))))))))))))) k2169)))))))) k2171)))) k2173)))))))))))))))) k2175)))) k0)))))))))))))
set_option maxRecDepth 100000 in
set_option maxHeartbeats 4000000 in
theorem sg_M_trade_25 {L : Nat} {xs : Nat → Int32} {A V : Nat → Nat → Int32} {K : Nat → Option Nat} {T : am_H} {v : Option Int32} {h' : am_H} {v1 v2 v3 v4 v5 v6 : Int32} (k0 :
    if v4 < v6 then (
      v = some v5 ∧ h' = hp L xs A V K T)
    else (
      ¬ (v6 < 0 ∨ 1080 ≤ v6.toNatClampNeg) ∧ (
      if ((A 37) v6.toNatClampNeg) = v1 then (
        if ((A 37) v6.toNatClampNeg) = v1 then (
          ¬ (v6 < 0 ∨ 1080 ≤ v6.toNatClampNeg) ∧ (
          am_fin [(z_M_trade, 25, [.ref 36, .int v1, .int v2, .int v3, .int v4, .int (v5 + 1), .int (v6 + 1), .int ((A 37) v6.toNatClampNeg)], [])] (hp L xs (upA A 37 (upd (A 37) v6.toNatClampNeg v2)) V K T) v h'))
        else (
          ¬ (v6 < 0 ∨ 1080 ≤ v6.toNatClampNeg) ∧ (
          am_fin [(z_M_trade, 25, [.ref 36, .int v1, .int v2, .int v3, .int v4, .int (v5 + 1), .int (v6 + 1), .int ((A 37) v6.toNatClampNeg)], [])] (hp L xs (upA A 37 (upd (A 37) v6.toNatClampNeg v1)) V K T) v h')))
      else (
        if ((A 37) v6.toNatClampNeg) = v2 then (
          if ((A 37) v6.toNatClampNeg) = v1 then (
            ¬ (v6 < 0 ∨ 1080 ≤ v6.toNatClampNeg) ∧ (
            am_fin [(z_M_trade, 25, [.ref 36, .int v1, .int v2, .int v3, .int v4, .int (v5 + 1), .int (v6 + 1), .int ((A 37) v6.toNatClampNeg)], [])] (hp L xs (upA A 37 (upd (A 37) v6.toNatClampNeg v2)) V K T) v h'))
          else (
            ¬ (v6 < 0 ∨ 1080 ≤ v6.toNatClampNeg) ∧ (
            am_fin [(z_M_trade, 25, [.ref 36, .int v1, .int v2, .int v3, .int v4, .int (v5 + 1), .int (v6 + 1), .int ((A 37) v6.toNatClampNeg)], [])] (hp L xs (upA A 37 (upd (A 37) v6.toNatClampNeg v1)) V K T) v h')))
        else (
          am_fin [(z_M_trade, 25, [.ref 36, .int v1, .int v2, .int v3, .int v4, .int v5, .int (v6 + 1), .int ((A 37) v6.toNatClampNeg)], [])] (hp L xs A V K T) v h'))))) : am_fin [(z_M_trade, 25, [.ref 36, .int v1, .int v2, .int v3, .int v4, .int v5, .int v6, .null], [])] (hp L xs A V K T) v h' :=
  fn_iload rl_M_trade_25 rfl (fn_iload rl_M_trade_27 rfl (fn_icmp_gt rl_M_trade_29 (fun k2189 => fn_iload rl_M_trade_86 rfl (fn_reti rl_M_trade_88 rfl k2189)) (fun k2190 => fn_aload_n rl_M_trade_32 rfl (fn_get rl_M_trade_33 hp_36 rfl (fn_iload rl_M_trade_36 rfl (fn_iald rl_M_trade_38 hp_37 (fun k2188 => fn_istore (ls' := [.ref 36, .int v1, .int v2, .int v3, .int v4, .int v5, .int v6, .int ((A 37) v6.toNatClampNeg)]) rl_M_trade_39 rfl rfl (fn_iload rl_M_trade_41 rfl (fn_iload_n rl_M_trade_43 rfl (fn_icmp_eq rl_M_trade_44 (fun k2186 => fn_aload_n rl_M_trade_56 rfl (fn_get rl_M_trade_57 hp_36 rfl (fn_iload rl_M_trade_60 rfl (fn_iload rl_M_trade_62 rfl (fn_iload_n rl_M_trade_64 rfl (fn_icmp_ne rl_M_trade_65 (fun k2178 => fn_iload_n rl_M_trade_68 rfl (fn_goto rl_M_trade_69 (fn_iast rl_M_trade_73 hp_37 hps_37 (fun k2176 => fn_iload rl_M_trade_74 rfl (fn_iconst rl_M_trade_76 (fn_iadd rl_M_trade_77 (fn_istore (ls' := [.ref 36, .int v1, .int v2, .int v3, .int v4, .int (v5 + 1), .int v6, .int ((A 37) v6.toNatClampNeg)]) rl_M_trade_78 rfl rfl (fn_iinc (ls' := [.ref 36, .int v1, .int v2, .int v3, .int v4, .int (v5 + 1), .int (v6 + 1), .int ((A 37) v6.toNatClampNeg)]) rl_M_trade_80 rfl rfl rfl (fn_goto rl_M_trade_83 (k2176))))))) k2178))) (fun k2179 => fn_iload_n rl_M_trade_72 rfl (fn_iast rl_M_trade_73 hp_37 hps_37 (fun k2177 => fn_iload rl_M_trade_74 rfl (fn_iconst rl_M_trade_76 (fn_iadd rl_M_trade_77 (fn_istore (ls' := [.ref 36, .int v1, .int v2, .int v3, .int v4, .int (v5 + 1), .int v6, .int ((A 37) v6.toNatClampNeg)]) rl_M_trade_78 rfl rfl (fn_iinc (ls' := [.ref 36, .int v1, .int v2, .int v3, .int v4, .int (v5 + 1), .int (v6 + 1), .int ((A 37) v6.toNatClampNeg)]) rl_M_trade_80 rfl rfl rfl (fn_goto rl_M_trade_83 (k2177))))))) k2179)) k2186)))))) (fun k2187 => fn_iload rl_M_trade_47 rfl (fn_iload_n rl_M_trade_49 rfl (fn_icmp_eq rl_M_trade_50 (fun k2184 => fn_aload_n rl_M_trade_56 rfl (fn_get rl_M_trade_57 hp_36 rfl (fn_iload rl_M_trade_60 rfl (fn_iload rl_M_trade_62 rfl (fn_iload_n rl_M_trade_64 rfl (fn_icmp_ne rl_M_trade_65 (fun k2182 => fn_iload_n rl_M_trade_68 rfl (fn_goto rl_M_trade_69 (fn_iast rl_M_trade_73 hp_37 hps_37 (fun k2180 => fn_iload rl_M_trade_74 rfl (fn_iconst rl_M_trade_76 (fn_iadd rl_M_trade_77 (fn_istore (ls' := [.ref 36, .int v1, .int v2, .int v3, .int v4, .int (v5 + 1), .int v6, .int ((A 37) v6.toNatClampNeg)]) rl_M_trade_78 rfl rfl (fn_iinc (ls' := [.ref 36, .int v1, .int v2, .int v3, .int v4, .int (v5 + 1), .int (v6 + 1), .int ((A 37) v6.toNatClampNeg)]) rl_M_trade_80 rfl rfl rfl (fn_goto rl_M_trade_83 (k2180))))))) k2182))) (fun k2183 => fn_iload_n rl_M_trade_72 rfl (fn_iast rl_M_trade_73 hp_37 hps_37 (fun k2181 => fn_iload rl_M_trade_74 rfl (fn_iconst rl_M_trade_76 (fn_iadd rl_M_trade_77 (fn_istore (ls' := [.ref 36, .int v1, .int v2, .int v3, .int v4, .int (v5 + 1), .int v6, .int ((A 37) v6.toNatClampNeg)]) rl_M_trade_78 rfl rfl (fn_iinc (ls' := [.ref 36, .int v1, .int v2, .int v3, .int v4, .int (v5 + 1), .int (v6 + 1), .int ((A 37) v6.toNatClampNeg)]) rl_M_trade_80 rfl rfl rfl (fn_goto rl_M_trade_83 (k2181))))))) k2183)) k2184)))))) (fun k2185 => fn_goto rl_M_trade_53 (fn_iinc (ls' := [.ref 36, .int v1, .int v2, .int v3, .int v4, .int v5, .int (v6 + 1), .int ((A 37) v6.toNatClampNeg)]) rl_M_trade_80 rfl rfl rfl (fn_goto rl_M_trade_83 (k2185)))) k2187))) k2188)))) k2190)))) k0))
set_option maxRecDepth 100000 in
set_option maxHeartbeats 4000000 in
theorem sg_M_trade_25b {L : Nat} {xs : Nat → Int32} {A V : Nat → Nat → Int32} {K : Nat → Option Nat} {T : am_H} {v : Option Int32} {h' : am_H} {v1 v2 v3 v4 v5 v6 v7 : Int32} (k0 :
    if v4 < v6 then (
      v = some v5 ∧ h' = hp L xs A V K T)
    else (
      ¬ (v6 < 0 ∨ 1080 ≤ v6.toNatClampNeg) ∧ (
      if ((A 37) v6.toNatClampNeg) = v1 then (
        if ((A 37) v6.toNatClampNeg) = v1 then (
          ¬ (v6 < 0 ∨ 1080 ≤ v6.toNatClampNeg) ∧ (
          am_fin [(z_M_trade, 25, [.ref 36, .int v1, .int v2, .int v3, .int v4, .int (v5 + 1), .int (v6 + 1), .int ((A 37) v6.toNatClampNeg)], [])] (hp L xs (upA A 37 (upd (A 37) v6.toNatClampNeg v2)) V K T) v h'))
        else (
          ¬ (v6 < 0 ∨ 1080 ≤ v6.toNatClampNeg) ∧ (
          am_fin [(z_M_trade, 25, [.ref 36, .int v1, .int v2, .int v3, .int v4, .int (v5 + 1), .int (v6 + 1), .int ((A 37) v6.toNatClampNeg)], [])] (hp L xs (upA A 37 (upd (A 37) v6.toNatClampNeg v1)) V K T) v h')))
      else (
        if ((A 37) v6.toNatClampNeg) = v2 then (
          if ((A 37) v6.toNatClampNeg) = v1 then (
            ¬ (v6 < 0 ∨ 1080 ≤ v6.toNatClampNeg) ∧ (
            am_fin [(z_M_trade, 25, [.ref 36, .int v1, .int v2, .int v3, .int v4, .int (v5 + 1), .int (v6 + 1), .int ((A 37) v6.toNatClampNeg)], [])] (hp L xs (upA A 37 (upd (A 37) v6.toNatClampNeg v2)) V K T) v h'))
          else (
            ¬ (v6 < 0 ∨ 1080 ≤ v6.toNatClampNeg) ∧ (
            am_fin [(z_M_trade, 25, [.ref 36, .int v1, .int v2, .int v3, .int v4, .int (v5 + 1), .int (v6 + 1), .int ((A 37) v6.toNatClampNeg)], [])] (hp L xs (upA A 37 (upd (A 37) v6.toNatClampNeg v1)) V K T) v h')))
        else (
          am_fin [(z_M_trade, 25, [.ref 36, .int v1, .int v2, .int v3, .int v4, .int v5, .int (v6 + 1), .int ((A 37) v6.toNatClampNeg)], [])] (hp L xs A V K T) v h'))))) : am_fin [(z_M_trade, 25, [.ref 36, .int v1, .int v2, .int v3, .int v4, .int v5, .int v6, .int v7], [])] (hp L xs A V K T) v h' :=
  fn_iload rl_M_trade_25 rfl (fn_iload rl_M_trade_27 rfl (fn_icmp_gt rl_M_trade_29 (fun k2204 => fn_iload rl_M_trade_86 rfl (fn_reti rl_M_trade_88 rfl k2204)) (fun k2205 => fn_aload_n rl_M_trade_32 rfl (fn_get rl_M_trade_33 hp_36 rfl (fn_iload rl_M_trade_36 rfl (fn_iald rl_M_trade_38 hp_37 (fun k2203 => fn_istore (ls' := [.ref 36, .int v1, .int v2, .int v3, .int v4, .int v5, .int v6, .int ((A 37) v6.toNatClampNeg)]) rl_M_trade_39 rfl rfl (fn_iload rl_M_trade_41 rfl (fn_iload_n rl_M_trade_43 rfl (fn_icmp_eq rl_M_trade_44 (fun k2201 => fn_aload_n rl_M_trade_56 rfl (fn_get rl_M_trade_57 hp_36 rfl (fn_iload rl_M_trade_60 rfl (fn_iload rl_M_trade_62 rfl (fn_iload_n rl_M_trade_64 rfl (fn_icmp_ne rl_M_trade_65 (fun k2193 => fn_iload_n rl_M_trade_68 rfl (fn_goto rl_M_trade_69 (fn_iast rl_M_trade_73 hp_37 hps_37 (fun k2191 => fn_iload rl_M_trade_74 rfl (fn_iconst rl_M_trade_76 (fn_iadd rl_M_trade_77 (fn_istore (ls' := [.ref 36, .int v1, .int v2, .int v3, .int v4, .int (v5 + 1), .int v6, .int ((A 37) v6.toNatClampNeg)]) rl_M_trade_78 rfl rfl (fn_iinc (ls' := [.ref 36, .int v1, .int v2, .int v3, .int v4, .int (v5 + 1), .int (v6 + 1), .int ((A 37) v6.toNatClampNeg)]) rl_M_trade_80 rfl rfl rfl (fn_goto rl_M_trade_83 (k2191))))))) k2193))) (fun k2194 => fn_iload_n rl_M_trade_72 rfl (fn_iast rl_M_trade_73 hp_37 hps_37 (fun k2192 => fn_iload rl_M_trade_74 rfl (fn_iconst rl_M_trade_76 (fn_iadd rl_M_trade_77 (fn_istore (ls' := [.ref 36, .int v1, .int v2, .int v3, .int v4, .int (v5 + 1), .int v6, .int ((A 37) v6.toNatClampNeg)]) rl_M_trade_78 rfl rfl (fn_iinc (ls' := [.ref 36, .int v1, .int v2, .int v3, .int v4, .int (v5 + 1), .int (v6 + 1), .int ((A 37) v6.toNatClampNeg)]) rl_M_trade_80 rfl rfl rfl (fn_goto rl_M_trade_83 (k2192))))))) k2194)) k2201)))))) (fun k2202 => fn_iload rl_M_trade_47 rfl (fn_iload_n rl_M_trade_49 rfl (fn_icmp_eq rl_M_trade_50 (fun k2199 => fn_aload_n rl_M_trade_56 rfl (fn_get rl_M_trade_57 hp_36 rfl (fn_iload rl_M_trade_60 rfl (fn_iload rl_M_trade_62 rfl (fn_iload_n rl_M_trade_64 rfl (fn_icmp_ne rl_M_trade_65 (fun k2197 => fn_iload_n rl_M_trade_68 rfl (fn_goto rl_M_trade_69 (fn_iast rl_M_trade_73 hp_37 hps_37 (fun k2195 => fn_iload rl_M_trade_74 rfl (fn_iconst rl_M_trade_76 (fn_iadd rl_M_trade_77 (fn_istore (ls' := [.ref 36, .int v1, .int v2, .int v3, .int v4, .int (v5 + 1), .int v6, .int ((A 37) v6.toNatClampNeg)]) rl_M_trade_78 rfl rfl (fn_iinc (ls' := [.ref 36, .int v1, .int v2, .int v3, .int v4, .int (v5 + 1), .int (v6 + 1), .int ((A 37) v6.toNatClampNeg)]) rl_M_trade_80 rfl rfl rfl (fn_goto rl_M_trade_83 (k2195))))))) k2197))) (fun k2198 => fn_iload_n rl_M_trade_72 rfl (fn_iast rl_M_trade_73 hp_37 hps_37 (fun k2196 => fn_iload rl_M_trade_74 rfl (fn_iconst rl_M_trade_76 (fn_iadd rl_M_trade_77 (fn_istore (ls' := [.ref 36, .int v1, .int v2, .int v3, .int v4, .int (v5 + 1), .int v6, .int ((A 37) v6.toNatClampNeg)]) rl_M_trade_78 rfl rfl (fn_iinc (ls' := [.ref 36, .int v1, .int v2, .int v3, .int v4, .int (v5 + 1), .int (v6 + 1), .int ((A 37) v6.toNatClampNeg)]) rl_M_trade_80 rfl rfl rfl (fn_goto rl_M_trade_83 (k2196))))))) k2198)) k2199)))))) (fun k2200 => fn_goto rl_M_trade_53 (fn_iinc (ls' := [.ref 36, .int v1, .int v2, .int v3, .int v4, .int v5, .int (v6 + 1), .int ((A 37) v6.toNatClampNeg)]) rl_M_trade_80 rfl rfl rfl (fn_goto rl_M_trade_83 (k2200)))) k2202))) k2203)))) k2205)))) k0))
set_option maxRecDepth 100000 in
set_option maxHeartbeats 4000000 in
theorem sg_M_erase_0 {L : Nat} {xs : Nat → Int32} {A V : Nat → Nat → Int32} {K : Nat → Option Nat} {T : am_H} {v : Option Int32} {h' : am_H} {a1 a2 : Int32} (k0 :
    if (lg_cmp ((a1 : Int32).toInt64) ((0 : Int32).toInt64)) < 0 then (
      v = some (-1) ∧ h' = hp L xs A V K T)
    else (
      if 0 < (lg_cmp ((a1 : Int32).toInt64) ((5 : Int32).toInt64)) then (
        v = some (-1) ∧ h' = hp L xs A V K T)
      else (
        if (lg_cmp ((a2 : Int32).toInt64) ((1 : Int32).toInt64)) < 0 then (
          v = some (-1) ∧ h' = hp L xs A V K T)
        else (
          if 0 < (lg_cmp ((a2 : Int32).toInt64) ((360 : Int32).toInt64)) then (
            v = some (-1) ∧ h' = hp L xs A V K T)
          else (
            am_fin [(z_M_erase, 21, [.ref 36, .int a1, .int a2, .int 0, .int 0, .null], [])] (hp L xs A V K T) v h'))))) : am_fin [(z_M_erase, 0, [.ref 36, .int a1, .int a2, .null, .null, .null], [])] (hp L xs A V K T) v h' :=
  fn_iload_n rl_M_erase_0 rfl (fn_stat (as := [.int a1]) (r := []) (ls' := [.int a1]) rl_M_erase_1 rfl rfl rfl rfl pl_M_isLand rfl rfl (fn_iload_n rl_M_isLand_0 rfl (fn_i2l rl_M_isLand_1 (fn_lconst rl_M_isLand_2 (fn_ldc2_w rl_M_isLand_3 (fn_stat (as := [.long ((a1 : Int32).toInt64), .long ((0 : Int32).toInt64), .long ((5 : Int32).toInt64)]) (r := []) (ls' := [.long ((a1 : Int32).toInt64), .null, .long ((0 : Int32).toInt64), .null, .long ((5 : Int32).toInt64), .null]) rl_M_isLand_6 rfl rfl rfl rfl pl_M_in rfl rfl (fn_lload_n rl_M_in_0 rfl (fn_lload_n rl_M_in_1 rfl (fn_lcmp rl_M_in_2 (fn_if_lt rl_M_in_3 (fun k2212 => fn_iconst rl_M_in_17 (fn_retci rl_M_in_18 rfl (fn_retci rl_M_isLand_9 rfl (fn_if_eq_t rl_M_erase_4 (by decide +kernel) (fn_iconst rl_M_erase_14 (fn_reti rl_M_erase_15 rfl k2212)))))) (fun k2213 => fn_lload_n rl_M_in_6 rfl (fn_lload rl_M_in_7 rfl (fn_lcmp rl_M_in_9 (fn_if_gt rl_M_in_10 (fun k2210 => fn_iconst rl_M_in_17 (fn_retci rl_M_in_18 rfl (fn_retci rl_M_isLand_9 rfl (fn_if_eq_t rl_M_erase_4 (by decide +kernel) (fn_iconst rl_M_erase_14 (fn_reti rl_M_erase_15 rfl k2210)))))) (fun k2211 => fn_iconst rl_M_in_13 (fn_goto rl_M_in_14 (fn_retci rl_M_in_18 rfl (fn_retci rl_M_isLand_9 rfl (fn_if_eq_f rl_M_erase_4 (by decide +kernel) (fn_iload_n rl_M_erase_7 rfl (fn_stat (as := [.int a2]) (r := []) (ls' := [.int a2]) rl_M_erase_8 rfl rfl rfl rfl pl_M_isSpan rfl rfl (fn_iload_n rl_M_isSpan_0 rfl (fn_i2l rl_M_isSpan_1 (fn_lconst rl_M_isSpan_2 (fn_ldc2_w rl_M_isSpan_3 (fn_stat (as := [.long ((a2 : Int32).toInt64), .long ((1 : Int32).toInt64), .long ((360 : Int32).toInt64)]) (r := []) (ls' := [.long ((a2 : Int32).toInt64), .null, .long ((1 : Int32).toInt64), .null, .long ((360 : Int32).toInt64), .null]) rl_M_isSpan_6 rfl rfl rfl rfl pl_M_in rfl rfl (fn_lload_n rl_M_in_0 rfl (fn_lload_n rl_M_in_1 rfl (fn_lcmp rl_M_in_2 (fn_if_lt rl_M_in_3 (fun k2208 => fn_iconst rl_M_in_17 (fn_retci rl_M_in_18 rfl (fn_retci rl_M_isSpan_9 rfl (fn_if_ne_t rl_M_erase_11 (by decide +kernel) (fn_iconst rl_M_erase_14 (fn_reti rl_M_erase_15 rfl k2208)))))) (fun k2209 => fn_lload_n rl_M_in_6 rfl (fn_lload rl_M_in_7 rfl (fn_lcmp rl_M_in_9 (fn_if_gt rl_M_in_10 (fun k2206 => fn_iconst rl_M_in_17 (fn_retci rl_M_in_18 rfl (fn_retci rl_M_isSpan_9 rfl (fn_if_ne_t rl_M_erase_11 (by decide +kernel) (fn_iconst rl_M_erase_14 (fn_reti rl_M_erase_15 rfl k2206)))))) (fun k2207 => fn_iconst rl_M_in_13 (fn_goto rl_M_in_14 (fn_retci rl_M_in_18 rfl (fn_retci rl_M_isSpan_9 rfl (fn_if_ne_f rl_M_erase_11 (by decide +kernel) (fn_iconst rl_M_erase_16 (fn_istore_n (ls' := [.ref 36, .int a1, .int a2, .int 0, .null, .null]) rl_M_erase_17 rfl rfl (fn_iconst rl_M_erase_18 (fn_istore (ls' := [.ref 36, .int a1, .int a2, .int 0, .int 0, .null]) rl_M_erase_19 rfl rfl (k2207)))))))))) k2209)))) k2211)))))))))))))))) k2213)))) k0))))))))))
set_option maxRecDepth 100000 in
set_option maxHeartbeats 4000000 in
theorem sg_M_erase_21 {L : Nat} {xs : Nat → Int32} {A V : Nat → Nat → Int32} {K : Nat → Option Nat} {T : am_H} {v : Option Int32} {h' : am_H} {v1 v2 v3 v4 : Int32} (k0 :
    if 1080 ≤ v4 then (
      v = some v3 ∧ h' = hp L xs A V K T)
    else (
      ¬ (v4 < 0 ∨ 1080 ≤ v4.toNatClampNeg) ∧ (
      if ((A 37) v4.toNatClampNeg) = v1 then (
        am_fin [(z_M_begins, 0, [.ref 36, .int v4], []), (z_M_erase, 46, [.ref 36, .int v1, .int v2, .int v3, .int v4, .null], [])] (hp L xs A V K T) v h')
      else (
        am_fin [(z_M_erase, 21, [.ref 36, .int v1, .int v2, .int v3, .int (v4 + 1), .null], [])] (hp L xs A V K T) v h')))) : am_fin [(z_M_erase, 21, [.ref 36, .int v1, .int v2, .int v3, .int v4, .null], [])] (hp L xs A V K T) v h' :=
  fn_iload rl_M_erase_21 rfl (fn_sipush rl_M_erase_23 (fn_icmp_ge rl_M_erase_26 (fun k2217 => fn_iload_n rl_M_erase_92 rfl (fn_reti rl_M_erase_93 rfl k2217)) (fun k2218 => fn_aload_n rl_M_erase_29 rfl (fn_get rl_M_erase_30 hp_36 rfl (fn_iload rl_M_erase_33 rfl (fn_iald rl_M_erase_35 hp_37 (fun k2216 => fn_iload_n rl_M_erase_36 rfl (fn_icmp_ne rl_M_erase_37 (fun k2214 => fn_aload_n rl_M_erase_40 rfl (fn_iload rl_M_erase_41 rfl (fn_virt (as := [.ref 36, .int v4]) (r := []) (ls' := [.ref 36, .int v4]) rl_M_erase_43 rfl hp_36 rfl rfl pl_M_begins rfl rfl (k2214)))) (fun k2215 => fn_iinc (ls' := [.ref 36, .int v1, .int v2, .int v3, .int (v4 + 1), .null]) rl_M_erase_86 rfl rfl rfl (fn_goto rl_M_erase_89 (k2215))) k2216)) k2218)))) k0))
set_option maxRecDepth 100000 in
set_option maxHeartbeats 4000000 in
theorem sg_M_erase_46r {L : Nat} {xs : Nat → Int32} {A V : Nat → Nat → Int32} {K : Nat → Option Nat} {T : am_H} {v : Option Int32} {h' : am_H} {v1 v2 v3 v4 r : Int32} (k0 :
    if r = 0 then (
      am_fin [(z_M_erase, 21, [.ref 36, .int v1, .int v2, .int v3, .int (v4 + 1), .null], [])] (hp L xs A V K T) v h')
    else (
      am_fin [(z_M_endOf, 0, [.ref 36, .int v4, .null], []), (z_M_erase, 58, [.ref 36, .int v1, .int v2, .int v3, .int v4, .null], [])] (hp L xs A V K T) v h')) : am_fin [(z_M_erase, 46, [.ref 36, .int v1, .int v2, .int v3, .int v4, .null], [.int r])] (hp L xs A V K T) v h' :=
  fn_if_ne rl_M_erase_46 (fun k2219 => fn_goto rl_M_erase_49 (fn_iinc (ls' := [.ref 36, .int v1, .int v2, .int v3, .int (v4 + 1), .null]) rl_M_erase_86 rfl rfl rfl (fn_goto rl_M_erase_89 (k2219)))) (fun k2220 => fn_aload_n rl_M_erase_52 rfl (fn_iload rl_M_erase_53 rfl (fn_virt (as := [.ref 36, .int v4]) (r := []) (ls' := [.ref 36, .int v4, .null]) rl_M_erase_55 rfl hp_36 rfl rfl pl_M_endOf rfl rfl (k2220)))) k0
set_option maxRecDepth 100000 in
set_option maxHeartbeats 4000000 in
theorem sg_M_erase_58r {L : Nat} {xs : Nat → Int32} {A V : Nat → Nat → Int32} {K : Nat → Option Nat} {T : am_H} {v : Option Int32} {h' : am_H} {v1 v2 v3 v4 r : Int32} (k0 :
    if v2 ≤ (r - v4) then (
      am_fin [(z_M_erase, 21, [.ref 36, .int v1, .int v2, .int v3, .int (r + 1), .int r], [])] (hp L xs A V K T) v h')
    else (
      am_fin [(z_M_goes, 0, [.ref 36, .int (-1), .int v4, .int r, .null], []), (z_M_erase, 78, [.ref 36, .int v1, .int v2, .int v3, .int v4, .int r], [])] (hp L xs A V K T) v h')) : am_fin [(z_M_erase, 58, [.ref 36, .int v1, .int v2, .int v3, .int v4, .null], [.int r])] (hp L xs A V K T) v h' :=
  fn_istore (ls' := [.ref 36, .int v1, .int v2, .int v3, .int v4, .int r]) rl_M_erase_58 rfl rfl (fn_iload rl_M_erase_60 rfl (fn_iload rl_M_erase_62 rfl (fn_isub rl_M_erase_64 (fn_iload_n rl_M_erase_65 rfl (fn_icmp_ge rl_M_erase_66 (fun k2221 => fn_iload rl_M_erase_82 rfl (fn_istore (ls' := [.ref 36, .int v1, .int v2, .int v3, .int r, .int r]) rl_M_erase_84 rfl rfl (fn_iinc (ls' := [.ref 36, .int v1, .int v2, .int v3, .int (r + 1), .int r]) rl_M_erase_86 rfl rfl rfl (fn_goto rl_M_erase_89 (k2221))))) (fun k2222 => fn_aload_n rl_M_erase_69 rfl (fn_iconst rl_M_erase_70 (fn_iload rl_M_erase_71 rfl (fn_iload rl_M_erase_73 rfl (fn_virt (as := [.ref 36, .int (-1), .int v4, .int r]) (r := []) (ls' := [.ref 36, .int (-1), .int v4, .int r, .null]) rl_M_erase_75 rfl hp_36 rfl rfl pl_M_goes rfl rfl (k2222)))))) k0)))))
set_option maxRecDepth 100000 in
set_option maxHeartbeats 4000000 in
theorem sg_M_erase_21b {L : Nat} {xs : Nat → Int32} {A V : Nat → Nat → Int32} {K : Nat → Option Nat} {T : am_H} {v : Option Int32} {h' : am_H} {v1 v2 v3 v4 v5 : Int32} (k0 :
    if 1080 ≤ v4 then (
      v = some v3 ∧ h' = hp L xs A V K T)
    else (
      ¬ (v4 < 0 ∨ 1080 ≤ v4.toNatClampNeg) ∧ (
      if ((A 37) v4.toNatClampNeg) = v1 then (
        am_fin [(z_M_begins, 0, [.ref 36, .int v4], []), (z_M_erase, 46, [.ref 36, .int v1, .int v2, .int v3, .int v4, .int v5], [])] (hp L xs A V K T) v h')
      else (
        am_fin [(z_M_erase, 21, [.ref 36, .int v1, .int v2, .int v3, .int (v4 + 1), .int v5], [])] (hp L xs A V K T) v h')))) : am_fin [(z_M_erase, 21, [.ref 36, .int v1, .int v2, .int v3, .int v4, .int v5], [])] (hp L xs A V K T) v h' :=
  fn_iload rl_M_erase_21 rfl (fn_sipush rl_M_erase_23 (fn_icmp_ge rl_M_erase_26 (fun k2226 => fn_iload_n rl_M_erase_92 rfl (fn_reti rl_M_erase_93 rfl k2226)) (fun k2227 => fn_aload_n rl_M_erase_29 rfl (fn_get rl_M_erase_30 hp_36 rfl (fn_iload rl_M_erase_33 rfl (fn_iald rl_M_erase_35 hp_37 (fun k2225 => fn_iload_n rl_M_erase_36 rfl (fn_icmp_ne rl_M_erase_37 (fun k2223 => fn_aload_n rl_M_erase_40 rfl (fn_iload rl_M_erase_41 rfl (fn_virt (as := [.ref 36, .int v4]) (r := []) (ls' := [.ref 36, .int v4]) rl_M_erase_43 rfl hp_36 rfl rfl pl_M_begins rfl rfl (k2223)))) (fun k2224 => fn_iinc (ls' := [.ref 36, .int v1, .int v2, .int v3, .int (v4 + 1), .int v5]) rl_M_erase_86 rfl rfl rfl (fn_goto rl_M_erase_89 (k2224))) k2225)) k2227)))) k0))
set_option maxRecDepth 100000 in
set_option maxHeartbeats 4000000 in
theorem sg_M_erase_46rb {L : Nat} {xs : Nat → Int32} {A V : Nat → Nat → Int32} {K : Nat → Option Nat} {T : am_H} {v : Option Int32} {h' : am_H} {v1 v2 v3 v4 v5 r : Int32} (k0 :
    if r = 0 then (
      am_fin [(z_M_erase, 21, [.ref 36, .int v1, .int v2, .int v3, .int (v4 + 1), .int v5], [])] (hp L xs A V K T) v h')
    else (
      am_fin [(z_M_endOf, 0, [.ref 36, .int v4, .null], []), (z_M_erase, 58, [.ref 36, .int v1, .int v2, .int v3, .int v4, .int v5], [])] (hp L xs A V K T) v h')) : am_fin [(z_M_erase, 46, [.ref 36, .int v1, .int v2, .int v3, .int v4, .int v5], [.int r])] (hp L xs A V K T) v h' :=
  fn_if_ne rl_M_erase_46 (fun k2228 => fn_goto rl_M_erase_49 (fn_iinc (ls' := [.ref 36, .int v1, .int v2, .int v3, .int (v4 + 1), .int v5]) rl_M_erase_86 rfl rfl rfl (fn_goto rl_M_erase_89 (k2228)))) (fun k2229 => fn_aload_n rl_M_erase_52 rfl (fn_iload rl_M_erase_53 rfl (fn_virt (as := [.ref 36, .int v4]) (r := []) (ls' := [.ref 36, .int v4, .null]) rl_M_erase_55 rfl hp_36 rfl rfl pl_M_endOf rfl rfl (k2229)))) k0
set_option maxRecDepth 100000 in
set_option maxHeartbeats 4000000 in
theorem sg_M_erase_58rb {L : Nat} {xs : Nat → Int32} {A V : Nat → Nat → Int32} {K : Nat → Option Nat} {T : am_H} {v : Option Int32} {h' : am_H} {v1 v2 v3 v4 v5 r : Int32} (k0 :
    if v2 ≤ (r - v4) then (
      am_fin [(z_M_erase, 21, [.ref 36, .int v1, .int v2, .int v3, .int (r + 1), .int r], [])] (hp L xs A V K T) v h')
    else (
      am_fin [(z_M_goes, 0, [.ref 36, .int (-1), .int v4, .int r, .null], []), (z_M_erase, 78, [.ref 36, .int v1, .int v2, .int v3, .int v4, .int r], [])] (hp L xs A V K T) v h')) : am_fin [(z_M_erase, 58, [.ref 36, .int v1, .int v2, .int v3, .int v4, .int v5], [.int r])] (hp L xs A V K T) v h' :=
  fn_istore (ls' := [.ref 36, .int v1, .int v2, .int v3, .int v4, .int r]) rl_M_erase_58 rfl rfl (fn_iload rl_M_erase_60 rfl (fn_iload rl_M_erase_62 rfl (fn_isub rl_M_erase_64 (fn_iload_n rl_M_erase_65 rfl (fn_icmp_ge rl_M_erase_66 (fun k2230 => fn_iload rl_M_erase_82 rfl (fn_istore (ls' := [.ref 36, .int v1, .int v2, .int v3, .int r, .int r]) rl_M_erase_84 rfl rfl (fn_iinc (ls' := [.ref 36, .int v1, .int v2, .int v3, .int (r + 1), .int r]) rl_M_erase_86 rfl rfl rfl (fn_goto rl_M_erase_89 (k2230))))) (fun k2231 => fn_aload_n rl_M_erase_69 rfl (fn_iconst rl_M_erase_70 (fn_iload rl_M_erase_71 rfl (fn_iload rl_M_erase_73 rfl (fn_virt (as := [.ref 36, .int (-1), .int v4, .int r]) (r := []) (ls' := [.ref 36, .int (-1), .int v4, .int r, .null]) rl_M_erase_75 rfl hp_36 rfl rfl pl_M_goes rfl rfl (k2231)))))) k0)))))
set_option maxRecDepth 100000 in
set_option maxHeartbeats 4000000 in
theorem sg_M_erase_78r {L : Nat} {xs : Nat → Int32} {A V : Nat → Nat → Int32} {K : Nat → Option Nat} {T : am_H} {v : Option Int32} {h' : am_H} {v1 v2 v3 v4 v5 : Int32} (k0 :
    am_fin [(z_M_erase, 21, [.ref 36, .int v1, .int v2, .int (v3 + 1), .int (v5 + 1), .int v5], [])] (hp L xs A V K T) v h') : am_fin [(z_M_erase, 78, [.ref 36, .int v1, .int v2, .int v3, .int v4, .int v5], [])] (hp L xs A V K T) v h' :=
  fn_iload_n rl_M_erase_78 rfl (fn_iconst rl_M_erase_79 (fn_iadd rl_M_erase_80 (fn_istore_n (ls' := [.ref 36, .int v1, .int v2, .int (v3 + 1), .int v4, .int v5]) rl_M_erase_81 rfl rfl (fn_iload rl_M_erase_82 rfl (fn_istore (ls' := [.ref 36, .int v1, .int v2, .int (v3 + 1), .int v5, .int v5]) rl_M_erase_84 rfl rfl (fn_iinc (ls' := [.ref 36, .int v1, .int v2, .int (v3 + 1), .int (v5 + 1), .int v5]) rl_M_erase_86 rfl rfl rfl (fn_goto rl_M_erase_89 (k0))))))))
set_option maxRecDepth 100000 in
set_option maxHeartbeats 4000000 in
theorem sg_M_routes_0 {L : Nat} {xs : Nat → Int32} {A V : Nat → Nat → Int32} {K : Nat → Option Nat} {T : am_H} {v : Option Int32} {h' : am_H} {a1 a2 a3 : Int32} (k0 :
    if (lg_cmp ((a1 : Int32).toInt64) (((-1) : Int32).toInt64)) < 0 then (
      v = some (-1) ∧ h' = hp L xs A V K T)
    else (
      if 0 < (lg_cmp ((a1 : Int32).toInt64) ((5 : Int32).toInt64)) then (
        v = some (-1) ∧ h' = hp L xs A V K T)
      else (
        if (lg_cmp ((a2 : Int32).toInt64) (((-1) : Int32).toInt64)) < 0 then (
          v = some (-1) ∧ h' = hp L xs A V K T)
        else (
          if 0 < (lg_cmp ((a2 : Int32).toInt64) ((5 : Int32).toInt64)) then (
            v = some (-1) ∧ h' = hp L xs A V K T)
          else (
            if a1 = a2 then (
              v = some (-1) ∧ h' = hp L xs A V K T)
            else (
              if (lg_cmp ((a3 : Int32).toInt64) ((0 : Int32).toInt64)) < 0 then (
                v = some (-1) ∧ h' = hp L xs A V K T)
              else (
                if 0 < (lg_cmp ((a3 : Int32).toInt64) ((2 : Int32).toInt64)) then (
                  v = some (-1) ∧ h' = hp L xs A V K T)
                else (
                  if 1 ≤ (360 * a3) then (
                    am_fin [(z_M_routes, 42, [.ref 36, .int a1, .int a2, .int a3, .int 0, .int (360 * a3)], [])] (hp L xs A V K T) v h')
                  else (
                    am_fin [(z_M_routes, 42, [.ref 36, .int a1, .int a2, .int a3, .int 0, .int 1], [])] (hp L xs A V K T) v h'))))))))) : am_fin [(z_M_routes, 0, [.ref 36, .int a1, .int a2, .int a3, .null, .null], [])] (hp L xs A V K T) v h' :=
  fn_iload_n rl_M_routes_0 rfl (fn_stat (as := [.int a1]) (r := []) (ls' := [.int a1]) rl_M_routes_1 rfl rfl rfl rfl pl_M_isPlace rfl rfl (fn_iload_n rl_M_isPlace_0 rfl (fn_i2l rl_M_isPlace_1 (fn_ldc2_w rl_M_isPlace_2 (fn_ldc2_w rl_M_isPlace_5 (fn_stat (as := [.long ((a1 : Int32).toInt64), .long (((-1) : Int32).toInt64), .long ((5 : Int32).toInt64)]) (r := []) (ls' := [.long ((a1 : Int32).toInt64), .null, .long (((-1) : Int32).toInt64), .null, .long ((5 : Int32).toInt64), .null]) rl_M_isPlace_8 rfl rfl rfl rfl pl_M_in rfl rfl (fn_lload_n rl_M_in_0 rfl (fn_lload_n rl_M_in_1 rfl (fn_lcmp rl_M_in_2 (fn_if_lt rl_M_in_3 (fun k2246 => fn_iconst rl_M_in_17 (fn_retci rl_M_in_18 rfl (fn_retci rl_M_isPlace_11 rfl (fn_if_eq_t rl_M_routes_4 (by decide +kernel) (fn_iconst rl_M_routes_26 (fn_reti rl_M_routes_27 rfl k2246)))))) (fun k2247 => fn_lload_n rl_M_in_6 rfl (fn_lload rl_M_in_7 rfl (fn_lcmp rl_M_in_9 (fn_if_gt rl_M_in_10 (fun k2244 => fn_iconst rl_M_in_17 (fn_retci rl_M_in_18 rfl (fn_retci rl_M_isPlace_11 rfl (fn_if_eq_t rl_M_routes_4 (by decide +kernel) (fn_iconst rl_M_routes_26 (fn_reti rl_M_routes_27 rfl k2244)))))) (fun k2245 => fn_iconst rl_M_in_13 (fn_goto rl_M_in_14 (fn_retci rl_M_in_18 rfl (fn_retci rl_M_isPlace_11 rfl (fn_if_eq_f rl_M_routes_4 (by decide +kernel) (fn_iload_n rl_M_routes_7 rfl (fn_stat (as := [.int a2]) (r := []) (ls' := [.int a2]) rl_M_routes_8 rfl rfl rfl rfl pl_M_isPlace rfl rfl (fn_iload_n rl_M_isPlace_0 rfl (fn_i2l rl_M_isPlace_1 (fn_ldc2_w rl_M_isPlace_2 (fn_ldc2_w rl_M_isPlace_5 (fn_stat (as := [.long ((a2 : Int32).toInt64), .long (((-1) : Int32).toInt64), .long ((5 : Int32).toInt64)]) (r := []) (ls' := [.long ((a2 : Int32).toInt64), .null, .long (((-1) : Int32).toInt64), .null, .long ((5 : Int32).toInt64), .null]) rl_M_isPlace_8 rfl rfl rfl rfl pl_M_in rfl rfl (fn_lload_n rl_M_in_0 rfl (fn_lload_n rl_M_in_1 rfl (fn_lcmp rl_M_in_2 (fn_if_lt rl_M_in_3 (fun k2242 => fn_iconst rl_M_in_17 (fn_retci rl_M_in_18 rfl (fn_retci rl_M_isPlace_11 rfl (fn_if_eq_t rl_M_routes_11 (by decide +kernel) (fn_iconst rl_M_routes_26 (fn_reti rl_M_routes_27 rfl k2242)))))) (fun k2243 => fn_lload_n rl_M_in_6 rfl (fn_lload rl_M_in_7 rfl (fn_lcmp rl_M_in_9 (fn_if_gt rl_M_in_10 (fun k2240 => fn_iconst rl_M_in_17 (fn_retci rl_M_in_18 rfl (fn_retci rl_M_isPlace_11 rfl (fn_if_eq_t rl_M_routes_11 (by decide +kernel) (fn_iconst rl_M_routes_26 (fn_reti rl_M_routes_27 rfl k2240)))))) (fun k2241 => fn_iconst rl_M_in_13 (fn_goto rl_M_in_14 (fn_retci rl_M_in_18 rfl (fn_retci rl_M_isPlace_11 rfl (fn_if_eq_f rl_M_routes_11 (by decide +kernel) (fn_iload_n rl_M_routes_14 rfl (fn_iload_n rl_M_routes_15 rfl (fn_icmp_eq rl_M_routes_16 (fun k2238 => fn_iconst rl_M_routes_26 (fn_reti rl_M_routes_27 rfl k2238)) (fun k2239 => fn_iload_n rl_M_routes_19 rfl (fn_stat (as := [.int a3]) (r := []) (ls' := [.int a3]) rl_M_routes_20 rfl rfl rfl rfl pl_M_isYear rfl rfl (fn_iload_n rl_M_isYear_0 rfl (fn_i2l rl_M_isYear_1 (fn_lconst rl_M_isYear_2 (fn_ldc2_w rl_M_isYear_3 (fn_stat (as := [.long ((a3 : Int32).toInt64), .long ((0 : Int32).toInt64), .long ((2 : Int32).toInt64)]) (r := []) (ls' := [.long ((a3 : Int32).toInt64), .null, .long ((0 : Int32).toInt64), .null, .long ((2 : Int32).toInt64), .null]) rl_M_isYear_6 rfl rfl rfl rfl pl_M_in rfl rfl (fn_lload_n rl_M_in_0 rfl (fn_lload_n rl_M_in_1 rfl (fn_lcmp rl_M_in_2 (fn_if_lt rl_M_in_3 (fun k2236 => fn_iconst rl_M_in_17 (fn_retci rl_M_in_18 rfl (fn_retci rl_M_isYear_9 rfl (fn_if_ne_t rl_M_routes_23 (by decide +kernel) (fn_iconst rl_M_routes_26 (fn_reti rl_M_routes_27 rfl k2236)))))) (fun k2237 => fn_lload_n rl_M_in_6 rfl (fn_lload rl_M_in_7 rfl (fn_lcmp rl_M_in_9 (fn_if_gt rl_M_in_10 (fun k2234 => fn_iconst rl_M_in_17 (fn_retci rl_M_in_18 rfl (fn_retci rl_M_isYear_9 rfl (fn_if_ne_t rl_M_routes_23 (by decide +kernel) (fn_iconst rl_M_routes_26 (fn_reti rl_M_routes_27 rfl k2234)))))) (fun k2235 => fn_iconst rl_M_in_13 (fn_goto rl_M_in_14 (fn_retci rl_M_in_18 rfl (fn_retci rl_M_isYear_9 rfl (fn_if_ne_f rl_M_routes_23 (by decide +kernel) (fn_iconst rl_M_routes_28 (fn_istore (ls' := [.ref 36, .int a1, .int a2, .int a3, .int 0, .null]) rl_M_routes_29 rfl rfl (fn_iconst rl_M_routes_31 (fn_sipush rl_M_routes_32 (fn_iload_n rl_M_routes_35 rfl (fn_imul rl_M_routes_36 (fn_stat (as := [.int 1, .int (360 * a3)]) (r := []) (ls' := [.int 1, .int (360 * a3)]) rl_M_routes_37 rfl rfl rfl rfl pl_M_more rfl rfl (fn_iload_n rl_M_more_0 rfl (fn_iload_n rl_M_more_1 rfl (fn_icmp_le rl_M_more_2 (fun k2232 => fn_iload_n rl_M_more_9 rfl (fn_retci rl_M_more_10 rfl (fn_istore (ls' := [.ref 36, .int a1, .int a2, .int a3, .int 0, .int (360 * a3)]) rl_M_routes_40 rfl rfl (k2232)))) (fun k2233 => fn_iload_n rl_M_more_5 rfl (fn_goto rl_M_more_6 (fn_retci rl_M_more_10 rfl (fn_istore (ls' := [.ref 36, .int a1, .int a2, .int a3, .int 0, .int 1]) rl_M_routes_40 rfl rfl (k2233))))) k2235))))))))))))))) k2237)))) k2239))))))))))) k2241)))))))) k2243)))) k2245)))))))))))))))) k2247)))) k0))))))))))
set_option maxRecDepth 100000 in
set_option maxHeartbeats 4000000 in
theorem sg_M_routes_42 {L : Nat} {xs : Nat → Int32} {A V : Nat → Nat → Int32} {K : Nat → Option Nat} {T : am_H} {v : Option Int32} {h' : am_H} {v1 v2 v3 v4 v5 : Int32} (k0 :
    if ((360 * v3) + 360) ≤ v5 then (
      v = some v4 ∧ h' = hp L xs A V K T)
    else (
      ¬ ((v5 - 1) < 0 ∨ 1080 ≤ (v5 - 1).toNatClampNeg) ∧ (
      if ((A 37) (v5 - 1).toNatClampNeg) = v1 then (
        ¬ (v5 < 0 ∨ 1080 ≤ v5.toNatClampNeg) ∧ (
        if ((A 37) v5.toNatClampNeg) = v2 then (
          am_fin [(z_M_routes, 42, [.ref 36, .int v1, .int v2, .int v3, .int (v4 + 1), .int (v5 + 1)], [])] (hp L xs A V K T) v h')
        else (
          am_fin [(z_M_routes, 42, [.ref 36, .int v1, .int v2, .int v3, .int (v4 + 0), .int (v5 + 1)], [])] (hp L xs A V K T) v h')))
      else (
        am_fin [(z_M_routes, 42, [.ref 36, .int v1, .int v2, .int v3, .int (v4 + 0), .int (v5 + 1)], [])] (hp L xs A V K T) v h')))) : am_fin [(z_M_routes, 42, [.ref 36, .int v1, .int v2, .int v3, .int v4, .int v5], [])] (hp L xs A V K T) v h' :=
  fn_iload rl_M_routes_42 rfl (fn_sipush rl_M_routes_44 (fn_iload_n rl_M_routes_47 rfl (fn_imul rl_M_routes_48 (fn_sipush rl_M_routes_49 (fn_iadd rl_M_routes_52 (fn_icmp_ge rl_M_routes_53 (fun k2254 => fn_iload rl_M_routes_96 rfl (fn_reti rl_M_routes_98 rfl k2254)) (fun k2255 => fn_iload rl_M_routes_56 rfl (fn_aload_n rl_M_routes_58 rfl (fn_get rl_M_routes_59 hp_36 rfl (fn_iload rl_M_routes_62 rfl (fn_iconst rl_M_routes_64 (fn_isub rl_M_routes_65 (fn_iald rl_M_routes_66 hp_37 (fun k2253 => fn_iload_n rl_M_routes_67 rfl (fn_icmp_ne rl_M_routes_68 (fun k2251 => fn_aload_n rl_M_routes_71 rfl (fn_get rl_M_routes_72 hp_36 rfl (fn_iload rl_M_routes_75 rfl (fn_iald rl_M_routes_77 hp_37 (fun k2250 => fn_iload_n rl_M_routes_78 rfl (fn_icmp_ne rl_M_routes_79 (fun k2248 => fn_iconst rl_M_routes_82 (fn_goto rl_M_routes_83 (fn_iadd rl_M_routes_87 (fn_istore (ls' := [.ref 36, .int v1, .int v2, .int v3, .int (v4 + 1), .int v5]) rl_M_routes_88 rfl rfl (fn_iinc (ls' := [.ref 36, .int v1, .int v2, .int v3, .int (v4 + 1), .int (v5 + 1)]) rl_M_routes_90 rfl rfl rfl (fn_goto rl_M_routes_93 (k2248))))))) (fun k2249 => fn_iconst rl_M_routes_86 (fn_iadd rl_M_routes_87 (fn_istore (ls' := [.ref 36, .int v1, .int v2, .int v3, .int (v4 + 0), .int v5]) rl_M_routes_88 rfl rfl (fn_iinc (ls' := [.ref 36, .int v1, .int v2, .int v3, .int (v4 + 0), .int (v5 + 1)]) rl_M_routes_90 rfl rfl rfl (fn_goto rl_M_routes_93 (k2249)))))) k2250)) k2251)))) (fun k2252 => fn_iconst rl_M_routes_86 (fn_iadd rl_M_routes_87 (fn_istore (ls' := [.ref 36, .int v1, .int v2, .int v3, .int (v4 + 0), .int v5]) rl_M_routes_88 rfl rfl (fn_iinc (ls' := [.ref 36, .int v1, .int v2, .int v3, .int (v4 + 0), .int (v5 + 1)]) rl_M_routes_90 rfl rfl rfl (fn_goto rl_M_routes_93 (k2252)))))) k2253)) k2255))))))) k0))))))
set_option maxRecDepth 100000 in
set_option maxHeartbeats 4000000 in
theorem sg_M_latest_0 {L : Nat} {xs : Nat → Int32} {A V : Nat → Nat → Int32} {K : Nat → Option Nat} {T : am_H} {v : Option Int32} {h' : am_H} {a1 a2 : Int32} (k0 :
    if (lg_cmp ((a1 : Int32).toInt64) ((0 : Int32).toInt64)) < 0 then (
      v = some (-1) ∧ h' = hp L xs A V K T)
    else (
      if 0 < (lg_cmp ((a1 : Int32).toInt64) ((5 : Int32).toInt64)) then (
        v = some (-1) ∧ h' = hp L xs A V K T)
      else (
        if (lg_cmp ((a2 : Int32).toInt64) ((0 : Int32).toInt64)) < 0 then (
          v = some (-1) ∧ h' = hp L xs A V K T)
        else (
          if 0 < (lg_cmp ((a2 : Int32).toInt64) ((2 : Int32).toInt64)) then (
            v = some (-1) ∧ h' = hp L xs A V K T)
          else (
            am_fin [(z_M_laysCounts, 0, [.ref 36, .null, .null, .null], []), (z_M_latest, 20, [.ref 36, .int a1, .int a2, .null], [])] (hp L xs A V K T) v h'))))) : am_fin [(z_M_latest, 0, [.ref 36, .int a1, .int a2, .null], [])] (hp L xs A V K T) v h' :=
  fn_iload_n rl_M_latest_0 rfl (fn_stat (as := [.int a1]) (r := []) (ls' := [.int a1]) rl_M_latest_1 rfl rfl rfl rfl pl_M_isLand rfl rfl (fn_iload_n rl_M_isLand_0 rfl (fn_i2l rl_M_isLand_1 (fn_lconst rl_M_isLand_2 (fn_ldc2_w rl_M_isLand_3 (fn_stat (as := [.long ((a1 : Int32).toInt64), .long ((0 : Int32).toInt64), .long ((5 : Int32).toInt64)]) (r := []) (ls' := [.long ((a1 : Int32).toInt64), .null, .long ((0 : Int32).toInt64), .null, .long ((5 : Int32).toInt64), .null]) rl_M_isLand_6 rfl rfl rfl rfl pl_M_in rfl rfl (fn_lload_n rl_M_in_0 rfl (fn_lload_n rl_M_in_1 rfl (fn_lcmp rl_M_in_2 (fn_if_lt rl_M_in_3 (fun k2262 => fn_iconst rl_M_in_17 (fn_retci rl_M_in_18 rfl (fn_retci rl_M_isLand_9 rfl (fn_if_eq_t rl_M_latest_4 (by decide +kernel) (fn_iconst rl_M_latest_14 (fn_reti rl_M_latest_15 rfl k2262)))))) (fun k2263 => fn_lload_n rl_M_in_6 rfl (fn_lload rl_M_in_7 rfl (fn_lcmp rl_M_in_9 (fn_if_gt rl_M_in_10 (fun k2260 => fn_iconst rl_M_in_17 (fn_retci rl_M_in_18 rfl (fn_retci rl_M_isLand_9 rfl (fn_if_eq_t rl_M_latest_4 (by decide +kernel) (fn_iconst rl_M_latest_14 (fn_reti rl_M_latest_15 rfl k2260)))))) (fun k2261 => fn_iconst rl_M_in_13 (fn_goto rl_M_in_14 (fn_retci rl_M_in_18 rfl (fn_retci rl_M_isLand_9 rfl (fn_if_eq_f rl_M_latest_4 (by decide +kernel) (fn_iload_n rl_M_latest_7 rfl (fn_stat (as := [.int a2]) (r := []) (ls' := [.int a2]) rl_M_latest_8 rfl rfl rfl rfl pl_M_isYear rfl rfl (fn_iload_n rl_M_isYear_0 rfl (fn_i2l rl_M_isYear_1 (fn_lconst rl_M_isYear_2 (fn_ldc2_w rl_M_isYear_3 (fn_stat (as := [.long ((a2 : Int32).toInt64), .long ((0 : Int32).toInt64), .long ((2 : Int32).toInt64)]) (r := []) (ls' := [.long ((a2 : Int32).toInt64), .null, .long ((0 : Int32).toInt64), .null, .long ((2 : Int32).toInt64), .null]) rl_M_isYear_6 rfl rfl rfl rfl pl_M_in rfl rfl (fn_lload_n rl_M_in_0 rfl (fn_lload_n rl_M_in_1 rfl (fn_lcmp rl_M_in_2 (fn_if_lt rl_M_in_3 (fun k2258 => fn_iconst rl_M_in_17 (fn_retci rl_M_in_18 rfl (fn_retci rl_M_isYear_9 rfl (fn_if_ne_t rl_M_latest_11 (by decide +kernel) (fn_iconst rl_M_latest_14 (fn_reti rl_M_latest_15 rfl k2258)))))) (fun k2259 => fn_lload_n rl_M_in_6 rfl (fn_lload rl_M_in_7 rfl (fn_lcmp rl_M_in_9 (fn_if_gt rl_M_in_10 (fun k2256 => fn_iconst rl_M_in_17 (fn_retci rl_M_in_18 rfl (fn_retci rl_M_isYear_9 rfl (fn_if_ne_t rl_M_latest_11 (by decide +kernel) (fn_iconst rl_M_latest_14 (fn_reti rl_M_latest_15 rfl k2256)))))) (fun k2257 => fn_iconst rl_M_in_13 (fn_goto rl_M_in_14 (fn_retci rl_M_in_18 rfl (fn_retci rl_M_isYear_9 rfl (fn_if_ne_f rl_M_latest_11 (by decide +kernel) (fn_aload_n rl_M_latest_16 rfl (fn_virt (as := [.ref 36]) (r := []) (ls' := [.ref 36, .null, .null, .null]) rl_M_latest_17 rfl hp_36 rfl rfl pl_M_laysCounts rfl rfl (k2257)))))))) k2259)))) k2261)))))))))))))))) k2263)))) k0))))))))))
set_option maxRecDepth 100000 in
set_option maxHeartbeats 4000000 in
theorem sg_M_latest_20r {L : Nat} {xs : Nat → Int32} {A V : Nat → Nat → Int32} {K : Nat → Option Nat} {T : am_H} {v : Option Int32} {h' : am_H} {v1 v2 : Int32} (k0 :
    am_fin [(z_M_latest, 32, [.ref 36, .int v1, .int v2, .int (((360 * v2) + 360) - 1)], [])] (hp L xs A V K T) v h') : am_fin [(z_M_latest, 20, [.ref 36, .int v1, .int v2, .null], [])] (hp L xs A V K T) v h' :=
  fn_sipush rl_M_latest_20 (fn_iload_n rl_M_latest_23 rfl (fn_imul rl_M_latest_24 (fn_sipush rl_M_latest_25 (fn_iadd rl_M_latest_28 (fn_iconst rl_M_latest_29 (fn_isub rl_M_latest_30 (fn_istore_n (ls' := [.ref 36, .int v1, .int v2, .int (((360 * v2) + 360) - 1)]) rl_M_latest_31 rfl rfl (k0))))))))
set_option maxRecDepth 100000 in
set_option maxHeartbeats 4000000 in
theorem sg_M_latest_32 {L : Nat} {xs : Nat → Int32} {A V : Nat → Nat → Int32} {K : Nat → Option Nat} {T : am_H} {v : Option Int32} {h' : am_H} {v1 v2 v3 : Int32} (k0 :
    if v3 < (360 * v2) then (
      v = some (-2) ∧ h' = hp L xs A V K T)
    else (
      ¬ (v3 < 0 ∨ 1080 ≤ v3.toNatClampNeg) ∧ (
      if ((A 37) v3.toNatClampNeg) = v1 then (
        am_fin [(z_M_isClaimed, 0, [.ref 36, .int v1, .int v2], []), (z_M_latest, 64, [.ref 36, .int v1, .int v2, .int v3], [])] (hp L xs A V K T) v h')
      else (
        if v1 = (-1) then (
          am_fin [(z_M_isClaimed, 0, [.ref 36, .int v1, .int v2], []), (z_M_latest, 64, [.ref 36, .int v1, .int v2, .int v3], [])] (hp L xs A V K T) v h')
        else (
          ¬ ((((18 * 0) + (3 * v1)) + v2) < 0 ∨ 54 ≤ (((18 * 0) + (3 * v1)) + v2).toNatClampNeg) ∧ (
          ¬ ((((18 * 0) + (3 * v1)) + v2) < 0 ∨ 54 ≤ (((18 * 0) + (3 * v1)) + v2).toNatClampNeg) ∧ (
          am_fin [(z_M_isClaimed, 0, [.ref 36, .int v1, .int v2], []), (z_M_latest, 64, [.ref 36, .int v1, .int v2, .int v3], [])] (hp L xs (upA A 47 (upd (A 47) (((18 * 0) + (3 * v1)) + v2).toNatClampNeg (((A 47) (((18 * 0) + (3 * v1)) + v2).toNatClampNeg) + 1))) V K T) v h'))))))) : am_fin [(z_M_latest, 32, [.ref 36, .int v1, .int v2, .int v3], [])] (hp L xs A V K T) v h' :=
  fn_iload_n rl_M_latest_32 rfl (fn_sipush rl_M_latest_33 (fn_iload_n rl_M_latest_36 rfl (fn_imul rl_M_latest_37 (fn_icmp_lt rl_M_latest_38 (fun k2271 => fn_bipush rl_M_latest_75 (fn_reti rl_M_latest_77 rfl k2271)) (fun k2272 => fn_aload_n rl_M_latest_41 rfl (fn_get rl_M_latest_42 hp_36 rfl (fn_iload_n rl_M_latest_45 rfl (fn_iald rl_M_latest_46 hp_37 (fun k2270 => fn_iload_n rl_M_latest_47 rfl (fn_icmp_eq rl_M_latest_48 (fun k2268 => fn_aload_n rl_M_latest_58 rfl (fn_iload_n rl_M_latest_59 rfl (fn_iload_n rl_M_latest_60 rfl (fn_virt (as := [.ref 36, .int v1, .int v2]) (r := []) (ls' := [.ref 36, .int v1, .int v2]) rl_M_latest_61 rfl hp_36 rfl rfl pl_M_isClaimed rfl rfl (k2268))))) (fun k2269 => fn_aload_n rl_M_latest_51 rfl (fn_iload_n rl_M_latest_52 rfl (fn_iload_n rl_M_latest_53 rfl (fn_iconst rl_M_latest_54 (fn_virt (as := [.ref 36, .int v1, .int v2, .int 1]) (r := []) (ls' := [.ref 36, .int v1, .int v2, .int 1]) rl_M_latest_55 rfl hp_36 rfl rfl pl_M_adds rfl rfl (fn_iload_n rl_M_adds_0 rfl (fn_iconst rl_M_adds_1 (fn_icmp_eq rl_M_adds_2 (fun k2266 => fn_retcv rl_M_adds_29 (fn_aload_n rl_M_latest_58 rfl (fn_iload_n rl_M_latest_59 rfl (fn_iload_n rl_M_latest_60 rfl (fn_virt (as := [.ref 36, .int v1, .int v2]) (r := []) (ls' := [.ref 36, .int v1, .int v2]) rl_M_latest_61 rfl hp_36 rfl rfl pl_M_isClaimed rfl rfl (k2266)))))) (fun k2267 => fn_aload_n rl_M_adds_5 rfl (fn_get rl_M_adds_6 hp_36 rfl (fn_iconst rl_M_adds_9 (fn_iload_n rl_M_adds_10 rfl (fn_iload_n rl_M_adds_11 rfl (fn_stat (as := [.int 0, .int v1, .int v2]) (r := [.ref 47]) (ls' := [.int 0, .int v1, .int v2]) rl_M_adds_12 rfl rfl rfl rfl pl_M_countAt rfl rfl (fn_bipush rl_M_countAt_0 (fn_iload_n rl_M_countAt_2 rfl (fn_imul rl_M_countAt_3 (fn_iconst rl_M_countAt_4 (fn_iload_n rl_M_countAt_5 rfl (fn_imul rl_M_countAt_6 (fn_iadd rl_M_countAt_7 (fn_iload_n rl_M_countAt_8 rfl (fn_iadd rl_M_countAt_9 (fn_retci rl_M_countAt_10 rfl (fn_aload_n rl_M_adds_15 rfl (fn_get rl_M_adds_16 hp_36 rfl (fn_iconst rl_M_adds_19 (fn_iload_n rl_M_adds_20 rfl (fn_iload_n rl_M_adds_21 rfl (fn_stat (as := [.int 0, .int v1, .int v2]) (r := [.ref 47, .int (((18 * 0) + (3 * v1)) + v2), .ref 47]) (ls' := [.int 0, .int v1, .int v2]) rl_M_adds_22 rfl rfl rfl rfl pl_M_countAt rfl rfl (fn_bipush rl_M_countAt_0 (fn_iload_n rl_M_countAt_2 rfl (fn_imul rl_M_countAt_3 (fn_iconst rl_M_countAt_4 (fn_iload_n rl_M_countAt_5 rfl (fn_imul rl_M_countAt_6 (fn_iadd rl_M_countAt_7 (fn_iload_n rl_M_countAt_8 rfl (fn_iadd rl_M_countAt_9 (fn_retci rl_M_countAt_10 rfl (fn_iald rl_M_adds_25 hp_47 (fun k2265 => fn_iload_n rl_M_adds_26 rfl (fn_iadd rl_M_adds_27 (fn_iast rl_M_adds_28 hp_47 hps_47 (fun k2264 => fn_retcv rl_M_adds_29 (fn_aload_n rl_M_latest_58 rfl (fn_iload_n rl_M_latest_59 rfl (fn_iload_n rl_M_latest_60 rfl (fn_virt (as := [.ref 36, .int v1, .int v2]) (r := []) (ls' := [.ref 36, .int v1, .int v2]) rl_M_latest_61 rfl hp_36 rfl rfl pl_M_isClaimed rfl rfl (k2264)))))) k2265))) k2267))))))))))))))))))))))))))))))))) k2269)))))))) k2270)) k2272)))) k0))))
set_option maxRecDepth 100000 in
set_option maxHeartbeats 4000000 in
theorem sg_M_latest_64r {L : Nat} {xs : Nat → Int32} {A V : Nat → Nat → Int32} {K : Nat → Option Nat} {T : am_H} {v : Option Int32} {h' : am_H} {v1 v2 v3 r : Int32} (k0 :
    if r = 0 then (
      am_fin [(z_M_latest, 32, [.ref 36, .int v1, .int v2, .int (v3 + (-1))], [])] (hp L xs A V K T) v h')
    else (
      v = some v3 ∧ h' = hp L xs A V K T)) : am_fin [(z_M_latest, 64, [.ref 36, .int v1, .int v2, .int v3], [.int r])] (hp L xs A V K T) v h' :=
  fn_if_eq rl_M_latest_64 (fun k2273 => fn_iinc (ls' := [.ref 36, .int v1, .int v2, .int (v3 + (-1))]) rl_M_latest_69 rfl rfl rfl (fn_goto rl_M_latest_72 (k2273))) (fun k2274 => fn_iload_n rl_M_latest_67 rfl (fn_reti rl_M_latest_68 rfl k2274)) k0
set_option maxRecDepth 100000 in
set_option maxHeartbeats 4000000 in
theorem sg_M_wins_0 {L : Nat} {xs : Nat → Int32} {A V : Nat → Nat → Int32} {K : Nat → Option Nat} {T : am_H} {v : Option Int32} {h' : am_H} {a1 a2 : Int32} (k0 :
    if (lg_cmp ((a1 : Int32).toInt64) ((0 : Int32).toInt64)) < 0 then (
      v = some (-1) ∧ h' = hp L xs A V K T)
    else (
      if 0 < (lg_cmp ((a1 : Int32).toInt64) ((5 : Int32).toInt64)) then (
        v = some (-1) ∧ h' = hp L xs A V K T)
      else (
        if (lg_cmp ((a2 : Int32).toInt64) ((0 : Int32).toInt64)) < 0 then (
          v = some (-1) ∧ h' = hp L xs A V K T)
        else (
          if 0 < (lg_cmp ((a2 : Int32).toInt64) ((2 : Int32).toInt64)) then (
            v = some (-1) ∧ h' = hp L xs A V K T)
          else (
            am_fin [(z_M_laysCounts, 0, [.ref 36, .null, .null, .null], []), (z_M_wins, 20, [.ref 36, .int a1, .int a2, .null, .null, .null, .null], [])] (hp L xs A V K T) v h'))))) : am_fin [(z_M_wins, 0, [.ref 36, .int a1, .int a2, .null, .null, .null, .null], [])] (hp L xs A V K T) v h' :=
  fn_iload_n rl_M_wins_0 rfl (fn_stat (as := [.int a1]) (r := []) (ls' := [.int a1]) rl_M_wins_1 rfl rfl rfl rfl pl_M_isLand rfl rfl (fn_iload_n rl_M_isLand_0 rfl (fn_i2l rl_M_isLand_1 (fn_lconst rl_M_isLand_2 (fn_ldc2_w rl_M_isLand_3 (fn_stat (as := [.long ((a1 : Int32).toInt64), .long ((0 : Int32).toInt64), .long ((5 : Int32).toInt64)]) (r := []) (ls' := [.long ((a1 : Int32).toInt64), .null, .long ((0 : Int32).toInt64), .null, .long ((5 : Int32).toInt64), .null]) rl_M_isLand_6 rfl rfl rfl rfl pl_M_in rfl rfl (fn_lload_n rl_M_in_0 rfl (fn_lload_n rl_M_in_1 rfl (fn_lcmp rl_M_in_2 (fn_if_lt rl_M_in_3 (fun k2281 => fn_iconst rl_M_in_17 (fn_retci rl_M_in_18 rfl (fn_retci rl_M_isLand_9 rfl (fn_if_eq_t rl_M_wins_4 (by decide +kernel) (fn_iconst rl_M_wins_14 (fn_reti rl_M_wins_15 rfl k2281)))))) (fun k2282 => fn_lload_n rl_M_in_6 rfl (fn_lload rl_M_in_7 rfl (fn_lcmp rl_M_in_9 (fn_if_gt rl_M_in_10 (fun k2279 => fn_iconst rl_M_in_17 (fn_retci rl_M_in_18 rfl (fn_retci rl_M_isLand_9 rfl (fn_if_eq_t rl_M_wins_4 (by decide +kernel) (fn_iconst rl_M_wins_14 (fn_reti rl_M_wins_15 rfl k2279)))))) (fun k2280 => fn_iconst rl_M_in_13 (fn_goto rl_M_in_14 (fn_retci rl_M_in_18 rfl (fn_retci rl_M_isLand_9 rfl (fn_if_eq_f rl_M_wins_4 (by decide +kernel) (fn_iload_n rl_M_wins_7 rfl (fn_stat (as := [.int a2]) (r := []) (ls' := [.int a2]) rl_M_wins_8 rfl rfl rfl rfl pl_M_isYear rfl rfl (fn_iload_n rl_M_isYear_0 rfl (fn_i2l rl_M_isYear_1 (fn_lconst rl_M_isYear_2 (fn_ldc2_w rl_M_isYear_3 (fn_stat (as := [.long ((a2 : Int32).toInt64), .long ((0 : Int32).toInt64), .long ((2 : Int32).toInt64)]) (r := []) (ls' := [.long ((a2 : Int32).toInt64), .null, .long ((0 : Int32).toInt64), .null, .long ((2 : Int32).toInt64), .null]) rl_M_isYear_6 rfl rfl rfl rfl pl_M_in rfl rfl (fn_lload_n rl_M_in_0 rfl (fn_lload_n rl_M_in_1 rfl (fn_lcmp rl_M_in_2 (fn_if_lt rl_M_in_3 (fun k2277 => fn_iconst rl_M_in_17 (fn_retci rl_M_in_18 rfl (fn_retci rl_M_isYear_9 rfl (fn_if_ne_t rl_M_wins_11 (by decide +kernel) (fn_iconst rl_M_wins_14 (fn_reti rl_M_wins_15 rfl k2277)))))) (fun k2278 => fn_lload_n rl_M_in_6 rfl (fn_lload rl_M_in_7 rfl (fn_lcmp rl_M_in_9 (fn_if_gt rl_M_in_10 (fun k2275 => fn_iconst rl_M_in_17 (fn_retci rl_M_in_18 rfl (fn_retci rl_M_isYear_9 rfl (fn_if_ne_t rl_M_wins_11 (by decide +kernel) (fn_iconst rl_M_wins_14 (fn_reti rl_M_wins_15 rfl k2275)))))) (fun k2276 => fn_iconst rl_M_in_13 (fn_goto rl_M_in_14 (fn_retci rl_M_in_18 rfl (fn_retci rl_M_isYear_9 rfl (fn_if_ne_f rl_M_wins_11 (by decide +kernel) (fn_aload_n rl_M_wins_16 rfl (fn_virt (as := [.ref 36]) (r := []) (ls' := [.ref 36, .null, .null, .null]) rl_M_wins_17 rfl hp_36 rfl rfl pl_M_laysCounts rfl rfl (k2276)))))))) k2278)))) k2280)))))))))))))))) k2282)))) k0))))))))))
set_option maxRecDepth 100000 in
set_option maxHeartbeats 4000000 in
theorem sg_M_wins_20r {L : Nat} {xs : Nat → Int32} {A V : Nat → Nat → Int32} {K : Nat → Option Nat} {T : am_H} {v : Option Int32} {h' : am_H} {v1 v2 : Int32} (k0 :
    am_fin [(z_M_claiming, 0, [.ref 36, .int v2, .null, .null], []), (z_M_wins, 25, [.ref 36, .int v1, .int v2, .null, .null, .null, .null], [])] (hp L xs A V K T) v h') : am_fin [(z_M_wins, 20, [.ref 36, .int v1, .int v2, .null, .null, .null, .null], [])] (hp L xs A V K T) v h' :=
  fn_aload_n rl_M_wins_20 rfl (fn_iload_n rl_M_wins_21 rfl (fn_virt (as := [.ref 36, .int v2]) (r := []) (ls' := [.ref 36, .int v2, .null, .null]) rl_M_wins_22 rfl hp_36 rfl rfl pl_M_claiming rfl rfl (k0)))
set_option maxRecDepth 100000 in
set_option maxHeartbeats 4000000 in
theorem sg_M_wins_25r {L : Nat} {xs : Nat → Int32} {A V : Nat → Nat → Int32} {K : Nat → Option Nat} {T : am_H} {v : Option Int32} {h' : am_H} {v1 v2 r : Int32} (k0 :
    if (((r : Int32) >>> (v1 &&& 31 : Int32)) &&& 1) = 0 then (
      v = some (-2) ∧ h' = hp L xs A V K T)
    else (
      am_fin [(z_M_wins, 43, [.ref 36, .int v1, .int v2, .int r, .int 0, .int 0, .null], [])] (hp L xs A V K T) v h')) : am_fin [(z_M_wins, 25, [.ref 36, .int v1, .int v2, .null, .null, .null, .null], [.int r])] (hp L xs A V K T) v h' :=
  fn_istore_n (ls' := [.ref 36, .int v1, .int v2, .int r, .null, .null, .null]) rl_M_wins_25 rfl rfl (fn_iload_n rl_M_wins_26 rfl (fn_iload_n rl_M_wins_27 rfl (fn_ishr rl_M_wins_28 (fn_iconst rl_M_wins_29 (fn_iand rl_M_wins_30 (fn_if_ne rl_M_wins_31 (fun k2283 => fn_bipush rl_M_wins_34 (fn_reti rl_M_wins_36 rfl k2283)) (fun k2284 => fn_iconst rl_M_wins_37 (fn_istore (ls' := [.ref 36, .int v1, .int v2, .int r, .int 0, .null, .null]) rl_M_wins_38 rfl rfl (fn_iconst rl_M_wins_40 (fn_istore (ls' := [.ref 36, .int v1, .int v2, .int r, .int 0, .int 0, .null]) rl_M_wins_41 rfl rfl (k2284))))) k0))))))
set_option maxRecDepth 100000 in
set_option maxHeartbeats 4000000 in
theorem sg_M_wins_43 {L : Nat} {xs : Nat → Int32} {A V : Nat → Nat → Int32} {K : Nat → Option Nat} {T : am_H} {v : Option Int32} {h' : am_H} {v1 v2 v3 v4 v5 : Int32} (k0 :
    if 6 ≤ v5 then (
      v = some v4 ∧ h' = hp L xs A V K T)
    else (
      if v5 = v1 then (
        am_fin [(z_M_wins, 43, [.ref 36, .int v1, .int v2, .int v3, .int (v4 + 0), .int (v5 + 1), .int 0], [])] (hp L xs A V K T) v h')
      else (
        if (((v3 : Int32) >>> (v5 &&& 31 : Int32)) &&& 1) = 1 then (
          am_fin [(z_M_answer, 0, [.ref 36, .int v1, .int v5, .int v2, .null, .null], []), (z_M_wins, 88, [.ref 36, .int v1, .int v2, .int v3, .int v4, .int v5, .int 1], [.int v4])] (hp L xs A V K T) v h')
        else (
          am_fin [(z_M_wins, 43, [.ref 36, .int v1, .int v2, .int v3, .int (v4 + 0), .int (v5 + 1), .int 0], [])] (hp L xs A V K T) v h')))) : am_fin [(z_M_wins, 43, [.ref 36, .int v1, .int v2, .int v3, .int v4, .int v5, .null], [])] (hp L xs A V K T) v h' :=
  fn_iload rl_M_wins_43 rfl (fn_bipush rl_M_wins_45 (fn_icmp_ge rl_M_wins_47 (fun k2289 => fn_iload rl_M_wins_118 rfl (fn_reti rl_M_wins_120 rfl k2289)) (fun k2290 => fn_iload rl_M_wins_50 rfl (fn_iload_n rl_M_wins_52 rfl (fn_icmp_eq rl_M_wins_53 (fun k2287 => fn_iconst rl_M_wins_70 (fn_istore (ls' := [.ref 36, .int v1, .int v2, .int v3, .int v4, .int v5, .int 0]) rl_M_wins_71 rfl rfl (fn_iload rl_M_wins_73 rfl (fn_iload rl_M_wins_75 rfl (fn_if_eq_t rl_M_wins_77 (by decide +kernel) (fn_iconst rl_M_wins_108 (fn_iadd rl_M_wins_109 (fn_istore (ls' := [.ref 36, .int v1, .int v2, .int v3, .int (v4 + 0), .int v5, .int 0]) rl_M_wins_110 rfl rfl (fn_iinc (ls' := [.ref 36, .int v1, .int v2, .int v3, .int (v4 + 0), .int (v5 + 1), .int 0]) rl_M_wins_112 rfl rfl rfl (fn_goto rl_M_wins_115 (k2287))))))))))) (fun k2288 => fn_iload_n rl_M_wins_56 rfl (fn_iload rl_M_wins_57 rfl (fn_ishr rl_M_wins_59 (fn_iconst rl_M_wins_60 (fn_iand rl_M_wins_61 (fn_iconst rl_M_wins_62 (fn_icmp_ne rl_M_wins_63 (fun k2285 => fn_iconst rl_M_wins_66 (fn_goto rl_M_wins_67 (fn_istore (ls' := [.ref 36, .int v1, .int v2, .int v3, .int v4, .int v5, .int 1]) rl_M_wins_71 rfl rfl (fn_iload rl_M_wins_73 rfl (fn_iload rl_M_wins_75 rfl (fn_if_eq_f rl_M_wins_77 (by decide +kernel) (fn_aload_n rl_M_wins_80 rfl (fn_iload_n rl_M_wins_81 rfl (fn_iload rl_M_wins_82 rfl (fn_iload_n rl_M_wins_84 rfl (fn_virt (as := [.ref 36, .int v1, .int v5, .int v2]) (r := [.int v4]) (ls' := [.ref 36, .int v1, .int v5, .int v2, .null, .null]) rl_M_wins_85 rfl hp_36 rfl rfl pl_M_answer rfl rfl (k2285)))))))))))) (fun k2286 => fn_iconst rl_M_wins_70 (fn_istore (ls' := [.ref 36, .int v1, .int v2, .int v3, .int v4, .int v5, .int 0]) rl_M_wins_71 rfl rfl (fn_iload rl_M_wins_73 rfl (fn_iload rl_M_wins_75 rfl (fn_if_eq_t rl_M_wins_77 (by decide +kernel) (fn_iconst rl_M_wins_108 (fn_iadd rl_M_wins_109 (fn_istore (ls' := [.ref 36, .int v1, .int v2, .int v3, .int (v4 + 0), .int v5, .int 0]) rl_M_wins_110 rfl rfl (fn_iinc (ls' := [.ref 36, .int v1, .int v2, .int v3, .int (v4 + 0), .int (v5 + 1), .int 0]) rl_M_wins_112 rfl rfl rfl (fn_goto rl_M_wins_115 (k2286))))))))))) k2288))))))) k2290))) k0))
set_option maxRecDepth 100000 in
set_option maxHeartbeats 4000000 in
theorem sg_M_wins_43b {L : Nat} {xs : Nat → Int32} {A V : Nat → Nat → Int32} {K : Nat → Option Nat} {T : am_H} {v : Option Int32} {h' : am_H} {v1 v2 v3 v4 v5 v6 : Int32} (k0 :
    if 6 ≤ v5 then (
      v = some v4 ∧ h' = hp L xs A V K T)
    else (
      if v5 = v1 then (
        am_fin [(z_M_wins, 43, [.ref 36, .int v1, .int v2, .int v3, .int (v4 + 0), .int (v5 + 1), .int 0], [])] (hp L xs A V K T) v h')
      else (
        if (((v3 : Int32) >>> (v5 &&& 31 : Int32)) &&& 1) = 1 then (
          am_fin [(z_M_answer, 0, [.ref 36, .int v1, .int v5, .int v2, .null, .null], []), (z_M_wins, 88, [.ref 36, .int v1, .int v2, .int v3, .int v4, .int v5, .int 1], [.int v4])] (hp L xs A V K T) v h')
        else (
          am_fin [(z_M_wins, 43, [.ref 36, .int v1, .int v2, .int v3, .int (v4 + 0), .int (v5 + 1), .int 0], [])] (hp L xs A V K T) v h')))) : am_fin [(z_M_wins, 43, [.ref 36, .int v1, .int v2, .int v3, .int v4, .int v5, .int v6], [])] (hp L xs A V K T) v h' :=
  fn_iload rl_M_wins_43 rfl (fn_bipush rl_M_wins_45 (fn_icmp_ge rl_M_wins_47 (fun k2295 => fn_iload rl_M_wins_118 rfl (fn_reti rl_M_wins_120 rfl k2295)) (fun k2296 => fn_iload rl_M_wins_50 rfl (fn_iload_n rl_M_wins_52 rfl (fn_icmp_eq rl_M_wins_53 (fun k2293 => fn_iconst rl_M_wins_70 (fn_istore (ls' := [.ref 36, .int v1, .int v2, .int v3, .int v4, .int v5, .int 0]) rl_M_wins_71 rfl rfl (fn_iload rl_M_wins_73 rfl (fn_iload rl_M_wins_75 rfl (fn_if_eq_t rl_M_wins_77 (by decide +kernel) (fn_iconst rl_M_wins_108 (fn_iadd rl_M_wins_109 (fn_istore (ls' := [.ref 36, .int v1, .int v2, .int v3, .int (v4 + 0), .int v5, .int 0]) rl_M_wins_110 rfl rfl (fn_iinc (ls' := [.ref 36, .int v1, .int v2, .int v3, .int (v4 + 0), .int (v5 + 1), .int 0]) rl_M_wins_112 rfl rfl rfl (fn_goto rl_M_wins_115 (k2293))))))))))) (fun k2294 => fn_iload_n rl_M_wins_56 rfl (fn_iload rl_M_wins_57 rfl (fn_ishr rl_M_wins_59 (fn_iconst rl_M_wins_60 (fn_iand rl_M_wins_61 (fn_iconst rl_M_wins_62 (fn_icmp_ne rl_M_wins_63 (fun k2291 => fn_iconst rl_M_wins_66 (fn_goto rl_M_wins_67 (fn_istore (ls' := [.ref 36, .int v1, .int v2, .int v3, .int v4, .int v5, .int 1]) rl_M_wins_71 rfl rfl (fn_iload rl_M_wins_73 rfl (fn_iload rl_M_wins_75 rfl (fn_if_eq_f rl_M_wins_77 (by decide +kernel) (fn_aload_n rl_M_wins_80 rfl (fn_iload_n rl_M_wins_81 rfl (fn_iload rl_M_wins_82 rfl (fn_iload_n rl_M_wins_84 rfl (fn_virt (as := [.ref 36, .int v1, .int v5, .int v2]) (r := [.int v4]) (ls' := [.ref 36, .int v1, .int v5, .int v2, .null, .null]) rl_M_wins_85 rfl hp_36 rfl rfl pl_M_answer rfl rfl (k2291)))))))))))) (fun k2292 => fn_iconst rl_M_wins_70 (fn_istore (ls' := [.ref 36, .int v1, .int v2, .int v3, .int v4, .int v5, .int 0]) rl_M_wins_71 rfl rfl (fn_iload rl_M_wins_73 rfl (fn_iload rl_M_wins_75 rfl (fn_if_eq_t rl_M_wins_77 (by decide +kernel) (fn_iconst rl_M_wins_108 (fn_iadd rl_M_wins_109 (fn_istore (ls' := [.ref 36, .int v1, .int v2, .int v3, .int (v4 + 0), .int v5, .int 0]) rl_M_wins_110 rfl rfl (fn_iinc (ls' := [.ref 36, .int v1, .int v2, .int v3, .int (v4 + 0), .int (v5 + 1), .int 0]) rl_M_wins_112 rfl rfl rfl (fn_goto rl_M_wins_115 (k2292))))))))))) k2294))))))) k2296))) k0))
set_option maxRecDepth 100000 in
set_option maxHeartbeats 4000000 in
theorem sg_M_wins_88r {L : Nat} {xs : Nat → Int32} {A V : Nat → Nat → Int32} {K : Nat → Option Nat} {T : am_H} {v : Option Int32} {h' : am_H} {v1 v2 v3 v4 v5 v6 s0 r : Int32} (k0 :
    if r = v1 then (
      am_fin [(z_M_answer, 0, [.ref 36, .int v5, .int v1, .int v2, .null, .null], []), (z_M_wins, 100, [.ref 36, .int v1, .int v2, .int v3, .int v4, .int v5, .int v6], [.int s0])] (hp L xs A V K T) v h')
    else (
      am_fin [(z_M_wins, 43, [.ref 36, .int v1, .int v2, .int v3, .int (s0 + 0), .int (v5 + 1), .int v6], [])] (hp L xs A V K T) v h')) : am_fin [(z_M_wins, 88, [.ref 36, .int v1, .int v2, .int v3, .int v4, .int v5, .int v6], [.int r, .int s0])] (hp L xs A V K T) v h' :=
  fn_iload_n rl_M_wins_88 rfl (fn_icmp_ne rl_M_wins_89 (fun k2297 => fn_aload_n rl_M_wins_92 rfl (fn_iload rl_M_wins_93 rfl (fn_iload_n rl_M_wins_95 rfl (fn_iload_n rl_M_wins_96 rfl (fn_virt (as := [.ref 36, .int v5, .int v1, .int v2]) (r := [.int s0]) (ls' := [.ref 36, .int v5, .int v1, .int v2, .null, .null]) rl_M_wins_97 rfl hp_36 rfl rfl pl_M_answer rfl rfl (k2297)))))) (fun k2298 => fn_iconst rl_M_wins_108 (fn_iadd rl_M_wins_109 (fn_istore (ls' := [.ref 36, .int v1, .int v2, .int v3, .int (s0 + 0), .int v5, .int v6]) rl_M_wins_110 rfl rfl (fn_iinc (ls' := [.ref 36, .int v1, .int v2, .int v3, .int (s0 + 0), .int (v5 + 1), .int v6]) rl_M_wins_112 rfl rfl rfl (fn_goto rl_M_wins_115 (k2298)))))) k0)
set_option maxRecDepth 100000 in
set_option maxHeartbeats 4000000 in
theorem sg_M_wins_100r {L : Nat} {xs : Nat → Int32} {A V : Nat → Nat → Int32} {K : Nat → Option Nat} {T : am_H} {v : Option Int32} {h' : am_H} {v1 v2 v3 v4 v5 v6 s0 r : Int32} (k0 :
    if r = v1 then (
      am_fin [(z_M_wins, 43, [.ref 36, .int v1, .int v2, .int v3, .int (s0 + 1), .int (v5 + 1), .int v6], [])] (hp L xs A V K T) v h')
    else (
      am_fin [(z_M_wins, 43, [.ref 36, .int v1, .int v2, .int v3, .int (s0 + 0), .int (v5 + 1), .int v6], [])] (hp L xs A V K T) v h')) : am_fin [(z_M_wins, 100, [.ref 36, .int v1, .int v2, .int v3, .int v4, .int v5, .int v6], [.int r, .int s0])] (hp L xs A V K T) v h' :=
  fn_iload_n rl_M_wins_100 rfl (fn_icmp_ne rl_M_wins_101 (fun k2299 => fn_iconst rl_M_wins_104 (fn_goto rl_M_wins_105 (fn_iadd rl_M_wins_109 (fn_istore (ls' := [.ref 36, .int v1, .int v2, .int v3, .int (s0 + 1), .int v5, .int v6]) rl_M_wins_110 rfl rfl (fn_iinc (ls' := [.ref 36, .int v1, .int v2, .int v3, .int (s0 + 1), .int (v5 + 1), .int v6]) rl_M_wins_112 rfl rfl rfl (fn_goto rl_M_wins_115 (k2299))))))) (fun k2300 => fn_iconst rl_M_wins_108 (fn_iadd rl_M_wins_109 (fn_istore (ls' := [.ref 36, .int v1, .int v2, .int v3, .int (s0 + 0), .int v5, .int v6]) rl_M_wins_110 rfl rfl (fn_iinc (ls' := [.ref 36, .int v1, .int v2, .int v3, .int (s0 + 0), .int (v5 + 1), .int v6]) rl_M_wins_112 rfl rfl rfl (fn_goto rl_M_wins_115 (k2300)))))) k0)
set_option maxRecDepth 100000 in
set_option maxHeartbeats 4000000 in
theorem sg_M_count_0 {L : Nat} {xs : Nat → Int32} {A V : Nat → Nat → Int32} {K : Nat → Option Nat} {T : am_H} {v : Option Int32} {h' : am_H} {a1 : Int32} (k0 :
    if a1 = 0 then (
      am_fin [(z_M_count, 42, [.ref 36, .int a1, .int 0, .int 0], [])] (hp L xs A V K T) v h')
    else (
      if a1 = 1 then (
      am_fin [(z_M_count, 77, [.ref 36, .int a1, .int 0, .int 0], [])] (hp L xs A V K T) v h')
    else (
      if a1 = 2 then (
      am_fin [(z_M_allOverstays, 0, [.ref 36, .null, .null], []), (z_M_count, 107, [.ref 36, .int a1, .int 0, .null], [])] (hp L xs A V K T) v h')
    else (
      if a1 = 3 then (
      am_fin [(z_M_allStays, 0, [.ref 36, .null, .null], []), (z_M_count, 112, [.ref 36, .int a1, .int 0, .null], [])] (hp L xs A V K T) v h')
    else (
      if a1 = 4 then (
      v = some (V 36 7) ∧ h' = hp L xs A V K T)
    else (
      if a1 = 5 then (
      v = some (V 36 23) ∧ h' = hp L xs A V K T)
    else (
      v = some (-1) ∧ h' = hp L xs A V K T))))))) : am_fin [(z_M_count, 0, [.ref 36, .int a1, .null, .null], [])] (hp L xs A V K T) v h' :=
  fn_iconst rl_M_count_0 (fn_istore_n (ls' := [.ref 36, .int a1, .int 0, .null]) rl_M_count_1 rfl rfl (fn_iload_n rl_M_count_2 rfl (fn_tableP rl_M_count_3 (fn_swC (tg := 0) (F := fun t => am_fin ((z_M_count, t, [.ref 36, .int a1, .int 0, .null], []) :: []) (hp L xs A V K T) v h') (fun k2311 => fn_iconst rl_M_count_40 (fn_istore_n (ls' := [.ref 36, .int a1, .int 0, .int 0]) rl_M_count_41 rfl rfl (k2311))) (fun k2312 => fn_swC (tg := 0) (F := fun t => am_fin ((z_M_count, t, [.ref 36, .int a1, .int 0, .null], []) :: []) (hp L xs A V K T) v h') (fun k2309 => fn_iconst rl_M_count_75 (fn_istore_n (ls' := [.ref 36, .int a1, .int 0, .int 0]) rl_M_count_76 rfl rfl (k2309))) (fun k2310 => fn_swC (tg := 0) (F := fun t => am_fin ((z_M_count, t, [.ref 36, .int a1, .int 0, .null], []) :: []) (hp L xs A V K T) v h') (fun k2307 => fn_aload_n rl_M_count_103 rfl (fn_virt (as := [.ref 36]) (r := []) (ls' := [.ref 36, .null, .null]) rl_M_count_104 rfl hp_36 rfl rfl pl_M_allOverstays rfl rfl (k2307))) (fun k2308 => fn_swC (tg := 0) (F := fun t => am_fin ((z_M_count, t, [.ref 36, .int a1, .int 0, .null], []) :: []) (hp L xs A V K T) v h') (fun k2305 => fn_aload_n rl_M_count_108 rfl (fn_virt (as := [.ref 36]) (r := []) (ls' := [.ref 36, .null, .null]) rl_M_count_109 rfl hp_36 rfl rfl pl_M_allStays rfl rfl (k2305))) (fun k2306 => fn_swC (tg := 0) (F := fun t => am_fin ((z_M_count, t, [.ref 36, .int a1, .int 0, .null], []) :: []) (hp L xs A V K T) v h') (fun k2303 => fn_aload_n rl_M_count_113 rfl (fn_get rl_M_count_114 hp_36 rfl (fn_reti rl_M_count_117 rfl k2303))) (fun k2304 => fn_swC (tg := 0) (F := fun t => am_fin ((z_M_count, t, [.ref 36, .int a1, .int 0, .null], []) :: []) (hp L xs A V K T) v h') (fun k2301 => fn_aload_n rl_M_count_118 rfl (fn_get rl_M_count_119 hp_36 rfl (fn_reti rl_M_count_122 rfl k2301))) (fun k2302 => fn_iconst rl_M_count_123 (fn_reti rl_M_count_124 rfl k2302)) k2304) k2306) k2308) k2310) k2312) k0))))
set_option maxRecDepth 100000 in
set_option maxHeartbeats 4000000 in
theorem sg_M_count_42 {L : Nat} {xs : Nat → Int32} {A V : Nat → Nat → Int32} {K : Nat → Option Nat} {T : am_H} {v : Option Int32} {h' : am_H} {v1 v2 v3 : Int32} (k0 :
    if 1080 ≤ v3 then (
      v = some v2 ∧ h' = hp L xs A V K T)
    else (
      ¬ (v3 < 0 ∨ 1080 ≤ v3.toNatClampNeg) ∧ (
      if ((A 37) v3.toNatClampNeg) = (-1) then (
        am_fin [(z_M_count, 42, [.ref 36, .int v1, .int (v2 + 0), .int (v3 + 1)], [])] (hp L xs A V K T) v h')
      else (
        am_fin [(z_M_count, 42, [.ref 36, .int v1, .int (v2 + 1), .int (v3 + 1)], [])] (hp L xs A V K T) v h')))) : am_fin [(z_M_count, 42, [.ref 36, .int v1, .int v2, .int v3], [])] (hp L xs A V K T) v h' :=
  fn_iload_n rl_M_count_42 rfl (fn_sipush rl_M_count_43 (fn_icmp_ge rl_M_count_46 (fun k2316 => fn_iload_n rl_M_count_73 rfl (fn_reti rl_M_count_74 rfl k2316)) (fun k2317 => fn_iload_n rl_M_count_49 rfl (fn_aload_n rl_M_count_50 rfl (fn_get rl_M_count_51 hp_36 rfl (fn_iload_n rl_M_count_54 rfl (fn_iald rl_M_count_55 hp_37 (fun k2315 => fn_iconst rl_M_count_56 (fn_icmp_ne rl_M_count_57 (fun k2313 => fn_iconst rl_M_count_60 (fn_goto rl_M_count_61 (fn_iadd rl_M_count_65 (fn_istore_n (ls' := [.ref 36, .int v1, .int (v2 + 0), .int v3]) rl_M_count_66 rfl rfl (fn_iinc (ls' := [.ref 36, .int v1, .int (v2 + 0), .int (v3 + 1)]) rl_M_count_67 rfl rfl rfl (fn_goto rl_M_count_70 (k2313))))))) (fun k2314 => fn_iconst rl_M_count_64 (fn_iadd rl_M_count_65 (fn_istore_n (ls' := [.ref 36, .int v1, .int (v2 + 1), .int v3]) rl_M_count_66 rfl rfl (fn_iinc (ls' := [.ref 36, .int v1, .int (v2 + 1), .int (v3 + 1)]) rl_M_count_67 rfl rfl rfl (fn_goto rl_M_count_70 (k2314)))))) k2315)) k2317))))) k0))
set_option maxRecDepth 100000 in
set_option maxHeartbeats 4000000 in
theorem sg_M_count_77 {L : Nat} {xs : Nat → Int32} {A V : Nat → Nat → Int32} {K : Nat → Option Nat} {T : am_H} {v : Option Int32} {h' : am_H} {v1 v2 v3 : Int32} (k0 :
    if 6 ≤ v3 then (
      v = some v2 ∧ h' = hp L xs A V K T)
    else (
      ¬ (((13 * v3) + 6) < 0 ∨ 258 ≤ ((13 * v3) + 6).toNatClampNeg) ∧ (
      am_fin [(z_M_count, 77, [.ref 36, .int v1, .int (v2 ||| ((((A 41) ((13 * v3) + 6).toNatClampNeg) : Int32) <<< (v3 &&& 31 : Int32))), .int (v3 + 1)], [])] (hp L xs A V K T) v h'))) : am_fin [(z_M_count, 77, [.ref 36, .int v1, .int v2, .int v3], [])] (hp L xs A V K T) v h' :=
  fn_iload_n rl_M_count_77 rfl (fn_bipush rl_M_count_78 (fn_icmp_ge rl_M_count_80 (fun k2319 => fn_iload_n rl_M_count_101 rfl (fn_reti rl_M_count_102 rfl k2319)) (fun k2320 => fn_iload_n rl_M_count_83 rfl (fn_aload_n rl_M_count_84 rfl (fn_iload_n rl_M_count_85 rfl (fn_bipush rl_M_count_86 (fn_virt (as := [.ref 36, .int v3, .int 6]) (r := [.int v2]) (ls' := [.ref 36, .int v3, .int 6]) rl_M_count_88 rfl hp_36 rfl rfl pl_M_of rfl rfl (fn_aload_n rl_M_of_0 rfl (fn_get rl_M_of_1 hp_36 rfl (fn_bipush rl_M_of_4 (fn_iload_n rl_M_of_6 rfl (fn_imul rl_M_of_7 (fn_iload_n rl_M_of_8 rfl (fn_iadd rl_M_of_9 (fn_iald rl_M_of_10 hp_41 (fun k2318 => fn_retci rl_M_of_11 rfl (fn_iload_n rl_M_count_91 rfl (fn_ishl rl_M_count_92 (fn_ior rl_M_count_93 (fn_istore_n (ls' := [.ref 36, .int v1, .int (v2 ||| ((((A 41) ((13 * v3) + 6).toNatClampNeg) : Int32) <<< (v3 &&& 31 : Int32))), .int v3]) rl_M_count_94 rfl rfl (fn_iinc (ls' := [.ref 36, .int v1, .int (v2 ||| ((((A 41) ((13 * v3) + 6).toNatClampNeg) : Int32) <<< (v3 &&& 31 : Int32))), .int (v3 + 1)]) rl_M_count_95 rfl rfl rfl (fn_goto rl_M_count_98 (k2318)))))))) k2320))))))))))))) k0))
set_option maxRecDepth 100000 in
set_option maxHeartbeats 4000000 in
theorem sg_M_count_107r {L : Nat} {xs : Nat → Int32} {A V : Nat → Nat → Int32} {K : Nat → Option Nat} {T : am_H} {v : Option Int32} {h' : am_H} {v1 v2 r : Int32} (k0 :
    v = some r ∧ h' = hp L xs A V K T) : am_fin [(z_M_count, 107, [.ref 36, .int v1, .int v2, .null], [.int r])] (hp L xs A V K T) v h' :=
  fn_reti rl_M_count_107 rfl k0
set_option maxRecDepth 100000 in
set_option maxHeartbeats 4000000 in
theorem sg_M_count_112r {L : Nat} {xs : Nat → Int32} {A V : Nat → Nat → Int32} {K : Nat → Option Nat} {T : am_H} {v : Option Int32} {h' : am_H} {v1 v2 r : Int32} (k0 :
    v = some r ∧ h' = hp L xs A V K T) : am_fin [(z_M_count, 112, [.ref 36, .int v1, .int v2, .null], [.int r])] (hp L xs A V K T) v h' :=
  fn_reti rl_M_count_112 rfl k0
set_option maxRecDepth 100000 in
set_option maxHeartbeats 4000000 in
theorem sg_M_keep_0 {L : Nat} {xs : Nat → Int32} {A V : Nat → Nat → Int32} {K : Nat → Option Nat} {T : am_H} {v : Option Int32} {h' : am_H} (k0 :
    if (V 36 23) = 8 then (
      v = some (-1) ∧ h' = hp L xs A V K T)
    else (
      am_fin [(z_M_keep, 13, [.ref 36, .int 0], [])] (hp L xs A V K T) v h')) : am_fin [(z_M_keep, 0, [.ref 36, .null], [])] (hp L xs A V K T) v h' :=
  fn_aload_n rl_M_keep_0 rfl (fn_get rl_M_keep_1 hp_36 rfl (fn_bipush rl_M_keep_4 (fn_icmp_ne rl_M_keep_6 (fun k2321 => fn_iconst rl_M_keep_9 (fn_reti rl_M_keep_10 rfl k2321)) (fun k2322 => fn_iconst rl_M_keep_11 (fn_istore_n (ls' := [.ref 36, .int 0]) rl_M_keep_12 rfl rfl (k2322))) k0)))
set_option maxRecDepth 100000 in
set_option maxHeartbeats 4000000 in
theorem sg_M_keep_13 {L : Nat} {xs : Nat → Int32} {A V : Nat → Nat → Int32} {K : Nat → Option Nat} {T : am_H} {v : Option Int32} {h' : am_H} {v1 : Int32} (k0 :
    if 1080 ≤ v1 then (
      am_fin [(z_M_keep, 84, [.ref 36, .int 0], [])] (hp L xs A V K T) v h')
    else (
      ¬ (v1 < 0 ∨ 1080 ≤ v1.toNatClampNeg) ∧ (
      ¬ (v1 < 0 ∨ 1080 ≤ v1.toNatClampNeg) ∧ (
      ¬ (v1 < 0 ∨ 1080 ≤ v1.toNatClampNeg) ∧ (
      ¬ (v1 < 0 ∨ 1080 ≤ v1.toNatClampNeg) ∧ (
      ¬ (((1080 * (V 36 23)) + v1) < 0 ∨ 8640 ≤ ((1080 * (V 36 23)) + v1).toNatClampNeg) ∧ (
      am_fin [(z_M_keep, 13, [.ref 36, .int (v1 + 1)], [])] (hp L xs (upA A 50 (upd (A 50) ((1080 * (V 36 23)) + v1).toNatClampNeg ((((((A 37) v1.toNatClampNeg) + 1) ||| (((((A 39) v1.toNatClampNeg) + 1) : Int32) <<< (3 &&& 31 : Int32))) ||| (((((A 40) v1.toNatClampNeg) + 1) : Int32) <<< (6 &&& 31 : Int32))) ||| ((((A 38) v1.toNatClampNeg) : Int32) <<< (9 &&& 31 : Int32))))) V K T) v h'))))))) : am_fin [(z_M_keep, 13, [.ref 36, .int v1], [])] (hp L xs A V K T) v h' :=
  fn_iload_n rl_M_keep_13 rfl (fn_sipush rl_M_keep_14 (fn_icmp_ge rl_M_keep_17 (fun k2328 => fn_iconst rl_M_keep_82 (fn_istore_n (ls' := [.ref 36, .int 0]) rl_M_keep_83 rfl rfl (k2328))) (fun k2329 => fn_aload_n rl_M_keep_20 rfl (fn_get rl_M_keep_21 hp_36 rfl (fn_sipush rl_M_keep_24 (fn_aload_n rl_M_keep_27 rfl (fn_get rl_M_keep_28 hp_36 rfl (fn_imul rl_M_keep_31 (fn_iload_n rl_M_keep_32 rfl (fn_iadd rl_M_keep_33 (fn_aload_n rl_M_keep_34 rfl (fn_get rl_M_keep_35 hp_36 rfl (fn_iload_n rl_M_keep_38 rfl (fn_iald rl_M_keep_39 hp_37 (fun k2327 => fn_iconst rl_M_keep_40 (fn_iadd rl_M_keep_41 (fn_aload_n rl_M_keep_42 rfl (fn_get rl_M_keep_43 hp_36 rfl (fn_iload_n rl_M_keep_46 rfl (fn_iald rl_M_keep_47 hp_39 (fun k2326 => fn_iconst rl_M_keep_48 (fn_iadd rl_M_keep_49 (fn_iconst rl_M_keep_50 (fn_ishl rl_M_keep_51 (fn_ior rl_M_keep_52 (fn_aload_n rl_M_keep_53 rfl (fn_get rl_M_keep_54 hp_36 rfl (fn_iload_n rl_M_keep_57 rfl (fn_iald rl_M_keep_58 hp_40 (fun k2325 => fn_iconst rl_M_keep_59 (fn_iadd rl_M_keep_60 (fn_bipush rl_M_keep_61 (fn_ishl rl_M_keep_63 (fn_ior rl_M_keep_64 (fn_aload_n rl_M_keep_65 rfl (fn_get rl_M_keep_66 hp_36 rfl (fn_iload_n rl_M_keep_69 rfl (fn_iald rl_M_keep_70 hp_38 (fun k2324 => fn_bipush rl_M_keep_71 (fn_ishl rl_M_keep_73 (fn_ior rl_M_keep_74 (fn_iast rl_M_keep_75 hp_50 hps_50 (fun k2323 => fn_iinc (ls' := [.ref 36, .int (v1 + 1)]) rl_M_keep_76 rfl rfl rfl (fn_goto rl_M_keep_79 (k2323))) k2324)))) k2325))))))))) k2326))))))))) k2327)))))) k2329)))))))))))) k0))
