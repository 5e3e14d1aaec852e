set_option maxRecDepth 100000 in
set_option maxHeartbeats 4000000 in
theorem sg_M_slide_104 {L : Nat} {xs : Nat → Int32} {A V : Nat → Nat → Int32} {K : Nat → Option Nat} {T : am_H} {v : Option Int32} {h' : am_H} {v1 v2 v3 v4 v5 : Int32} (k0 :
    if 1080 ≤ v5 then (
      v = some v4 ∧ h' = hp L xs A V K T)
    else (
      ¬ (v5 < 0 ∨ 1080 ≤ v5.toNatClampNeg) ∧ (
      ¬ (v5 < 0 ∨ 1080 ≤ v5.toNatClampNeg) ∧ (
      if ((A 37) v5.toNatClampNeg) = ((A 46) v5.toNatClampNeg) then (
        am_fin [(z_M_slide, 104, [.ref 36, .int v1, .int v2, .int v3, .int (v4 + 0), .int (v5 + 1)], [])] (hp L xs A V K T) v h')
      else (
        am_fin [(z_M_slide, 104, [.ref 36, .int v1, .int v2, .int v3, .int (v4 + 1), .int (v5 + 1)], [])] (hp L xs A V K T) v h'))))) : am_fin [(z_M_slide, 104, [.ref 36, .int v1, .int v2, .int v3, .int v4, .int v5], [])] (hp L xs A V K T) v h' :=
  fn_iload rl_M_slide_104 rfl (fn_sipush rl_M_slide_106 (fn_icmp_ge rl_M_slide_109 (fun k1700 => fn_iload rl_M_slide_145 rfl (fn_reti rl_M_slide_147 rfl k1700)) (fun k1701 => fn_iload rl_M_slide_112 rfl (fn_aload_n rl_M_slide_114 rfl (fn_get rl_M_slide_115 hp_36 rfl (fn_iload rl_M_slide_118 rfl (fn_iald rl_M_slide_120 hp_37 (fun k1699 => fn_aload_n rl_M_slide_121 rfl (fn_get rl_M_slide_122 hp_36 rfl (fn_iload rl_M_slide_125 rfl (fn_iald rl_M_slide_127 hp_46 (fun k1698 => fn_icmp_ne rl_M_slide_128 (fun k1696 => fn_iconst rl_M_slide_131 (fn_goto rl_M_slide_132 (fn_iadd rl_M_slide_136 (fn_istore (ls' := [.ref 36, .int v1, .int v2, .int v3, .int (v4 + 0), .int v5]) rl_M_slide_137 rfl rfl (fn_iinc (ls' := [.ref 36, .int v1, .int v2, .int v3, .int (v4 + 0), .int (v5 + 1)]) rl_M_slide_139 rfl rfl rfl (fn_goto rl_M_slide_142 (k1696))))))) (fun k1697 => fn_iconst rl_M_slide_135 (fn_iadd rl_M_slide_136 (fn_istore (ls' := [.ref 36, .int v1, .int v2, .int v3, .int (v4 + 1), .int v5]) rl_M_slide_137 rfl rfl (fn_iinc (ls' := [.ref 36, .int v1, .int v2, .int v3, .int (v4 + 1), .int (v5 + 1)]) rl_M_slide_139 rfl rfl rfl (fn_goto rl_M_slide_142 (k1697)))))) k1698) k1699)))) k1701))))) k0))
set_option maxRecDepth 100000 in
set_option maxHeartbeats 4000000 in
theorem sg_M_partner_0 {L : Nat} {xs : Nat → Int32} {A V : Nat → Nat → Int32} {K : Nat → Option Nat} {T : am_H} {v : Option Int32} {h' : am_H} (k0 :
    am_fin [(z_M_partner, 2, [.ref 36, .int 0], [])] (hp L xs A V K T) v h') : am_fin [(z_M_partner, 0, [.ref 36, .null], [])] (hp L xs A V K T) v h' :=
  fn_iconst rl_M_partner_0 (fn_istore_n (ls' := [.ref 36, .int 0]) rl_M_partner_1 rfl rfl (k0))
set_option maxRecDepth 100000 in
set_option maxHeartbeats 4000000 in
theorem sg_M_partner_2 {L : Nat} {xs : Nat → Int32} {A V : Nat → Nat → Int32} {K : Nat → Option Nat} {T : am_H} {v : Option Int32} {h' : am_H} {v1 : Int32} (k0 :
    if 1080 ≤ v1 then (
      am_fin [(z_M_allStays, 0, [.ref 36, .null, .null], []), (z_M_partner, 36, [.ref 36, .int v1], [])] (hp L xs A (upV V 36 5 1) K T) v h')
    else (
      ¬ (v1 < 0 ∨ 1080 ≤ v1.toNatClampNeg) ∧ (
      ¬ (v1 < 0 ∨ 1080 ≤ v1.toNatClampNeg) ∧ (
      am_fin [(z_M_partner, 2, [.ref 36, .int (v1 + 1)], [])] (hp L xs (upA A 40 (upd (A 40) v1.toNatClampNeg ((A 37) v1.toNatClampNeg))) V K T) v h')))) : am_fin [(z_M_partner, 2, [.ref 36, .int v1], [])] (hp L xs A V K T) v h' :=
  fn_iload_n rl_M_partner_2 rfl (fn_sipush rl_M_partner_3 (fn_icmp_ge rl_M_partner_6 (fun k1704 => fn_aload_n rl_M_partner_27 rfl (fn_iconst rl_M_partner_28 (fn_put rl_M_partner_29 hp_36 rfl hpv_36_5 (fn_aload_n rl_M_partner_32 rfl (fn_virt (as := [.ref 36]) (r := []) (ls' := [.ref 36, .null, .null]) rl_M_partner_33 rfl hp_36 rfl rfl pl_M_allStays rfl rfl (k1704)))))) (fun k1705 => fn_aload_n rl_M_partner_9 rfl (fn_get rl_M_partner_10 hp_36 rfl (fn_iload_n rl_M_partner_13 rfl (fn_aload_n rl_M_partner_14 rfl (fn_get rl_M_partner_15 hp_36 rfl (fn_iload_n rl_M_partner_18 rfl (fn_iald rl_M_partner_19 hp_37 (fun k1703 => fn_iast rl_M_partner_20 hp_40 hps_40 (fun k1702 => fn_iinc (ls' := [.ref 36, .int (v1 + 1)]) rl_M_partner_21 rfl rfl rfl (fn_goto rl_M_partner_24 (k1702))) k1703) k1705))))))) k0))
set_option maxRecDepth 100000 in
set_option maxHeartbeats 4000000 in
theorem sg_M_partner_36r {L : Nat} {xs : Nat → Int32} {A V : Nat → Nat → Int32} {K : Nat → Option Nat} {T : am_H} {v : Option Int32} {h' : am_H} {v1 r : Int32} (k0 :
    v = some r ∧ h' = hp L xs A V K T) : am_fin [(z_M_partner, 36, [.ref 36, .int v1], [.int r])] (hp L xs A V K T) v h' :=
  fn_reti rl_M_partner_36 rfl k0
set_option maxRecDepth 100000 in
set_option maxHeartbeats 4000000 in
theorem sg_M_together_0 {L : Nat} {xs : Nat → Int32} {A V : Nat → Nat → Int32} {K : Nat → Option Nat} {T : am_H} {v : Option Int32} {h' : am_H} {a1 a2 : Int32} (k0 :
    if (lg_cmp ((a1 : Int32).toInt64) ((0 : Int32).toInt64)) < 0 then (
      v = some (-1) ∧ h' = hp L xs A V K T)
    else (
      if 0 < (lg_cmp ((a1 : Int32).toInt64) ((2 : Int32).toInt64)) then (
        v = some (-1) ∧ h' = hp L xs A V K T)
      else (
        if (lg_cmp ((a2 : Int32).toInt64) ((0 : Int32).toInt64)) < 0 then (
          v = some (-1) ∧ h' = hp L xs A V K T)
        else (
          if 0 < (lg_cmp ((a2 : Int32).toInt64) ((3 : Int32).toInt64)) then (
            v = some (-1) ∧ h' = hp L xs A V K T)
          else (
            if (V 36 5) = 0 then (
              v = some (-2) ∧ h' = hp L xs A V K T)
            else (
              am_fin [(z_M_together, 49, [.ref 36, .int a1, .int a2, .int 0, .int 0, .int 0, .int 0, .int (360 * a1), .null], [])] (hp L xs A V K T) v h')))))) : am_fin [(z_M_together, 0, [.ref 36, .int a1, .int a2, .null, .null, .null, .null, .null, .null], [])] (hp L xs A V K T) v h' :=
  fn_iload_n rl_M_together_0 rfl (fn_stat (as := [.int a1]) (r := []) (ls' := [.int a1]) rl_M_together_1 rfl rfl rfl rfl pl_M_isYear rfl rfl (fn_iload_n rl_M_isYear_0 rfl (fn_i2l rl_M_isYear_1 (fn_lconst rl_M_isYear_2 (fn_ldc2_w rl_M_isYear_3 (fn_stat (as := [.long ((a1 : Int32).toInt64), .long ((0 : Int32).toInt64), .long ((2 : Int32).toInt64)]) (r := []) (ls' := [.long ((a1 : Int32).toInt64), .null, .long ((0 : Int32).toInt64), .null, .long ((2 : Int32).toInt64), .null]) rl_M_isYear_6 rfl rfl rfl rfl pl_M_in rfl rfl (fn_lload_n rl_M_in_0 rfl (fn_lload_n rl_M_in_1 rfl (fn_lcmp rl_M_in_2 (fn_if_lt rl_M_in_3 (fun k1714 => fn_iconst rl_M_in_17 (fn_retci rl_M_in_18 rfl (fn_retci rl_M_isYear_9 rfl (fn_if_eq_t rl_M_together_4 (by decide +kernel) (fn_iconst rl_M_together_19 (fn_reti rl_M_together_20 rfl k1714)))))) (fun k1715 => fn_lload_n rl_M_in_6 rfl (fn_lload rl_M_in_7 rfl (fn_lcmp rl_M_in_9 (fn_if_gt rl_M_in_10 (fun k1712 => fn_iconst rl_M_in_17 (fn_retci rl_M_in_18 rfl (fn_retci rl_M_isYear_9 rfl (fn_if_eq_t rl_M_together_4 (by decide +kernel) (fn_iconst rl_M_together_19 (fn_reti rl_M_together_20 rfl k1712)))))) (fun k1713 => fn_iconst rl_M_in_13 (fn_goto rl_M_in_14 (fn_retci rl_M_in_18 rfl (fn_retci rl_M_isYear_9 rfl (fn_if_eq_f rl_M_together_4 (by decide +kernel) (fn_iload_n rl_M_together_7 rfl (fn_i2l rl_M_together_8 (fn_lconst rl_M_together_9 (fn_ldc2_w rl_M_together_10 (fn_stat (as := [.long ((a2 : Int32).toInt64), .long ((0 : Int32).toInt64), .long ((3 : Int32).toInt64)]) (r := []) (ls' := [.long ((a2 : Int32).toInt64), .null, .long ((0 : Int32).toInt64), .null, .long ((3 : Int32).toInt64), .null]) rl_M_together_13 rfl rfl rfl rfl pl_M_in rfl rfl (fn_lload_n rl_M_in_0 rfl (fn_lload_n rl_M_in_1 rfl (fn_lcmp rl_M_in_2 (fn_if_lt rl_M_in_3 (fun k1710 => fn_iconst rl_M_in_17 (fn_retci rl_M_in_18 rfl (fn_if_ne_t rl_M_together_16 (by decide +kernel) (fn_iconst rl_M_together_19 (fn_reti rl_M_together_20 rfl k1710))))) (fun k1711 => fn_lload_n rl_M_in_6 rfl (fn_lload rl_M_in_7 rfl (fn_lcmp rl_M_in_9 (fn_if_gt rl_M_in_10 (fun k1708 => fn_iconst rl_M_in_17 (fn_retci rl_M_in_18 rfl (fn_if_ne_t rl_M_together_16 (by decide +kernel) (fn_iconst rl_M_together_19 (fn_reti rl_M_together_20 rfl k1708))))) (fun k1709 => fn_iconst rl_M_in_13 (fn_goto rl_M_in_14 (fn_retci rl_M_in_18 rfl (fn_if_ne_f rl_M_together_16 (by decide +kernel) (fn_aload_n rl_M_together_21 rfl (fn_get rl_M_together_22 hp_36 rfl (fn_if_ne rl_M_together_25 (fun k1706 => fn_bipush rl_M_together_28 (fn_reti rl_M_together_30 rfl k1706)) (fun k1707 => fn_iconst rl_M_together_31 (fn_istore_n (ls' := [.ref 36, .int a1, .int a2, .int 0, .null, .null, .null, .null, .null]) rl_M_together_32 rfl rfl (fn_iconst rl_M_together_33 (fn_istore (ls' := [.ref 36, .int a1, .int a2, .int 0, .int 0, .null, .null, .null, .null]) rl_M_together_34 rfl rfl (fn_iconst rl_M_together_36 (fn_istore (ls' := [.ref 36, .int a1, .int a2, .int 0, .int 0, .int 0, .null, .null, .null]) rl_M_together_37 rfl rfl (fn_iconst rl_M_together_39 (fn_istore (ls' := [.ref 36, .int a1, .int a2, .int 0, .int 0, .int 0, .int 0, .null, .null]) rl_M_together_40 rfl rfl (fn_sipush rl_M_together_42 (fn_iload_n rl_M_together_45 rfl (fn_imul rl_M_together_46 (fn_istore (ls' := [.ref 36, .int a1, .int a2, .int 0, .int 0, .int 0, .int 0, .int (360 * a1), .null]) rl_M_together_47 rfl rfl (k1707))))))))))))) k1709))))))) k1711)))) k1713)))))))))))))) k1715)))) k0))))))))))
set_option maxRecDepth 100000 in
set_option maxHeartbeats 4000000 in
theorem sg_M_together_49 {L : Nat} {xs : Nat → Int32} {A V : Nat → Nat → Int32} {K : Nat → Option Nat} {T : am_H} {v : Option Int32} {h' : am_H} {v1 v2 v3 v4 v5 v6 v7 : Int32} (k0 :
    if ((360 * v1) + 360) ≤ v7 then (
      if v2 = 0 then (
        v = some v3 ∧ h' = hp L xs A V K T)
      else (
        if v2 = 1 then (
          v = some v4 ∧ h' = hp L xs A V K T)
        else (
          if v2 = 2 then (
            v = some v6 ∧ h' = hp L xs A V K T)
          else (
            v = some (360 - v3) ∧ h' = hp L xs A V K T))))
    else (
      ¬ (v7 < 0 ∨ 1080 ≤ v7.toNatClampNeg) ∧ (
      if ((A 37) v7.toNatClampNeg) = (-1) then (
        if v4 ≤ 0 then (
          am_fin [(z_M_together, 49, [.ref 36, .int v1, .int v2, .int (v3 + 0), .int 0, .int 0, .int v6, .int (v7 + 1), .int 0], [])] (hp L xs A V K T) v h')
        else (
          am_fin [(z_M_together, 49, [.ref 36, .int v1, .int v2, .int (v3 + 0), .int v4, .int 0, .int v6, .int (v7 + 1), .int 0], [])] (hp L xs A V K T) v h'))
      else (
        ¬ (v7 < 0 ∨ 1080 ≤ v7.toNatClampNeg) ∧ (
        ¬ (v7 < 0 ∨ 1080 ≤ v7.toNatClampNeg) ∧ (
        if ((A 37) v7.toNatClampNeg) = ((A 40) v7.toNatClampNeg) then (
          if v4 ≤ (v5 + 1) then (
            ¬ (v7 < 0 ∨ 1080 ≤ v7.toNatClampNeg) ∧ (
            am_fin [(z_M_together, 49, [.ref 36, .int v1, .int v2, .int (v3 + 1), .int (v5 + 1), .int (v5 + 1), .int (v6 ||| ((1 : Int32) <<< (((A 37) v7.toNatClampNeg) &&& 31 : Int32))), .int (v7 + 1), .int 1], [])] (hp L xs A V K T) v h'))
          else (
            ¬ (v7 < 0 ∨ 1080 ≤ v7.toNatClampNeg) ∧ (
            am_fin [(z_M_together, 49, [.ref 36, .int v1, .int v2, .int (v3 + 1), .int v4, .int (v5 + 1), .int (v6 ||| ((1 : Int32) <<< (((A 37) v7.toNatClampNeg) &&& 31 : Int32))), .int (v7 + 1), .int 1], [])] (hp L xs A V K T) v h')))
        else (
          if v4 ≤ 0 then (
            am_fin [(z_M_together, 49, [.ref 36, .int v1, .int v2, .int (v3 + 0), .int 0, .int 0, .int v6, .int (v7 + 1), .int 0], [])] (hp L xs A V K T) v h')
          else (
            am_fin [(z_M_together, 49, [.ref 36, .int v1, .int v2, .int (v3 + 0), .int v4, .int 0, .int v6, .int (v7 + 1), .int 0], [])] (hp L xs A V K T) v h')))))))) : am_fin [(z_M_together, 49, [.ref 36, .int v1, .int v2, .int v3, .int v4, .int v5, .int v6, .int v7, .null], [])] (hp L xs A V K T) v h' :=
  fn_iload rl_M_together_49 rfl (fn_sipush rl_M_together_51 (fn_iload_n rl_M_together_54 rfl (fn_imul rl_M_together_55 (fn_sipush rl_M_together_56 (fn_iadd rl_M_together_59 (fn_icmp_ge rl_M_together_60 (fun k1737 => fn_iload_n rl_M_together_165 rfl (fn_if_ne rl_M_together_166 (fun k1720 => fn_iload_n rl_M_together_169 rfl (fn_goto rl_M_together_170 (fn_reti rl_M_together_198 rfl k1720))) (fun k1721 => fn_iload_n rl_M_together_173 rfl (fn_iconst rl_M_together_174 (fn_icmp_ne rl_M_together_175 (fun k1718 => fn_iload rl_M_together_178 rfl (fn_goto rl_M_together_180 (fn_reti rl_M_together_198 rfl k1718))) (fun k1719 => fn_iload_n rl_M_together_183 rfl (fn_iconst rl_M_together_184 (fn_icmp_ne rl_M_together_185 (fun k1716 => fn_iload rl_M_together_188 rfl (fn_goto rl_M_together_190 (fn_reti rl_M_together_198 rfl k1716))) (fun k1717 => fn_sipush rl_M_together_193 (fn_iload_n rl_M_together_196 rfl (fn_isub rl_M_together_197 (fn_reti rl_M_together_198 rfl k1717)))) k1719))) k1721))) k1737)) (fun k1738 => fn_aload_n rl_M_together_63 rfl (fn_get rl_M_together_64 hp_36 rfl (fn_iload rl_M_together_67 rfl (fn_iald rl_M_together_69 hp_37 (fun k1736 => fn_iconst rl_M_together_70 (fn_icmp_eq rl_M_together_71 (fun k1734 => fn_iconst rl_M_together_95 (fn_istore (ls' := [.ref 36, .int v1, .int v2, .int v3, .int v4, .int v5, .int v6, .int v7, .int 0]) rl_M_together_96 rfl rfl (fn_iload rl_M_together_98 rfl (fn_if_eq_t rl_M_together_100 (by decide +kernel) (fn_iconst rl_M_together_110 (fn_istore (ls' := [.ref 36, .int v1, .int v2, .int v3, .int v4, .int 0, .int v6, .int v7, .int 0]) rl_M_together_111 rfl rfl (fn_iload_n rl_M_together_113 rfl (fn_iload rl_M_together_114 rfl (fn_if_eq_t rl_M_together_116 (by decide +kernel) (fn_iconst rl_M_together_123 (fn_iadd rl_M_together_124 (fn_istore_n (ls' := [.ref 36, .int v1, .int v2, .int (v3 + 0), .int v4, .int 0, .int v6, .int v7, .int 0]) rl_M_together_125 rfl rfl (fn_iload rl_M_together_126 rfl (fn_iload rl_M_together_128 rfl (fn_stat (as := [.int v4, .int 0]) (r := []) (ls' := [.int v4, .int 0]) rl_M_together_130 rfl rfl rfl rfl pl_M_more rfl rfl (fn_iload_n rl_M_more_0 rfl (fn_iload_n rl_M_more_1 rfl (fn_icmp_le rl_M_more_2 (fun k1722 => fn_iload_n rl_M_more_9 rfl (fn_retci rl_M_more_10 rfl (fn_istore (ls' := [.ref 36, .int v1, .int v2, .int (v3 + 0), .int 0, .int 0, .int v6, .int v7, .int 0]) rl_M_together_133 rfl rfl (fn_iload rl_M_together_135 rfl (fn_if_eq_t rl_M_together_137 (by decide +kernel) (fn_iload rl_M_together_155 rfl (fn_istore (ls' := [.ref 36, .int v1, .int v2, .int (v3 + 0), .int 0, .int 0, .int v6, .int v7, .int 0]) rl_M_together_157 rfl rfl (fn_iinc (ls' := [.ref 36, .int v1, .int v2, .int (v3 + 0), .int 0, .int 0, .int v6, .int (v7 + 1), .int 0]) rl_M_together_159 rfl rfl rfl (fn_goto rl_M_together_162 (k1722)))))))))) (fun k1723 => fn_iload_n rl_M_more_5 rfl (fn_goto rl_M_more_6 (fn_retci rl_M_more_10 rfl (fn_istore (ls' := [.ref 36, .int v1, .int v2, .int (v3 + 0), .int v4, .int 0, .int v6, .int v7, .int 0]) rl_M_together_133 rfl rfl (fn_iload rl_M_together_135 rfl (fn_if_eq_t rl_M_together_137 (by decide +kernel) (fn_iload rl_M_together_155 rfl (fn_istore (ls' := [.ref 36, .int v1, .int v2, .int (v3 + 0), .int v4, .int 0, .int v6, .int v7, .int 0]) rl_M_together_157 rfl rfl (fn_iinc (ls' := [.ref 36, .int v1, .int v2, .int (v3 + 0), .int v4, .int 0, .int v6, .int (v7 + 1), .int 0]) rl_M_together_159 rfl rfl rfl (fn_goto rl_M_together_162 (k1723))))))))))) k1734)))))))))))))))))) (fun k1735 => fn_aload_n rl_M_together_74 rfl (fn_get rl_M_together_75 hp_36 rfl (fn_iload rl_M_together_78 rfl (fn_iald rl_M_together_80 hp_37 (fun k1733 => fn_aload_n rl_M_together_81 rfl (fn_get rl_M_together_82 hp_36 rfl (fn_iload rl_M_together_85 rfl (fn_iald rl_M_together_87 hp_40 (fun k1732 => fn_icmp_ne rl_M_together_88 (fun k1730 => fn_iconst rl_M_together_91 (fn_goto rl_M_together_92 (fn_istore (ls' := [.ref 36, .int v1, .int v2, .int v3, .int v4, .int v5, .int v6, .int v7, .int 1]) rl_M_together_96 rfl rfl (fn_iload rl_M_together_98 rfl (fn_if_eq_f rl_M_together_100 (by decide +kernel) (fn_iload rl_M_together_103 rfl (fn_iconst rl_M_together_105 (fn_iadd rl_M_together_106 (fn_goto rl_M_together_107 (fn_istore (ls' := [.ref 36, .int v1, .int v2, .int v3, .int v4, .int (v5 + 1), .int v6, .int v7, .int 1]) rl_M_together_111 rfl rfl (fn_iload_n rl_M_together_113 rfl (fn_iload rl_M_together_114 rfl (fn_if_eq_f rl_M_together_116 (by decide +kernel) (fn_iconst rl_M_together_119 (fn_goto rl_M_together_120 (fn_iadd rl_M_together_124 (fn_istore_n (ls' := [.ref 36, .int v1, .int v2, .int (v3 + 1), .int v4, .int (v5 + 1), .int v6, .int v7, .int 1]) rl_M_together_125 rfl rfl (fn_iload rl_M_together_126 rfl (fn_iload rl_M_together_128 rfl (fn_stat (as := [.int v4, .int (v5 + 1)]) (r := []) (ls' := [.int v4, .int (v5 + 1)]) rl_M_together_130 rfl rfl rfl rfl pl_M_more rfl rfl (fn_iload_n rl_M_more_0 rfl (fn_iload_n rl_M_more_1 rfl (fn_icmp_le rl_M_more_2 (fun k1726 => fn_iload_n rl_M_more_9 rfl (fn_retci rl_M_more_10 rfl (fn_istore (ls' := [.ref 36, .int v1, .int v2, .int (v3 + 1), .int (v5 + 1), .int (v5 + 1), .int v6, .int v7, .int 1]) rl_M_together_133 rfl rfl (fn_iload rl_M_together_135 rfl (fn_if_eq_f rl_M_together_137 (by decide +kernel) (fn_iload rl_M_together_140 rfl (fn_iconst rl_M_together_142 (fn_aload_n rl_M_together_143 rfl (fn_get rl_M_together_144 hp_36 rfl (fn_iload rl_M_together_147 rfl (fn_iald rl_M_together_149 hp_37 (fun k1724 => fn_ishl rl_M_together_150 (fn_ior rl_M_together_151 (fn_goto rl_M_together_152 (fn_istore (ls' := [.ref 36, .int v1, .int v2, .int (v3 + 1), .int (v5 + 1), .int (v5 + 1), .int (v6 ||| ((1 : Int32) <<< (((A 37) v7.toNatClampNeg) &&& 31 : Int32))), .int v7, .int 1]) rl_M_together_157 rfl rfl (fn_iinc (ls' := [.ref 36, .int v1, .int v2, .int (v3 + 1), .int (v5 + 1), .int (v5 + 1), .int (v6 ||| ((1 : Int32) <<< (((A 37) v7.toNatClampNeg) &&& 31 : Int32))), .int (v7 + 1), .int 1]) rl_M_together_159 rfl rfl rfl (fn_goto rl_M_together_162 (k1724))))))) k1726))))))))))) (fun k1727 => fn_iload_n rl_M_more_5 rfl (fn_goto rl_M_more_6 (fn_retci rl_M_more_10 rfl (fn_istore (ls' := [.ref 36, .int v1, .int v2, .int (v3 + 1), .int v4, .int (v5 + 1), .int v6, .int v7, .int 1]) rl_M_together_133 rfl rfl (fn_iload rl_M_together_135 rfl (fn_if_eq_f rl_M_together_137 (by decide +kernel) (fn_iload rl_M_together_140 rfl (fn_iconst rl_M_together_142 (fn_aload_n rl_M_together_143 rfl (fn_get rl_M_together_144 hp_36 rfl (fn_iload rl_M_together_147 rfl (fn_iald rl_M_together_149 hp_37 (fun k1725 => fn_ishl rl_M_together_150 (fn_ior rl_M_together_151 (fn_goto rl_M_together_152 (fn_istore (ls' := [.ref 36, .int v1, .int v2, .int (v3 + 1), .int v4, .int (v5 + 1), .int (v6 ||| ((1 : Int32) <<< (((A 37) v7.toNatClampNeg) &&& 31 : Int32))), .int v7, .int 1]) rl_M_together_157 rfl rfl (fn_iinc (ls' := [.ref 36, .int v1, .int v2, .int (v3 + 1), .int v4, .int (v5 + 1), .int (v6 ||| ((1 : Int32) <<< (((A 37) v7.toNatClampNeg) &&& 31 : Int32))), .int (v7 + 1), .int 1]) rl_M_together_159 rfl rfl rfl (fn_goto rl_M_together_162 (k1725))))))) k1727)))))))))))) k1730))))))))))))))))))))))) (fun k1731 => fn_iconst rl_M_together_95 (fn_istore (ls' := [.ref 36, .int v1, .int v2, .int v3, .int v4, .int v5, .int v6, .int v7, .int 0]) rl_M_together_96 rfl rfl (fn_iload rl_M_together_98 rfl (fn_if_eq_t rl_M_together_100 (by decide +kernel) (fn_iconst rl_M_together_110 (fn_istore (ls' := [.ref 36, .int v1, .int v2, .int v3, .int v4, .int 0, .int v6, .int v7, .int 0]) rl_M_together_111 rfl rfl (fn_iload_n rl_M_together_113 rfl (fn_iload rl_M_together_114 rfl (fn_if_eq_t rl_M_together_116 (by decide +kernel) (fn_iconst rl_M_together_123 (fn_iadd rl_M_together_124 (fn_istore_n (ls' := [.ref 36, .int v1, .int v2, .int (v3 + 0), .int v4, .int 0, .int v6, .int v7, .int 0]) rl_M_together_125 rfl rfl (fn_iload rl_M_together_126 rfl (fn_iload rl_M_together_128 rfl (fn_stat (as := [.int v4, .int 0]) (r := []) (ls' := [.int v4, .int 0]) rl_M_together_130 rfl rfl rfl rfl pl_M_more rfl rfl (fn_iload_n rl_M_more_0 rfl (fn_iload_n rl_M_more_1 rfl (fn_icmp_le rl_M_more_2 (fun k1728 => fn_iload_n rl_M_more_9 rfl (fn_retci rl_M_more_10 rfl (fn_istore (ls' := [.ref 36, .int v1, .int v2, .int (v3 + 0), .int 0, .int 0, .int v6, .int v7, .int 0]) rl_M_together_133 rfl rfl (fn_iload rl_M_together_135 rfl (fn_if_eq_t rl_M_together_137 (by decide +kernel) (fn_iload rl_M_together_155 rfl (fn_istore (ls' := [.ref 36, .int v1, .int v2, .int (v3 + 0), .int 0, .int 0, .int v6, .int v7, .int 0]) rl_M_together_157 rfl rfl (fn_iinc (ls' := [.ref 36, .int v1, .int v2, .int (v3 + 0), .int 0, .int 0, .int v6, .int (v7 + 1), .int 0]) rl_M_together_159 rfl rfl rfl (fn_goto rl_M_together_162 (k1728)))))))))) (fun k1729 => fn_iload_n rl_M_more_5 rfl (fn_goto rl_M_more_6 (fn_retci rl_M_more_10 rfl (fn_istore (ls' := [.ref 36, .int v1, .int v2, .int (v3 + 0), .int v4, .int 0, .int v6, .int v7, .int 0]) rl_M_together_133 rfl rfl (fn_iload rl_M_together_135 rfl (fn_if_eq_t rl_M_together_137 (by decide +kernel) (fn_iload rl_M_together_155 rfl (fn_istore (ls' := [.ref 36, .int v1, .int v2, .int (v3 + 0), .int v4, .int 0, .int v6, .int v7, .int 0]) rl_M_together_157 rfl rfl (fn_iinc (ls' := [.ref 36, .int v1, .int v2, .int (v3 + 0), .int v4, .int 0, .int v6, .int (v7 + 1), .int 0]) rl_M_together_159 rfl rfl rfl (fn_goto rl_M_together_162 (k1729))))))))))) k1731)))))))))))))))))) k1732) k1733)))) k1735)))) k1736)) k1738)))) k0))))))
set_option maxRecDepth 100000 in
set_option maxHeartbeats 4000000 in
theorem sg_M_together_49b {L : Nat} {xs : Nat → Int32} {A V : Nat → Nat → Int32} {K : Nat → Option Nat} {T : am_H} {v : Option Int32} {h' : am_H} {v1 v2 v3 v4 v5 v6 v7 v8 : Int32} (k0 :
    if ((360 * v1) + 360) ≤ v7 then (
      if v2 = 0 then (
        v = some v3 ∧ h' = hp L xs A V K T)
      else (
        if v2 = 1 then (
          v = some v4 ∧ h' = hp L xs A V K T)
        else (
          if v2 = 2 then (
            v = some v6 ∧ h' = hp L xs A V K T)
          else (
            v = some (360 - v3) ∧ h' = hp L xs A V K T))))
    else (
      ¬ (v7 < 0 ∨ 1080 ≤ v7.toNatClampNeg) ∧ (
      if ((A 37) v7.toNatClampNeg) = (-1) then (
        if v4 ≤ 0 then (
          am_fin [(z_M_together, 49, [.ref 36, .int v1, .int v2, .int (v3 + 0), .int 0, .int 0, .int v6, .int (v7 + 1), .int 0], [])] (hp L xs A V K T) v h')
        else (
          am_fin [(z_M_together, 49, [.ref 36, .int v1, .int v2, .int (v3 + 0), .int v4, .int 0, .int v6, .int (v7 + 1), .int 0], [])] (hp L xs A V K T) v h'))
      else (
        ¬ (v7 < 0 ∨ 1080 ≤ v7.toNatClampNeg) ∧ (
        ¬ (v7 < 0 ∨ 1080 ≤ v7.toNatClampNeg) ∧ (
        if ((A 37) v7.toNatClampNeg) = ((A 40) v7.toNatClampNeg) then (
          if v4 ≤ (v5 + 1) then (
            ¬ (v7 < 0 ∨ 1080 ≤ v7.toNatClampNeg) ∧ (
            am_fin [(z_M_together, 49, [.ref 36, .int v1, .int v2, .int (v3 + 1), .int (v5 + 1), .int (v5 + 1), .int (v6 ||| ((1 : Int32) <<< (((A 37) v7.toNatClampNeg) &&& 31 : Int32))), .int (v7 + 1), .int 1], [])] (hp L xs A V K T) v h'))
          else (
            ¬ (v7 < 0 ∨ 1080 ≤ v7.toNatClampNeg) ∧ (
            am_fin [(z_M_together, 49, [.ref 36, .int v1, .int v2, .int (v3 + 1), .int v4, .int (v5 + 1), .int (v6 ||| ((1 : Int32) <<< (((A 37) v7.toNatClampNeg) &&& 31 : Int32))), .int (v7 + 1), .int 1], [])] (hp L xs A V K T) v h')))
        else (
          if v4 ≤ 0 then (
            am_fin [(z_M_together, 49, [.ref 36, .int v1, .int v2, .int (v3 + 0), .int 0, .int 0, .int v6, .int (v7 + 1), .int 0], [])] (hp L xs A V K T) v h')
          else (
            am_fin [(z_M_together, 49, [.ref 36, .int v1, .int v2, .int (v3 + 0), .int v4, .int 0, .int v6, .int (v7 + 1), .int 0], [])] (hp L xs A V K T) v h')))))))) : am_fin [(z_M_together, 49, [.ref 36, .int v1, .int v2, .int v3, .int v4, .int v5, .int v6, .int v7, .int v8], [])] (hp L xs A V K T) v h' :=
  fn_iload rl_M_together_49 rfl (fn_sipush rl_M_together_51 (fn_iload_n rl_M_together_54 rfl (fn_imul rl_M_together_55 (fn_sipush rl_M_together_56 (fn_iadd rl_M_together_59 (fn_icmp_ge rl_M_together_60 (fun k1760 => fn_iload_n rl_M_together_165 rfl (fn_if_ne rl_M_together_166 (fun k1743 => fn_iload_n rl_M_together_169 rfl (fn_goto rl_M_together_170 (fn_reti rl_M_together_198 rfl k1743))) (fun k1744 => fn_iload_n rl_M_together_173 rfl (fn_iconst rl_M_together_174 (fn_icmp_ne rl_M_together_175 (fun k1741 => fn_iload rl_M_together_178 rfl (fn_goto rl_M_together_180 (fn_reti rl_M_together_198 rfl k1741))) (fun k1742 => fn_iload_n rl_M_together_183 rfl (fn_iconst rl_M_together_184 (fn_icmp_ne rl_M_together_185 (fun k1739 => fn_iload rl_M_together_188 rfl (fn_goto rl_M_together_190 (fn_reti rl_M_together_198 rfl k1739))) (fun k1740 => fn_sipush rl_M_together_193 (fn_iload_n rl_M_together_196 rfl (fn_isub rl_M_together_197 (fn_reti rl_M_together_198 rfl k1740)))) k1742))) k1744))) k1760)) (fun k1761 => fn_aload_n rl_M_together_63 rfl (fn_get rl_M_together_64 hp_36 rfl (fn_iload rl_M_together_67 rfl (fn_iald rl_M_together_69 hp_37 (fun k1759 => fn_iconst rl_M_together_70 (fn_icmp_eq rl_M_together_71 (fun k1757 => fn_iconst rl_M_together_95 (fn_istore (ls' := [.ref 36, .int v1, .int v2, .int v3, .int v4, .int v5, .int v6, .int v7, .int 0]) rl_M_together_96 rfl rfl (fn_iload rl_M_together_98 rfl (fn_if_eq_t rl_M_together_100 (by decide +kernel) (fn_iconst rl_M_together_110 (fn_istore (ls' := [.ref 36, .int v1, .int v2, .int v3, .int v4, .int 0, .int v6, .int v7, .int 0]) rl_M_together_111 rfl rfl (fn_iload_n rl_M_together_113 rfl (fn_iload rl_M_together_114 rfl (fn_if_eq_t rl_M_together_116 (by decide +kernel) (fn_iconst rl_M_together_123 (fn_iadd rl_M_together_124 (fn_istore_n (ls' := [.ref 36, .int v1, .int v2, .int (v3 + 0), .int v4, .int 0, .int v6, .int v7, .int 0]) rl_M_together_125 rfl rfl (fn_iload rl_M_together_126 rfl (fn_iload rl_M_together_128 rfl (fn_stat (as := [.int v4, .int 0]) (r := []) (ls' := [.int v4, .int 0]) rl_M_together_130 rfl rfl rfl rfl pl_M_more rfl rfl (fn_iload_n rl_M_more_0 rfl (fn_iload_n rl_M_more_1 rfl (fn_icmp_le rl_M_more_2 (fun k1745 => fn_iload_n rl_M_more_9 rfl (fn_retci rl_M_more_10 rfl (fn_istore (ls' := [.ref 36, .int v1, .int v2, .int (v3 + 0), .int 0, .int 0, .int v6, .int v7, .int 0]) rl_M_together_133 rfl rfl (fn_iload rl_M_together_135 rfl (fn_if_eq_t rl_M_together_137 (by decide +kernel) (fn_iload rl_M_together_155 rfl (fn_istore (ls' := [.ref 36, .int v1, .int v2, .int (v3 + 0), .int 0, .int 0, .int v6, .int v7, .int 0]) rl_M_together_157 rfl rfl (fn_iinc (ls' := [.ref 36, .int v1, .int v2, .int (v3 + 0), .int 0, .int 0, .int v6, .int (v7 + 1), .int 0]) rl_M_together_159 rfl rfl rfl (fn_goto rl_M_together_162 (k1745)))))))))) (fun k1746 => fn_iload_n rl_M_more_5 rfl (fn_goto rl_M_more_6 (fn_retci rl_M_more_10 rfl (fn_istore (ls' := [.ref 36, .int v1, .int v2, .int (v3 + 0), .int v4, .int 0, .int v6, .int v7, .int 0]) rl_M_together_133 rfl rfl (fn_iload rl_M_together_135 rfl (fn_if_eq_t rl_M_together_137 (by decide +kernel) (fn_iload rl_M_together_155 rfl (fn_istore (ls' := [.ref 36, .int v1, .int v2, .int (v3 + 0), .int v4, .int 0, .int v6, .int v7, .int 0]) rl_M_together_157 rfl rfl (fn_iinc (ls' := [.ref 36, .int v1, .int v2, .int (v3 + 0), .int v4, .int 0, .int v6, .int (v7 + 1), .int 0]) rl_M_together_159 rfl rfl rfl (fn_goto rl_M_together_162 (k1746))))))))))) k1757)))))))))))))))))) (fun k1758 => fn_aload_n rl_M_together_74 rfl (fn_get rl_M_together_75 hp_36 rfl (fn_iload rl_M_together_78 rfl (fn_iald rl_M_together_80 hp_37 (fun k1756 => fn_aload_n rl_M_together_81 rfl (fn_get rl_M_together_82 hp_36 rfl (fn_iload rl_M_together_85 rfl (fn_iald rl_M_together_87 hp_40 (fun k1755 => fn_icmp_ne rl_M_together_88 (fun k1753 => fn_iconst rl_M_together_91 (fn_goto rl_M_together_92 (fn_istore (ls' := [.ref 36, .int v1, .int v2, .int v3, .int v4, .int v5, .int v6, .int v7, .int 1]) rl_M_together_96 rfl rfl (fn_iload rl_M_together_98 rfl (fn_if_eq_f rl_M_together_100 (by decide +kernel) (fn_iload rl_M_together_103 rfl (fn_iconst rl_M_together_105 (fn_iadd rl_M_together_106 (fn_goto rl_M_together_107 (fn_istore (ls' := [.ref 36, .int v1, .int v2, .int v3, .int v4, .int (v5 + 1), .int v6, .int v7, .int 1]) rl_M_together_111 rfl rfl (fn_iload_n rl_M_together_113 rfl (fn_iload rl_M_together_114 rfl (fn_if_eq_f rl_M_together_116 (by decide +kernel) (fn_iconst rl_M_together_119 (fn_goto rl_M_together_120 (fn_iadd rl_M_together_124 (fn_istore_n (ls' := [.ref 36, .int v1, .int v2, .int (v3 + 1), .int v4, .int (v5 + 1), .int v6, .int v7, .int 1]) rl_M_together_125 rfl rfl (fn_iload rl_M_together_126 rfl (fn_iload rl_M_together_128 rfl (fn_stat (as := [.int v4, .int (v5 + 1)]) (r := []) (ls' := [.int v4, .int (v5 + 1)]) rl_M_together_130 rfl rfl rfl rfl pl_M_more rfl rfl (fn_iload_n rl_M_more_0 rfl (fn_iload_n rl_M_more_1 rfl (fn_icmp_le rl_M_more_2 (fun k1749 => fn_iload_n rl_M_more_9 rfl (fn_retci rl_M_more_10 rfl (fn_istore (ls' := [.ref 36, .int v1, .int v2, .int (v3 + 1), .int (v5 + 1), .int (v5 + 1), .int v6, .int v7, .int 1]) rl_M_together_133 rfl rfl (fn_iload rl_M_together_135 rfl (fn_if_eq_f rl_M_together_137 (by decide +kernel) (fn_iload rl_M_together_140 rfl (fn_iconst rl_M_together_142 (fn_aload_n rl_M_together_143 rfl (fn_get rl_M_together_144 hp_36 rfl (fn_iload rl_M_together_147 rfl (fn_iald rl_M_together_149 hp_37 (fun k1747 => fn_ishl rl_M_together_150 (fn_ior rl_M_together_151 (fn_goto rl_M_together_152 (fn_istore (ls' := [.ref 36, .int v1, .int v2, .int (v3 + 1), .int (v5 + 1), .int (v5 + 1), .int (v6 ||| ((1 : Int32) <<< (((A 37) v7.toNatClampNeg) &&& 31 : Int32))), .int v7, .int 1]) rl_M_together_157 rfl rfl (fn_iinc (ls' := [.ref 36, .int v1, .int v2, .int (v3 + 1), .int (v5 + 1), .int (v5 + 1), .int (v6 ||| ((1 : Int32) <<< (((A 37) v7.toNatClampNeg) &&& 31 : Int32))), .int (v7 + 1), .int 1]) rl_M_together_159 rfl rfl rfl (fn_goto rl_M_together_162 (k1747))))))) k1749))))))))))) (fun k1750 => fn_iload_n rl_M_more_5 rfl (fn_goto rl_M_more_6 (fn_retci rl_M_more_10 rfl (fn_istore (ls' := [.ref 36, .int v1, .int v2, .int (v3 + 1), .int v4, .int (v5 + 1), .int v6, .int v7, .int 1]) rl_M_together_133 rfl rfl (fn_iload rl_M_together_135 rfl (fn_if_eq_f rl_M_together_137 (by decide +kernel) (fn_iload rl_M_together_140 rfl (fn_iconst rl_M_together_142 (fn_aload_n rl_M_together_143 rfl (fn_get rl_M_together_144 hp_36 rfl (fn_iload rl_M_together_147 rfl (fn_iald rl_M_together_149 hp_37 (fun k1748 => fn_ishl rl_M_together_150 (fn_ior rl_M_together_151 (fn_goto rl_M_together_152 (fn_istore (ls' := [.ref 36, .int v1, .int v2, .int (v3 + 1), .int v4, .int (v5 + 1), .int (v6 ||| ((1 : Int32) <<< (((A 37) v7.toNatClampNeg) &&& 31 : Int32))), .int v7, .int 1]) rl_M_together_157 rfl rfl (fn_iinc (ls' := [.ref 36, .int v1, .int v2, .int (v3 + 1), .int v4, .int (v5 + 1), .int (v6 ||| ((1 : Int32) <<< (((A 37) v7.toNatClampNeg) &&& 31 : Int32))), .int (v7 + 1), .int 1]) rl_M_together_159 rfl rfl rfl (fn_goto rl_M_together_162 (k1748))))))) k1750)))))))))))) k1753))))))))))))))))))))))) (fun k1754 => fn_iconst rl_M_together_95 (fn_istore (ls' := [.ref 36, .int v1, .int v2, .int v3, .int v4, .int v5, .int v6, .int v7, .int 0]) rl_M_together_96 rfl rfl (fn_iload rl_M_together_98 rfl (fn_if_eq_t rl_M_together_100 (by decide +kernel) (fn_iconst rl_M_together_110 (fn_istore (ls' := [.ref 36, .int v1, .int v2, .int v3, .int v4, .int 0, .int v6, .int v7, .int 0]) rl_M_together_111 rfl rfl (fn_iload_n rl_M_together_113 rfl (fn_iload rl_M_together_114 rfl (fn_if_eq_t rl_M_together_116 (by decide +kernel) (fn_iconst rl_M_together_123 (fn_iadd rl_M_together_124 (fn_istore_n (ls' := [.ref 36, .int v1, .int v2, .int (v3 + 0), .int v4, .int 0, .int v6, .int v7, .int 0]) rl_M_together_125 rfl rfl (fn_iload rl_M_together_126 rfl (fn_iload rl_M_together_128 rfl (fn_stat (as := [.int v4, .int 0]) (r := []) (ls' := [.int v4, .int 0]) rl_M_together_130 rfl rfl rfl rfl pl_M_more rfl rfl (fn_iload_n rl_M_more_0 rfl (fn_iload_n rl_M_more_1 rfl (fn_icmp_le rl_M_more_2 (fun k1751 => fn_iload_n rl_M_more_9 rfl (fn_retci rl_M_more_10 rfl (fn_istore (ls' := [.ref 36, .int v1, .int v2, .int (v3 + 0), .int 0, .int 0, .int v6, .int v7, .int 0]) rl_M_together_133 rfl rfl (fn_iload rl_M_together_135 rfl (fn_if_eq_t rl_M_together_137 (by decide +kernel) (fn_iload rl_M_together_155 rfl (fn_istore (ls' := [.ref 36, .int v1, .int v2, .int (v3 + 0), .int 0, .int 0, .int v6, .int v7, .int 0]) rl_M_together_157 rfl rfl (fn_iinc (ls' := [.ref 36, .int v1, .int v2, .int (v3 + 0), .int 0, .int 0, .int v6, .int (v7 + 1), .int 0]) rl_M_together_159 rfl rfl rfl (fn_goto rl_M_together_162 (k1751)))))))))) (fun k1752 => fn_iload_n rl_M_more_5 rfl (fn_goto rl_M_more_6 (fn_retci rl_M_more_10 rfl (fn_istore (ls' := [.ref 36, .int v1, .int v2, .int (v3 + 0), .int v4, .int 0, .int v6, .int v7, .int 0]) rl_M_together_133 rfl rfl (fn_iload rl_M_together_135 rfl (fn_if_eq_t rl_M_together_137 (by decide +kernel) (fn_iload rl_M_together_155 rfl (fn_istore (ls' := [.ref 36, .int v1, .int v2, .int (v3 + 0), .int v4, .int 0, .int v6, .int v7, .int 0]) rl_M_together_157 rfl rfl (fn_iinc (ls' := [.ref 36, .int v1, .int v2, .int (v3 + 0), .int v4, .int 0, .int v6, .int (v7 + 1), .int 0]) rl_M_together_159 rfl rfl rfl (fn_goto rl_M_together_162 (k1752))))))))))) k1754)))))))))))))))))) k1755) k1756)))) k1758)))) k1759)) k1761)))) k0))))))
set_option maxRecDepth 100000 in
set_option maxHeartbeats 4000000 in
theorem sg_M_most_0 {L : Nat} {xs : Nat → Int32} {A V : Nat → Nat → Int32} {K : Nat → Option Nat} {T : am_H} {v : Option Int32} {h' : am_H} {a1 a2 a3 : Int32} (k0 :
    if (lg_cmp ((a1 : Int32).toInt64) ((0 : Int32).toInt64)) < 0 then (
      v = some (-1) ∧ h' = hp L xs A V K T)
    else (
      if 0 < (lg_cmp ((a1 : Int32).toInt64) ((5 : Int32).toInt64)) then (
        v = some (-1) ∧ h' = hp L xs A V K T)
      else (
        if (lg_cmp ((a2 : Int32).toInt64) ((0 : Int32).toInt64)) < 0 then (
          v = some (-1) ∧ h' = hp L xs A V K T)
        else (
          if 0 < (lg_cmp ((a2 : Int32).toInt64) ((2 : Int32).toInt64)) then (
            v = some (-1) ∧ h' = hp L xs A V K T)
          else (
            if (lg_cmp ((a3 : Int32).toInt64) ((0 : Int32).toInt64)) < 0 then (
              v = some (-1) ∧ h' = hp L xs A V K T)
            else (
              if 0 < (lg_cmp ((a3 : Int32).toInt64) ((2 : Int32).toInt64)) then (
                v = some (-1) ∧ h' = hp L xs A V K T)
              else (
                am_fin [(z_M_laysCounts, 0, [.ref 36, .null, .null, .null], []), (z_M_most, 32, [.ref 36, .int a1, .int a2, .int a3], [])] (hp L xs A V K T) v h'))))))) : am_fin [(z_M_most, 0, [.ref 36, .int a1, .int a2, .int a3], [])] (hp L xs A V K T) v h' :=
  fn_iload_n rl_M_most_0 rfl (fn_stat (as := [.int a1]) (r := []) (ls' := [.int a1]) rl_M_most_1 rfl rfl rfl rfl pl_M_isLand rfl rfl (fn_iload_n rl_M_isLand_0 rfl (fn_i2l rl_M_isLand_1 (fn_lconst rl_M_isLand_2 (fn_ldc2_w rl_M_isLand_3 (fn_stat (as := [.long ((a1 : Int32).toInt64), .long ((0 : Int32).toInt64), .long ((5 : Int32).toInt64)]) (r := []) (ls' := [.long ((a1 : Int32).toInt64), .null, .long ((0 : Int32).toInt64), .null, .long ((5 : Int32).toInt64), .null]) rl_M_isLand_6 rfl rfl rfl rfl pl_M_in rfl rfl (fn_lload_n rl_M_in_0 rfl (fn_lload_n rl_M_in_1 rfl (fn_lcmp rl_M_in_2 (fn_if_lt rl_M_in_3 (fun k1772 => fn_iconst rl_M_in_17 (fn_retci rl_M_in_18 rfl (fn_retci rl_M_isLand_9 rfl (fn_if_eq_t rl_M_most_4 (by decide +kernel) (fn_iconst rl_M_most_26 (fn_reti rl_M_most_27 rfl k1772)))))) (fun k1773 => fn_lload_n rl_M_in_6 rfl (fn_lload rl_M_in_7 rfl (fn_lcmp rl_M_in_9 (fn_if_gt rl_M_in_10 (fun k1770 => fn_iconst rl_M_in_17 (fn_retci rl_M_in_18 rfl (fn_retci rl_M_isLand_9 rfl (fn_if_eq_t rl_M_most_4 (by decide +kernel) (fn_iconst rl_M_most_26 (fn_reti rl_M_most_27 rfl k1770)))))) (fun k1771 => fn_iconst rl_M_in_13 (fn_goto rl_M_in_14 (fn_retci rl_M_in_18 rfl (fn_retci rl_M_isLand_9 rfl (fn_if_eq_f rl_M_most_4 (by decide +kernel) (fn_iload_n rl_M_most_7 rfl (fn_i2l rl_M_most_8 (fn_lconst rl_M_most_9 (fn_ldc2_w rl_M_most_10 (fn_stat (as := [.long ((a2 : Int32).toInt64), .long ((0 : Int32).toInt64), .long ((2 : Int32).toInt64)]) (r := []) (ls' := [.long ((a2 : Int32).toInt64), .null, .long ((0 : Int32).toInt64), .null, .long ((2 : Int32).toInt64), .null]) rl_M_most_13 rfl rfl rfl rfl pl_M_in rfl rfl (fn_lload_n rl_M_in_0 rfl (fn_lload_n rl_M_in_1 rfl (fn_lcmp rl_M_in_2 (fn_if_lt rl_M_in_3 (fun k1768 => fn_iconst rl_M_in_17 (fn_retci rl_M_in_18 rfl (fn_if_eq_t rl_M_most_16 (by decide +kernel) (fn_iconst rl_M_most_26 (fn_reti rl_M_most_27 rfl k1768))))) (fun k1769 => fn_lload_n rl_M_in_6 rfl (fn_lload rl_M_in_7 rfl (fn_lcmp rl_M_in_9 (fn_if_gt rl_M_in_10 (fun k1766 => fn_iconst rl_M_in_17 (fn_retci rl_M_in_18 rfl (fn_if_eq_t rl_M_most_16 (by decide +kernel) (fn_iconst rl_M_most_26 (fn_reti rl_M_most_27 rfl k1766))))) (fun k1767 => fn_iconst rl_M_in_13 (fn_goto rl_M_in_14 (fn_retci rl_M_in_18 rfl (fn_if_eq_f rl_M_most_16 (by decide +kernel) (fn_iload_n rl_M_most_19 rfl (fn_stat (as := [.int a3]) (r := []) (ls' := [.int a3]) rl_M_most_20 rfl rfl rfl rfl pl_M_isYear rfl rfl (fn_iload_n rl_M_isYear_0 rfl (fn_i2l rl_M_isYear_1 (fn_lconst rl_M_isYear_2 (fn_ldc2_w rl_M_isYear_3 (fn_stat (as := [.long ((a3 : Int32).toInt64), .long ((0 : Int32).toInt64), .long ((2 : Int32).toInt64)]) (r := []) (ls' := [.long ((a3 : Int32).toInt64), .null, .long ((0 : Int32).toInt64), .null, .long ((2 : Int32).toInt64), .null]) rl_M_isYear_6 rfl rfl rfl rfl pl_M_in rfl rfl (fn_lload_n rl_M_in_0 rfl (fn_lload_n rl_M_in_1 rfl (fn_lcmp rl_M_in_2 (fn_if_lt rl_M_in_3 (fun k1764 => fn_iconst rl_M_in_17 (fn_retci rl_M_in_18 rfl (fn_retci rl_M_isYear_9 rfl (fn_if_ne_t rl_M_most_23 (by decide +kernel) (fn_iconst rl_M_most_26 (fn_reti rl_M_most_27 rfl k1764)))))) (fun k1765 => fn_lload_n rl_M_in_6 rfl (fn_lload rl_M_in_7 rfl (fn_lcmp rl_M_in_9 (fn_if_gt rl_M_in_10 (fun k1762 => fn_iconst rl_M_in_17 (fn_retci rl_M_in_18 rfl (fn_retci rl_M_isYear_9 rfl (fn_if_ne_t rl_M_most_23 (by decide +kernel) (fn_iconst rl_M_most_26 (fn_reti rl_M_most_27 rfl k1762)))))) (fun k1763 => fn_iconst rl_M_in_13 (fn_goto rl_M_in_14 (fn_retci rl_M_in_18 rfl (fn_retci rl_M_isYear_9 rfl (fn_if_ne_f rl_M_most_23 (by decide +kernel) (fn_aload_n rl_M_most_28 rfl (fn_virt (as := [.ref 36]) (r := []) (ls' := [.ref 36, .null, .null, .null]) rl_M_most_29 rfl hp_36 rfl rfl pl_M_laysCounts rfl rfl (k1763)))))))) k1765)))) k1767))))))))))))))) k1769)))) k1771)))))))))))))) k1773)))) k0))))))))))
set_option maxRecDepth 100000 in
set_option maxHeartbeats 4000000 in
theorem sg_M_most_32r {L : Nat} {xs : Nat → Int32} {A V : Nat → Nat → Int32} {K : Nat → Option Nat} {T : am_H} {v : Option Int32} {h' : am_H} {v1 v2 v3 : Int32} (k0 :
    am_fin [(z_M_mostBy, 0, [.ref 36, .int v1, .int v2, .int v3, .null], []), (z_M_most, 39, [.ref 36, .int v1, .int v2, .int v3], [])] (hp L xs A V K T) v h') : am_fin [(z_M_most, 32, [.ref 36, .int v1, .int v2, .int v3], [])] (hp L xs A V K T) v h' :=
  fn_aload_n rl_M_most_32 rfl (fn_iload_n rl_M_most_33 rfl (fn_iload_n rl_M_most_34 rfl (fn_iload_n rl_M_most_35 rfl (fn_virt (as := [.ref 36, .int v1, .int v2, .int v3]) (r := []) (ls' := [.ref 36, .int v1, .int v2, .int v3, .null]) rl_M_most_36 rfl hp_36 rfl rfl pl_M_mostBy rfl rfl (k0)))))
set_option maxRecDepth 100000 in
set_option maxHeartbeats 4000000 in
theorem sg_M_most_39r {L : Nat} {xs : Nat → Int32} {A V : Nat → Nat → Int32} {K : Nat → Option Nat} {T : am_H} {v : Option Int32} {h' : am_H} {v1 v2 v3 r : Int32} (k0 :
    v = some r ∧ h' = hp L xs A V K T) : am_fin [(z_M_most, 39, [.ref 36, .int v1, .int v2, .int v3], [.int r])] (hp L xs A V K T) v h' :=
  fn_reti rl_M_most_39 rfl k0
set_option maxRecDepth 100000 in
set_option maxHeartbeats 4000000 in
theorem sg_M_claims_0 {L : Nat} {xs : Nat → Int32} {A V : Nat → Nat → Int32} {K : Nat → Option Nat} {T : am_H} {v : Option Int32} {h' : am_H} {a1 : Int32} (k0 :
    if (lg_cmp ((a1 : Int32).toInt64) ((0 : Int32).toInt64)) < 0 then (
      v = some (-1) ∧ h' = hp L xs A V K T)
    else (
      if 0 < (lg_cmp ((a1 : Int32).toInt64) ((2 : Int32).toInt64)) then (
        v = some (-1) ∧ h' = hp L xs A V K T)
      else (
        am_fin [(z_M_laysCounts, 0, [.ref 36, .null, .null, .null], []), (z_M_claims, 13, [.ref 36, .int a1], [])] (hp L xs A V K T) v h'))) : am_fin [(z_M_claims, 0, [.ref 36, .int a1], [])] (hp L xs A V K T) v h' :=
  fn_iload_n rl_M_claims_0 rfl (fn_stat (as := [.int a1]) (r := []) (ls' := [.int a1]) rl_M_claims_1 rfl rfl rfl rfl pl_M_isYear rfl rfl (fn_iload_n rl_M_isYear_0 rfl (fn_i2l rl_M_isYear_1 (fn_lconst rl_M_isYear_2 (fn_ldc2_w rl_M_isYear_3 (fn_stat (as := [.long ((a1 : Int32).toInt64), .long ((0 : Int32).toInt64), .long ((2 : Int32).toInt64)]) (r := []) (ls' := [.long ((a1 : Int32).toInt64), .null, .long ((0 : Int32).toInt64), .null, .long ((2 : Int32).toInt64), .null]) rl_M_isYear_6 rfl rfl rfl rfl pl_M_in rfl rfl (fn_lload_n rl_M_in_0 rfl (fn_lload_n rl_M_in_1 rfl (fn_lcmp rl_M_in_2 (fn_if_lt rl_M_in_3 (fun k1776 => fn_iconst rl_M_in_17 (fn_retci rl_M_in_18 rfl (fn_retci rl_M_isYear_9 rfl (fn_if_ne_t rl_M_claims_4 (by decide +kernel) (fn_iconst rl_M_claims_7 (fn_reti rl_M_claims_8 rfl k1776)))))) (fun k1777 => fn_lload_n rl_M_in_6 rfl (fn_lload rl_M_in_7 rfl (fn_lcmp rl_M_in_9 (fn_if_gt rl_M_in_10 (fun k1774 => fn_iconst rl_M_in_17 (fn_retci rl_M_in_18 rfl (fn_retci rl_M_isYear_9 rfl (fn_if_ne_t rl_M_claims_4 (by decide +kernel) (fn_iconst rl_M_claims_7 (fn_reti rl_M_claims_8 rfl k1774)))))) (fun k1775 => fn_iconst rl_M_in_13 (fn_goto rl_M_in_14 (fn_retci rl_M_in_18 rfl (fn_retci rl_M_isYear_9 rfl (fn_if_ne_f rl_M_claims_4 (by decide +kernel) (fn_aload_n rl_M_claims_9 rfl (fn_virt (as := [.ref 36]) (r := []) (ls' := [.ref 36, .null, .null, .null]) rl_M_claims_10 rfl hp_36 rfl rfl pl_M_laysCounts rfl rfl (k1775)))))))) k1777)))) k0))))))))))
set_option maxRecDepth 100000 in
set_option maxHeartbeats 4000000 in
theorem sg_M_claims_13r {L : Nat} {xs : Nat → Int32} {A V : Nat → Nat → Int32} {K : Nat → Option Nat} {T : am_H} {v : Option Int32} {h' : am_H} {v1 : Int32} (k0 :
    am_fin [(z_M_claiming, 0, [.ref 36, .int v1, .null, .null], []), (z_M_claims, 18, [.ref 36, .int v1], [])] (hp L xs A V K T) v h') : am_fin [(z_M_claims, 13, [.ref 36, .int v1], [])] (hp L xs A V K T) v h' :=
  fn_aload_n rl_M_claims_13 rfl (fn_iload_n rl_M_claims_14 rfl (fn_virt (as := [.ref 36, .int v1]) (r := []) (ls' := [.ref 36, .int v1, .null, .null]) rl_M_claims_15 rfl hp_36 rfl rfl pl_M_claiming rfl rfl (k0)))
set_option maxRecDepth 100000 in
set_option maxHeartbeats 4000000 in
theorem sg_M_claims_18r {L : Nat} {xs : Nat → Int32} {A V : Nat → Nat → Int32} {K : Nat → Option Nat} {T : am_H} {v : Option Int32} {h' : am_H} {v1 r : Int32} (k0 :
    v = some r ∧ h' = hp L xs A V K T) : am_fin [(z_M_claims, 18, [.ref 36, .int v1], [.int r])] (hp L xs A V K T) v h' :=
  fn_reti rl_M_claims_18 rfl k0
set_option maxRecDepth 100000 in
set_option maxHeartbeats 4000000 in
theorem sg_M_holds_0 {L : Nat} {xs : Nat → Int32} {A V : Nat → Nat → Int32} {K : Nat → Option Nat} {T : am_H} {v : Option Int32} {h' : am_H} {a1 a2 : Int32} (k0 :
    if (lg_cmp ((a1 : Int32).toInt64) ((0 : Int32).toInt64)) < 0 then (
      v = some (-1) ∧ h' = hp L xs A V K T)
    else (
      if 0 < (lg_cmp ((a1 : Int32).toInt64) ((5 : Int32).toInt64)) then (
        v = some (-1) ∧ h' = hp L xs A V K T)
      else (
        if (lg_cmp ((a2 : Int32).toInt64) ((0 : Int32).toInt64)) < 0 then (
          v = some (-1) ∧ h' = hp L xs A V K T)
        else (
          if 0 < (lg_cmp ((a2 : Int32).toInt64) ((2 : Int32).toInt64)) then (
            v = some (-1) ∧ h' = hp L xs A V K T)
          else (
            am_fin [(z_M_laysCounts, 0, [.ref 36, .null, .null, .null], []), (z_M_holds, 20, [.ref 36, .int a1, .int a2], [])] (hp L xs A V K T) v h'))))) : am_fin [(z_M_holds, 0, [.ref 36, .int a1, .int a2], [])] (hp L xs A V K T) v h' :=
  fn_iload_n rl_M_holds_0 rfl (fn_stat (as := [.int a1]) (r := []) (ls' := [.int a1]) rl_M_holds_1 rfl rfl rfl rfl pl_M_isLand rfl rfl (fn_iload_n rl_M_isLand_0 rfl (fn_i2l rl_M_isLand_1 (fn_lconst rl_M_isLand_2 (fn_ldc2_w rl_M_isLand_3 (fn_stat (as := [.long ((a1 : Int32).toInt64), .long ((0 : Int32).toInt64), .long ((5 : Int32).toInt64)]) (r := []) (ls' := [.long ((a1 : Int32).toInt64), .null, .long ((0 : Int32).toInt64), .null, .long ((5 : Int32).toInt64), .null]) rl_M_isLand_6 rfl rfl rfl rfl pl_M_in rfl rfl (fn_lload_n rl_M_in_0 rfl (fn_lload_n rl_M_in_1 rfl (fn_lcmp rl_M_in_2 (fn_if_lt rl_M_in_3 (fun k1784 => fn_iconst rl_M_in_17 (fn_retci rl_M_in_18 rfl (fn_retci rl_M_isLand_9 rfl (fn_if_eq_t rl_M_holds_4 (by decide +kernel) (fn_iconst rl_M_holds_14 (fn_reti rl_M_holds_15 rfl k1784)))))) (fun k1785 => fn_lload_n rl_M_in_6 rfl (fn_lload rl_M_in_7 rfl (fn_lcmp rl_M_in_9 (fn_if_gt rl_M_in_10 (fun k1782 => fn_iconst rl_M_in_17 (fn_retci rl_M_in_18 rfl (fn_retci rl_M_isLand_9 rfl (fn_if_eq_t rl_M_holds_4 (by decide +kernel) (fn_iconst rl_M_holds_14 (fn_reti rl_M_holds_15 rfl k1782)))))) (fun k1783 => fn_iconst rl_M_in_13 (fn_goto rl_M_in_14 (fn_retci rl_M_in_18 rfl (fn_retci rl_M_isLand_9 rfl (fn_if_eq_f rl_M_holds_4 (by decide +kernel) (fn_iload_n rl_M_holds_7 rfl (fn_stat (as := [.int a2]) (r := []) (ls' := [.int a2]) rl_M_holds_8 rfl rfl rfl rfl pl_M_isYear rfl rfl (fn_iload_n rl_M_isYear_0 rfl (fn_i2l rl_M_isYear_1 (fn_lconst rl_M_isYear_2 (fn_ldc2_w rl_M_isYear_3 (fn_stat (as := [.long ((a2 : Int32).toInt64), .long ((0 : Int32).toInt64), .long ((2 : Int32).toInt64)]) (r := []) (ls' := [.long ((a2 : Int32).toInt64), .null, .long ((0 : Int32).toInt64), .null, .long ((2 : Int32).toInt64), .null]) rl_M_isYear_6 rfl rfl rfl rfl pl_M_in rfl rfl (fn_lload_n rl_M_in_0 rfl (fn_lload_n rl_M_in_1 rfl (fn_lcmp rl_M_in_2 (fn_if_lt rl_M_in_3 (fun k1780 => fn_iconst rl_M_in_17 (fn_retci rl_M_in_18 rfl (fn_retci rl_M_isYear_9 rfl (fn_if_ne_t rl_M_holds_11 (by decide +kernel) (fn_iconst rl_M_holds_14 (fn_reti rl_M_holds_15 rfl k1780)))))) (fun k1781 => fn_lload_n rl_M_in_6 rfl (fn_lload rl_M_in_7 rfl (fn_lcmp rl_M_in_9 (fn_if_gt rl_M_in_10 (fun k1778 => fn_iconst rl_M_in_17 (fn_retci rl_M_in_18 rfl (fn_retci rl_M_isYear_9 rfl (fn_if_ne_t rl_M_holds_11 (by decide +kernel) (fn_iconst rl_M_holds_14 (fn_reti rl_M_holds_15 rfl k1778)))))) (fun k1779 => fn_iconst rl_M_in_13 (fn_goto rl_M_in_14 (fn_retci rl_M_in_18 rfl (fn_retci rl_M_isYear_9 rfl (fn_if_ne_f rl_M_holds_11 (by decide +kernel) (fn_aload_n rl_M_holds_16 rfl (fn_virt (as := [.ref 36]) (r := []) (ls' := [.ref 36, .null, .null, .null]) rl_M_holds_17 rfl hp_36 rfl rfl pl_M_laysCounts rfl rfl (k1779)))))))) k1781)))) k1783)))))))))))))))) k1785)))) k0))))))))))
set_option maxRecDepth 100000 in
set_option maxHeartbeats 4000000 in
theorem sg_M_holds_20r {L : Nat} {xs : Nat → Int32} {A V : Nat → Nat → Int32} {K : Nat → Option Nat} {T : am_H} {v : Option Int32} {h' : am_H} {v1 v2 : Int32} (k0 :
    am_fin [(z_M_holding, 0, [.ref 36, .int v1, .int v2, .null, .null, .null, .null], []), (z_M_holds, 26, [.ref 36, .int v1, .int v2], [])] (hp L xs A V K T) v h') : am_fin [(z_M_holds, 20, [.ref 36, .int v1, .int v2], [])] (hp L xs A V K T) v h' :=
  fn_aload_n rl_M_holds_20 rfl (fn_iload_n rl_M_holds_21 rfl (fn_iload_n rl_M_holds_22 rfl (fn_virt (as := [.ref 36, .int v1, .int v2]) (r := []) (ls' := [.ref 36, .int v1, .int v2, .null, .null, .null, .null]) rl_M_holds_23 rfl hp_36 rfl rfl pl_M_holding rfl rfl (k0))))
set_option maxRecDepth 100000 in
set_option maxHeartbeats 4000000 in
theorem sg_M_holds_26r {L : Nat} {xs : Nat → Int32} {A V : Nat → Nat → Int32} {K : Nat → Option Nat} {T : am_H} {v : Option Int32} {h' : am_H} {v1 v2 r : Int32} (k0 :
    v = some r ∧ h' = hp L xs A V K T) : am_fin [(z_M_holds, 26, [.ref 36, .int v1, .int v2], [.int r])] (hp L xs A V K T) v h' :=
  fn_reti rl_M_holds_26 rfl k0
set_option maxRecDepth 100000 in
set_option maxHeartbeats 4000000 in
theorem sg_M_answers_0 {L : Nat} {xs : Nat → Int32} {A V : Nat → Nat → Int32} {K : Nat → Option Nat} {T : am_H} {v : Option Int32} {h' : am_H} {a1 a2 a3 : Int32} (k0 :
    if (lg_cmp ((a1 : Int32).toInt64) ((0 : Int32).toInt64)) < 0 then (
      v = some (-1) ∧ h' = hp L xs A V K T)
    else (
      if 0 < (lg_cmp ((a1 : Int32).toInt64) ((5 : Int32).toInt64)) then (
        v = some (-1) ∧ h' = hp L xs A V K T)
      else (
        if (lg_cmp ((a2 : Int32).toInt64) ((0 : Int32).toInt64)) < 0 then (
          v = some (-1) ∧ h' = hp L xs A V K T)
        else (
          if 0 < (lg_cmp ((a2 : Int32).toInt64) ((5 : Int32).toInt64)) then (
            v = some (-1) ∧ h' = hp L xs A V K T)
          else (
            if a1 = a2 then (
              v = some (-1) ∧ h' = hp L xs A V K T)
            else (
              if (lg_cmp ((a3 : Int32).toInt64) ((0 : Int32).toInt64)) < 0 then (
                v = some (-1) ∧ h' = hp L xs A V K T)
              else (
                if 0 < (lg_cmp ((a3 : Int32).toInt64) ((2 : Int32).toInt64)) then (
                  v = some (-1) ∧ h' = hp L xs A V K T)
                else (
                  am_fin [(z_M_laysCounts, 0, [.ref 36, .null, .null, .null], []), (z_M_answers, 21, [.ref 36, .int a1, .int a2, .int a3], [])] (hp L xs A V K T) v h')))))))) : am_fin [(z_M_answers, 0, [.ref 36, .int a1, .int a2, .int a3], [])] (hp L xs A V K T) v h' :=
  fn_iload_n rl_M_answers_0 rfl (fn_iload_n rl_M_answers_1 rfl (fn_stat (as := [.int a1, .int a2]) (r := []) (ls' := [.int a1, .int a2]) rl_M_answers_2 rfl rfl rfl rfl pl_M_areTwo rfl rfl (fn_iload_n rl_M_areTwo_0 rfl (fn_stat (as := [.int a1]) (r := []) (ls' := [.int a1]) rl_M_areTwo_1 rfl rfl rfl rfl pl_M_isLand rfl rfl (fn_iload_n rl_M_isLand_0 rfl (fn_i2l rl_M_isLand_1 (fn_lconst rl_M_isLand_2 (fn_ldc2_w rl_M_isLand_3 (fn_stat (as := [.long ((a1 : Int32).toInt64), .long ((0 : Int32).toInt64), .long ((5 : Int32).toInt64)]) (r := []) (ls' := [.long ((a1 : Int32).toInt64), .null, .long ((0 : Int32).toInt64), .null, .long ((5 : Int32).toInt64), .null]) rl_M_isLand_6 rfl rfl rfl rfl pl_M_in rfl rfl (fn_lload_n rl_M_in_0 rfl (fn_lload_n rl_M_in_1 rfl (fn_lcmp rl_M_in_2 (fn_if_lt rl_M_in_3 (fun k1798 => fn_iconst rl_M_in_17 (fn_retci rl_M_in_18 rfl (fn_retci rl_M_isLand_9 rfl (fn_if_eq_t rl_M_areTwo_4 (by decide +kernel) (fn_iconst rl_M_areTwo_23 (fn_retci rl_M_areTwo_24 rfl (fn_if_eq_t rl_M_answers_5 (by decide +kernel) (fn_iconst rl_M_answers_15 (fn_reti rl_M_answers_16 rfl k1798))))))))) (fun k1799 => fn_lload_n rl_M_in_6 rfl (fn_lload rl_M_in_7 rfl (fn_lcmp rl_M_in_9 (fn_if_gt rl_M_in_10 (fun k1796 => fn_iconst rl_M_in_17 (fn_retci rl_M_in_18 rfl (fn_retci rl_M_isLand_9 rfl (fn_if_eq_t rl_M_areTwo_4 (by decide +kernel) (fn_iconst rl_M_areTwo_23 (fn_retci rl_M_areTwo_24 rfl (fn_if_eq_t rl_M_answers_5 (by decide +kernel) (fn_iconst rl_M_answers_15 (fn_reti rl_M_answers_16 rfl k1796))))))))) (fun k1797 => fn_iconst rl_M_in_13 (fn_goto rl_M_in_14 (fn_retci rl_M_in_18 rfl (fn_retci rl_M_isLand_9 rfl (fn_if_eq_f rl_M_areTwo_4 (by decide +kernel) (fn_iload_n rl_M_areTwo_7 rfl (fn_stat (as := [.int a2]) (r := []) (ls' := [.int a2]) rl_M_areTwo_8 rfl rfl rfl rfl pl_M_isLand rfl rfl (fn_iload_n rl_M_isLand_0 rfl (fn_i2l rl_M_isLand_1 (fn_lconst rl_M_isLand_2 (fn_ldc2_w rl_M_isLand_3 (fn_stat (as := [.long ((a2 : Int32).toInt64), .long ((0 : Int32).toInt64), .long ((5 : Int32).toInt64)]) (r := []) (ls' := [.long ((a2 : Int32).toInt64), .null, .long ((0 : Int32).toInt64), .null, .long ((5 : Int32).toInt64), .null]) rl_M_isLand_6 rfl rfl rfl rfl pl_M_in rfl rfl (fn_lload_n rl_M_in_0 rfl (fn_lload_n rl_M_in_1 rfl (fn_lcmp rl_M_in_2 (fn_if_lt rl_M_in_3 (fun k1794 => fn_iconst rl_M_in_17 (fn_retci rl_M_in_18 rfl (fn_retci rl_M_isLand_9 rfl (fn_if_eq_t rl_M_areTwo_11 (by decide +kernel) (fn_iconst rl_M_areTwo_23 (fn_retci rl_M_areTwo_24 rfl (fn_if_eq_t rl_M_answers_5 (by decide +kernel) (fn_iconst rl_M_answers_15 (fn_reti rl_M_answers_16 rfl k1794))))))))) (fun k1795 => fn_lload_n rl_M_in_6 rfl (fn_lload rl_M_in_7 rfl (fn_lcmp rl_M_in_9 (fn_if_gt rl_M_in_10 (fun k1792 => fn_iconst rl_M_in_17 (fn_retci rl_M_in_18 rfl (fn_retci rl_M_isLand_9 rfl (fn_if_eq_t rl_M_areTwo_11 (by decide +kernel) (fn_iconst rl_M_areTwo_23 (fn_retci rl_M_areTwo_24 rfl (fn_if_eq_t rl_M_answers_5 (by decide +kernel) (fn_iconst rl_M_answers_15 (fn_reti rl_M_answers_16 rfl k1792))))))))) (fun k1793 => fn_iconst rl_M_in_13 (fn_goto rl_M_in_14 (fn_retci rl_M_in_18 rfl (fn_retci rl_M_isLand_9 rfl (fn_if_eq_f rl_M_areTwo_11 (by decide +kernel) (fn_iload_n rl_M_areTwo_14 rfl (fn_iload_n rl_M_areTwo_15 rfl (fn_icmp_eq rl_M_areTwo_16 (fun k1790 => fn_iconst rl_M_areTwo_23 (fn_retci rl_M_areTwo_24 rfl (fn_if_eq_t rl_M_answers_5 (by decide +kernel) (fn_iconst rl_M_answers_15 (fn_reti rl_M_answers_16 rfl k1790))))) (fun k1791 => fn_iconst rl_M_areTwo_19 (fn_goto rl_M_areTwo_20 (fn_retci rl_M_areTwo_24 rfl (fn_if_eq_f rl_M_answers_5 (by decide +kernel) (fn_iload_n rl_M_answers_8 rfl (fn_stat (as := [.int a3]) (r := []) (ls' := [.int a3]) rl_M_answers_9 rfl rfl rfl rfl pl_M_isYear rfl rfl (fn_iload_n rl_M_isYear_0 rfl (fn_i2l rl_M_isYear_1 (fn_lconst rl_M_isYear_2 (fn_ldc2_w rl_M_isYear_3 (fn_stat (as := [.long ((a3 : Int32).toInt64), .long ((0 : Int32).toInt64), .long ((2 : Int32).toInt64)]) (r := []) (ls' := [.long ((a3 : Int32).toInt64), .null, .long ((0 : Int32).toInt64), .null, .long ((2 : Int32).toInt64), .null]) rl_M_isYear_6 rfl rfl rfl rfl pl_M_in rfl rfl (fn_lload_n rl_M_in_0 rfl (fn_lload_n rl_M_in_1 rfl (fn_lcmp rl_M_in_2 (fn_if_lt rl_M_in_3 (fun k1788 => fn_iconst rl_M_in_17 (fn_retci rl_M_in_18 rfl (fn_retci rl_M_isYear_9 rfl (fn_if_ne_t rl_M_answers_12 (by decide +kernel) (fn_iconst rl_M_answers_15 (fn_reti rl_M_answers_16 rfl k1788)))))) (fun k1789 => fn_lload_n rl_M_in_6 rfl (fn_lload rl_M_in_7 rfl (fn_lcmp rl_M_in_9 (fn_if_gt rl_M_in_10 (fun k1786 => fn_iconst rl_M_in_17 (fn_retci rl_M_in_18 rfl (fn_retci rl_M_isYear_9 rfl (fn_if_ne_t rl_M_answers_12 (by decide +kernel) (fn_iconst rl_M_answers_15 (fn_reti rl_M_answers_16 rfl k1786)))))) (fun k1787 => fn_iconst rl_M_in_13 (fn_goto rl_M_in_14 (fn_retci rl_M_in_18 rfl (fn_retci rl_M_isYear_9 rfl (fn_if_ne_f rl_M_answers_12 (by decide +kernel) (fn_aload_n rl_M_answers_17 rfl (fn_virt (as := [.ref 36]) (r := []) (ls' := [.ref 36, .null, .null, .null]) rl_M_answers_18 rfl hp_36 rfl rfl pl_M_laysCounts rfl rfl (k1787)))))))) k1789)))) k1791))))))))))))))) k1793)))))))) k1795)))) k1797)))))))))))))))) k1799)))) k0)))))))))))))
set_option maxRecDepth 100000 in
set_option maxHeartbeats 4000000 in
theorem sg_M_answers_21r {L : Nat} {xs : Nat → Int32} {A V : Nat → Nat → Int32} {K : Nat → Option Nat} {T : am_H} {v : Option Int32} {h' : am_H} {v1 v2 v3 : Int32} (k0 :
    am_fin [(z_M_answer, 0, [.ref 36, .int v1, .int v2, .int v3, .null, .null], []), (z_M_answers, 28, [.ref 36, .int v1, .int v2, .int v3], [])] (hp L xs A V K T) v h') : am_fin [(z_M_answers, 21, [.ref 36, .int v1, .int v2, .int v3], [])] (hp L xs A V K T) v h' :=
  fn_aload_n rl_M_answers_21 rfl (fn_iload_n rl_M_answers_22 rfl (fn_iload_n rl_M_answers_23 rfl (fn_iload_n rl_M_answers_24 rfl (fn_virt (as := [.ref 36, .int v1, .int v2, .int v3]) (r := []) (ls' := [.ref 36, .int v1, .int v2, .int v3, .null, .null]) rl_M_answers_25 rfl hp_36 rfl rfl pl_M_answer rfl rfl (k0)))))
set_option maxRecDepth 100000 in
set_option maxHeartbeats 4000000 in
theorem sg_M_answers_28r {L : Nat} {xs : Nat → Int32} {A V : Nat → Nat → Int32} {K : Nat → Option Nat} {T : am_H} {v : Option Int32} {h' : am_H} {v1 v2 v3 r : Int32} (k0 :
    v = some r ∧ h' = hp L xs A V K T) : am_fin [(z_M_answers, 28, [.ref 36, .int v1, .int v2, .int v3], [.int r])] (hp L xs A V K T) v h' :=
  fn_reti rl_M_answers_28 rfl k0
set_option maxRecDepth 100000 in
set_option maxHeartbeats 4000000 in
theorem sg_M_by_0 {L : Nat} {xs : Nat → Int32} {A V : Nat → Nat → Int32} {K : Nat → Option Nat} {T : am_H} {v : Option Int32} {h' : am_H} {a1 a2 a3 : Int32} (k0 :
    if (lg_cmp ((a1 : Int32).toInt64) ((0 : Int32).toInt64)) < 0 then (
      v = some (-1) ∧ h' = hp L xs A V K T)
    else (
      if 0 < (lg_cmp ((a1 : Int32).toInt64) ((5 : Int32).toInt64)) then (
        v = some (-1) ∧ h' = hp L xs A V K T)
      else (
        if (lg_cmp ((a2 : Int32).toInt64) ((0 : Int32).toInt64)) < 0 then (
          v = some (-1) ∧ h' = hp L xs A V K T)
        else (
          if 0 < (lg_cmp ((a2 : Int32).toInt64) ((5 : Int32).toInt64)) then (
            v = some (-1) ∧ h' = hp L xs A V K T)
          else (
            if a1 = a2 then (
              v = some (-1) ∧ h' = hp L xs A V K T)
            else (
              if (lg_cmp ((a3 : Int32).toInt64) ((0 : Int32).toInt64)) < 0 then (
                v = some (-1) ∧ h' = hp L xs A V K T)
              else (
                if 0 < (lg_cmp ((a3 : Int32).toInt64) ((2 : Int32).toInt64)) then (
                  v = some (-1) ∧ h' = hp L xs A V K T)
                else (
                  am_fin [(z_M_laysCounts, 0, [.ref 36, .null, .null, .null], []), (z_M_by, 21, [.ref 36, .int a1, .int a2, .int a3, .null], [])] (hp L xs A V K T) v h')))))))) : am_fin [(z_M_by, 0, [.ref 36, .int a1, .int a2, .int a3, .null], [])] (hp L xs A V K T) v h' :=
  fn_iload_n rl_M_by_0 rfl (fn_iload_n rl_M_by_1 rfl (fn_stat (as := [.int a1, .int a2]) (r := []) (ls' := [.int a1, .int a2]) rl_M_by_2 rfl rfl rfl rfl pl_M_areTwo rfl rfl (fn_iload_n rl_M_areTwo_0 rfl (fn_stat (as := [.int a1]) (r := []) (ls' := [.int a1]) rl_M_areTwo_1 rfl rfl rfl rfl pl_M_isLand rfl rfl (fn_iload_n rl_M_isLand_0 rfl (fn_i2l rl_M_isLand_1 (fn_lconst rl_M_isLand_2 (fn_ldc2_w rl_M_isLand_3 (fn_stat (as := [.long ((a1 : Int32).toInt64), .long ((0 : Int32).toInt64), .long ((5 : Int32).toInt64)]) (r := []) (ls' := [.long ((a1 : Int32).toInt64), .null, .long ((0 : Int32).toInt64), .null, .long ((5 : Int32).toInt64), .null]) rl_M_isLand_6 rfl rfl rfl rfl pl_M_in rfl rfl (fn_lload_n rl_M_in_0 rfl (fn_lload_n rl_M_in_1 rfl (fn_lcmp rl_M_in_2 (fn_if_lt rl_M_in_3 (fun k1812 => fn_iconst rl_M_in_17 (fn_retci rl_M_in_18 rfl (fn_retci rl_M_isLand_9 rfl (fn_if_eq_t rl_M_areTwo_4 (by decide +kernel) (fn_iconst rl_M_areTwo_23 (fn_retci rl_M_areTwo_24 rfl (fn_if_eq_t rl_M_by_5 (by decide +kernel) (fn_iconst rl_M_by_15 (fn_reti rl_M_by_16 rfl k1812))))))))) (fun k1813 => fn_lload_n rl_M_in_6 rfl (fn_lload rl_M_in_7 rfl (fn_lcmp rl_M_in_9 (fn_if_gt rl_M_in_10 (fun k1810 => fn_iconst rl_M_in_17 (fn_retci rl_M_in_18 rfl (fn_retci rl_M_isLand_9 rfl (fn_if_eq_t rl_M_areTwo_4 (by decide +kernel) (fn_iconst rl_M_areTwo_23 (fn_retci rl_M_areTwo_24 rfl (fn_if_eq_t rl_M_by_5 (by decide +kernel) (fn_iconst rl_M_by_15 (fn_reti rl_M_by_16 rfl k1810))))))))) (fun k1811 => fn_iconst rl_M_in_13 (fn_goto rl_M_in_14 (fn_retci rl_M_in_18 rfl (fn_retci rl_M_isLand_9 rfl (fn_if_eq_f rl_M_areTwo_4 (by decide +kernel) (fn_iload_n rl_M_areTwo_7 rfl (fn_stat (as := [.int a2]) (r := []) (ls' := [.int a2]) rl_M_areTwo_8 rfl rfl rfl rfl pl_M_isLand rfl rfl (fn_iload_n rl_M_isLand_0 rfl (fn_i2l rl_M_isLand_1 (fn_lconst rl_M_isLand_2 (fn_ldc2_w rl_M_isLand_3 (fn_stat (as := [.long ((a2 : Int32).toInt64), .long ((0 : Int32).toInt64), .long ((5 : Int32).toInt64)]) (r := []) (ls' := [.long ((a2 : Int32).toInt64), .null, .long ((0 : Int32).toInt64), .null, .long ((5 : Int32).toInt64), .null]) rl_M_isLand_6 rfl rfl rfl rfl pl_M_in rfl rfl (fn_lload_n rl_M_in_0 rfl (fn_lload_n rl_M_in_1 rfl (fn_lcmp rl_M_in_2 (fn_if_lt rl_M_in_3 (fun k1808 => fn_iconst rl_M_in_17 (fn_retci rl_M_in_18 rfl (fn_retci rl_M_isLand_9 rfl (fn_if_eq_t rl_M_areTwo_11 (by decide +kernel) (fn_iconst rl_M_areTwo_23 (fn_retci rl_M_areTwo_24 rfl (fn_if_eq_t rl_M_by_5 (by decide +kernel) (fn_iconst rl_M_by_15 (fn_reti rl_M_by_16 rfl k1808))))))))) (fun k1809 => fn_lload_n rl_M_in_6 rfl (fn_lload rl_M_in_7 rfl (fn_lcmp rl_M_in_9 (fn_if_gt rl_M_in_10 (fun k1806 => fn_iconst rl_M_in_17 (fn_retci rl_M_in_18 rfl (fn_retci rl_M_isLand_9 rfl (fn_if_eq_t rl_M_areTwo_11 (by decide +kernel) (fn_iconst rl_M_areTwo_23 (fn_retci rl_M_areTwo_24 rfl (fn_if_eq_t rl_M_by_5 (by decide +kernel) (fn_iconst rl_M_by_15 (fn_reti rl_M_by_16 rfl k1806))))))))) (fun k1807 => fn_iconst rl_M_in_13 (fn_goto rl_M_in_14 (fn_retci rl_M_in_18 rfl (fn_retci rl_M_isLand_9 rfl (fn_if_eq_f rl_M_areTwo_11 (by decide +kernel) (fn_iload_n rl_M_areTwo_14 rfl (fn_iload_n rl_M_areTwo_15 rfl (fn_icmp_eq rl_M_areTwo_16 (fun k1804 => fn_iconst rl_M_areTwo_23 (fn_retci rl_M_areTwo_24 rfl (fn_if_eq_t rl_M_by_5 (by decide +kernel) (fn_iconst rl_M_by_15 (fn_reti rl_M_by_16 rfl k1804))))) (fun k1805 => fn_iconst rl_M_areTwo_19 (fn_goto rl_M_areTwo_20 (fn_retci rl_M_areTwo_24 rfl (fn_if_eq_f rl_M_by_5 (by decide +kernel) (fn_iload_n rl_M_by_8 rfl (fn_stat (as := [.int a3]) (r := []) (ls' := [.int a3]) rl_M_by_9 rfl rfl rfl rfl pl_M_isYear rfl rfl (fn_iload_n rl_M_isYear_0 rfl (fn_i2l rl_M_isYear_1 (fn_lconst rl_M_isYear_2 (fn_ldc2_w rl_M_isYear_3 (fn_stat (as := [.long ((a3 : Int32).toInt64), .long ((0 : Int32).toInt64), .long ((2 : Int32).toInt64)]) (r := []) (ls' := [.long ((a3 : Int32).toInt64), .null, .long ((0 : Int32).toInt64), .null, .long ((2 : Int32).toInt64), .null]) rl_M_isYear_6 rfl rfl rfl rfl pl_M_in rfl rfl (fn_lload_n rl_M_in_0 rfl (fn_lload_n rl_M_in_1 rfl (fn_lcmp rl_M_in_2 (fn_if_lt rl_M_in_3 (fun k1802 => fn_iconst rl_M_in_17 (fn_retci rl_M_in_18 rfl (fn_retci rl_M_isYear_9 rfl (fn_if_ne_t rl_M_by_12 (by decide +kernel) (fn_iconst rl_M_by_15 (fn_reti rl_M_by_16 rfl k1802)))))) (fun k1803 => fn_lload_n rl_M_in_6 rfl (fn_lload rl_M_in_7 rfl (fn_lcmp rl_M_in_9 (fn_if_gt rl_M_in_10 (fun k1800 => fn_iconst rl_M_in_17 (fn_retci rl_M_in_18 rfl (fn_retci rl_M_isYear_9 rfl (fn_if_ne_t rl_M_by_12 (by decide +kernel) (fn_iconst rl_M_by_15 (fn_reti rl_M_by_16 rfl k1800)))))) (fun k1801 => fn_iconst rl_M_in_13 (fn_goto rl_M_in_14 (fn_retci rl_M_in_18 rfl (fn_retci rl_M_isYear_9 rfl (fn_if_ne_f rl_M_by_12 (by decide +kernel) (fn_aload_n rl_M_by_17 rfl (fn_virt (as := [.ref 36]) (r := []) (ls' := [.ref 36, .null, .null, .null]) rl_M_by_18 rfl hp_36 rfl rfl pl_M_laysCounts rfl rfl (k1801)))))))) k1803)))) k1805))))))))))))))) k1807)))))))) k1809)))) k1811)))))))))))))))) k1813)))) k0)))))))))))))
set_option maxRecDepth 100000 in
set_option maxHeartbeats 4000000 in
theorem sg_M_by_21r {L : Nat} {xs : Nat → Int32} {A V : Nat → Nat → Int32} {K : Nat → Option Nat} {T : am_H} {v : Option Int32} {h' : am_H} {v1 v2 v3 : Int32} (k0 :
    am_fin [(z_M_letterBy, 0, [.ref 36, .int v1, .int v2, .int v3, .null, .null, .null, .null], []), (z_M_by, 28, [.ref 36, .int v1, .int v2, .int v3, .null], [])] (hp L xs A V K T) v h') : am_fin [(z_M_by, 21, [.ref 36, .int v1, .int v2, .int v3, .null], [])] (hp L xs A V K T) v h' :=
  fn_aload_n rl_M_by_21 rfl (fn_iload_n rl_M_by_22 rfl (fn_iload_n rl_M_by_23 rfl (fn_iload_n rl_M_by_24 rfl (fn_virt (as := [.ref 36, .int v1, .int v2, .int v3]) (r := []) (ls' := [.ref 36, .int v1, .int v2, .int v3, .null, .null, .null, .null]) rl_M_by_25 rfl hp_36 rfl rfl pl_M_letterBy rfl rfl (k0)))))
set_option maxRecDepth 100000 in
set_option maxHeartbeats 4000000 in
theorem sg_M_by_28r {L : Nat} {xs : Nat → Int32} {A V : Nat → Nat → Int32} {K : Nat → Option Nat} {T : am_H} {v : Option Int32} {h' : am_H} {v1 v2 v3 r : Int32} (k0 :
    if r = (-1) then (
      v = some (-2) ∧ h' = hp L xs A V K T)
    else (
      v = some r ∧ h' = hp L xs A V K T)) : am_fin [(z_M_by, 28, [.ref 36, .int v1, .int v2, .int v3, .null], [.int r])] (hp L xs A V K T) v h' :=
  fn_istore (ls' := [.ref 36, .int v1, .int v2, .int v3, .int r]) rl_M_by_28 rfl rfl (fn_iload rl_M_by_30 rfl (fn_iconst rl_M_by_32 (fn_icmp_ne rl_M_by_33 (fun k1814 => fn_bipush rl_M_by_36 (fn_goto rl_M_by_38 (fn_reti rl_M_by_43 rfl k1814))) (fun k1815 => fn_iload rl_M_by_41 rfl (fn_reti rl_M_by_43 rfl k1815)) k0)))
set_option maxRecDepth 100000 in
set_option maxHeartbeats 4000000 in
theorem sg_M_lives_0 {L : Nat} {xs : Nat → Int32} {A V : Nat → Nat → Int32} {K : Nat → Option Nat} {T : am_H} {v : Option Int32} {h' : am_H} {a1 : Int32} (k0 :
    if (lg_cmp ((a1 : Int32).toInt64) ((0 : Int32).toInt64)) < 0 then (
      v = some (-1) ∧ h' = hp L xs A V K T)
    else (
      if 0 < (lg_cmp ((a1 : Int32).toInt64) ((2 : Int32).toInt64)) then (
        v = some (-1) ∧ h' = hp L xs A V K T)
      else (
        am_fin [(z_M_laysCounts, 0, [.ref 36, .null, .null, .null], []), (z_M_lives, 13, [.ref 36, .int a1], [])] (hp L xs A V K T) v h'))) : am_fin [(z_M_lives, 0, [.ref 36, .int a1], [])] (hp L xs A V K T) v h' :=
  fn_iload_n rl_M_lives_0 rfl (fn_stat (as := [.int a1]) (r := []) (ls' := [.int a1]) rl_M_lives_1 rfl rfl rfl rfl pl_M_isYear rfl rfl (fn_iload_n rl_M_isYear_0 rfl (fn_i2l rl_M_isYear_1 (fn_lconst rl_M_isYear_2 (fn_ldc2_w rl_M_isYear_3 (fn_stat (as := [.long ((a1 : Int32).toInt64), .long ((0 : Int32).toInt64), .long ((2 : Int32).toInt64)]) (r := []) (ls' := [.long ((a1 : Int32).toInt64), .null, .long ((0 : Int32).toInt64), .null, .long ((2 : Int32).toInt64), .null]) rl_M_isYear_6 rfl rfl rfl rfl pl_M_in rfl rfl (fn_lload_n rl_M_in_0 rfl (fn_lload_n rl_M_in_1 rfl (fn_lcmp rl_M_in_2 (fn_if_lt rl_M_in_3 (fun k1818 => fn_iconst rl_M_in_17 (fn_retci rl_M_in_18 rfl (fn_retci rl_M_isYear_9 rfl (fn_if_ne_t rl_M_lives_4 (by decide +kernel) (fn_iconst rl_M_lives_7 (fn_reti rl_M_lives_8 rfl k1818)))))) (fun k1819 => fn_lload_n rl_M_in_6 rfl (fn_lload rl_M_in_7 rfl (fn_lcmp rl_M_in_9 (fn_if_gt rl_M_in_10 (fun k1816 => fn_iconst rl_M_in_17 (fn_retci rl_M_in_18 rfl (fn_retci rl_M_isYear_9 rfl (fn_if_ne_t rl_M_lives_4 (by decide +kernel) (fn_iconst rl_M_lives_7 (fn_reti rl_M_lives_8 rfl k1816)))))) (fun k1817 => fn_iconst rl_M_in_13 (fn_goto rl_M_in_14 (fn_retci rl_M_in_18 rfl (fn_retci rl_M_isYear_9 rfl (fn_if_ne_f rl_M_lives_4 (by decide +kernel) (fn_aload_n rl_M_lives_9 rfl (fn_virt (as := [.ref 36]) (r := []) (ls' := [.ref 36, .null, .null, .null]) rl_M_lives_10 rfl hp_36 rfl rfl pl_M_laysCounts rfl rfl (k1817)))))))) k1819)))) k0))))))))))
set_option maxRecDepth 100000 in
set_option maxHeartbeats 4000000 in
theorem sg_M_lives_13r {L : Nat} {xs : Nat → Int32} {A V : Nat → Nat → Int32} {K : Nat → Option Nat} {T : am_H} {v : Option Int32} {h' : am_H} {v1 : Int32} (k0 :
    am_fin [(z_M_livesNow, 0, [.ref 36, .int v1, .null, .null, .null, .null], []), (z_M_lives, 18, [.ref 36, .int v1], [])] (hp L xs A V K T) v h') : am_fin [(z_M_lives, 13, [.ref 36, .int v1], [])] (hp L xs A V K T) v h' :=
  fn_aload_n rl_M_lives_13 rfl (fn_iload_n rl_M_lives_14 rfl (fn_virt (as := [.ref 36, .int v1]) (r := []) (ls' := [.ref 36, .int v1, .null, .null, .null, .null]) rl_M_lives_15 rfl hp_36 rfl rfl pl_M_livesNow rfl rfl (k0)))
set_option maxRecDepth 100000 in
set_option maxHeartbeats 4000000 in
theorem sg_M_lives_18r {L : Nat} {xs : Nat → Int32} {A V : Nat → Nat → Int32} {K : Nat → Option Nat} {T : am_H} {v : Option Int32} {h' : am_H} {v1 r : Int32} (k0 :
    v = some r ∧ h' = hp L xs A V K T) : am_fin [(z_M_lives, 18, [.ref 36, .int v1], [.int r])] (hp L xs A V K T) v h' :=
  fn_reti rl_M_lives_18 rfl k0
set_option maxRecDepth 100000 in
set_option maxHeartbeats 4000000 in
theorem sg_M_pairs_0 {L : Nat} {xs : Nat → Int32} {A V : Nat → Nat → Int32} {K : Nat → Option Nat} {T : am_H} {v : Option Int32} {h' : am_H} {a1 a2 : Int32} (k0 :
    if (lg_cmp ((a1 : Int32).toInt64) ((0 : Int32).toInt64)) < 0 then (
      v = some (-1) ∧ h' = hp L xs A V K T)
    else (
      if 0 < (lg_cmp ((a1 : Int32).toInt64) ((2 : Int32).toInt64)) then (
        v = some (-1) ∧ h' = hp L xs A V K T)
      else (
        if (lg_cmp ((a2 : Int32).toInt64) ((0 : Int32).toInt64)) < 0 then (
          v = some (-1) ∧ h' = hp L xs A V K T)
        else (
          if 0 < (lg_cmp ((a2 : Int32).toInt64) ((2 : Int32).toInt64)) then (
            v = some (-1) ∧ h' = hp L xs A V K T)
          else (
            am_fin [(z_M_laysCounts, 0, [.ref 36, .null, .null, .null], []), (z_M_pairs, 25, [.ref 36, .int a1, .int a2, .null, .null, .null, .null, .null, .null], [])] (hp L xs A V K T) v h'))))) : am_fin [(z_M_pairs, 0, [.ref 36, .int a1, .int a2, .null, .null, .null, .null, .null, .null], [])] (hp L xs A V K T) v h' :=
  fn_iload_n rl_M_pairs_0 rfl (fn_stat (as := [.int a1]) (r := []) (ls' := [.int a1]) rl_M_pairs_1 rfl rfl rfl rfl pl_M_isYear rfl rfl (fn_iload_n rl_M_isYear_0 rfl (fn_i2l rl_M_isYear_1 (fn_lconst rl_M_isYear_2 (fn_ldc2_w rl_M_isYear_3 (fn_stat (as := [.long ((a1 : Int32).toInt64), .long ((0 : Int32).toInt64), .long ((2 : Int32).toInt64)]) (r := []) (ls' := [.long ((a1 : Int32).toInt64), .null, .long ((0 : Int32).toInt64), .null, .long ((2 : Int32).toInt64), .null]) rl_M_isYear_6 rfl rfl rfl rfl pl_M_in rfl rfl (fn_lload_n rl_M_in_0 rfl (fn_lload_n rl_M_in_1 rfl (fn_lcmp rl_M_in_2 (fn_if_lt rl_M_in_3 (fun k1826 => fn_iconst rl_M_in_17 (fn_retci rl_M_in_18 rfl (fn_retci rl_M_isYear_9 rfl (fn_if_eq_t rl_M_pairs_4 (by decide +kernel) (fn_iconst rl_M_pairs_19 (fn_reti rl_M_pairs_20 rfl k1826)))))) (fun k1827 => fn_lload_n rl_M_in_6 rfl (fn_lload rl_M_in_7 rfl (fn_lcmp rl_M_in_9 (fn_if_gt rl_M_in_10 (fun k1824 => fn_iconst rl_M_in_17 (fn_retci rl_M_in_18 rfl (fn_retci rl_M_isYear_9 rfl (fn_if_eq_t rl_M_pairs_4 (by decide +kernel) (fn_iconst rl_M_pairs_19 (fn_reti rl_M_pairs_20 rfl k1824)))))) (fun k1825 => fn_iconst rl_M_in_13 (fn_goto rl_M_in_14 (fn_retci rl_M_in_18 rfl (fn_retci rl_M_isYear_9 rfl (fn_if_eq_f rl_M_pairs_4 (by decide +kernel) (fn_iload_n rl_M_pairs_7 rfl (fn_i2l rl_M_pairs_8 (fn_lconst rl_M_pairs_9 (fn_ldc2_w rl_M_pairs_10 (fn_stat (as := [.long ((a2 : Int32).toInt64), .long ((0 : Int32).toInt64), .long ((2 : Int32).toInt64)]) (r := []) (ls' := [.long ((a2 : Int32).toInt64), .null, .long ((0 : Int32).toInt64), .null, .long ((2 : Int32).toInt64), .null]) rl_M_pairs_13 rfl rfl rfl rfl pl_M_in rfl rfl (fn_lload_n rl_M_in_0 rfl (fn_lload_n rl_M_in_1 rfl (fn_lcmp rl_M_in_2 (fn_if_lt rl_M_in_3 (fun k1822 => fn_iconst rl_M_in_17 (fn_retci rl_M_in_18 rfl (fn_if_ne_t rl_M_pairs_16 (by decide +kernel) (fn_iconst rl_M_pairs_19 (fn_reti rl_M_pairs_20 rfl k1822))))) (fun k1823 => fn_lload_n rl_M_in_6 rfl (fn_lload rl_M_in_7 rfl (fn_lcmp rl_M_in_9 (fn_if_gt rl_M_in_10 (fun k1820 => fn_iconst rl_M_in_17 (fn_retci rl_M_in_18 rfl (fn_if_ne_t rl_M_pairs_16 (by decide +kernel) (fn_iconst rl_M_pairs_19 (fn_reti rl_M_pairs_20 rfl k1820))))) (fun k1821 => fn_iconst rl_M_in_13 (fn_goto rl_M_in_14 (fn_retci rl_M_in_18 rfl (fn_if_ne_f rl_M_pairs_16 (by decide +kernel) (fn_aload_n rl_M_pairs_21 rfl (fn_virt (as := [.ref 36]) (r := []) (ls' := [.ref 36, .null, .null, .null]) rl_M_pairs_22 rfl hp_36 rfl rfl pl_M_laysCounts rfl rfl (k1821))))))) k1823)))) k1825)))))))))))))) k1827)))) k0))))))))))
set_option maxRecDepth 100000 in
set_option maxHeartbeats 4000000 in
theorem sg_M_pairs_25r {L : Nat} {xs : Nat → Int32} {A V : Nat → Nat → Int32} {K : Nat → Option Nat} {T : am_H} {v : Option Int32} {h' : am_H} {v1 v2 : Int32} (k0 :
    am_fin [(z_M_claiming, 0, [.ref 36, .int v1, .null, .null], []), (z_M_pairs, 30, [.ref 36, .int v1, .int v2, .null, .null, .null, .null, .null, .null], [])] (hp L xs A V K T) v h') : am_fin [(z_M_pairs, 25, [.ref 36, .int v1, .int v2, .null, .null, .null, .null, .null, .null], [])] (hp L xs A V K T) v h' :=
  fn_aload_n rl_M_pairs_25 rfl (fn_iload_n rl_M_pairs_26 rfl (fn_virt (as := [.ref 36, .int v1]) (r := []) (ls' := [.ref 36, .int v1, .null, .null]) rl_M_pairs_27 rfl hp_36 rfl rfl pl_M_claiming rfl rfl (k0)))
set_option maxRecDepth 100000 in
set_option maxHeartbeats 4000000 in
theorem sg_M_pairs_30r {L : Nat} {xs : Nat → Int32} {A V : Nat → Nat → Int32} {K : Nat → Option Nat} {T : am_H} {v : Option Int32} {h' : am_H} {v1 v2 r : Int32} (k0 :
    am_fin [(z_M_pairs, 37, [.ref 36, .int v1, .int v2, .int r, .int 0, .int 0, .null, .null, .null], [])] (hp L xs A V K T) v h') : am_fin [(z_M_pairs, 30, [.ref 36, .int v1, .int v2, .null, .null, .null, .null, .null, .null], [.int r])] (hp L xs A V K T) v h' :=
  fn_istore_n (ls' := [.ref 36, .int v1, .int v2, .int r, .null, .null, .null, .null, .null]) rl_M_pairs_30 rfl rfl (fn_iconst rl_M_pairs_31 (fn_istore (ls' := [.ref 36, .int v1, .int v2, .int r, .int 0, .null, .null, .null, .null]) rl_M_pairs_32 rfl rfl (fn_iconst rl_M_pairs_34 (fn_istore (ls' := [.ref 36, .int v1, .int v2, .int r, .int 0, .int 0, .null, .null, .null]) rl_M_pairs_35 rfl rfl (k0)))))
set_option maxRecDepth 100000 in
set_option maxHeartbeats 4000000 in
theorem sg_M_pairs_37 {L : Nat} {xs : Nat → Int32} {A V : Nat → Nat → Int32} {K : Nat → Option Nat} {T : am_H} {v : Option Int32} {h' : am_H} {v1 v2 v3 v4 v5 : Int32} (k0 :
    if 6 ≤ v5 then (
      v = some v4 ∧ h' = hp L xs A V K T)
    else (
      am_fin [(z_M_pairs, 50, [.ref 36, .int v1, .int v2, .int v3, .int v4, .int v5, .int (v5 + 1), .null, .null], [])] (hp L xs A V K T) v h')) : am_fin [(z_M_pairs, 37, [.ref 36, .int v1, .int v2, .int v3, .int v4, .int v5, .null, .null, .null], [])] (hp L xs A V K T) v h' :=
  fn_iload rl_M_pairs_37 rfl (fn_bipush rl_M_pairs_39 (fn_icmp_ge rl_M_pairs_41 (fun k1828 => fn_iload rl_M_pairs_155 rfl (fn_reti rl_M_pairs_157 rfl k1828)) (fun k1829 => fn_iload rl_M_pairs_44 rfl (fn_iconst rl_M_pairs_46 (fn_iadd rl_M_pairs_47 (fn_istore (ls' := [.ref 36, .int v1, .int v2, .int v3, .int v4, .int v5, .int (v5 + 1), .null, .null]) rl_M_pairs_48 rfl rfl (k1829))))) k0))
set_option maxRecDepth 100000 in
set_option maxHeartbeats 4000000 in
theorem sg_M_pairs_50 {L : Nat} {xs : Nat → Int32} {A V : Nat → Nat → Int32} {K : Nat → Option Nat} {T : am_H} {v : Option Int32} {h' : am_H} {v1 v2 v3 v4 v5 v6 : Int32} (k0 :
    if 6 ≤ v6 then (
      am_fin [(z_M_pairs, 37, [.ref 36, .int v1, .int v2, .int v3, .int v4, .int (v5 + 1), .int v6, .null, .null], [])] (hp L xs A V K T) v h')
    else (
      if (((v3 : Int32) >>> (v5 &&& 31 : Int32)) &&& 1) = 0 then (
        am_fin [(z_M_pairs, 50, [.ref 36, .int v1, .int v2, .int v3, .int v4, .int v5, .int (v6 + 1), .null, .null], [])] (hp L xs A V K T) v h')
      else (
        if (((v3 : Int32) >>> (v6 &&& 31 : Int32)) &&& 1) = 0 then (
          am_fin [(z_M_pairs, 50, [.ref 36, .int v1, .int v2, .int v3, .int v4, .int v5, .int (v6 + 1), .null, .null], [])] (hp L xs A V K T) v h')
        else (
          am_fin [(z_M_answer, 0, [.ref 36, .int v5, .int v6, .int v1, .null, .null], []), (z_M_pairs, 87, [.ref 36, .int v1, .int v2, .int v3, .int v4, .int v5, .int v6, .null, .null], [])] (hp L xs A V K T) v h')))) : am_fin [(z_M_pairs, 50, [.ref 36, .int v1, .int v2, .int v3, .int v4, .int v5, .int v6, .null, .null], [])] (hp L xs A V K T) v h' :=
  fn_iload rl_M_pairs_50 rfl (fn_bipush rl_M_pairs_52 (fn_icmp_ge rl_M_pairs_54 (fun k1834 => fn_iinc (ls' := [.ref 36, .int v1, .int v2, .int v3, .int v4, .int (v5 + 1), .int v6, .null, .null]) rl_M_pairs_149 rfl rfl rfl (fn_goto rl_M_pairs_152 (k1834))) (fun k1835 => fn_iload_n rl_M_pairs_57 rfl (fn_iload rl_M_pairs_58 rfl (fn_ishr rl_M_pairs_60 (fn_iconst rl_M_pairs_61 (fn_iand rl_M_pairs_62 (fn_if_eq rl_M_pairs_63 (fun k1832 => fn_iinc (ls' := [.ref 36, .int v1, .int v2, .int v3, .int v4, .int v5, .int (v6 + 1), .null, .null]) rl_M_pairs_143 rfl rfl rfl (fn_goto rl_M_pairs_146 (k1832))) (fun k1833 => fn_iload_n rl_M_pairs_66 rfl (fn_iload rl_M_pairs_67 rfl (fn_ishr rl_M_pairs_69 (fn_iconst rl_M_pairs_70 (fn_iand rl_M_pairs_71 (fn_if_ne rl_M_pairs_72 (fun k1830 => fn_goto rl_M_pairs_75 (fn_iinc (ls' := [.ref 36, .int v1, .int v2, .int v3, .int v4, .int v5, .int (v6 + 1), .null, .null]) rl_M_pairs_143 rfl rfl rfl (fn_goto rl_M_pairs_146 (k1830)))) (fun k1831 => fn_aload_n rl_M_pairs_78 rfl (fn_iload rl_M_pairs_79 rfl (fn_iload rl_M_pairs_81 rfl (fn_iload_n rl_M_pairs_83 rfl (fn_virt (as := [.ref 36, .int v5, .int v6, .int v1]) (r := []) (ls' := [.ref 36, .int v5, .int v6, .int v1, .null, .null]) rl_M_pairs_84 rfl hp_36 rfl rfl pl_M_answer rfl rfl (k1831)))))) k1833)))))) k1835)))))) k0))
set_option maxRecDepth 100000 in
set_option maxHeartbeats 4000000 in
theorem sg_M_pairs_37b {L : Nat} {xs : Nat → Int32} {A V : Nat → Nat → Int32} {K : Nat → Option Nat} {T : am_H} {v : Option Int32} {h' : am_H} {v1 v2 v3 v4 v5 v6 : Int32} (k0 :
    if 6 ≤ v5 then (
      v = some v4 ∧ h' = hp L xs A V K T)
    else (
      am_fin [(z_M_pairs, 50, [.ref 36, .int v1, .int v2, .int v3, .int v4, .int v5, .int (v5 + 1), .null, .null], [])] (hp L xs A V K T) v h')) : am_fin [(z_M_pairs, 37, [.ref 36, .int v1, .int v2, .int v3, .int v4, .int v5, .int v6, .null, .null], [])] (hp L xs A V K T) v h' :=
  fn_iload rl_M_pairs_37 rfl (fn_bipush rl_M_pairs_39 (fn_icmp_ge rl_M_pairs_41 (fun k1836 => fn_iload rl_M_pairs_155 rfl (fn_reti rl_M_pairs_157 rfl k1836)) (fun k1837 => fn_iload rl_M_pairs_44 rfl (fn_iconst rl_M_pairs_46 (fn_iadd rl_M_pairs_47 (fn_istore (ls' := [.ref 36, .int v1, .int v2, .int v3, .int v4, .int v5, .int (v5 + 1), .null, .null]) rl_M_pairs_48 rfl rfl (k1837))))) k0))
set_option maxRecDepth 100000 in
set_option maxHeartbeats 4000000 in
theorem sg_M_pairs_87r {L : Nat} {xs : Nat → Int32} {A V : Nat → Nat → Int32} {K : Nat → Option Nat} {T : am_H} {v : Option Int32} {h' : am_H} {v1 v2 v3 v4 v5 v6 r : Int32} (k0 :
    am_fin [(z_M_answer, 0, [.ref 36, .int v6, .int v5, .int v1, .null, .null], []), (z_M_pairs, 98, [.ref 36, .int v1, .int v2, .int v3, .int v4, .int v5, .int v6, .int r, .null], [])] (hp L xs A V K T) v h') : am_fin [(z_M_pairs, 87, [.ref 36, .int v1, .int v2, .int v3, .int v4, .int v5, .int v6, .null, .null], [.int r])] (hp L xs A V K T) v h' :=
  fn_istore (ls' := [.ref 36, .int v1, .int v2, .int v3, .int v4, .int v5, .int v6, .int r, .null]) rl_M_pairs_87 rfl rfl (fn_aload_n rl_M_pairs_89 rfl (fn_iload rl_M_pairs_90 rfl (fn_iload rl_M_pairs_92 rfl (fn_iload_n rl_M_pairs_94 rfl (fn_virt (as := [.ref 36, .int v6, .int v5, .int v1]) (r := []) (ls' := [.ref 36, .int v6, .int v5, .int v1, .null, .null]) rl_M_pairs_95 rfl hp_36 rfl rfl pl_M_answer rfl rfl (k0))))))
set_option maxRecDepth 100000 in
set_option maxHeartbeats 4000000 in
theorem sg_M_pairs_98r {L : Nat} {xs : Nat → Int32} {A V : Nat → Nat → Int32} {K : Nat → Option Nat} {T : am_H} {v : Option Int32} {h' : am_H} {v1 v2 v3 v4 v5 v6 v7 r : Int32} (k0 :
    if v2 = 0 then (
      am_fin [(z_M_pairs, 50, [.ref 36, .int v1, .int v2, .int v3, .int (v4 + 1), .int v5, .int (v6 + 1), .int v7, .int r], [])] (hp L xs A V K T) v h')
    else (
      if v2 = 1 then (
        if v7 = r then (
          am_fin [(z_M_pairs, 50, [.ref 36, .int v1, .int v2, .int v3, .int (v4 + 0), .int v5, .int (v6 + 1), .int v7, .int r], [])] (hp L xs A V K T) v h')
        else (
          am_fin [(z_M_pairs, 50, [.ref 36, .int v1, .int v2, .int v3, .int (v4 + 1), .int v5, .int (v6 + 1), .int v7, .int r], [])] (hp L xs A V K T) v h'))
      else (
        if v7 = (-2) then (
          if r = (-2) then (
            am_fin [(z_M_pairs, 50, [.ref 36, .int v1, .int v2, .int v3, .int (v4 + 1), .int v5, .int (v6 + 1), .int v7, .int r], [])] (hp L xs A V K T) v h')
          else (
            am_fin [(z_M_pairs, 50, [.ref 36, .int v1, .int v2, .int v3, .int (v4 + 0), .int v5, .int (v6 + 1), .int v7, .int r], [])] (hp L xs A V K T) v h'))
        else (
          am_fin [(z_M_pairs, 50, [.ref 36, .int v1, .int v2, .int v3, .int (v4 + 0), .int v5, .int (v6 + 1), .int v7, .int r], [])] (hp L xs A V K T) v h')))) : am_fin [(z_M_pairs, 98, [.ref 36, .int v1, .int v2, .int v3, .int v4, .int v5, .int v6, .int v7, .null], [.int r])] (hp L xs A V K T) v h' :=
  fn_istore (ls' := [.ref 36, .int v1, .int v2, .int v3, .int v4, .int v5, .int v6, .int v7, .int r]) rl_M_pairs_98 rfl rfl (fn_iload rl_M_pairs_100 rfl (fn_iload_n rl_M_pairs_102 rfl (fn_if_eq rl_M_pairs_103 (fun k1846 => fn_iconst rl_M_pairs_135 (fn_goto rl_M_pairs_136 (fn_iadd rl_M_pairs_140 (fn_istore (ls' := [.ref 36, .int v1, .int v2, .int v3, .int (v4 + 1), .int v5, .int v6, .int v7, .int r]) rl_M_pairs_141 rfl rfl (fn_iinc (ls' := [.ref 36, .int v1, .int v2, .int v3, .int (v4 + 1), .int v5, .int (v6 + 1), .int v7, .int r]) rl_M_pairs_143 rfl rfl rfl (fn_goto rl_M_pairs_146 (k1846))))))) (fun k1847 => fn_iload_n rl_M_pairs_106 rfl (fn_iconst rl_M_pairs_107 (fn_icmp_ne rl_M_pairs_108 (fun k1844 => fn_iload rl_M_pairs_111 rfl (fn_iload rl_M_pairs_113 rfl (fn_icmp_eq rl_M_pairs_115 (fun k1838 => fn_iconst rl_M_pairs_139 (fn_iadd rl_M_pairs_140 (fn_istore (ls' := [.ref 36, .int v1, .int v2, .int v3, .int (v4 + 0), .int v5, .int v6, .int v7, .int r]) rl_M_pairs_141 rfl rfl (fn_iinc (ls' := [.ref 36, .int v1, .int v2, .int v3, .int (v4 + 0), .int v5, .int (v6 + 1), .int v7, .int r]) rl_M_pairs_143 rfl rfl rfl (fn_goto rl_M_pairs_146 (k1838)))))) (fun k1839 => fn_goto rl_M_pairs_118 (fn_iconst rl_M_pairs_135 (fn_goto rl_M_pairs_136 (fn_iadd rl_M_pairs_140 (fn_istore (ls' := [.ref 36, .int v1, .int v2, .int v3, .int (v4 + 1), .int v5, .int v6, .int v7, .int r]) rl_M_pairs_141 rfl rfl (fn_iinc (ls' := [.ref 36, .int v1, .int v2, .int v3, .int (v4 + 1), .int v5, .int (v6 + 1), .int v7, .int r]) rl_M_pairs_143 rfl rfl rfl (fn_goto rl_M_pairs_146 (k1839)))))))) k1844))) (fun k1845 => fn_iload rl_M_pairs_121 rfl (fn_bipush rl_M_pairs_123 (fn_icmp_ne rl_M_pairs_125 (fun k1842 => fn_iload rl_M_pairs_128 rfl (fn_bipush rl_M_pairs_130 (fn_icmp_ne rl_M_pairs_132 (fun k1840 => fn_iconst rl_M_pairs_135 (fn_goto rl_M_pairs_136 (fn_iadd rl_M_pairs_140 (fn_istore (ls' := [.ref 36, .int v1, .int v2, .int v3, .int (v4 + 1), .int v5, .int v6, .int v7, .int r]) rl_M_pairs_141 rfl rfl (fn_iinc (ls' := [.ref 36, .int v1, .int v2, .int v3, .int (v4 + 1), .int v5, .int (v6 + 1), .int v7, .int r]) rl_M_pairs_143 rfl rfl rfl (fn_goto rl_M_pairs_146 (k1840))))))) (fun k1841 => fn_iconst rl_M_pairs_139 (fn_iadd rl_M_pairs_140 (fn_istore (ls' := [.ref 36, .int v1, .int v2, .int v3, .int (v4 + 0), .int v5, .int v6, .int v7, .int r]) rl_M_pairs_141 rfl rfl (fn_iinc (ls' := [.ref 36, .int v1, .int v2, .int v3, .int (v4 + 0), .int v5, .int (v6 + 1), .int v7, .int r]) rl_M_pairs_143 rfl rfl rfl (fn_goto rl_M_pairs_146 (k1841)))))) k1842))) (fun k1843 => fn_iconst rl_M_pairs_139 (fn_iadd rl_M_pairs_140 (fn_istore (ls' := [.ref 36, .int v1, .int v2, .int v3, .int (v4 + 0), .int v5, .int v6, .int v7, .int r]) rl_M_pairs_141 rfl rfl (fn_iinc (ls' := [.ref 36, .int v1, .int v2, .int v3, .int (v4 + 0), .int v5, .int (v6 + 1), .int v7, .int r]) rl_M_pairs_143 rfl rfl rfl (fn_goto rl_M_pairs_146 (k1843)))))) k1845))) k1847))) k0)))
set_option maxRecDepth 100000 in
set_option maxHeartbeats 4000000 in
theorem sg_M_pairs_50b {L : Nat} {xs : Nat → Int32} {A V : Nat → Nat → Int32} {K : Nat → Option Nat} {T : am_H} {v : Option Int32} {h' : am_H} {v1 v2 v3 v4 v5 v6 v7 v8 : Int32} (k0 :
    if 6 ≤ v6 then (
      am_fin [(z_M_pairs, 37, [.ref 36, .int v1, .int v2, .int v3, .int v4, .int (v5 + 1), .int v6, .int v7, .int v8], [])] (hp L xs A V K T) v h')
    else (
      if (((v3 : Int32) >>> (v5 &&& 31 : Int32)) &&& 1) = 0 then (
        am_fin [(z_M_pairs, 50, [.ref 36, .int v1, .int v2, .int v3, .int v4, .int v5, .int (v6 + 1), .int v7, .int v8], [])] (hp L xs A V K T) v h')
      else (
        if (((v3 : Int32) >>> (v6 &&& 31 : Int32)) &&& 1) = 0 then (
          am_fin [(z_M_pairs, 50, [.ref 36, .int v1, .int v2, .int v3, .int v4, .int v5, .int (v6 + 1), .int v7, .int v8], [])] (hp L xs A V K T) v h')
        else (
          am_fin [(z_M_answer, 0, [.ref 36, .int v5, .int v6, .int v1, .null, .null], []), (z_M_pairs, 87, [.ref 36, .int v1, .int v2, .int v3, .int v4, .int v5, .int v6, .int v7, .int v8], [])] (hp L xs A V K T) v h')))) : am_fin [(z_M_pairs, 50, [.ref 36, .int v1, .int v2, .int v3, .int v4, .int v5, .int v6, .int v7, .int v8], [])] (hp L xs A V K T) v h' :=
  fn_iload rl_M_pairs_50 rfl (fn_bipush rl_M_pairs_52 (fn_icmp_ge rl_M_pairs_54 (fun k1852 => fn_iinc (ls' := [.ref 36, .int v1, .int v2, .int v3, .int v4, .int (v5 + 1), .int v6, .int v7, .int v8]) rl_M_pairs_149 rfl rfl rfl (fn_goto rl_M_pairs_152 (k1852))) (fun k1853 => fn_iload_n rl_M_pairs_57 rfl (fn_iload rl_M_pairs_58 rfl (fn_ishr rl_M_pairs_60 (fn_iconst rl_M_pairs_61 (fn_iand rl_M_pairs_62 (fn_if_eq rl_M_pairs_63 (fun k1850 => fn_iinc (ls' := [.ref 36, .int v1, .int v2, .int v3, .int v4, .int v5, .int (v6 + 1), .int v7, .int v8]) rl_M_pairs_143 rfl rfl rfl (fn_goto rl_M_pairs_146 (k1850))) (fun k1851 => fn_iload_n rl_M_pairs_66 rfl (fn_iload rl_M_pairs_67 rfl (fn_ishr rl_M_pairs_69 (fn_iconst rl_M_pairs_70 (fn_iand rl_M_pairs_71 (fn_if_ne rl_M_pairs_72 (fun k1848 => fn_goto rl_M_pairs_75 (fn_iinc (ls' := [.ref 36, .int v1, .int v2, .int v3, .int v4, .int v5, .int (v6 + 1), .int v7, .int v8]) rl_M_pairs_143 rfl rfl rfl (fn_goto rl_M_pairs_146 (k1848)))) (fun k1849 => fn_aload_n rl_M_pairs_78 rfl (fn_iload rl_M_pairs_79 rfl (fn_iload rl_M_pairs_81 rfl (fn_iload_n rl_M_pairs_83 rfl (fn_virt (as := [.ref 36, .int v5, .int v6, .int v1]) (r := []) (ls' := [.ref 36, .int v5, .int v6, .int v1, .null, .null]) rl_M_pairs_84 rfl hp_36 rfl rfl pl_M_answer rfl rfl (k1849)))))) k1851)))))) k1853)))))) k0))
set_option maxRecDepth 100000 in
set_option maxHeartbeats 4000000 in
theorem sg_M_pairs_37c {L : Nat} {xs : Nat → Int32} {A V : Nat → Nat → Int32} {K : Nat → Option Nat} {T : am_H} {v : Option Int32} {h' : am_H} {v1 v2 v3 v4 v5 v6 v7 v8 : Int32} (k0 :
    if 6 ≤ v5 then (
      v = some v4 ∧ h' = hp L xs A V K T)
    else (
      am_fin [(z_M_pairs, 50, [.ref 36, .int v1, .int v2, .int v3, .int v4, .int v5, .int (v5 + 1), .int v7, .int v8], [])] (hp L xs A V K T) v h')) : am_fin [(z_M_pairs, 37, [.ref 36, .int v1, .int v2, .int v3, .int v4, .int v5, .int v6, .int v7, .int v8], [])] (hp L xs A V K T) v h' :=
  fn_iload rl_M_pairs_37 rfl (fn_bipush rl_M_pairs_39 (fn_icmp_ge rl_M_pairs_41 (fun k1854 => fn_iload rl_M_pairs_155 rfl (fn_reti rl_M_pairs_157 rfl k1854)) (fun k1855 => fn_iload rl_M_pairs_44 rfl (fn_iconst rl_M_pairs_46 (fn_iadd rl_M_pairs_47 (fn_istore (ls' := [.ref 36, .int v1, .int v2, .int v3, .int v4, .int v5, .int (v5 + 1), .int v7, .int v8]) rl_M_pairs_48 rfl rfl (k1855))))) k0))
set_option maxRecDepth 100000 in
set_option maxHeartbeats 4000000 in
theorem sg_M_pairs_87rb {L : Nat} {xs : Nat → Int32} {A V : Nat → Nat → Int32} {K : Nat → Option Nat} {T : am_H} {v : Option Int32} {h' : am_H} {v1 v2 v3 v4 v5 v6 v7 v8 r : Int32} (k0 :
    am_fin [(z_M_answer, 0, [.ref 36, .int v6, .int v5, .int v1, .null, .null], []), (z_M_pairs, 98, [.ref 36, .int v1, .int v2, .int v3, .int v4, .int v5, .int v6, .int r, .int v8], [])] (hp L xs A V K T) v h') : am_fin [(z_M_pairs, 87, [.ref 36, .int v1, .int v2, .int v3, .int v4, .int v5, .int v6, .int v7, .int v8], [.int r])] (hp L xs A V K T) v h' :=
  fn_istore (ls' := [.ref 36, .int v1, .int v2, .int v3, .int v4, .int v5, .int v6, .int r, .int v8]) rl_M_pairs_87 rfl rfl (fn_aload_n rl_M_pairs_89 rfl (fn_iload rl_M_pairs_90 rfl (fn_iload rl_M_pairs_92 rfl (fn_iload_n rl_M_pairs_94 rfl (fn_virt (as := [.ref 36, .int v6, .int v5, .int v1]) (r := []) (ls' := [.ref 36, .int v6, .int v5, .int v1, .null, .null]) rl_M_pairs_95 rfl hp_36 rfl rfl pl_M_answer rfl rfl (k0))))))
set_option maxRecDepth 100000 in
set_option maxHeartbeats 4000000 in
theorem sg_M_pairs_98rb {L : Nat} {xs : Nat → Int32} {A V : Nat → Nat → Int32} {K : Nat → Option Nat} {T : am_H} {v : Option Int32} {h' : am_H} {v1 v2 v3 v4 v5 v6 v7 v8 r : Int32} (k0 :
    if v2 = 0 then (
      am_fin [(z_M_pairs, 50, [.ref 36, .int v1, .int v2, .int v3, .int (v4 + 1), .int v5, .int (v6 + 1), .int v7, .int r], [])] (hp L xs A V K T) v h')
    else (
      if v2 = 1 then (
        if v7 = r then (
          am_fin [(z_M_pairs, 50, [.ref 36, .int v1, .int v2, .int v3, .int (v4 + 0), .int v5, .int (v6 + 1), .int v7, .int r], [])] (hp L xs A V K T) v h')
        else (
          am_fin [(z_M_pairs, 50, [.ref 36, .int v1, .int v2, .int v3, .int (v4 + 1), .int v5, .int (v6 + 1), .int v7, .int r], [])] (hp L xs A V K T) v h'))
      else (
        if v7 = (-2) then (
          if r = (-2) then (
            am_fin [(z_M_pairs, 50, [.ref 36, .int v1, .int v2, .int v3, .int (v4 + 1), .int v5, .int (v6 + 1), .int v7, .int r], [])] (hp L xs A V K T) v h')
          else (
            am_fin [(z_M_pairs, 50, [.ref 36, .int v1, .int v2, .int v3, .int (v4 + 0), .int v5, .int (v6 + 1), .int v7, .int r], [])] (hp L xs A V K T) v h'))
        else (
          am_fin [(z_M_pairs, 50, [.ref 36, .int v1, .int v2, .int v3, .int (v4 + 0), .int v5, .int (v6 + 1), .int v7, .int r], [])] (hp L xs A V K T) v h')))) : am_fin [(z_M_pairs, 98, [.ref 36, .int v1, .int v2, .int v3, .int v4, .int v5, .int v6, .int v7, .int v8], [.int r])] (hp L xs A V K T) v h' :=
  fn_istore (ls' := [.ref 36, .int v1, .int v2, .int v3, .int v4, .int v5, .int v6, .int v7, .int r]) rl_M_pairs_98 rfl rfl (fn_iload rl_M_pairs_100 rfl (fn_iload_n rl_M_pairs_102 rfl (fn_if_eq rl_M_pairs_103 (fun k1864 => fn_iconst rl_M_pairs_135 (fn_goto rl_M_pairs_136 (fn_iadd rl_M_pairs_140 (fn_istore (ls' := [.ref 36, .int v1, .int v2, .int v3, .int (v4 + 1), .int v5, .int v6, .int v7, .int r]) rl_M_pairs_141 rfl rfl (fn_iinc (ls' := [.ref 36, .int v1, .int v2, .int v3, .int (v4 + 1), .int v5, .int (v6 + 1), .int v7, .int r]) rl_M_pairs_143 rfl rfl rfl (fn_goto rl_M_pairs_146 (k1864))))))) (fun k1865 => fn_iload_n rl_M_pairs_106 rfl (fn_iconst rl_M_pairs_107 (fn_icmp_ne rl_M_pairs_108 (fun k1862 => fn_iload rl_M_pairs_111 rfl (fn_iload rl_M_pairs_113 rfl (fn_icmp_eq rl_M_pairs_115 (fun k1856 => fn_iconst rl_M_pairs_139 (fn_iadd rl_M_pairs_140 (fn_istore (ls' := [.ref 36, .int v1, .int v2, .int v3, .int (v4 + 0), .int v5, .int v6, .int v7, .int r]) rl_M_pairs_141 rfl rfl (fn_iinc (ls' := [.ref 36, .int v1, .int v2, .int v3, .int (v4 + 0), .int v5, .int (v6 + 1), .int v7, .int r]) rl_M_pairs_143 rfl rfl rfl (fn_goto rl_M_pairs_146 (k1856)))))) (fun k1857 => fn_goto rl_M_pairs_118 (fn_iconst rl_M_pairs_135 (fn_goto rl_M_pairs_136 (fn_iadd rl_M_pairs_140 (fn_istore (ls' := [.ref 36, .int v1, .int v2, .int v3, .int (v4 + 1), .int v5, .int v6, .int v7, .int r]) rl_M_pairs_141 rfl rfl (fn_iinc (ls' := [.ref 36, .int v1, .int v2, .int v3, .int (v4 + 1), .int v5, .int (v6 + 1), .int v7, .int r]) rl_M_pairs_143 rfl rfl rfl (fn_goto rl_M_pairs_146 (k1857)))))))) k1862))) (fun k1863 => fn_iload rl_M_pairs_121 rfl (fn_bipush rl_M_pairs_123 (fn_icmp_ne rl_M_pairs_125 (fun k1860 => fn_iload rl_M_pairs_128 rfl (fn_bipush rl_M_pairs_130 (fn_icmp_ne rl_M_pairs_132 (fun k1858 => fn_iconst rl_M_pairs_135 (fn_goto rl_M_pairs_136 (fn_iadd rl_M_pairs_140 (fn_istore (ls' := [.ref 36, .int v1, .int v2, .int v3, .int (v4 + 1), .int v5, .int v6, .int v7, .int r]) rl_M_pairs_141 rfl rfl (fn_iinc (ls' := [.ref 36, .int v1, .int v2, .int v3, .int (v4 + 1), .int v5, .int (v6 + 1), .int v7, .int r]) rl_M_pairs_143 rfl rfl rfl (fn_goto rl_M_pairs_146 (k1858))))))) (fun k1859 => fn_iconst rl_M_pairs_139 (fn_iadd rl_M_pairs_140 (fn_istore (ls' := [.ref 36, .int v1, .int v2, .int v3, .int (v4 + 0), .int v5, .int v6, .int v7, .int r]) rl_M_pairs_141 rfl rfl (fn_iinc (ls' := [.ref 36, .int v1, .int v2, .int v3, .int (v4 + 0), .int v5, .int (v6 + 1), .int v7, .int r]) rl_M_pairs_143 rfl rfl rfl (fn_goto rl_M_pairs_146 (k1859)))))) k1860))) (fun k1861 => fn_iconst rl_M_pairs_139 (fn_iadd rl_M_pairs_140 (fn_istore (ls' := [.ref 36, .int v1, .int v2, .int v3, .int (v4 + 0), .int v5, .int v6, .int v7, .int r]) rl_M_pairs_141 rfl rfl (fn_iinc (ls' := [.ref 36, .int v1, .int v2, .int v3, .int (v4 + 0), .int v5, .int (v6 + 1), .int v7, .int r]) rl_M_pairs_143 rfl rfl rfl (fn_goto rl_M_pairs_146 (k1861)))))) k1863))) k1865))) k0)))
set_option maxRecDepth 100000 in
set_option maxHeartbeats 4000000 in
theorem sg_M_split_0 {L : Nat} {xs : Nat → Int32} {A V : Nat → Nat → Int32} {K : Nat → Option Nat} {T : am_H} {v : Option Int32} {h' : am_H} {a1 a2 a3 : Int32} (k0 :
    if (lg_cmp ((a1 : Int32).toInt64) ((0 : Int32).toInt64)) < 0 then (
      v = some (-1) ∧ h' = hp L xs A V K T)
    else (
      if 0 < (lg_cmp ((a1 : Int32).toInt64) ((5 : Int32).toInt64)) then (
        v = some (-1) ∧ h' = hp L xs A V K T)
      else (
        if (lg_cmp ((a2 : Int32).toInt64) ((0 : Int32).toInt64)) < 0 then (
          v = some (-1) ∧ h' = hp L xs A V K T)
        else (
          if 0 < (lg_cmp ((a2 : Int32).toInt64) ((2 : Int32).toInt64)) then (
            v = some (-1) ∧ h' = hp L xs A V K T)
          else (
            if (lg_cmp ((a3 : Int32).toInt64) ((0 : Int32).toInt64)) < 0 then (
              v = some (-1) ∧ h' = hp L xs A V K T)
            else (
              if 0 < (lg_cmp ((a3 : Int32).toInt64) ((2 : Int32).toInt64)) then (
                v = some (-1) ∧ h' = hp L xs A V K T)
              else (
                am_fin [(z_M_laysCounts, 0, [.ref 36, .null, .null, .null], []), (z_M_split, 32, [.ref 36, .int a1, .int a2, .int a3], [])] (hp L xs A V K T) v h'))))))) : am_fin [(z_M_split, 0, [.ref 36, .int a1, .int a2, .int a3], [])] (hp L xs A V K T) v h' :=
  fn_iload_n rl_M_split_0 rfl (fn_stat (as := [.int a1]) (r := []) (ls' := [.int a1]) rl_M_split_1 rfl rfl rfl rfl pl_M_isLand rfl rfl (fn_iload_n rl_M_isLand_0 rfl (fn_i2l rl_M_isLand_1 (fn_lconst rl_M_isLand_2 (fn_ldc2_w rl_M_isLand_3 (fn_stat (as := [.long ((a1 : Int32).toInt64), .long ((0 : Int32).toInt64), .long ((5 : Int32).toInt64)]) (r := []) (ls' := [.long ((a1 : Int32).toInt64), .null, .long ((0 : Int32).toInt64), .null, .long ((5 : Int32).toInt64), .null]) rl_M_isLand_6 rfl rfl rfl rfl pl_M_in rfl rfl (fn_lload_n rl_M_in_0 rfl (fn_lload_n rl_M_in_1 rfl (fn_lcmp rl_M_in_2 (fn_if_lt rl_M_in_3 (fun k1876 => fn_iconst rl_M_in_17 (fn_retci rl_M_in_18 rfl (fn_retci rl_M_isLand_9 rfl (fn_if_eq_t rl_M_split_4 (by decide +kernel) (fn_iconst rl_M_split_26 (fn_reti rl_M_split_27 rfl k1876)))))) (fun k1877 => fn_lload_n rl_M_in_6 rfl (fn_lload rl_M_in_7 rfl (fn_lcmp rl_M_in_9 (fn_if_gt rl_M_in_10 (fun k1874 => fn_iconst rl_M_in_17 (fn_retci rl_M_in_18 rfl (fn_retci rl_M_isLand_9 rfl (fn_if_eq_t rl_M_split_4 (by decide +kernel) (fn_iconst rl_M_split_26 (fn_reti rl_M_split_27 rfl k1874)))))) (fun k1875 => fn_iconst rl_M_in_13 (fn_goto rl_M_in_14 (fn_retci rl_M_in_18 rfl (fn_retci rl_M_isLand_9 rfl (fn_if_eq_f rl_M_split_4 (by decide +kernel) (fn_iload_n rl_M_split_7 rfl (fn_stat (as := [.int a2]) (r := []) (ls' := [.int a2]) rl_M_split_8 rfl rfl rfl rfl pl_M_isYear rfl rfl (fn_iload_n rl_M_isYear_0 rfl (fn_i2l rl_M_isYear_1 (fn_lconst rl_M_isYear_2 (fn_ldc2_w rl_M_isYear_3 (fn_stat (as := [.long ((a2 : Int32).toInt64), .long ((0 : Int32).toInt64), .long ((2 : Int32).toInt64)]) (r := []) (ls' := [.long ((a2 : Int32).toInt64), .null, .long ((0 : Int32).toInt64), .null, .long ((2 : Int32).toInt64), .null]) rl_M_isYear_6 rfl rfl rfl rfl pl_M_in rfl rfl (fn_lload_n rl_M_in_0 rfl (fn_lload_n rl_M_in_1 rfl (fn_lcmp rl_M_in_2 (fn_if_lt rl_M_in_3 (fun k1872 => fn_iconst rl_M_in_17 (fn_retci rl_M_in_18 rfl (fn_retci rl_M_isYear_9 rfl (fn_if_eq_t rl_M_split_11 (by decide +kernel) (fn_iconst rl_M_split_26 (fn_reti rl_M_split_27 rfl k1872)))))) (fun k1873 => fn_lload_n rl_M_in_6 rfl (fn_lload rl_M_in_7 rfl (fn_lcmp rl_M_in_9 (fn_if_gt rl_M_in_10 (fun k1870 => fn_iconst rl_M_in_17 (fn_retci rl_M_in_18 rfl (fn_retci rl_M_isYear_9 rfl (fn_if_eq_t rl_M_split_11 (by decide +kernel) (fn_iconst rl_M_split_26 (fn_reti rl_M_split_27 rfl k1870)))))) (fun k1871 => fn_iconst rl_M_in_13 (fn_goto rl_M_in_14 (fn_retci rl_M_in_18 rfl (fn_retci rl_M_isYear_9 rfl (fn_if_eq_f rl_M_split_11 (by decide +kernel) (fn_iload_n rl_M_split_14 rfl (fn_i2l rl_M_split_15 (fn_lconst rl_M_split_16 (fn_ldc2_w rl_M_split_17 (fn_stat (as := [.long ((a3 : Int32).toInt64), .long ((0 : Int32).toInt64), .long ((2 : Int32).toInt64)]) (r := []) (ls' := [.long ((a3 : Int32).toInt64), .null, .long ((0 : Int32).toInt64), .null, .long ((2 : Int32).toInt64), .null]) rl_M_split_20 rfl rfl rfl rfl pl_M_in rfl rfl (fn_lload_n rl_M_in_0 rfl (fn_lload_n rl_M_in_1 rfl (fn_lcmp rl_M_in_2 (fn_if_lt rl_M_in_3 (fun k1868 => fn_iconst rl_M_in_17 (fn_retci rl_M_in_18 rfl (fn_if_ne_t rl_M_split_23 (by decide +kernel) (fn_iconst rl_M_split_26 (fn_reti rl_M_split_27 rfl k1868))))) (fun k1869 => fn_lload_n rl_M_in_6 rfl (fn_lload rl_M_in_7 rfl (fn_lcmp rl_M_in_9 (fn_if_gt rl_M_in_10 (fun k1866 => fn_iconst rl_M_in_17 (fn_retci rl_M_in_18 rfl (fn_if_ne_t rl_M_split_23 (by decide +kernel) (fn_iconst rl_M_split_26 (fn_reti rl_M_split_27 rfl k1866))))) (fun k1867 => fn_iconst rl_M_in_13 (fn_goto rl_M_in_14 (fn_retci rl_M_in_18 rfl (fn_if_ne_f rl_M_split_23 (by decide +kernel) (fn_aload_n rl_M_split_28 rfl (fn_virt (as := [.ref 36]) (r := []) (ls' := [.ref 36, .null, .null, .null]) rl_M_split_29 rfl hp_36 rfl rfl pl_M_laysCounts rfl rfl (k1867))))))) k1869)))) k1871)))))))))))))) k1873)))) k1875)))))))))))))))) k1877)))) k0))))))))))
set_option maxRecDepth 100000 in
set_option maxHeartbeats 4000000 in
theorem sg_M_split_32r {L : Nat} {xs : Nat → Int32} {A V : Nat → Nat → Int32} {K : Nat → Option Nat} {T : am_H} {v : Option Int32} {h' : am_H} {v1 v2 v3 : Int32} (k0 :
    am_fin [(z_M_isClaimed, 0, [.ref 36, .int v1, .int v2], []), (z_M_split, 38, [.ref 36, .int v1, .int v2, .int v3], [])] (hp L xs A V K T) v h') : am_fin [(z_M_split, 32, [.ref 36, .int v1, .int v2, .int v3], [])] (hp L xs A V K T) v h' :=
  fn_aload_n rl_M_split_32 rfl (fn_iload_n rl_M_split_33 rfl (fn_iload_n rl_M_split_34 rfl (fn_virt (as := [.ref 36, .int v1, .int v2]) (r := []) (ls' := [.ref 36, .int v1, .int v2]) rl_M_split_35 rfl hp_36 rfl rfl pl_M_isClaimed rfl rfl (k0))))
set_option maxRecDepth 100000 in
set_option maxHeartbeats 4000000 in
theorem sg_M_split_38r {L : Nat} {xs : Nat → Int32} {A V : Nat → Nat → Int32} {K : Nat → Option Nat} {T : am_H} {v : Option Int32} {h' : am_H} {v1 v2 v3 r : Int32} (k0 :
    if r = 0 then (
      v = some (-2) ∧ h' = hp L xs A V K T)
    else (
      if v3 = 0 then (
        am_fin [(z_M_fromOf, 0, [.ref 36, .int v1, .int v2, .null], []), (z_M_split, 54, [.ref 36, .int v1, .int v2, .int v3], [])] (hp L xs A V K T) v h')
      else (
        if v3 = 1 then (
          am_fin [(z_M_tillOf, 0, [.ref 36, .int v1, .int v2, .null], []), (z_M_split, 68, [.ref 36, .int v1, .int v2, .int v3], [])] (hp L xs A V K T) v h')
        else (
          am_fin [(z_M_fromOf, 0, [.ref 36, .int v1, .int v2, .null], []), (z_M_split, 79, [.ref 36, .int v1, .int v2, .int v3], [.int v1, .ref 36])] (hp L xs A V K T) v h')))) : am_fin [(z_M_split, 38, [.ref 36, .int v1, .int v2, .int v3], [.int r])] (hp L xs A V K T) v h' :=
  fn_if_ne rl_M_split_38 (fun k1882 => fn_bipush rl_M_split_41 (fn_reti rl_M_split_43 rfl k1882)) (fun k1883 => fn_iload_n rl_M_split_44 rfl (fn_if_ne rl_M_split_45 (fun k1880 => fn_aload_n rl_M_split_48 rfl (fn_iload_n rl_M_split_49 rfl (fn_iload_n rl_M_split_50 rfl (fn_virt (as := [.ref 36, .int v1, .int v2]) (r := []) (ls' := [.ref 36, .int v1, .int v2, .null]) rl_M_split_51 rfl hp_36 rfl rfl pl_M_fromOf rfl rfl (k1880))))) (fun k1881 => fn_iload_n rl_M_split_57 rfl (fn_iconst rl_M_split_58 (fn_icmp_ne rl_M_split_59 (fun k1878 => fn_aload_n rl_M_split_62 rfl (fn_iload_n rl_M_split_63 rfl (fn_iload_n rl_M_split_64 rfl (fn_virt (as := [.ref 36, .int v1, .int v2]) (r := []) (ls' := [.ref 36, .int v1, .int v2, .null]) rl_M_split_65 rfl hp_36 rfl rfl pl_M_tillOf rfl rfl (k1878))))) (fun k1879 => fn_aload_n rl_M_split_71 rfl (fn_iload_n rl_M_split_72 rfl (fn_aload_n rl_M_split_73 rfl (fn_iload_n rl_M_split_74 rfl (fn_iload_n rl_M_split_75 rfl (fn_virt (as := [.ref 36, .int v1, .int v2]) (r := [.int v1, .ref 36]) (ls' := [.ref 36, .int v1, .int v2, .null]) rl_M_split_76 rfl hp_36 rfl rfl pl_M_fromOf rfl rfl (k1879))))))) k1881))) k1883)) k0
set_option maxRecDepth 100000 in
set_option maxHeartbeats 4000000 in
theorem sg_M_split_54r {L : Nat} {xs : Nat → Int32} {A V : Nat → Nat → Int32} {K : Nat → Option Nat} {T : am_H} {v : Option Int32} {h' : am_H} {v1 v2 v3 r : Int32} (k0 :
    v = some r ∧ h' = hp L xs A V K T) : am_fin [(z_M_split, 54, [.ref 36, .int v1, .int v2, .int v3], [.int r])] (hp L xs A V K T) v h' :=
  fn_goto rl_M_split_54 (fn_reti rl_M_split_88 rfl k0)
set_option maxRecDepth 100000 in
set_option maxHeartbeats 4000000 in
theorem sg_M_split_68r {L : Nat} {xs : Nat → Int32} {A V : Nat → Nat → Int32} {K : Nat → Option Nat} {T : am_H} {v : Option Int32} {h' : am_H} {v1 v2 v3 r : Int32} (k0 :
    v = some r ∧ h' = hp L xs A V K T) : am_fin [(z_M_split, 68, [.ref 36, .int v1, .int v2, .int v3], [.int r])] (hp L xs A V K T) v h' :=
  fn_goto rl_M_split_68 (fn_reti rl_M_split_88 rfl k0)
set_option maxRecDepth 100000 in
set_option maxHeartbeats 4000000 in
theorem sg_M_split_79r {L : Nat} {xs : Nat → Int32} {A V : Nat → Nat → Int32} {K : Nat → Option Nat} {T : am_H} {v : Option Int32} {h' : am_H} {v1 v2 v3 s1 r : Int32} (k0 :
    am_fin [(z_M_tillOf, 0, [.ref 36, .int v1, .int v2, .null], []), (z_M_split, 85, [.ref 36, .int v1, .int v2, .int v3], [.int r, .int s1, .ref 36])] (hp L xs A V K T) v h') : am_fin [(z_M_split, 79, [.ref 36, .int v1, .int v2, .int v3], [.int r, .int s1, .ref 36])] (hp L xs A V K T) v h' :=
  fn_aload_n rl_M_split_79 rfl (fn_iload_n rl_M_split_80 rfl (fn_iload_n rl_M_split_81 rfl (fn_virt (as := [.ref 36, .int v1, .int v2]) (r := [.int r, .int s1, .ref 36]) (ls' := [.ref 36, .int v1, .int v2, .null]) rl_M_split_82 rfl hp_36 rfl rfl pl_M_tillOf rfl rfl (k0))))
set_option maxRecDepth 100000 in
set_option maxHeartbeats 4000000 in
theorem sg_M_split_85r {L : Nat} {xs : Nat → Int32} {A V : Nat → Nat → Int32} {K : Nat → Option Nat} {T : am_H} {v : Option Int32} {h' : am_H} {v1 v2 v3 s1 s2 r : Int32} (k0 :
    am_fin [(z_M_between, 0, [.ref 36, .int s1, .int s2, .int r, .null, .null], []), (z_M_split, 88, [.ref 36, .int v1, .int v2, .int v3], [])] (hp L xs A V K T) v h') : am_fin [(z_M_split, 85, [.ref 36, .int v1, .int v2, .int v3], [.int r, .int s2, .int s1, .ref 36])] (hp L xs A V K T) v h' :=
  fn_virt (as := [.ref 36, .int s1, .int s2, .int r]) (r := []) (ls' := [.ref 36, .int s1, .int s2, .int r, .null, .null]) rl_M_split_85 rfl hp_36 rfl rfl pl_M_between rfl rfl (k0)
set_option maxRecDepth 100000 in
set_option maxHeartbeats 4000000 in
theorem sg_M_split_88r {L : Nat} {xs : Nat → Int32} {A V : Nat → Nat → Int32} {K : Nat → Option Nat} {T : am_H} {v : Option Int32} {h' : am_H} {v1 v2 v3 r : Int32} (k0 :
    v = some r ∧ h' = hp L xs A V K T) : am_fin [(z_M_split, 88, [.ref 36, .int v1, .int v2, .int v3], [.int r])] (hp L xs A V K T) v h' :=
  fn_reti rl_M_split_88 rfl k0
set_option maxRecDepth 100000 in
set_option maxHeartbeats 4000000 in
theorem sg_M_owed_0 {L : Nat} {xs : Nat → Int32} {A V : Nat → Nat → Int32} {K : Nat → Option Nat} {T : am_H} {v : Option Int32} {h' : am_H} {a1 : Int32} (k0 :
    if (lg_cmp ((a1 : Int32).toInt64) ((0 : Int32).toInt64)) < 0 then (
      v = some (-1) ∧ h' = hp L xs A V K T)
    else (
      if 0 < (lg_cmp ((a1 : Int32).toInt64) ((2 : Int32).toInt64)) then (
        v = some (-1) ∧ h' = hp L xs A V K T)
      else (
        am_fin [(z_M_laysCounts, 0, [.ref 36, .null, .null, .null], []), (z_M_owed, 13, [.ref 36, .int a1], [])] (hp L xs A V K T) v h'))) : am_fin [(z_M_owed, 0, [.ref 36, .int a1], [])] (hp L xs A V K T) v h' :=
  fn_iload_n rl_M_owed_0 rfl (fn_stat (as := [.int a1]) (r := []) (ls' := [.int a1]) rl_M_owed_1 rfl rfl rfl rfl pl_M_isYear rfl rfl (fn_iload_n rl_M_isYear_0 rfl (fn_i2l rl_M_isYear_1 (fn_lconst rl_M_isYear_2 (fn_ldc2_w rl_M_isYear_3 (fn_stat (as := [.long ((a1 : Int32).toInt64), .long ((0 : Int32).toInt64), .long ((2 : Int32).toInt64)]) (r := []) (ls' := [.long ((a1 : Int32).toInt64), .null, .long ((0 : Int32).toInt64), .null, .long ((2 : Int32).toInt64), .null]) rl_M_isYear_6 rfl rfl rfl rfl pl_M_in rfl rfl (fn_lload_n rl_M_in_0 rfl (fn_lload_n rl_M_in_1 rfl (fn_lcmp rl_M_in_2 (fn_if_lt rl_M_in_3 (fun k1886 => fn_iconst rl_M_in_17 (fn_retci rl_M_in_18 rfl (fn_retci rl_M_isYear_9 rfl (fn_if_ne_t rl_M_owed_4 (by decide +kernel) (fn_iconst rl_M_owed_7 (fn_reti rl_M_owed_8 rfl k1886)))))) (fun k1887 => fn_lload_n rl_M_in_6 rfl (fn_lload rl_M_in_7 rfl (fn_lcmp rl_M_in_9 (fn_if_gt rl_M_in_10 (fun k1884 => fn_iconst rl_M_in_17 (fn_retci rl_M_in_18 rfl (fn_retci rl_M_isYear_9 rfl (fn_if_ne_t rl_M_owed_4 (by decide +kernel) (fn_iconst rl_M_owed_7 (fn_reti rl_M_owed_8 rfl k1884)))))) (fun k1885 => fn_iconst rl_M_in_13 (fn_goto rl_M_in_14 (fn_retci rl_M_in_18 rfl (fn_retci rl_M_isYear_9 rfl (fn_if_ne_f rl_M_owed_4 (by decide +kernel) (fn_aload_n rl_M_owed_9 rfl (fn_virt (as := [.ref 36]) (r := []) (ls' := [.ref 36, .null, .null, .null]) rl_M_owed_10 rfl hp_36 rfl rfl pl_M_laysCounts rfl rfl (k1885)))))))) k1887)))) k0))))))))))
set_option maxRecDepth 100000 in
set_option maxHeartbeats 4000000 in
theorem sg_M_owed_13r {L : Nat} {xs : Nat → Int32} {A V : Nat → Nat → Int32} {K : Nat → Option Nat} {T : am_H} {v : Option Int32} {h' : am_H} {v1 : Int32} (k0 :
    am_fin [(z_M_owes, 0, [.ref 36, .int v1, .null, .null, .null, .null, .null, .null], []), (z_M_owed, 18, [.ref 36, .int v1], [])] (hp L xs A V K T) v h') : am_fin [(z_M_owed, 13, [.ref 36, .int v1], [])] (hp L xs A V K T) v h' :=
  fn_aload_n rl_M_owed_13 rfl (fn_iload_n rl_M_owed_14 rfl (fn_virt (as := [.ref 36, .int v1]) (r := []) (ls' := [.ref 36, .int v1, .null, .null, .null, .null, .null, .null]) rl_M_owed_15 rfl hp_36 rfl rfl pl_M_owes rfl rfl (k0)))
set_option maxRecDepth 100000 in
set_option maxHeartbeats 4000000 in
theorem sg_M_owed_18r {L : Nat} {xs : Nat → Int32} {A V : Nat → Nat → Int32} {K : Nat → Option Nat} {T : am_H} {v : Option Int32} {h' : am_H} {v1 r : Int32} (k0 :
    v = some r ∧ h' = hp L xs A V K T) : am_fin [(z_M_owed, 18, [.ref 36, .int v1], [.int r])] (hp L xs A V K T) v h' :=
  fn_reti rl_M_owed_18 rfl k0
set_option maxRecDepth 100000 in
set_option maxHeartbeats 4000000 in
theorem sg_M_free_0 {L : Nat} {xs : Nat → Int32} {A V : Nat → Nat → Int32} {K : Nat → Option Nat} {T : am_H} {v : Option Int32} {h' : am_H} {a1 a2 a3 : Int32} (k0 :
    if (lg_cmp ((a1 : Int32).toInt64) ((0 : Int32).toInt64)) < 0 then (
      v = some (-1) ∧ h' = hp L xs A V K T)
    else (
      if 0 < (lg_cmp ((a1 : Int32).toInt64) ((5 : Int32).toInt64)) then (
        v = some (-1) ∧ h' = hp L xs A V K T)
      else (
        if (lg_cmp ((a2 : Int32).toInt64) ((0 : Int32).toInt64)) < 0 then (
          v = some (-1) ∧ h' = hp L xs A V K T)
        else (
          if 0 < (lg_cmp ((a2 : Int32).toInt64) ((1079 : Int32).toInt64)) then (
            v = some (-1) ∧ h' = hp L xs A V K T)
          else (
            if (lg_cmp ((a3 : Int32).toInt64) ((1 : Int32).toInt64)) < 0 then (
              v = some (-1) ∧ h' = hp L xs A V K T)
            else (
              if 0 < (lg_cmp ((a3 : Int32).toInt64) ((360 : Int32).toInt64)) then (
                v = some (-1) ∧ h' = hp L xs A V K T)
              else (
                am_fin [(z_M_freeOf, 0, [.ref 36, .int a1, .int a2, .int a3, .null, .null, .null, .null, .null], []), (z_M_free, 28, [.ref 36, .int a1, .int a2, .int a3], [])] (hp L xs A V K T) v h'))))))) : am_fin [(z_M_free, 0, [.ref 36, .int a1, .int a2, .int a3], [])] (hp L xs A V K T) v h' :=
  fn_iload_n rl_M_free_0 rfl (fn_stat (as := [.int a1]) (r := []) (ls' := [.int a1]) rl_M_free_1 rfl rfl rfl rfl pl_M_isLand rfl rfl (fn_iload_n rl_M_isLand_0 rfl (fn_i2l rl_M_isLand_1 (fn_lconst rl_M_isLand_2 (fn_ldc2_w rl_M_isLand_3 (fn_stat (as := [.long ((a1 : Int32).toInt64), .long ((0 : Int32).toInt64), .long ((5 : Int32).toInt64)]) (r := []) (ls' := [.long ((a1 : Int32).toInt64), .null, .long ((0 : Int32).toInt64), .null, .long ((5 : Int32).toInt64), .null]) rl_M_isLand_6 rfl rfl rfl rfl pl_M_in rfl rfl (fn_lload_n rl_M_in_0 rfl (fn_lload_n rl_M_in_1 rfl (fn_lcmp rl_M_in_2 (fn_if_lt rl_M_in_3 (fun k1898 => fn_iconst rl_M_in_17 (fn_retci rl_M_in_18 rfl (fn_retci rl_M_isLand_9 rfl (fn_if_eq_t rl_M_free_4 (by decide +kernel) (fn_iconst rl_M_free_31 (fn_reti rl_M_free_32 rfl k1898)))))) (fun k1899 => fn_lload_n rl_M_in_6 rfl (fn_lload rl_M_in_7 rfl (fn_lcmp rl_M_in_9 (fn_if_gt rl_M_in_10 (fun k1896 => fn_iconst rl_M_in_17 (fn_retci rl_M_in_18 rfl (fn_retci rl_M_isLand_9 rfl (fn_if_eq_t rl_M_free_4 (by decide +kernel) (fn_iconst rl_M_free_31 (fn_reti rl_M_free_32 rfl k1896)))))) (fun k1897 => fn_iconst rl_M_in_13 (fn_goto rl_M_in_14 (fn_retci rl_M_in_18 rfl (fn_retci rl_M_isLand_9 rfl (fn_if_eq_f rl_M_free_4 (by decide +kernel) (fn_iload_n rl_M_free_7 rfl (fn_stat (as := [.int a2]) (r := []) (ls' := [.int a2]) rl_M_free_8 rfl rfl rfl rfl pl_M_isDay rfl rfl (fn_iload_n rl_M_isDay_0 rfl (fn_i2l rl_M_isDay_1 (fn_lconst rl_M_isDay_2 (fn_ldc2_w rl_M_isDay_3 (fn_stat (as := [.long ((a2 : Int32).toInt64), .long ((0 : Int32).toInt64), .long ((1079 : Int32).toInt64)]) (r := []) (ls' := [.long ((a2 : Int32).toInt64), .null, .long ((0 : Int32).toInt64), .null, .long ((1079 : Int32).toInt64), .null]) rl_M_isDay_6 rfl rfl rfl rfl pl_M_in rfl rfl (fn_lload_n rl_M_in_0 rfl (fn_lload_n rl_M_in_1 rfl (fn_lcmp rl_M_in_2 (fn_if_lt rl_M_in_3 (fun k1894 => fn_iconst rl_M_in_17 (fn_retci rl_M_in_18 rfl (fn_retci rl_M_isDay_9 rfl (fn_if_eq_t rl_M_free_11 (by decide +kernel) (fn_iconst rl_M_free_31 (fn_reti rl_M_free_32 rfl k1894)))))) (fun k1895 => fn_lload_n rl_M_in_6 rfl (fn_lload rl_M_in_7 rfl (fn_lcmp rl_M_in_9 (fn_if_gt rl_M_in_10 (fun k1892 => fn_iconst rl_M_in_17 (fn_retci rl_M_in_18 rfl (fn_retci rl_M_isDay_9 rfl (fn_if_eq_t rl_M_free_11 (by decide +kernel) (fn_iconst rl_M_free_31 (fn_reti rl_M_free_32 rfl k1892)))))) (fun k1893 => fn_iconst rl_M_in_13 (fn_goto rl_M_in_14 (fn_retci rl_M_in_18 rfl (fn_retci rl_M_isDay_9 rfl (fn_if_eq_f rl_M_free_11 (by decide +kernel) (fn_iload_n rl_M_free_14 rfl (fn_stat (as := [.int a3]) (r := []) (ls' := [.int a3]) rl_M_free_15 rfl rfl rfl rfl pl_M_isSpan rfl rfl (fn_iload_n rl_M_isSpan_0 rfl (fn_i2l rl_M_isSpan_1 (fn_lconst rl_M_isSpan_2 (fn_ldc2_w rl_M_isSpan_3 (fn_stat (as := [.long ((a3 : Int32).toInt64), .long ((1 : Int32).toInt64), .long ((360 : Int32).toInt64)]) (r := []) (ls' := [.long ((a3 : Int32).toInt64), .null, .long ((1 : Int32).toInt64), .null, .long ((360 : Int32).toInt64), .null]) rl_M_isSpan_6 rfl rfl rfl rfl pl_M_in rfl rfl (fn_lload_n rl_M_in_0 rfl (fn_lload_n rl_M_in_1 rfl (fn_lcmp rl_M_in_2 (fn_if_lt rl_M_in_3 (fun k1890 => fn_iconst rl_M_in_17 (fn_retci rl_M_in_18 rfl (fn_retci rl_M_isSpan_9 rfl (fn_if_eq_t rl_M_free_18 (by decide +kernel) (fn_iconst rl_M_free_31 (fn_reti rl_M_free_32 rfl k1890)))))) (fun k1891 => fn_lload_n rl_M_in_6 rfl (fn_lload rl_M_in_7 rfl (fn_lcmp rl_M_in_9 (fn_if_gt rl_M_in_10 (fun k1888 => fn_iconst rl_M_in_17 (fn_retci rl_M_in_18 rfl (fn_retci rl_M_isSpan_9 rfl (fn_if_eq_t rl_M_free_18 (by decide +kernel) (fn_iconst rl_M_free_31 (fn_reti rl_M_free_32 rfl k1888)))))) (fun k1889 => fn_iconst rl_M_in_13 (fn_goto rl_M_in_14 (fn_retci rl_M_in_18 rfl (fn_retci rl_M_isSpan_9 rfl (fn_if_eq_f rl_M_free_18 (by decide +kernel) (fn_aload_n rl_M_free_21 rfl (fn_iload_n rl_M_free_22 rfl (fn_iload_n rl_M_free_23 rfl (fn_iload_n rl_M_free_24 rfl (fn_virt (as := [.ref 36, .int a1, .int a2, .int a3]) (r := []) (ls' := [.ref 36, .int a1, .int a2, .int a3, .null, .null, .null, .null, .null]) rl_M_free_25 rfl hp_36 rfl rfl pl_M_freeOf rfl rfl (k1889))))))))))) k1891)))) k1893)))))))))))))))) k1895)))) k1897)))))))))))))))) k1899)))) k0))))))))))
set_option maxRecDepth 100000 in
set_option maxHeartbeats 4000000 in
theorem sg_M_free_28r {L : Nat} {xs : Nat → Int32} {A V : Nat → Nat → Int32} {K : Nat → Option Nat} {T : am_H} {v : Option Int32} {h' : am_H} {v1 v2 v3 r : Int32} (k0 :
    v = some r ∧ h' = hp L xs A V K T) : am_fin [(z_M_free, 28, [.ref 36, .int v1, .int v2, .int v3], [.int r])] (hp L xs A V K T) v h' :=
  fn_goto rl_M_free_28 (fn_reti rl_M_free_32 rfl k0)
set_option maxRecDepth 100000 in
set_option maxHeartbeats 4000000 in
theorem sg_M_mustLeave_0 {L : Nat} {xs : Nat → Int32} {A V : Nat → Nat → Int32} {K : Nat → Option Nat} {T : am_H} {v : Option Int32} {h' : am_H} {a1 a2 : Int32} (k0 :
    if (lg_cmp ((a1 : Int32).toInt64) ((0 : Int32).toInt64)) < 0 then (
      v = some (-1) ∧ h' = hp L xs A V K T)
    else (
      if 0 < (lg_cmp ((a1 : Int32).toInt64) ((5 : Int32).toInt64)) then (
        v = some (-1) ∧ h' = hp L xs A V K T)
      else (
        if (lg_cmp ((a2 : Int32).toInt64) ((0 : Int32).toInt64)) < 0 then (
          v = some (-1) ∧ h' = hp L xs A V K T)
        else (
          if 0 < (lg_cmp ((a2 : Int32).toInt64) ((1079 : Int32).toInt64)) then (
            v = some (-1) ∧ h' = hp L xs A V K T)
          else (
            am_fin [(z_M_laysAside, 0, [.ref 36, .null], []), (z_M_mustLeave, 20, [.ref 36, .int a1, .int a2, .null], [])] (hp L xs A V K T) v h'))))) : am_fin [(z_M_mustLeave, 0, [.ref 36, .int a1, .int a2, .null], [])] (hp L xs A V K T) v h' :=
  fn_iload_n rl_M_mustLeave_0 rfl (fn_stat (as := [.int a1]) (r := []) (ls' := [.int a1]) rl_M_mustLeave_1 rfl rfl rfl rfl pl_M_isLand rfl rfl (fn_iload_n rl_M_isLand_0 rfl (fn_i2l rl_M_isLand_1 (fn_lconst rl_M_isLand_2 (fn_ldc2_w rl_M_isLand_3 (fn_stat (as := [.long ((a1 : Int32).toInt64), .long ((0 : Int32).toInt64), .long ((5 : Int32).toInt64)]) (r := []) (ls' := [.long ((a1 : Int32).toInt64), .null, .long ((0 : Int32).toInt64), .null, .long ((5 : Int32).toInt64), .null]) rl_M_isLand_6 rfl rfl rfl rfl pl_M_in rfl rfl (fn_lload_n rl_M_in_0 rfl (fn_lload_n rl_M_in_1 rfl (fn_lcmp rl_M_in_2 (fn_if_lt rl_M_in_3 (fun k1906 => fn_iconst rl_M_in_17 (fn_retci rl_M_in_18 rfl (fn_retci rl_M_isLand_9 rfl (fn_if_eq_t rl_M_mustLeave_4 (by decide +kernel) (fn_iconst rl_M_mustLeave_14 (fn_reti rl_M_mustLeave_15 rfl k1906)))))) (fun k1907 => fn_lload_n rl_M_in_6 rfl (fn_lload rl_M_in_7 rfl (fn_lcmp rl_M_in_9 (fn_if_gt rl_M_in_10 (fun k1904 => fn_iconst rl_M_in_17 (fn_retci rl_M_in_18 rfl (fn_retci rl_M_isLand_9 rfl (fn_if_eq_t rl_M_mustLeave_4 (by decide +kernel) (fn_iconst rl_M_mustLeave_14 (fn_reti rl_M_mustLeave_15 rfl k1904)))))) (fun k1905 => fn_iconst rl_M_in_13 (fn_goto rl_M_in_14 (fn_retci rl_M_in_18 rfl (fn_retci rl_M_isLand_9 rfl (fn_if_eq_f rl_M_mustLeave_4 (by decide +kernel) (fn_iload_n rl_M_mustLeave_7 rfl (fn_stat (as := [.int a2]) (r := []) (ls' := [.int a2]) rl_M_mustLeave_8 rfl rfl rfl rfl pl_M_isDay rfl rfl (fn_iload_n rl_M_isDay_0 rfl (fn_i2l rl_M_isDay_1 (fn_lconst rl_M_isDay_2 (fn_ldc2_w rl_M_isDay_3 (fn_stat (as := [.long ((a2 : Int32).toInt64), .long ((0 : Int32).toInt64), .long ((1079 : Int32).toInt64)]) (r := []) (ls' := [.long ((a2 : Int32).toInt64), .null, .long ((0 : Int32).toInt64), .null, .long ((1079 : Int32).toInt64), .null]) rl_M_isDay_6 rfl rfl rfl rfl pl_M_in rfl rfl (fn_lload_n rl_M_in_0 rfl (fn_lload_n rl_M_in_1 rfl (fn_lcmp rl_M_in_2 (fn_if_lt rl_M_in_3 (fun k1902 => fn_iconst rl_M_in_17 (fn_retci rl_M_in_18 rfl (fn_retci rl_M_isDay_9 rfl (fn_if_ne_t rl_M_mustLeave_11 (by decide +kernel) (fn_iconst rl_M_mustLeave_14 (fn_reti rl_M_mustLeave_15 rfl k1902)))))) (fun k1903 => fn_lload_n rl_M_in_6 rfl (fn_lload rl_M_in_7 rfl (fn_lcmp rl_M_in_9 (fn_if_gt rl_M_in_10 (fun k1900 => fn_iconst rl_M_in_17 (fn_retci rl_M_in_18 rfl (fn_retci rl_M_isDay_9 rfl (fn_if_ne_t rl_M_mustLeave_11 (by decide +kernel) (fn_iconst rl_M_mustLeave_14 (fn_reti rl_M_mustLeave_15 rfl k1900)))))) (fun k1901 => fn_iconst rl_M_in_13 (fn_goto rl_M_in_14 (fn_retci rl_M_in_18 rfl (fn_retci rl_M_isDay_9 rfl (fn_if_ne_f rl_M_mustLeave_11 (by decide +kernel) (fn_aload_n rl_M_mustLeave_16 rfl (fn_virt (as := [.ref 36]) (r := []) (ls' := [.ref 36, .null]) rl_M_mustLeave_17 rfl hp_36 rfl rfl pl_M_laysAside rfl rfl (k1901)))))))) k1903)))) k1905)))))))))))))))) k1907)))) k0))))))))))
set_option maxRecDepth 100000 in
set_option maxHeartbeats 4000000 in
theorem sg_M_mustLeave_20r {L : Nat} {xs : Nat → Int32} {A V : Nat → Nat → Int32} {K : Nat → Option Nat} {T : am_H} {v : Option Int32} {h' : am_H} {v1 v2 : Int32} (k0 :
    am_fin [(z_M_goes, 0, [.ref 36, .int v1, .int v2, .int 1079, .null], []), (z_M_mustLeave, 29, [.ref 36, .int v1, .int v2, .null], [])] (hp L xs A V K T) v h') : am_fin [(z_M_mustLeave, 20, [.ref 36, .int v1, .int v2, .null], [])] (hp L xs A V K T) v h' :=
  fn_aload_n rl_M_mustLeave_20 rfl (fn_iload_n rl_M_mustLeave_21 rfl (fn_iload_n rl_M_mustLeave_22 rfl (fn_sipush rl_M_mustLeave_23 (fn_virt (as := [.ref 36, .int v1, .int v2, .int 1079]) (r := []) (ls' := [.ref 36, .int v1, .int v2, .int 1079, .null]) rl_M_mustLeave_26 rfl hp_36 rfl rfl pl_M_goes rfl rfl (k0)))))
set_option maxRecDepth 100000 in
set_option maxHeartbeats 4000000 in
theorem sg_M_mustLeave_29r {L : Nat} {xs : Nat → Int32} {A V : Nat → Nat → Int32} {K : Nat → Option Nat} {T : am_H} {v : Option Int32} {h' : am_H} {v1 v2 : Int32} (k0 :
    am_fin [(z_M_overstayed, 0, [.ref 36, .int v1, .int v2, .int 1079, .int 1, .null, .null, .null, .null], []), (z_M_mustLeave, 39, [.ref 36, .int v1, .int v2, .null], [])] (hp L xs A V K T) v h') : am_fin [(z_M_mustLeave, 29, [.ref 36, .int v1, .int v2, .null], [])] (hp L xs A V K T) v h' :=
  fn_aload_n rl_M_mustLeave_29 rfl (fn_iload_n rl_M_mustLeave_30 rfl (fn_iload_n rl_M_mustLeave_31 rfl (fn_sipush rl_M_mustLeave_32 (fn_iconst rl_M_mustLeave_35 (fn_virt (as := [.ref 36, .int v1, .int v2, .int 1079, .int 1]) (r := []) (ls' := [.ref 36, .int v1, .int v2, .int 1079, .int 1, .null, .null, .null, .null]) rl_M_mustLeave_36 rfl hp_36 rfl rfl pl_M_overstayed rfl rfl (k0))))))
set_option maxRecDepth 100000 in
set_option maxHeartbeats 4000000 in
theorem sg_M_mustLeave_39r {L : Nat} {xs : Nat → Int32} {A V : Nat → Nat → Int32} {K : Nat → Option Nat} {T : am_H} {v : Option Int32} {h' : am_H} {v1 v2 r : Int32} (k0 :
    am_fin [(z_M_takesAside, 0, [.ref 36, .null], []), (z_M_mustLeave, 44, [.ref 36, .int v1, .int v2, .int r], [])] (hp L xs A V K T) v h') : am_fin [(z_M_mustLeave, 39, [.ref 36, .int v1, .int v2, .null], [.int r])] (hp L xs A V K T) v h' :=
  fn_istore_n (ls' := [.ref 36, .int v1, .int v2, .int r]) rl_M_mustLeave_39 rfl rfl (fn_aload_n rl_M_mustLeave_40 rfl (fn_virt (as := [.ref 36]) (r := []) (ls' := [.ref 36, .null]) rl_M_mustLeave_41 rfl hp_36 rfl rfl pl_M_takesAside rfl rfl (k0)))
set_option maxRecDepth 100000 in
set_option maxHeartbeats 4000000 in
theorem sg_M_mustLeave_44r {L : Nat} {xs : Nat → Int32} {A V : Nat → Nat → Int32} {K : Nat → Option Nat} {T : am_H} {v : Option Int32} {h' : am_H} {v1 v2 v3 : Int32} (k0 :
    v = some v3 ∧ h' = hp L xs A V K T) : am_fin [(z_M_mustLeave, 44, [.ref 36, .int v1, .int v2, .int v3], [])] (hp L xs A V K T) v h' :=
  fn_iload_n rl_M_mustLeave_44 rfl (fn_reti rl_M_mustLeave_45 rfl k0)
set_option maxRecDepth 100000 in
set_option maxHeartbeats 4000000 in
theorem sg_M_mayCome_0 {L : Nat} {xs : Nat → Int32} {A V : Nat → Nat → Int32} {K : Nat → Option Nat} {T : am_H} {v : Option Int32} {h' : am_H} {a1 a2 a3 : Int32} (k0 :
    if (lg_cmp ((a1 : Int32).toInt64) ((0 : Int32).toInt64)) < 0 then (
      v = some (-1) ∧ h' = hp L xs A V K T)
    else (
      if 0 < (lg_cmp ((a1 : Int32).toInt64) ((5 : Int32).toInt64)) then (
        v = some (-1) ∧ h' = hp L xs A V K T)
      else (
        if (lg_cmp ((a2 : Int32).toInt64) ((0 : Int32).toInt64)) < 0 then (
          v = some (-1) ∧ h' = hp L xs A V K T)
        else (
          if 0 < (lg_cmp ((a2 : Int32).toInt64) ((1079 : Int32).toInt64)) then (
            v = some (-1) ∧ h' = hp L xs A V K T)
          else (
            if (lg_cmp ((a3 : Int32).toInt64) ((1 : Int32).toInt64)) < 0 then (
              v = some (-1) ∧ h' = hp L xs A V K T)
            else (
              if 0 < (lg_cmp ((a3 : Int32).toInt64) ((360 : Int32).toInt64)) then (
                v = some (-1) ∧ h' = hp L xs A V K T)
              else (
                ¬ (((13 * a1) + 0) < 0 ∨ 258 ≤ ((13 * a1) + 0).toNatClampNeg) ∧ (
                if ((A 41) ((13 * a1) + 0).toNatClampNeg) = 0 then (
                  v = some a2 ∧ h' = hp L xs A V K T)
                else (
                  am_fin [(z_M_mayCome, 41, [.ref 36, .int a1, .int a2, .int a3, .int ((A 41) ((13 * a1) + 0).toNatClampNeg), .int 0, .null, .null], [])] (hp L xs A V K T) v h'))))))))) : am_fin [(z_M_mayCome, 0, [.ref 36, .int a1, .int a2, .int a3, .null, .null, .null, .null], [])] (hp L xs A V K T) v h' :=
  fn_iload_n rl_M_mayCome_0 rfl (fn_stat (as := [.int a1]) (r := []) (ls' := [.int a1]) rl_M_mayCome_1 rfl rfl rfl rfl pl_M_isLand rfl rfl (fn_iload_n rl_M_isLand_0 rfl (fn_i2l rl_M_isLand_1 (fn_lconst rl_M_isLand_2 (fn_ldc2_w rl_M_isLand_3 (fn_stat (as := [.long ((a1 : Int32).toInt64), .long ((0 : Int32).toInt64), .long ((5 : Int32).toInt64)]) (r := []) (ls' := [.long ((a1 : Int32).toInt64), .null, .long ((0 : Int32).toInt64), .null, .long ((5 : Int32).toInt64), .null]) rl_M_isLand_6 rfl rfl rfl rfl pl_M_in rfl rfl (fn_lload_n rl_M_in_0 rfl (fn_lload_n rl_M_in_1 rfl (fn_lcmp rl_M_in_2 (fn_if_lt rl_M_in_3 (fun k1921 => fn_iconst rl_M_in_17 (fn_retci rl_M_in_18 rfl (fn_retci rl_M_isLand_9 rfl (fn_if_eq_t rl_M_mayCome_4 (by decide +kernel) (fn_iconst rl_M_mayCome_21 (fn_reti rl_M_mayCome_22 rfl k1921)))))) (fun k1922 => fn_lload_n rl_M_in_6 rfl (fn_lload rl_M_in_7 rfl (fn_lcmp rl_M_in_9 (fn_if_gt rl_M_in_10 (fun k1919 => fn_iconst rl_M_in_17 (fn_retci rl_M_in_18 rfl (fn_retci rl_M_isLand_9 rfl (fn_if_eq_t rl_M_mayCome_4 (by decide +kernel) (fn_iconst rl_M_mayCome_21 (fn_reti rl_M_mayCome_22 rfl k1919)))))) (fun k1920 => fn_iconst rl_M_in_13 (fn_goto rl_M_in_14 (fn_retci rl_M_in_18 rfl (fn_retci rl_M_isLand_9 rfl (fn_if_eq_f rl_M_mayCome_4 (by decide +kernel) (fn_iload_n rl_M_mayCome_7 rfl (fn_stat (as := [.int a2]) (r := []) (ls' := [.int a2]) rl_M_mayCome_8 rfl rfl rfl rfl pl_M_isDay rfl rfl (fn_iload_n rl_M_isDay_0 rfl (fn_i2l rl_M_isDay_1 (fn_lconst rl_M_isDay_2 (fn_ldc2_w rl_M_isDay_3 (fn_stat (as := [.long ((a2 : Int32).toInt64), .long ((0 : Int32).toInt64), .long ((1079 : Int32).toInt64)]) (r := []) (ls' := [.long ((a2 : Int32).toInt64), .null, .long ((0 : Int32).toInt64), .null, .long ((1079 : Int32).toInt64), .null]) rl_M_isDay_6 rfl rfl rfl rfl pl_M_in rfl rfl (fn_lload_n rl_M_in_0 rfl (fn_lload_n rl_M_in_1 rfl (fn_lcmp rl_M_in_2 (fn_if_lt rl_M_in_3 (fun k1917 => fn_iconst rl_M_in_17 (fn_retci rl_M_in_18 rfl (fn_retci rl_M_isDay_9 rfl (fn_if_eq_t rl_M_mayCome_11 (by decide +kernel) (fn_iconst rl_M_mayCome_21 (fn_reti rl_M_mayCome_22 rfl k1917)))))) (fun k1918 => fn_lload_n rl_M_in_6 rfl (fn_lload rl_M_in_7 rfl (fn_lcmp rl_M_in_9 (fn_if_gt rl_M_in_10 (fun k1915 => fn_iconst rl_M_in_17 (fn_retci rl_M_in_18 rfl (fn_retci rl_M_isDay_9 rfl (fn_if_eq_t rl_M_mayCome_11 (by decide +kernel) (fn_iconst rl_M_mayCome_21 (fn_reti rl_M_mayCome_22 rfl k1915)))))) (fun k1916 => fn_iconst rl_M_in_13 (fn_goto rl_M_in_14 (fn_retci rl_M_in_18 rfl (fn_retci rl_M_isDay_9 rfl (fn_if_eq_f rl_M_mayCome_11 (by decide +kernel) (fn_iload_n rl_M_mayCome_14 rfl (fn_stat (as := [.int a3]) (r := []) (ls' := [.int a3]) rl_M_mayCome_15 rfl rfl rfl rfl pl_M_isSpan rfl rfl (fn_iload_n rl_M_isSpan_0 rfl (fn_i2l rl_M_isSpan_1 (fn_lconst rl_M_isSpan_2 (fn_ldc2_w rl_M_isSpan_3 (fn_stat (as := [.long ((a3 : Int32).toInt64), .long ((1 : Int32).toInt64), .long ((360 : Int32).toInt64)]) (r := []) (ls' := [.long ((a3 : Int32).toInt64), .null, .long ((1 : Int32).toInt64), .null, .long ((360 : Int32).toInt64), .null]) rl_M_isSpan_6 rfl rfl rfl rfl pl_M_in rfl rfl (fn_lload_n rl_M_in_0 rfl (fn_lload_n rl_M_in_1 rfl (fn_lcmp rl_M_in_2 (fn_if_lt rl_M_in_3 (fun k1913 => fn_iconst rl_M_in_17 (fn_retci rl_M_in_18 rfl (fn_retci rl_M_isSpan_9 rfl (fn_if_ne_t rl_M_mayCome_18 (by decide +kernel) (fn_iconst rl_M_mayCome_21 (fn_reti rl_M_mayCome_22 rfl k1913)))))) (fun k1914 => fn_lload_n rl_M_in_6 rfl (fn_lload rl_M_in_7 rfl (fn_lcmp rl_M_in_9 (fn_if_gt rl_M_in_10 (fun k1911 => fn_iconst rl_M_in_17 (fn_retci rl_M_in_18 rfl (fn_retci rl_M_isSpan_9 rfl (fn_if_ne_t rl_M_mayCome_18 (by decide +kernel) (fn_iconst rl_M_mayCome_21 (fn_reti rl_M_mayCome_22 rfl k1911)))))) (fun k1912 => fn_iconst rl_M_in_13 (fn_goto rl_M_in_14 (fn_retci rl_M_in_18 rfl (fn_retci rl_M_isSpan_9 rfl (fn_if_ne_f rl_M_mayCome_18 (by decide +kernel) (fn_aload_n rl_M_mayCome_23 rfl (fn_iload_n rl_M_mayCome_24 rfl (fn_iconst rl_M_mayCome_25 (fn_virt (as := [.ref 36, .int a1, .int 0]) (r := []) (ls' := [.ref 36, .int a1, .int 0]) rl_M_mayCome_26 rfl hp_36 rfl rfl pl_M_of rfl rfl (fn_aload_n rl_M_of_0 rfl (fn_get rl_M_of_1 hp_36 rfl (fn_bipush rl_M_of_4 (fn_iload_n rl_M_of_6 rfl (fn_imul rl_M_of_7 (fn_iload_n rl_M_of_8 rfl (fn_iadd rl_M_of_9 (fn_iald rl_M_of_10 hp_41 (fun k1910 => fn_retci rl_M_of_11 rfl (fn_istore (ls' := [.ref 36, .int a1, .int a2, .int a3, .int ((A 41) ((13 * a1) + 0).toNatClampNeg), .null, .null, .null]) rl_M_mayCome_29 rfl rfl (fn_iload rl_M_mayCome_31 rfl (fn_if_ne rl_M_mayCome_33 (fun k1908 => fn_iload_n rl_M_mayCome_36 rfl (fn_reti rl_M_mayCome_37 rfl k1908)) (fun k1909 => fn_iconst rl_M_mayCome_38 (fn_istore (ls' := [.ref 36, .int a1, .int a2, .int a3, .int ((A 41) ((13 * a1) + 0).toNatClampNeg), .int 0, .null, .null]) rl_M_mayCome_39 rfl rfl (k1909))) k1910)))) k1912))))))))))))))))) k1914)))) k1916)))))))))))))))) k1918)))) k1920)))))))))))))))) k1922)))) k0))))))))))
set_option maxRecDepth 100000 in
set_option maxHeartbeats 4000000 in
theorem sg_M_mayCome_41 {L : Nat} {xs : Nat → Int32} {A V : Nat → Nat → Int32} {K : Nat → Option Nat} {T : am_H} {v : Option Int32} {h' : am_H} {v1 v2 v3 v4 v5 : Int32} (k0 :
    if 1080 ≤ v5 then (
      am_fin [(z_M_mayCome, 91, [.ref 36, .int v1, .int v2, .int v3, .int v4, .int v2, .null, .null], [])] (hp L xs A V K T) v h')
    else (
      ¬ (v5 < 0 ∨ 1081 ≤ v5.toNatClampNeg) ∧ (
      ¬ (v5 < 0 ∨ 1080 ≤ v5.toNatClampNeg) ∧ (
      if ((A 37) v5.toNatClampNeg) = v1 then (
        ¬ ((v5 + 1) < 0 ∨ 1081 ≤ (v5 + 1).toNatClampNeg) ∧ (
        am_fin [(z_M_mayCome, 41, [.ref 36, .int v1, .int v2, .int v3, .int v4, .int (v5 + 1), .null, .null], [])] (hp L xs (upA A 48 (upd (A 48) (v5 + 1).toNatClampNeg (((A 48) v5.toNatClampNeg) + 1))) V K T) v h'))
      else (
        ¬ ((v5 + 1) < 0 ∨ 1081 ≤ (v5 + 1).toNatClampNeg) ∧ (
        am_fin [(z_M_mayCome, 41, [.ref 36, .int v1, .int v2, .int v3, .int v4, .int (v5 + 1), .null, .null], [])] (hp L xs (upA A 48 (upd (A 48) (v5 + 1).toNatClampNeg (((A 48) v5.toNatClampNeg) + 0))) V K T) v h')))))) : am_fin [(z_M_mayCome, 41, [.ref 36, .int v1, .int v2, .int v3, .int v4, .int v5, .null, .null], [])] (hp L xs A V K T) v h' :=
  fn_iload rl_M_mayCome_41 rfl (fn_sipush rl_M_mayCome_43 (fn_icmp_ge rl_M_mayCome_46 (fun k1929 => fn_iload_n rl_M_mayCome_88 rfl (fn_istore (ls' := [.ref 36, .int v1, .int v2, .int v3, .int v4, .int v2, .null, .null]) rl_M_mayCome_89 rfl rfl (k1929))) (fun k1930 => fn_aload_n rl_M_mayCome_49 rfl (fn_get rl_M_mayCome_50 hp_36 rfl (fn_iload rl_M_mayCome_53 rfl (fn_iconst rl_M_mayCome_55 (fn_iadd rl_M_mayCome_56 (fn_aload_n rl_M_mayCome_57 rfl (fn_get rl_M_mayCome_58 hp_36 rfl (fn_iload rl_M_mayCome_61 rfl (fn_iald rl_M_mayCome_63 hp_48 (fun k1928 => fn_aload_n rl_M_mayCome_64 rfl (fn_get rl_M_mayCome_65 hp_36 rfl (fn_iload rl_M_mayCome_68 rfl (fn_iald rl_M_mayCome_70 hp_37 (fun k1927 => fn_iload_n rl_M_mayCome_71 rfl (fn_icmp_ne rl_M_mayCome_72 (fun k1925 => fn_iconst rl_M_mayCome_75 (fn_goto rl_M_mayCome_76 (fn_iadd rl_M_mayCome_80 (fn_iast rl_M_mayCome_81 hp_48 hps_48 (fun k1923 => fn_iinc (ls' := [.ref 36, .int v1, .int v2, .int v3, .int v4, .int (v5 + 1), .null, .null]) rl_M_mayCome_82 rfl rfl rfl (fn_goto rl_M_mayCome_85 (k1923))) k1925)))) (fun k1926 => fn_iconst rl_M_mayCome_79 (fn_iadd rl_M_mayCome_80 (fn_iast rl_M_mayCome_81 hp_48 hps_48 (fun k1924 => fn_iinc (ls' := [.ref 36, .int v1, .int v2, .int v3, .int v4, .int (v5 + 1), .null, .null]) rl_M_mayCome_82 rfl rfl rfl (fn_goto rl_M_mayCome_85 (k1924))) k1926))) k1927)) k1928)))) k1930))))))))) k0))
set_option maxRecDepth 100000 in
set_option maxHeartbeats 4000000 in
theorem sg_M_mayCome_91 {L : Nat} {xs : Nat → Int32} {A V : Nat → Nat → Int32} {K : Nat → Option Nat} {T : am_H} {v : Option Int32} {h' : am_H} {v1 v2 v3 v4 v5 : Int32} (k0 :
    if 1080 ≤ v5 then (
      v = some (-2) ∧ h' = hp L xs A V K T)
    else (
      am_fin [(z_M_mayCome, 106, [.ref 36, .int v1, .int v2, .int v3, .int v4, .int v5, .int 1, .int v5], [])] (hp L xs A V K T) v h')) : am_fin [(z_M_mayCome, 91, [.ref 36, .int v1, .int v2, .int v3, .int v4, .int v5, .null, .null], [])] (hp L xs A V K T) v h' :=
  fn_iload rl_M_mayCome_91 rfl (fn_sipush rl_M_mayCome_93 (fn_icmp_ge rl_M_mayCome_96 (fun k1931 => fn_bipush rl_M_mayCome_174 (fn_reti rl_M_mayCome_176 rfl k1931)) (fun k1932 => fn_iconst rl_M_mayCome_99 (fn_istore (ls' := [.ref 36, .int v1, .int v2, .int v3, .int v4, .int v5, .int 1, .null]) rl_M_mayCome_100 rfl rfl (fn_iload rl_M_mayCome_102 rfl (fn_istore (ls' := [.ref 36, .int v1, .int v2, .int v3, .int v4, .int v5, .int 1, .int v5]) rl_M_mayCome_104 rfl rfl (k1932))))) k0))
set_option maxRecDepth 100000 in
set_option maxHeartbeats 4000000 in
theorem sg_M_mayCome_106 {L : Nat} {xs : Nat → Int32} {A V : Nat → Nat → Int32} {K : Nat → Option Nat} {T : am_H} {v : Option Int32} {h' : am_H} {v1 v2 v3 v4 v5 v6 v7 : Int32} (k0 :
    if 1080 ≤ v7 then (
      if v6 = 0 then (
        am_fin [(z_M_mayCome, 91, [.ref 36, .int v1, .int v2, .int v3, .int v4, .int (v5 + 1), .int v6, .int v7], [])] (hp L xs A V K T) v h')
      else (
        v = some v5 ∧ h' = hp L xs A V K T))
    else (
      if (v5 + v3) ≤ v7 then (
        if v6 = 0 then (
          am_fin [(z_M_mayCome, 91, [.ref 36, .int v1, .int v2, .int v3, .int v4, .int (v5 + 1), .int v6, .int v7], [])] (hp L xs A V K T) v h')
        else (
          v = some v5 ∧ h' = hp L xs A V K T))
      else (
        if v6 = 0 then (
          if v6 = 0 then (
            am_fin [(z_M_mayCome, 91, [.ref 36, .int v1, .int v2, .int v3, .int v4, .int (v5 + 1), .int v6, .int v7], [])] (hp L xs A V K T) v h')
          else (
            v = some v5 ∧ h' = hp L xs A V K T))
        else (
          am_fin [(z_M_wouldBe, 0, [.ref 36, .int v7, .int v5, .int v4, .null], []), (z_M_mayCome, 138, [.ref 36, .int v1, .int v2, .int v3, .int v4, .int v5, .int v6, .int v7], [])] (hp L xs A V K T) v h')))) : am_fin [(z_M_mayCome, 106, [.ref 36, .int v1, .int v2, .int v3, .int v4, .int v5, .int v6, .int v7], [])] (hp L xs A V K T) v h' :=
  fn_iload rl_M_mayCome_106 rfl (fn_sipush rl_M_mayCome_108 (fn_icmp_ge rl_M_mayCome_111 (fun k1943 => fn_iload rl_M_mayCome_160 rfl (fn_if_eq rl_M_mayCome_162 (fun k1933 => fn_iinc (ls' := [.ref 36, .int v1, .int v2, .int v3, .int v4, .int (v5 + 1), .int v6, .int v7]) rl_M_mayCome_168 rfl rfl rfl (fn_goto rl_M_mayCome_171 (k1933))) (fun k1934 => fn_iload rl_M_mayCome_165 rfl (fn_reti rl_M_mayCome_167 rfl k1934)) k1943)) (fun k1944 => fn_iload rl_M_mayCome_114 rfl (fn_iload rl_M_mayCome_116 rfl (fn_iload_n rl_M_mayCome_118 rfl (fn_iadd rl_M_mayCome_119 (fn_icmp_ge rl_M_mayCome_120 (fun k1941 => fn_iload rl_M_mayCome_160 rfl (fn_if_eq rl_M_mayCome_162 (fun k1935 => fn_iinc (ls' := [.ref 36, .int v1, .int v2, .int v3, .int v4, .int (v5 + 1), .int v6, .int v7]) rl_M_mayCome_168 rfl rfl rfl (fn_goto rl_M_mayCome_171 (k1935))) (fun k1936 => fn_iload rl_M_mayCome_165 rfl (fn_reti rl_M_mayCome_167 rfl k1936)) k1941)) (fun k1942 => fn_iload rl_M_mayCome_123 rfl (fn_if_eq rl_M_mayCome_125 (fun k1939 => fn_iload rl_M_mayCome_160 rfl (fn_if_eq rl_M_mayCome_162 (fun k1937 => fn_iinc (ls' := [.ref 36, .int v1, .int v2, .int v3, .int v4, .int (v5 + 1), .int v6, .int v7]) rl_M_mayCome_168 rfl rfl rfl (fn_goto rl_M_mayCome_171 (k1937))) (fun k1938 => fn_iload rl_M_mayCome_165 rfl (fn_reti rl_M_mayCome_167 rfl k1938)) k1939)) (fun k1940 => fn_aload_n rl_M_mayCome_128 rfl (fn_iload rl_M_mayCome_129 rfl (fn_iload rl_M_mayCome_131 rfl (fn_iload rl_M_mayCome_133 rfl (fn_virt (as := [.ref 36, .int v7, .int v5, .int v4]) (r := []) (ls' := [.ref 36, .int v7, .int v5, .int v4, .null]) rl_M_mayCome_135 rfl hp_36 rfl rfl pl_M_wouldBe rfl rfl (k1940)))))) k1942)) k1944))))) k0))
set_option maxRecDepth 100000 in
set_option maxHeartbeats 4000000 in
theorem sg_M_mayCome_91b {L : Nat} {xs : Nat → Int32} {A V : Nat → Nat → Int32} {K : Nat → Option Nat} {T : am_H} {v : Option Int32} {h' : am_H} {v1 v2 v3 v4 v5 v6 v7 : Int32} (k0 :
    if 1080 ≤ v5 then (
      v = some (-2) ∧ h' = hp L xs A V K T)
    else (
      am_fin [(z_M_mayCome, 106, [.ref 36, .int v1, .int v2, .int v3, .int v4, .int v5, .int 1, .int v5], [])] (hp L xs A V K T) v h')) : am_fin [(z_M_mayCome, 91, [.ref 36, .int v1, .int v2, .int v3, .int v4, .int v5, .int v6, .int v7], [])] (hp L xs A V K T) v h' :=
  fn_iload rl_M_mayCome_91 rfl (fn_sipush rl_M_mayCome_93 (fn_icmp_ge rl_M_mayCome_96 (fun k1945 => fn_bipush rl_M_mayCome_174 (fn_reti rl_M_mayCome_176 rfl k1945)) (fun k1946 => fn_iconst rl_M_mayCome_99 (fn_istore (ls' := [.ref 36, .int v1, .int v2, .int v3, .int v4, .int v5, .int 1, .int v7]) rl_M_mayCome_100 rfl rfl (fn_iload rl_M_mayCome_102 rfl (fn_istore (ls' := [.ref 36, .int v1, .int v2, .int v3, .int v4, .int v5, .int 1, .int v5]) rl_M_mayCome_104 rfl rfl (k1946))))) k0))
set_option maxRecDepth 100000 in
set_option maxHeartbeats 4000000 in
theorem sg_M_mayCome_138r {L : Nat} {xs : Nat → Int32} {A V : Nat → Nat → Int32} {K : Nat → Option Nat} {T : am_H} {v : Option Int32} {h' : am_H} {v1 v2 v3 v4 v5 v6 v7 r : Int32} (k0 :
    ¬ (((13 * v1) + 1) < 0 ∨ 258 ≤ ((13 * v1) + 1).toNatClampNeg) ∧ (
    if ((A 41) ((13 * v1) + 1).toNatClampNeg) < r then (
      am_fin [(z_M_mayCome, 106, [.ref 36, .int v1, .int v2, .int v3, .int v4, .int v5, .int 0, .int (v7 + 1)], [])] (hp L xs A V K T) v h')
    else (
      am_fin [(z_M_mayCome, 106, [.ref 36, .int v1, .int v2, .int v3, .int v4, .int v5, .int 1, .int (v7 + 1)], [])] (hp L xs A V K T) v h'))) : am_fin [(z_M_mayCome, 138, [.ref 36, .int v1, .int v2, .int v3, .int v4, .int v5, .int v6, .int v7], [.int r])] (hp L xs A V K T) v h' :=
  fn_aload_n rl_M_mayCome_138 rfl (fn_iload_n rl_M_mayCome_139 rfl (fn_iconst rl_M_mayCome_140 (fn_virt (as := [.ref 36, .int v1, .int 1]) (r := [.int r]) (ls' := [.ref 36, .int v1, .int 1]) rl_M_mayCome_141 rfl hp_36 rfl rfl pl_M_of rfl rfl (fn_aload_n rl_M_of_0 rfl (fn_get rl_M_of_1 hp_36 rfl (fn_bipush rl_M_of_4 (fn_iload_n rl_M_of_6 rfl (fn_imul rl_M_of_7 (fn_iload_n rl_M_of_8 rfl (fn_iadd rl_M_of_9 (fn_iald rl_M_of_10 hp_41 (fun k1949 => fn_retci rl_M_of_11 rfl (fn_icmp_gt rl_M_mayCome_144 (fun k1947 => fn_iconst rl_M_mayCome_151 (fn_istore (ls' := [.ref 36, .int v1, .int v2, .int v3, .int v4, .int v5, .int 0, .int v7]) rl_M_mayCome_152 rfl rfl (fn_iinc (ls' := [.ref 36, .int v1, .int v2, .int v3, .int v4, .int v5, .int 0, .int (v7 + 1)]) rl_M_mayCome_154 rfl rfl rfl (fn_goto rl_M_mayCome_157 (k1947))))) (fun k1948 => fn_iconst rl_M_mayCome_147 (fn_goto rl_M_mayCome_148 (fn_istore (ls' := [.ref 36, .int v1, .int v2, .int v3, .int v4, .int v5, .int 1, .int v7]) rl_M_mayCome_152 rfl rfl (fn_iinc (ls' := [.ref 36, .int v1, .int v2, .int v3, .int v4, .int v5, .int 1, .int (v7 + 1)]) rl_M_mayCome_154 rfl rfl rfl (fn_goto rl_M_mayCome_157 (k1948)))))) k1949)) k0)))))))))))
set_option maxRecDepth 100000 in
set_option maxHeartbeats 4000000 in
theorem sg_M_claimBy_0 {L : Nat} {xs : Nat → Int32} {A V : Nat → Nat → Int32} {K : Nat → Option Nat} {T : am_H} {v : Option Int32} {h' : am_H} {a1 a2 : Int32} (k0 :
    if (lg_cmp ((a1 : Int32).toInt64) ((0 : Int32).toInt64)) < 0 then (
      v = some (-1) ∧ h' = hp L xs A V K T)
    else (
      if 0 < (lg_cmp ((a1 : Int32).toInt64) ((5 : Int32).toInt64)) then (
        v = some (-1) ∧ h' = hp L xs A V K T)
      else (
        if (lg_cmp ((a2 : Int32).toInt64) ((0 : Int32).toInt64)) < 0 then (
          v = some (-1) ∧ h' = hp L xs A V K T)
        else (
          if 0 < (lg_cmp ((a2 : Int32).toInt64) ((1079 : Int32).toInt64)) then (
            v = some (-1) ∧ h' = hp L xs A V K T)
          else (
            am_fin [(z_M_laysCounts, 0, [.ref 36, .null, .null, .null], []), (z_M_claimBy, 20, [.ref 36, .int a1, .int a2, .null], [])] (hp L xs A V K T) v h'))))) : am_fin [(z_M_claimBy, 0, [.ref 36, .int a1, .int a2, .null], [])] (hp L xs A V K T) v h' :=
  fn_iload_n rl_M_claimBy_0 rfl (fn_stat (as := [.int a1]) (r := []) (ls' := [.int a1]) rl_M_claimBy_1 rfl rfl rfl rfl pl_M_isLand rfl rfl (fn_iload_n rl_M_isLand_0 rfl (fn_i2l rl_M_isLand_1 (fn_lconst rl_M_isLand_2 (fn_ldc2_w rl_M_isLand_3 (fn_stat (as := [.long ((a1 : Int32).toInt64), .long ((0 : Int32).toInt64), .long ((5 : Int32).toInt64)]) (r := []) (ls' := [.long ((a1 : Int32).toInt64), .null, .long ((0 : Int32).toInt64), .null, .long ((5 : Int32).toInt64), .null]) rl_M_isLand_6 rfl rfl rfl rfl pl_M_in rfl rfl (fn_lload_n rl_M_in_0 rfl (fn_lload_n rl_M_in_1 rfl (fn_lcmp rl_M_in_2 (fn_if_lt rl_M_in_3 (fun k1956 => fn_iconst rl_M_in_17 (fn_retci rl_M_in_18 rfl (fn_retci rl_M_isLand_9 rfl (fn_if_eq_t rl_M_claimBy_4 (by decide +kernel) (fn_iconst rl_M_claimBy_14 (fn_reti rl_M_claimBy_15 rfl k1956)))))) (fun k1957 => fn_lload_n rl_M_in_6 rfl (fn_lload rl_M_in_7 rfl (fn_lcmp rl_M_in_9 (fn_if_gt rl_M_in_10 (fun k1954 => fn_iconst rl_M_in_17 (fn_retci rl_M_in_18 rfl (fn_retci rl_M_isLand_9 rfl (fn_if_eq_t rl_M_claimBy_4 (by decide +kernel) (fn_iconst rl_M_claimBy_14 (fn_reti rl_M_claimBy_15 rfl k1954)))))) (fun k1955 => fn_iconst rl_M_in_13 (fn_goto rl_M_in_14 (fn_retci rl_M_in_18 rfl (fn_retci rl_M_isLand_9 rfl (fn_if_eq_f rl_M_claimBy_4 (by decide +kernel) (fn_iload_n rl_M_claimBy_7 rfl (fn_stat (as := [.int a2]) (r := []) (ls' := [.int a2]) rl_M_claimBy_8 rfl rfl rfl rfl pl_M_isDay rfl rfl (fn_iload_n rl_M_isDay_0 rfl (fn_i2l rl_M_isDay_1 (fn_lconst rl_M_isDay_2 (fn_ldc2_w rl_M_isDay_3 (fn_stat (as := [.long ((a2 : Int32).toInt64), .long ((0 : Int32).toInt64), .long ((1079 : Int32).toInt64)]) (r := []) (ls' := [.long ((a2 : Int32).toInt64), .null, .long ((0 : Int32).toInt64), .null, .long ((1079 : Int32).toInt64), .null]) rl_M_isDay_6 rfl rfl rfl rfl pl_M_in rfl rfl (fn_lload_n rl_M_in_0 rfl (fn_lload_n rl_M_in_1 rfl (fn_lcmp rl_M_in_2 (fn_if_lt rl_M_in_3 (fun k1952 => fn_iconst rl_M_in_17 (fn_retci rl_M_in_18 rfl (fn_retci rl_M_isDay_9 rfl (fn_if_ne_t rl_M_claimBy_11 (by decide +kernel) (fn_iconst rl_M_claimBy_14 (fn_reti rl_M_claimBy_15 rfl k1952)))))) (fun k1953 => fn_lload_n rl_M_in_6 rfl (fn_lload rl_M_in_7 rfl (fn_lcmp rl_M_in_9 (fn_if_gt rl_M_in_10 (fun k1950 => fn_iconst rl_M_in_17 (fn_retci rl_M_in_18 rfl (fn_retci rl_M_isDay_9 rfl (fn_if_ne_t rl_M_claimBy_11 (by decide +kernel) (fn_iconst rl_M_claimBy_14 (fn_reti rl_M_claimBy_15 rfl k1950)))))) (fun k1951 => fn_iconst rl_M_in_13 (fn_goto rl_M_in_14 (fn_retci rl_M_in_18 rfl (fn_retci rl_M_isDay_9 rfl (fn_if_ne_f rl_M_claimBy_11 (by decide +kernel) (fn_aload_n rl_M_claimBy_16 rfl (fn_virt (as := [.ref 36]) (r := []) (ls' := [.ref 36, .null, .null, .null]) rl_M_claimBy_17 rfl hp_36 rfl rfl pl_M_laysCounts rfl rfl (k1951)))))))) k1953)))) k1955)))))))))))))))) k1957)))) k0))))))))))
set_option maxRecDepth 100000 in
set_option maxHeartbeats 4000000 in
theorem sg_M_claimBy_20r {L : Nat} {xs : Nat → Int32} {A V : Nat → Nat → Int32} {K : Nat → Option Nat} {T : am_H} {v : Option Int32} {h' : am_H} {v1 v2 : Int32} (k0 :
    am_fin [(z_M_claimBy, 22, [.ref 36, .int v1, .int v2, .int v2], [])] (hp L xs A V K T) v h') : am_fin [(z_M_claimBy, 20, [.ref 36, .int v1, .int v2, .null], [])] (hp L xs A V K T) v h' :=
  fn_iload_n rl_M_claimBy_20 rfl (fn_istore_n (ls' := [.ref 36, .int v1, .int v2, .int v2]) rl_M_claimBy_21 rfl rfl (k0))
set_option maxRecDepth 100000 in
set_option maxHeartbeats 4000000 in
theorem sg_M_claimBy_22 {L : Nat} {xs : Nat → Int32} {A V : Nat → Nat → Int32} {K : Nat → Option Nat} {T : am_H} {v : Option Int32} {h' : am_H} {v1 v2 v3 : Int32} (k0 :
    if 1080 ≤ v3 then (
      v = some (-2) ∧ h' = hp L xs A V K T)
    else (
      ¬ (v3 < 0 ∨ 1080 ≤ v3.toNatClampNeg) ∧ (
      if ((A 37) v3.toNatClampNeg) = v1 then (
        am_fin [(z_M_isClaimed, 0, [.ref 36, .int v1, .int (v3 / 360)], []), (z_M_claimBy, 58, [.ref 36, .int v1, .int v2, .int v3], [])] (hp L xs A V K T) v h')
      else (
        if v1 = (-1) then (
          am_fin [(z_M_isClaimed, 0, [.ref 36, .int v1, .int (v3 / 360)], []), (z_M_claimBy, 58, [.ref 36, .int v1, .int v2, .int v3], [])] (hp L xs A V K T) v h')
        else (
          ¬ ((((18 * 0) + (3 * v1)) + (v3 / 360)) < 0 ∨ 54 ≤ (((18 * 0) + (3 * v1)) + (v3 / 360)).toNatClampNeg) ∧ (
          ¬ ((((18 * 0) + (3 * v1)) + (v3 / 360)) < 0 ∨ 54 ≤ (((18 * 0) + (3 * v1)) + (v3 / 360)).toNatClampNeg) ∧ (
          am_fin [(z_M_isClaimed, 0, [.ref 36, .int v1, .int (v3 / 360)], []), (z_M_claimBy, 58, [.ref 36, .int v1, .int v2, .int v3], [])] (hp L xs (upA A 47 (upd (A 47) (((18 * 0) + (3 * v1)) + (v3 / 360)).toNatClampNeg (((A 47) (((18 * 0) + (3 * v1)) + (v3 / 360)).toNatClampNeg) + 1))) V K T) v h'))))))) : am_fin [(z_M_claimBy, 22, [.ref 36, .int v1, .int v2, .int v3], [])] (hp L xs A V K T) v h' :=
  fn_iload_n rl_M_claimBy_22 rfl (fn_sipush rl_M_claimBy_23 (fn_icmp_ge rl_M_claimBy_26 (fun k1965 => fn_bipush rl_M_claimBy_69 (fn_reti rl_M_claimBy_71 rfl k1965)) (fun k1966 => fn_aload_n rl_M_claimBy_29 rfl (fn_get rl_M_claimBy_30 hp_36 rfl (fn_iload_n rl_M_claimBy_33 rfl (fn_iald rl_M_claimBy_34 hp_37 (fun k1964 => fn_iload_n rl_M_claimBy_35 rfl (fn_icmp_eq rl_M_claimBy_36 (fun k1962 => fn_aload_n rl_M_claimBy_49 rfl (fn_iload_n rl_M_claimBy_50 rfl (fn_iload_n rl_M_claimBy_51 rfl (fn_stat (as := [.int v3]) (r := [.int v1, .ref 36]) (ls' := [.int v3]) rl_M_claimBy_52 rfl rfl rfl rfl pl_M_yearOf rfl rfl (fn_iload_n rl_M_yearOf_0 rfl (fn_sipush rl_M_yearOf_1 (fn_idiv rl_M_yearOf_4 (by decide +kernel) (fn_retci rl_M_yearOf_5 rfl (fn_virt (as := [.ref 36, .int v1, .int (v3 / 360)]) (r := []) (ls' := [.ref 36, .int v1, .int (v3 / 360)]) rl_M_claimBy_55 rfl hp_36 rfl rfl pl_M_isClaimed rfl rfl (k1962)))))))))) (fun k1963 => fn_aload_n rl_M_claimBy_39 rfl (fn_iload_n rl_M_claimBy_40 rfl (fn_iload_n rl_M_claimBy_41 rfl (fn_stat (as := [.int v3]) (r := [.int v1, .ref 36]) (ls' := [.int v3]) rl_M_claimBy_42 rfl rfl rfl rfl pl_M_yearOf rfl rfl (fn_iload_n rl_M_yearOf_0 rfl (fn_sipush rl_M_yearOf_1 (fn_idiv rl_M_yearOf_4 (by decide +kernel) (fn_retci rl_M_yearOf_5 rfl (fn_iconst rl_M_claimBy_45 (fn_virt (as := [.ref 36, .int v1, .int (v3 / 360), .int 1]) (r := []) (ls' := [.ref 36, .int v1, .int (v3 / 360), .int 1]) rl_M_claimBy_46 rfl hp_36 rfl rfl pl_M_adds rfl rfl (fn_iload_n rl_M_adds_0 rfl (fn_iconst rl_M_adds_1 (fn_icmp_eq rl_M_adds_2 (fun k1960 => fn_retcv rl_M_adds_29 (fn_aload_n rl_M_claimBy_49 rfl (fn_iload_n rl_M_claimBy_50 rfl (fn_iload_n rl_M_claimBy_51 rfl (fn_stat (as := [.int v3]) (r := [.int v1, .ref 36]) (ls' := [.int v3]) rl_M_claimBy_52 rfl rfl rfl rfl pl_M_yearOf rfl rfl (fn_iload_n rl_M_yearOf_0 rfl (fn_sipush rl_M_yearOf_1 (fn_idiv rl_M_yearOf_4 (by decide +kernel) (fn_retci rl_M_yearOf_5 rfl (fn_virt (as := [.ref 36, .int v1, .int (v3 / 360)]) (r := []) (ls' := [.ref 36, .int v1, .int (v3 / 360)]) rl_M_claimBy_55 rfl hp_36 rfl rfl pl_M_isClaimed rfl rfl (k1960))))))))))) (fun k1961 => fn_aload_n rl_M_adds_5 rfl (fn_get rl_M_adds_6 hp_36 rfl (fn_iconst rl_M_adds_9 (fn_iload_n rl_M_adds_10 rfl (fn_iload_n rl_M_adds_11 rfl (fn_stat (as := [.int 0, .int v1, .int (v3 / 360)]) (r := [.ref 47]) (ls' := [.int 0, .int v1, .int (v3 / 360)]) rl_M_adds_12 rfl rfl rfl rfl pl_M_countAt rfl rfl (fn_bipush rl_M_countAt_0 (fn_iload_n rl_M_countAt_2 rfl (fn_imul rl_M_countAt_3 (fn_iconst rl_M_countAt_4 (fn_iload_n rl_M_countAt_5 rfl (fn_imul rl_M_countAt_6 (fn_iadd rl_M_countAt_7 (fn_iload_n rl_M_countAt_8 rfl (fn_iadd rl_M_countAt_9 (fn_retci rl_M_countAt_10 rfl (fn_aload_n rl_M_adds_15 rfl (fn_get rl_M_adds_16 hp_36 rfl (fn_iconst rl_M_adds_19 (fn_iload_n rl_M_adds_20 rfl (fn_iload_n rl_M_adds_21 rfl (fn_stat (as := [.int 0, .int v1, .int (v3 / 360)]) (r := [.ref 47, .int (((18 * 0) + (3 * v1)) + (v3 / 360)), .ref 47]) (ls' := [.int 0, .int v1, .int (v3 / 360)]) rl_M_adds_22 rfl rfl rfl rfl pl_M_countAt rfl rfl (fn_bipush rl_M_countAt_0 (fn_iload_n rl_M_countAt_2 rfl (fn_imul rl_M_countAt_3 (fn_iconst rl_M_countAt_4 (fn_iload_n rl_M_countAt_5 rfl (fn_imul rl_M_countAt_6 (fn_iadd rl_M_countAt_7 (fn_iload_n rl_M_countAt_8 rfl (fn_iadd rl_M_countAt_9 (fn_retci rl_M_countAt_10 rfl (fn_iald rl_M_adds_25 hp_47 (fun k1959 => fn_iload_n rl_M_adds_26 rfl (fn_iadd rl_M_adds_27 (fn_iast rl_M_adds_28 hp_47 hps_47 (fun k1958 => fn_retcv rl_M_adds_29 (fn_aload_n rl_M_claimBy_49 rfl (fn_iload_n rl_M_claimBy_50 rfl (fn_iload_n rl_M_claimBy_51 rfl (fn_stat (as := [.int v3]) (r := [.int v1, .ref 36]) (ls' := [.int v3]) rl_M_claimBy_52 rfl rfl rfl rfl pl_M_yearOf rfl rfl (fn_iload_n rl_M_yearOf_0 rfl (fn_sipush rl_M_yearOf_1 (fn_idiv rl_M_yearOf_4 (by decide +kernel) (fn_retci rl_M_yearOf_5 rfl (fn_virt (as := [.ref 36, .int v1, .int (v3 / 360)]) (r := []) (ls' := [.ref 36, .int v1, .int (v3 / 360)]) rl_M_claimBy_55 rfl hp_36 rfl rfl pl_M_isClaimed rfl rfl (k1958))))))))))) k1959))) k1961))))))))))))))))))))))))))))))))) k1963))))))))))))) k1964)) k1966)))) k0))
set_option maxRecDepth 100000 in
set_option maxHeartbeats 4000000 in
theorem sg_M_claimBy_58r {L : Nat} {xs : Nat → Int32} {A V : Nat → Nat → Int32} {K : Nat → Option Nat} {T : am_H} {v : Option Int32} {h' : am_H} {v1 v2 v3 r : Int32} (k0 :
    if r = 0 then (
      am_fin [(z_M_claimBy, 22, [.ref 36, .int v1, .int v2, .int (v3 + 1)], [])] (hp L xs A V K T) v h')
    else (
      v = some v3 ∧ h' = hp L xs A V K T)) : am_fin [(z_M_claimBy, 58, [.ref 36, .int v1, .int v2, .int v3], [.int r])] (hp L xs A V K T) v h' :=
  fn_if_eq rl_M_claimBy_58 (fun k1967 => fn_iinc (ls' := [.ref 36, .int v1, .int v2, .int (v3 + 1)]) rl_M_claimBy_63 rfl rfl rfl (fn_goto rl_M_claimBy_66 (k1967))) (fun k1968 => fn_iload_n rl_M_claimBy_61 rfl (fn_reti rl_M_claimBy_62 rfl k1968)) k0
set_option maxRecDepth 100000 in
set_option maxHeartbeats 4000000 in
theorem sg_M_freest_0 {L : Nat} {xs : Nat → Int32} {A V : Nat → Nat → Int32} {K : Nat → Option Nat} {T : am_H} {v : Option Int32} {h' : am_H} {a1 a2 a3 : Int32} (k0 :
    if (lg_cmp ((a1 : Int32).toInt64) ((0 : Int32).toInt64)) < 0 then (
      v = some (-1) ∧ h' = hp L xs A V K T)
    else (
      if 0 < (lg_cmp ((a1 : Int32).toInt64) ((1079 : Int32).toInt64)) then (
        v = some (-1) ∧ h' = hp L xs A V K T)
      else (
        if (lg_cmp ((a2 : Int32).toInt64) ((1 : Int32).toInt64)) < 0 then (
          v = some (-1) ∧ h' = hp L xs A V K T)
        else (
          if 0 < (lg_cmp ((a2 : Int32).toInt64) ((360 : Int32).toInt64)) then (
            v = some (-1) ∧ h' = hp L xs A V K T)
          else (
            if (lg_cmp ((a3 : Int32).toInt64) ((0 : Int32).toInt64)) < 0 then (
              v = some (-1) ∧ h' = hp L xs A V K T)
            else (
              if 0 < (lg_cmp ((a3 : Int32).toInt64) ((1 : Int32).toInt64)) then (
                v = some (-1) ∧ h' = hp L xs A V K T)
              else (
                am_fin [(z_M_freest, 35, [.ref 36, .int a1, .int a2, .int a3, .int (-1), .int (-1), .int 0, .null], [])] (hp L xs A V K T) v h'))))))) : am_fin [(z_M_freest, 0, [.ref 36, .int a1, .int a2, .int a3, .null, .null, .null, .null], [])] (hp L xs A V K T) v h' :=
  fn_iload_n rl_M_freest_0 rfl (fn_stat (as := [.int a1]) (r := []) (ls' := [.int a1]) rl_M_freest_1 rfl rfl rfl rfl pl_M_isDay rfl rfl (fn_iload_n rl_M_isDay_0 rfl (fn_i2l rl_M_isDay_1 (fn_lconst rl_M_isDay_2 (fn_ldc2_w rl_M_isDay_3 (fn_stat (as := [.long ((a1 : Int32).toInt64), .long ((0 : Int32).toInt64), .long ((1079 : Int32).toInt64)]) (r := []) (ls' := [.long ((a1 : Int32).toInt64), .null, .long ((0 : Int32).toInt64), .null, .long ((1079 : Int32).toInt64), .null]) rl_M_isDay_6 rfl rfl rfl rfl pl_M_in rfl rfl (fn_lload_n rl_M_in_0 rfl (fn_lload_n rl_M_in_1 rfl (fn_lcmp rl_M_in_2 (fn_if_lt rl_M_in_3 (fun k1979 => fn_iconst rl_M_in_17 (fn_retci rl_M_in_18 rfl (fn_retci rl_M_isDay_9 rfl (fn_if_eq_t rl_M_freest_4 (by decide +kernel) (fn_iconst rl_M_freest_24 (fn_reti rl_M_freest_25 rfl k1979)))))) (fun k1980 => fn_lload_n rl_M_in_6 rfl (fn_lload rl_M_in_7 rfl (fn_lcmp rl_M_in_9 (fn_if_gt rl_M_in_10 (fun k1977 => fn_iconst rl_M_in_17 (fn_retci rl_M_in_18 rfl (fn_retci rl_M_isDay_9 rfl (fn_if_eq_t rl_M_freest_4 (by decide +kernel) (fn_iconst rl_M_freest_24 (fn_reti rl_M_freest_25 rfl k1977)))))) (fun k1978 => fn_iconst rl_M_in_13 (fn_goto rl_M_in_14 (fn_retci rl_M_in_18 rfl (fn_retci rl_M_isDay_9 rfl (fn_if_eq_f rl_M_freest_4 (by decide +kernel) (fn_iload_n rl_M_freest_7 rfl (fn_stat (as := [.int a2]) (r := []) (ls' := [.int a2]) rl_M_freest_8 rfl rfl rfl rfl pl_M_isSpan rfl rfl (fn_iload_n rl_M_isSpan_0 rfl (fn_i2l rl_M_isSpan_1 (fn_lconst rl_M_isSpan_2 (fn_ldc2_w rl_M_isSpan_3 (fn_stat (as := [.long ((a2 : Int32).toInt64), .long ((1 : Int32).toInt64), .long ((360 : Int32).toInt64)]) (r := []) (ls' := [.long ((a2 : Int32).toInt64), .null, .long ((1 : Int32).toInt64), .null, .long ((360 : Int32).toInt64), .null]) rl_M_isSpan_6 rfl rfl rfl rfl pl_M_in rfl rfl (fn_lload_n rl_M_in_0 rfl (fn_lload_n rl_M_in_1 rfl (fn_lcmp rl_M_in_2 (fn_if_lt rl_M_in_3 (fun k1975 => fn_iconst rl_M_in_17 (fn_retci rl_M_in_18 rfl (fn_retci rl_M_isSpan_9 rfl (fn_if_eq_t rl_M_freest_11 (by decide +kernel) (fn_iconst rl_M_freest_24 (fn_reti rl_M_freest_25 rfl k1975)))))) (fun k1976 => fn_lload_n rl_M_in_6 rfl (fn_lload rl_M_in_7 rfl (fn_lcmp rl_M_in_9 (fn_if_gt rl_M_in_10 (fun k1973 => fn_iconst rl_M_in_17 (fn_retci rl_M_in_18 rfl (fn_retci rl_M_isSpan_9 rfl (fn_if_eq_t rl_M_freest_11 (by decide +kernel) (fn_iconst rl_M_freest_24 (fn_reti rl_M_freest_25 rfl k1973)))))) (fun k1974 => fn_iconst rl_M_in_13 (fn_goto rl_M_in_14 (fn_retci rl_M_in_18 rfl (fn_retci rl_M_isSpan_9 rfl (fn_if_eq_f rl_M_freest_11 (by decide +kernel) (fn_iload_n rl_M_freest_14 rfl (fn_i2l rl_M_freest_15 (fn_lconst rl_M_freest_16 (fn_lconst rl_M_freest_17 (fn_stat (as := [.long ((a3 : Int32).toInt64), .long ((0 : Int32).toInt64), .long ((1 : Int32).toInt64)]) (r := []) (ls' := [.long ((a3 : Int32).toInt64), .null, .long ((0 : Int32).toInt64), .null, .long ((1 : Int32).toInt64), .null]) rl_M_freest_18 rfl rfl rfl rfl pl_M_in rfl rfl (fn_lload_n rl_M_in_0 rfl (fn_lload_n rl_M_in_1 rfl (fn_lcmp rl_M_in_2 (fn_if_lt rl_M_in_3 (fun k1971 => fn_iconst rl_M_in_17 (fn_retci rl_M_in_18 rfl (fn_if_ne_t rl_M_freest_21 (by decide +kernel) (fn_iconst rl_M_freest_24 (fn_reti rl_M_freest_25 rfl k1971))))) (fun k1972 => fn_lload_n rl_M_in_6 rfl (fn_lload rl_M_in_7 rfl (fn_lcmp rl_M_in_9 (fn_if_gt rl_M_in_10 (fun k1969 => fn_iconst rl_M_in_17 (fn_retci rl_M_in_18 rfl (fn_if_ne_t rl_M_freest_21 (by decide +kernel) (fn_iconst rl_M_freest_24 (fn_reti rl_M_freest_25 rfl k1969))))) (fun k1970 => fn_iconst rl_M_in_13 (fn_goto rl_M_in_14 (fn_retci rl_M_in_18 rfl (fn_if_ne_f rl_M_freest_21 (by decide +kernel) (fn_iconst rl_M_freest_26 (fn_istore (ls' := [.ref 36, .int a1, .int a2, .int a3, .int (-1), .null, .null, .null]) rl_M_freest_27 rfl rfl (fn_iconst rl_M_freest_29 (fn_istore (ls' := [.ref 36, .int a1, .int a2, .int a3, .int (-1), .int (-1), .null, .null]) rl_M_freest_30 rfl rfl (fn_iconst rl_M_freest_32 (fn_istore (ls' := [.ref 36, .int a1, .int a2, .int a3, .int (-1), .int (-1), .int 0, .null]) rl_M_freest_33 rfl rfl (k1970))))))))))) k1972)))) k1974)))))))))))))) k1976)))) k1978)))))))))))))))) k1980)))) k0))))))))))
set_option maxRecDepth 100000 in
set_option maxHeartbeats 4000000 in
theorem sg_M_freest_35 {L : Nat} {xs : Nat → Int32} {A V : Nat → Nat → Int32} {K : Nat → Option Nat} {T : am_H} {v : Option Int32} {h' : am_H} {v1 v2 v3 v4 v5 v6 : Int32} (k0 :
    if 6 ≤ v6 then (
      if v3 = 0 then (
        v = some v4 ∧ h' = hp L xs A V K T)
      else (
        v = some v5 ∧ h' = hp L xs A V K T))
    else (
      am_fin [(z_M_freeOf, 0, [.ref 36, .int v6, .int v1, .int v2, .null, .null, .null, .null, .null], []), (z_M_freest, 50, [.ref 36, .int v1, .int v2, .int v3, .int v4, .int v5, .int v6, .null], [])] (hp L xs A V K T) v h')) : am_fin [(z_M_freest, 35, [.ref 36, .int v1, .int v2, .int v3, .int v4, .int v5, .int v6, .null], [])] (hp L xs A V K T) v h' :=
  fn_iload rl_M_freest_35 rfl (fn_bipush rl_M_freest_37 (fn_icmp_ge rl_M_freest_39 (fun k1983 => fn_iload_n rl_M_freest_76 rfl (fn_if_ne rl_M_freest_77 (fun k1981 => fn_iload rl_M_freest_80 rfl (fn_goto rl_M_freest_82 (fn_reti rl_M_freest_87 rfl k1981))) (fun k1982 => fn_iload rl_M_freest_85 rfl (fn_reti rl_M_freest_87 rfl k1982)) k1983)) (fun k1984 => fn_aload_n rl_M_freest_42 rfl (fn_iload rl_M_freest_43 rfl (fn_iload_n rl_M_freest_45 rfl (fn_iload_n rl_M_freest_46 rfl (fn_virt (as := [.ref 36, .int v6, .int v1, .int v2]) (r := []) (ls' := [.ref 36, .int v6, .int v1, .int v2, .null, .null, .null, .null, .null]) rl_M_freest_47 rfl hp_36 rfl rfl pl_M_freeOf rfl rfl (k1984)))))) k0))
set_option maxRecDepth 100000 in
set_option maxHeartbeats 4000000 in
theorem sg_M_freest_50r {L : Nat} {xs : Nat → Int32} {A V : Nat → Nat → Int32} {K : Nat → Option Nat} {T : am_H} {v : Option Int32} {h' : am_H} {v1 v2 v3 v4 v5 v6 r : Int32} (k0 :
    if v5 < r then (
      am_fin [(z_M_freest, 35, [.ref 36, .int v1, .int v2, .int v3, .int v6, .int r, .int (v6 + 1), .int r], [])] (hp L xs A V K T) v h')
    else (
      am_fin [(z_M_freest, 35, [.ref 36, .int v1, .int v2, .int v3, .int v4, .int v5, .int (v6 + 1), .int r], [])] (hp L xs A V K T) v h')) : am_fin [(z_M_freest, 50, [.ref 36, .int v1, .int v2, .int v3, .int v4, .int v5, .int v6, .null], [.int r])] (hp L xs A V K T) v h' :=
  fn_istore (ls' := [.ref 36, .int v1, .int v2, .int v3, .int v4, .int v5, .int v6, .int r]) rl_M_freest_50 rfl rfl (fn_iload rl_M_freest_52 rfl (fn_iload rl_M_freest_54 rfl (fn_icmp_gt rl_M_freest_56 (fun k1985 => fn_iload rl_M_freest_62 rfl (fn_istore (ls' := [.ref 36, .int v1, .int v2, .int v3, .int v6, .int v5, .int v6, .int r]) rl_M_freest_64 rfl rfl (fn_iload rl_M_freest_66 rfl (fn_istore (ls' := [.ref 36, .int v1, .int v2, .int v3, .int v6, .int r, .int v6, .int r]) rl_M_freest_68 rfl rfl (fn_iinc (ls' := [.ref 36, .int v1, .int v2, .int v3, .int v6, .int r, .int (v6 + 1), .int r]) rl_M_freest_70 rfl rfl rfl (fn_goto rl_M_freest_73 (k1985))))))) (fun k1986 => fn_goto rl_M_freest_59 (fn_iinc (ls' := [.ref 36, .int v1, .int v2, .int v3, .int v4, .int v5, .int (v6 + 1), .int r]) rl_M_freest_70 rfl rfl rfl (fn_goto rl_M_freest_73 (k1986)))) k0)))
set_option maxRecDepth 100000 in
set_option maxHeartbeats 4000000 in
theorem sg_M_freest_35b {L : Nat} {xs : Nat → Int32} {A V : Nat → Nat → Int32} {K : Nat → Option Nat} {T : am_H} {v : Option Int32} {h' : am_H} {v1 v2 v3 v4 v5 v6 v7 : Int32} (k0 :
    if 6 ≤ v6 then (
      if v3 = 0 then (
        v = some v4 ∧ h' = hp L xs A V K T)
      else (
        v = some v5 ∧ h' = hp L xs A V K T))
    else (
      am_fin [(z_M_freeOf, 0, [.ref 36, .int v6, .int v1, .int v2, .null, .null, .null, .null, .null], []), (z_M_freest, 50, [.ref 36, .int v1, .int v2, .int v3, .int v4, .int v5, .int v6, .int v7], [])] (hp L xs A V K T) v h')) : am_fin [(z_M_freest, 35, [.ref 36, .int v1, .int v2, .int v3, .int v4, .int v5, .int v6, .int v7], [])] (hp L xs A V K T) v h' :=
  fn_iload rl_M_freest_35 rfl (fn_bipush rl_M_freest_37 (fn_icmp_ge rl_M_freest_39 (fun k1989 => fn_iload_n rl_M_freest_76 rfl (fn_if_ne rl_M_freest_77 (fun k1987 => fn_iload rl_M_freest_80 rfl (fn_goto rl_M_freest_82 (fn_reti rl_M_freest_87 rfl k1987))) (fun k1988 => fn_iload rl_M_freest_85 rfl (fn_reti rl_M_freest_87 rfl k1988)) k1989)) (fun k1990 => fn_aload_n rl_M_freest_42 rfl (fn_iload rl_M_freest_43 rfl (fn_iload_n rl_M_freest_45 rfl (fn_iload_n rl_M_freest_46 rfl (fn_virt (as := [.ref 36, .int v6, .int v1, .int v2]) (r := []) (ls' := [.ref 36, .int v6, .int v1, .int v2, .null, .null, .null, .null, .null]) rl_M_freest_47 rfl hp_36 rfl rfl pl_M_freeOf rfl rfl (k1990)))))) k0))
set_option maxRecDepth 100000 in
set_option maxHeartbeats 4000000 in
theorem sg_M_freest_50rb {L : Nat} {xs : Nat → Int32} {A V : Nat → Nat → Int32} {K : Nat → Option Nat} {T : am_H} {v : Option Int32} {h' : am_H} {v1 v2 v3 v4 v5 v6 v7 r : Int32} (k0 :
    if v5 < r then (
      am_fin [(z_M_freest, 35, [.ref 36, .int v1, .int v2, .int v3, .int v6, .int r, .int (v6 + 1), .int r], [])] (hp L xs A V K T) v h')
    else (
      am_fin [(z_M_freest, 35, [.ref 36, .int v1, .int v2, .int v3, .int v4, .int v5, .int (v6 + 1), .int r], [])] (hp L xs A V K T) v h')) : am_fin [(z_M_freest, 50, [.ref 36, .int v1, .int v2, .int v3, .int v4, .int v5, .int v6, .int v7], [.int r])] (hp L xs A V K T) v h' :=
  fn_istore (ls' := [.ref 36, .int v1, .int v2, .int v3, .int v4, .int v5, .int v6, .int r]) rl_M_freest_50 rfl rfl (fn_iload rl_M_freest_52 rfl (fn_iload rl_M_freest_54 rfl (fn_icmp_gt rl_M_freest_56 (fun k1991 => fn_iload rl_M_freest_62 rfl (fn_istore (ls' := [.ref 36, .int v1, .int v2, .int v3, .int v6, .int v5, .int v6, .int r]) rl_M_freest_64 rfl rfl (fn_iload rl_M_freest_66 rfl (fn_istore (ls' := [.ref 36, .int v1, .int v2, .int v3, .int v6, .int r, .int v6, .int r]) rl_M_freest_68 rfl rfl (fn_iinc (ls' := [.ref 36, .int v1, .int v2, .int v3, .int v6, .int r, .int (v6 + 1), .int r]) rl_M_freest_70 rfl rfl rfl (fn_goto rl_M_freest_73 (k1991))))))) (fun k1992 => fn_goto rl_M_freest_59 (fn_iinc (ls' := [.ref 36, .int v1, .int v2, .int v3, .int v4, .int v5, .int (v6 + 1), .int r]) rl_M_freest_70 rfl rfl rfl (fn_goto rl_M_freest_73 (k1992)))) k0)))
