set_option maxRecDepth 100000 in
set_option maxHeartbeats 4000000 in
theorem sg_L_keep_0 {L : Nat} {xs : Nat → Int32} {A V : Nat → Nat → Int32} {K : Nat → Option Nat} {T : am_H} {v : Option Int32} {h' : am_H} (k0 :
    if (V 1 2) < 8 then (
      am_fin [(z_L_keep, 19, [.ref 1], [.int (V 1 2), .ref 18])] (hp L xs A V K T) v h')
    else (
      v = some (-1) ∧ h' = hp L xs A V K T)) : am_fin [(z_L_keep, 0, [.ref 1], [])] (hp L xs A V K T) v h' :=
  fn_aload_n rl_L_keep_0 rfl (fn_get rl_L_keep_1 hp_1 rfl (fn_bipush rl_L_keep_4 (fn_icmp_lt rl_L_keep_6 (fun k1 => fn_aload_n rl_L_keep_11 rfl (fn_get rl_L_keep_12 hp_1 rfl (fn_aload_n rl_L_keep_15 rfl (fn_get rl_L_keep_16 hp_1 rfl (k1))))) (fun k2 => fn_iconst rl_L_keep_9 (fn_reti rl_L_keep_10 rfl k2)) k0)))
set_option maxRecDepth 100000 in
set_option maxHeartbeats 4000000 in
theorem sg_L_keep_23 {L : Nat} {xs : Nat → Int32} {A V : Nat → Nat → Int32} {K : Nat → Option Nat} {T : am_H} {v : Option Int32} {h' : am_H} (k0 :
    am_fin [(z_L_keep, 31, [.ref 1], [.int (V 1 2), .ref 18])] (hp L xs A V K T) v h') : am_fin [(z_L_keep, 23, [.ref 1], [])] (hp L xs A V K T) v h' :=
  fn_aload_n rl_L_keep_23 rfl (fn_get rl_L_keep_24 hp_1 rfl (fn_aload_n rl_L_keep_27 rfl (fn_get rl_L_keep_28 hp_1 rfl (k0))))
set_option maxRecDepth 100000 in
set_option maxHeartbeats 4000000 in
theorem sg_L_keep_39 {L : Nat} {xs : Nat → Int32} {A V : Nat → Nat → Int32} {K : Nat → Option Nat} {T : am_H} {v : Option Int32} {h' : am_H} (k0 :
    am_fin [(z_L_keep, 47, [.ref 1], [.int (V 1 2), .ref 18])] (hp L xs A V K T) v h') : am_fin [(z_L_keep, 39, [.ref 1], [])] (hp L xs A V K T) v h' :=
  fn_aload_n rl_L_keep_39 rfl (fn_get rl_L_keep_40 hp_1 rfl (fn_aload_n rl_L_keep_43 rfl (fn_get rl_L_keep_44 hp_1 rfl (k0))))
set_option maxRecDepth 100000 in
set_option maxHeartbeats 4000000 in
theorem sg_L_keep_55 {L : Nat} {xs : Nat → Int32} {A V : Nat → Nat → Int32} {K : Nat → Option Nat} {T : am_H} {v : Option Int32} {h' : am_H} (k0 :
    v = some ((upV V 1 2 ((V 1 2) + 1)) 1 2) ∧ h' = hp L xs A (upV V 1 2 ((V 1 2) + 1)) K T) : am_fin [(z_L_keep, 55, [.ref 1], [])] (hp L xs A V K T) v h' :=
  fn_aload_n rl_L_keep_55 rfl (fn_dup_ref rl_L_keep_56 (fn_get rl_L_keep_57 hp_1 rfl (fn_iconst rl_L_keep_60 (fn_iadd rl_L_keep_61 (fn_put rl_L_keep_62 hp_1 rfl hpv_1_2 (fn_aload_n rl_L_keep_65 rfl (fn_get rl_L_keep_66 hp_1 rfl (fn_reti rl_L_keep_69 rfl k0))))))))
set_option maxRecDepth 100000 in
set_option maxHeartbeats 4000000 in
theorem sg_L_undo_0 {L : Nat} {xs : Nat → Int32} {A V : Nat → Nat → Int32} {K : Nat → Option Nat} {T : am_H} {v : Option Int32} {h' : am_H} (k0 :
    if (V 1 2) ≤ 0 then (
      v = some (-1) ∧ h' = hp L xs A V K T)
    else (
      am_fin [(z_L_undo, 17, [.ref 1], [.int ((V 1 2) - 1), .ref 18])] (hp L xs A V K T) v h')) : am_fin [(z_L_undo, 0, [.ref 1], [])] (hp L xs A V K T) v h' :=
  fn_aload_n rl_L_undo_0 rfl (fn_get rl_L_undo_1 hp_1 rfl (fn_if_le rl_L_undo_4 (fun k3 => fn_iconst rl_L_undo_21 (fn_reti rl_L_undo_22 rfl k3)) (fun k4 => fn_aload_n rl_L_undo_7 rfl (fn_get rl_L_undo_8 hp_1 rfl (fn_aload_n rl_L_undo_11 rfl (fn_get rl_L_undo_12 hp_1 rfl (fn_iconst rl_L_undo_15 (fn_isub rl_L_undo_16 (k4))))))) k0))
set_option maxRecDepth 100000 in
set_option maxHeartbeats 4000000 in
theorem sg_L_undo_23 {L : Nat} {xs : Nat → Int32} {A V : Nat → Nat → Int32} {K : Nat → Option Nat} {T : am_H} {v : Option Int32} {h' : am_H} (k0 :
    am_fin [(z_L_undo, 45, [.ref 1], [.int ((upV V 1 2 ((V 1 2) - 1)) 1 2), .ref 18, .ref 2])] (hp L xs A (upV V 1 2 ((V 1 2) - 1)) K T) v h') : am_fin [(z_L_undo, 23, [.ref 1], [])] (hp L xs A V K T) v h' :=
  fn_aload_n rl_L_undo_23 rfl (fn_dup_ref rl_L_undo_24 (fn_get rl_L_undo_25 hp_1 rfl (fn_iconst rl_L_undo_28 (fn_isub rl_L_undo_29 (fn_put rl_L_undo_30 hp_1 rfl hpv_1_2 (fn_aload_n rl_L_undo_33 rfl (fn_get rl_L_undo_34 hp_1 rfl (fn_aload_n rl_L_undo_37 rfl (fn_get rl_L_undo_38 hp_1 rfl (fn_aload_n rl_L_undo_41 rfl (fn_get rl_L_undo_42 hp_1 rfl (k0))))))))))))
set_option maxRecDepth 100000 in
set_option maxHeartbeats 4000000 in
theorem sg_L_undo_49 {L : Nat} {xs : Nat → Int32} {A V : Nat → Nat → Int32} {K : Nat → Option Nat} {T : am_H} {v : Option Int32} {h' : am_H} (k0 :
    v = some (V 1 2) ∧ h' = hp L xs A V K T) : am_fin [(z_L_undo, 49, [.ref 1], [])] (hp L xs A V K T) v h' :=
  fn_aload_n rl_L_undo_49 rfl (fn_get rl_L_undo_50 hp_1 rfl (fn_reti rl_L_undo_53 rfl k0))
set_option maxRecDepth 100000 in
set_option maxHeartbeats 4000000 in
theorem sg_M_undo_0 {L : Nat} {xs : Nat → Int32} {A V : Nat → Nat → Int32} {K : Nat → Option Nat} {T : am_H} {v : Option Int32} {h' : am_H} (k0 :
    if (V 36 23) = 0 then (
      v = some (-1) ∧ h' = hp L xs A V K T)
    else (
      am_fin [(z_M_undo, 21, [.ref 36, .int 0, .null], [])] (hp L xs A (upV V 36 23 ((V 36 23) - 1)) K T) v h')) : am_fin [(z_M_undo, 0, [.ref 36, .null, .null], [])] (hp L xs A V K T) v h' :=
  fn_aload_n rl_M_undo_0 rfl (fn_get rl_M_undo_1 hp_36 rfl (fn_if_ne rl_M_undo_4 (fun k5 => fn_iconst rl_M_undo_7 (fn_reti rl_M_undo_8 rfl k5)) (fun k6 => fn_aload_n rl_M_undo_9 rfl (fn_aload_n rl_M_undo_10 rfl (fn_get rl_M_undo_11 hp_36 rfl (fn_iconst rl_M_undo_14 (fn_isub rl_M_undo_15 (fn_put rl_M_undo_16 hp_36 rfl hpv_36_23 (fn_iconst rl_M_undo_19 (fn_istore_n (ls' := [.ref 36, .int 0, .null]) rl_M_undo_20 rfl rfl (k6))))))))) k0))
set_option maxRecDepth 100000 in
set_option maxHeartbeats 4000000 in
theorem sg_M_undo_21 {L : Nat} {xs : Nat → Int32} {A V : Nat → Nat → Int32} {K : Nat → Option Nat} {T : am_H} {v : Option Int32} {h' : am_H} {v1 : Int32} {w : Value} (k0 :
    if 1080 ≤ v1 then (
      am_fin [(z_M_undo, 103, [.ref 36, .int 0, w], [])] (hp L xs A V K T) v h')
    else (
      ¬ (((1080 * (V 36 23)) + v1) < 0 ∨ 8640 ≤ ((1080 * (V 36 23)) + v1).toNatClampNeg) ∧ (
      ¬ (v1 < 0 ∨ 1080 ≤ v1.toNatClampNeg) ∧ (
      ¬ (v1 < 0 ∨ 1080 ≤ v1.toNatClampNeg) ∧ (
      ¬ (v1 < 0 ∨ 1080 ≤ v1.toNatClampNeg) ∧ (
      ¬ (v1 < 0 ∨ 1080 ≤ v1.toNatClampNeg) ∧ (
      am_fin [(z_M_undo, 21, [.ref 36, .int (v1 + 1), .int ((A 50) ((1080 * (V 36 23)) + v1).toNatClampNeg)], [])] (hp L xs (upA (upA (upA (upA A 37 (upd (A 37) v1.toNatClampNeg ((((A 50) ((1080 * (V 36 23)) + v1).toNatClampNeg) &&& 7) - 1))) 39 (upd ((upA A 37 (upd (A 37) v1.toNatClampNeg ((((A 50) ((1080 * (V 36 23)) + v1).toNatClampNeg) &&& 7) - 1))) 39) v1.toNatClampNeg ((((((A 50) ((1080 * (V 36 23)) + v1).toNatClampNeg) : Int32) >>> (3 &&& 31 : Int32)) &&& 7) - 1))) 40 (upd ((upA (upA A 37 (upd (A 37) v1.toNatClampNeg ((((A 50) ((1080 * (V 36 23)) + v1).toNatClampNeg) &&& 7) - 1))) 39 (upd ((upA A 37 (upd (A 37) v1.toNatClampNeg ((((A 50) ((1080 * (V 36 23)) + v1).toNatClampNeg) &&& 7) - 1))) 39) v1.toNatClampNeg ((((((A 50) ((1080 * (V 36 23)) + v1).toNatClampNeg) : Int32) >>> (3 &&& 31 : Int32)) &&& 7) - 1))) 40) v1.toNatClampNeg ((((((A 50) ((1080 * (V 36 23)) + v1).toNatClampNeg) : Int32) >>> (6 &&& 31 : Int32)) &&& 7) - 1))) 38 (upd ((upA (upA (upA A 37 (upd (A 37) v1.toNatClampNeg ((((A 50) ((1080 * (V 36 23)) + v1).toNatClampNeg) &&& 7) - 1))) 39 (upd ((upA A 37 (upd (A 37) v1.toNatClampNeg ((((A 50) ((1080 * (V 36 23)) + v1).toNatClampNeg) &&& 7) - 1))) 39) v1.toNatClampNeg ((((((A 50) ((1080 * (V 36 23)) + v1).toNatClampNeg) : Int32) >>> (3 &&& 31 : Int32)) &&& 7) - 1))) 40 (upd ((upA (upA A 37 (upd (A 37) v1.toNatClampNeg ((((A 50) ((1080 * (V 36 23)) + v1).toNatClampNeg) &&& 7) - 1))) 39 (upd ((upA A 37 (upd (A 37) v1.toNatClampNeg ((((A 50) ((1080 * (V 36 23)) + v1).toNatClampNeg) &&& 7) - 1))) 39) v1.toNatClampNeg ((((((A 50) ((1080 * (V 36 23)) + v1).toNatClampNeg) : Int32) >>> (3 &&& 31 : Int32)) &&& 7) - 1))) 40) v1.toNatClampNeg ((((((A 50) ((1080 * (V 36 23)) + v1).toNatClampNeg) : Int32) >>> (6 &&& 31 : Int32)) &&& 7) - 1))) 38) v1.toNatClampNeg ((((A 50) ((1080 * (V 36 23)) + v1).toNatClampNeg) : Int32) >>> (9 &&& 31 : Int32)))) V K T) v h'))))))) : am_fin [(z_M_undo, 21, [.ref 36, .int v1, w], [])] (hp L xs A V K T) v h' :=
  fn_iload_n rl_M_undo_21 rfl (fn_sipush rl_M_undo_22 (fn_icmp_ge rl_M_undo_25 (fun k12 => fn_iconst rl_M_undo_101 (fn_istore_n (ls' := [.ref 36, .int 0, w]) rl_M_undo_102 rfl rfl (k12))) (fun k13 => fn_aload_n rl_M_undo_28 rfl (fn_get rl_M_undo_29 hp_36 rfl (fn_sipush rl_M_undo_32 (fn_aload_n rl_M_undo_35 rfl (fn_get rl_M_undo_36 hp_36 rfl (fn_imul rl_M_undo_39 (fn_iload_n rl_M_undo_40 rfl (fn_iadd rl_M_undo_41 (fn_iald rl_M_undo_42 hp_50 (fun k11 => fn_istore_n (ls' := [.ref 36, .int v1, .int ((A 50) ((1080 * (V 36 23)) + v1).toNatClampNeg)]) rl_M_undo_43 rfl rfl (fn_aload_n rl_M_undo_44 rfl (fn_get rl_M_undo_45 hp_36 rfl (fn_iload_n rl_M_undo_48 rfl (fn_iload_n rl_M_undo_49 rfl (fn_bipush rl_M_undo_50 (fn_iand rl_M_undo_52 (fn_iconst rl_M_undo_53 (fn_isub rl_M_undo_54 (fn_iast rl_M_undo_55 hp_37 hps_37 (fun k10 => fn_aload_n rl_M_undo_56 rfl (fn_get rl_M_undo_57 hp_36 rfl (fn_iload_n rl_M_undo_60 rfl (fn_iload_n rl_M_undo_61 rfl (fn_iconst rl_M_undo_62 (fn_ishr rl_M_undo_63 (fn_bipush rl_M_undo_64 (fn_iand rl_M_undo_66 (fn_iconst rl_M_undo_67 (fn_isub rl_M_undo_68 (fn_iast rl_M_undo_69 hp_39 hps_39 (fun k9 => fn_aload_n rl_M_undo_70 rfl (fn_get rl_M_undo_71 hp_36 rfl (fn_iload_n rl_M_undo_74 rfl (fn_iload_n rl_M_undo_75 rfl (fn_bipush rl_M_undo_76 (fn_ishr rl_M_undo_78 (fn_bipush rl_M_undo_79 (fn_iand rl_M_undo_81 (fn_iconst rl_M_undo_82 (fn_isub rl_M_undo_83 (fn_iast rl_M_undo_84 hp_40 hps_40 (fun k8 => fn_aload_n rl_M_undo_85 rfl (fn_get rl_M_undo_86 hp_36 rfl (fn_iload_n rl_M_undo_89 rfl (fn_iload_n rl_M_undo_90 rfl (fn_bipush rl_M_undo_91 (fn_ishr rl_M_undo_93 (fn_iast rl_M_undo_94 hp_38 hps_38 (fun k7 => fn_iinc (ls' := [.ref 36, .int (v1 + 1), .int ((A 50) ((1080 * (V 36 23)) + v1).toNatClampNeg)]) rl_M_undo_95 rfl rfl rfl (fn_goto rl_M_undo_98 (k7))) k8))))))) k9))))))))))) k10))))))))))) k11)))))))))) k13))))))))) k0))
set_option maxRecDepth 100000 in
set_option maxHeartbeats 4000000 in
theorem sg_M_undo_103 {L : Nat} {xs : Nat → Int32} {A V : Nat → Nat → Int32} {K : Nat → Option Nat} {T : am_H} {v : Option Int32} {h' : am_H} {v1 : Int32} {w : Value} (k0 :
    if 258 ≤ v1 then (
      ¬ ((V 36 23) < 0 ∨ 8 ≤ (V 36 23).toNatClampNeg) ∧ (
      (((A 52) (V 36 23).toNatClampNeg) = 0 ∨ ((A 52) (V 36 23).toNatClampNeg) = 1) ∧ (
      v = some ((upV V 36 5 ((A 52) (V 36 23).toNatClampNeg)) 36 23) ∧ h' = hp L xs A (upV V 36 5 ((A 52) (V 36 23).toNatClampNeg)) K T)))
    else (
      ¬ (((258 * (V 36 23)) + v1) < 0 ∨ 2064 ≤ ((258 * (V 36 23)) + v1).toNatClampNeg) ∧ (
      ¬ (v1 < 0 ∨ 258 ≤ v1.toNatClampNeg) ∧ (
      am_fin [(z_M_undo, 103, [.ref 36, .int (v1 + 1), w], [])] (hp L xs (upA A 41 (upd (A 41) v1.toNatClampNeg ((A 51) ((258 * (V 36 23)) + v1).toNatClampNeg))) V K T) v h')))) : am_fin [(z_M_undo, 103, [.ref 36, .int v1, w], [])] (hp L xs A V K T) v h' :=
  fn_iload_n rl_M_undo_103 rfl (fn_sipush rl_M_undo_104 (fn_icmp_ge rl_M_undo_107 (fun k17 => fn_aload_n rl_M_undo_137 rfl (fn_aload_n rl_M_undo_138 rfl (fn_get rl_M_undo_139 hp_36 rfl (fn_aload_n rl_M_undo_142 rfl (fn_get rl_M_undo_143 hp_36 rfl (fn_zald rl_M_undo_146 hp_52 (fun k14 => fn_put rl_M_undo_147 hp_36 (am_pf1b k14.1) hpv_36_5 (fn_aload_n rl_M_undo_150 rfl (fn_get rl_M_undo_151 hp_36 rfl (fn_reti rl_M_undo_154 rfl k14.2)))) k17)))))) (fun k18 => fn_aload_n rl_M_undo_110 rfl (fn_get rl_M_undo_111 hp_36 rfl (fn_iload_n rl_M_undo_114 rfl (fn_aload_n rl_M_undo_115 rfl (fn_get rl_M_undo_116 hp_36 rfl (fn_sipush rl_M_undo_119 (fn_aload_n rl_M_undo_122 rfl (fn_get rl_M_undo_123 hp_36 rfl (fn_imul rl_M_undo_126 (fn_iload_n rl_M_undo_127 rfl (fn_iadd rl_M_undo_128 (fn_iald rl_M_undo_129 hp_51 (fun k16 => fn_iast rl_M_undo_130 hp_41 hps_41 (fun k15 => fn_iinc (ls' := [.ref 36, .int (v1 + 1), w]) rl_M_undo_131 rfl rfl rfl (fn_goto rl_M_undo_134 (k15))) k16) k18)))))))))))) k0))
set_option maxRecDepth 100000 in
set_option maxHeartbeats 4000000 in
theorem pk_dec : ∀ e, e < 64 → ∀ a, a < 7 → ∀ b, b < 7 → ∀ c, c < 7 → (((nI a ||| (nI b <<< (3 &&& 31 : Int32))) ||| (nI c <<< (6 &&& 31 : Int32))) ||| (nI e <<< (9 &&& 31 : Int32))) = nI (a + 8 * b + 64 * c + 512 * e) := by decide +kernel
