set_option maxRecDepth 100000 in
set_option maxHeartbeats 4000000 in
theorem sg_J_countInto_27_3_0 {L : Nat} {xs : Nat → Int32} {A V : Nat → Nat → Int32} {K : Nat → Option Nat} {T : am_H} {v : Option Int32} {h' : am_H} (k0 :
    am_fin [(z_X_fill, 0, [.ref 27, .int 0, .null, .null], []), (z_J_countInto, 5, [.ref 27, .ref 3, .null, .null], [])] (hp L xs A V K T) v h') : am_fin [(z_J_countInto, 0, [.ref 27, .ref 3, .null, .null], [])] (hp L xs A V K T) v h' :=
  fn_aload_n rl_J_countInto_0 rfl (fn_iconst rl_J_countInto_1 (fn_stat (as := [.ref 27, .int 0]) (r := []) (ls' := [.ref 27, .int 0, .null, .null]) rl_J_countInto_2 rfl rfl rfl rfl pl_X_fill rfl rfl (k0)))
set_option maxRecDepth 100000 in
set_option maxHeartbeats 4000000 in
theorem sg_J_countInto_27_3_5r {L : Nat} {xs : Nat → Int32} {A V : Nat → Nat → Int32} {K : Nat → Option Nat} {T : am_H} {v : Option Int32} {h' : am_H} (k0 :
    am_fin [(z_J_countInto, 7, [.ref 27, .ref 3, .int 0, .null], [])] (hp L xs A V K T) v h') : am_fin [(z_J_countInto, 5, [.ref 27, .ref 3, .null, .null], [])] (hp L xs A V K T) v h' :=
  fn_iconst rl_J_countInto_5 (fn_istore_n (ls' := [.ref 27, .ref 3, .int 0, .null]) rl_J_countInto_6 rfl rfl (k0))
set_option maxRecDepth 100000 in
set_option maxHeartbeats 4000000 in
theorem sg_J_countInto_27_3_7 {L : Nat} {xs : Nat → Int32} {A V : Nat → Nat → Int32} {K : Nat → Option Nat} {T : am_H} {v : Option Int32} {h' : am_H} {v2 : Int32} (k0 :
    if 1080 ≤ v2 then (
      v = none ∧ h' = hp L xs A V K T)
    else (
      ¬ (v2 < 0 ∨ 1080 ≤ v2.toNatClampNeg) ∧ (
      if ((A 4) v2.toNatClampNeg) < 0 then (
        am_fin [(z_J_countInto, 7, [.ref 27, .ref 3, .int (v2 + 1), .int ((A 4) v2.toNatClampNeg)], [])] (hp L xs A V K T) v h')
      else (
        if 6 ≤ ((A 4) v2.toNatClampNeg) then (
          am_fin [(z_J_countInto, 7, [.ref 27, .ref 3, .int (v2 + 1), .int ((A 4) v2.toNatClampNeg)], [])] (hp L xs A V K T) v h')
        else (
          ¬ (((((A 4) v2.toNatClampNeg) * 3) + (v2 / 360)) < 0 ∨ 18 ≤ ((((A 4) v2.toNatClampNeg) * 3) + (v2 / 360)).toNatClampNeg) ∧ (
          ¬ (((((A 4) v2.toNatClampNeg) * 3) + (v2 / 360)) < 0 ∨ 18 ≤ ((((A 4) v2.toNatClampNeg) * 3) + (v2 / 360)).toNatClampNeg) ∧ (
          am_fin [(z_J_countInto, 7, [.ref 27, .ref 3, .int (v2 + 1), .int ((A 4) v2.toNatClampNeg)], [])] (hp L xs (upA A 27 (upd (A 27) ((((A 4) v2.toNatClampNeg) * 3) + (v2 / 360)).toNatClampNeg (((A 27) ((((A 4) v2.toNatClampNeg) * 3) + (v2 / 360)).toNatClampNeg) + 1))) V K T) v h'))))))) : am_fin [(z_J_countInto, 7, [.ref 27, .ref 3, .int v2, .null], [])] (hp L xs A V K T) v h' :=
  fn_iload_n rl_J_countInto_7 rfl (fn_sipush rl_J_countInto_8 (fn_icmp_ge rl_J_countInto_11 (fun k3933 => fn_retv rl_J_countInto_52 k3933) (fun k3934 => fn_aload_n rl_J_countInto_14 rfl (fn_get rl_J_countInto_15 hp_3 rfl (fn_iload_n rl_J_countInto_18 rfl (fn_iald rl_J_countInto_19 hp_4 (fun k3932 => fn_istore_n (ls' := [.ref 27, .ref 3, .int v2, .int ((A 4) v2.toNatClampNeg)]) rl_J_countInto_20 rfl rfl (fn_iload_n rl_J_countInto_21 rfl (fn_if_lt rl_J_countInto_22 (fun k3930 => fn_iinc (ls' := [.ref 27, .ref 3, .int (v2 + 1), .int ((A 4) v2.toNatClampNeg)]) rl_J_countInto_46 rfl rfl rfl (fn_goto rl_J_countInto_49 (k3930))) (fun k3931 => fn_iload_n rl_J_countInto_25 rfl (fn_bipush rl_J_countInto_26 (fn_icmp_ge rl_J_countInto_28 (fun k3928 => fn_iinc (ls' := [.ref 27, .ref 3, .int (v2 + 1), .int ((A 4) v2.toNatClampNeg)]) rl_J_countInto_46 rfl rfl rfl (fn_goto rl_J_countInto_49 (k3928))) (fun k3929 => fn_aload_n rl_J_countInto_31 rfl (fn_iload_n rl_J_countInto_32 rfl (fn_iconst rl_J_countInto_33 (fn_imul rl_J_countInto_34 (fn_iload_n rl_J_countInto_35 rfl (fn_sipush rl_J_countInto_36 (fn_idiv rl_J_countInto_39 (by decide +kernel) (fn_iadd rl_J_countInto_40 (fn_dup2 rl_J_countInto_41 (fn_iald rl_J_countInto_42 hp_27 (fun k3927 => fn_iconst rl_J_countInto_43 (fn_iadd rl_J_countInto_44 (fn_iast rl_J_countInto_45 hp_27 hps_27 (fun k3926 => fn_iinc (ls' := [.ref 27, .ref 3, .int (v2 + 1), .int ((A 4) v2.toNatClampNeg)]) rl_J_countInto_46 rfl rfl rfl (fn_goto rl_J_countInto_49 (k3926))) k3927))) k3929)))))))))) k3931))) k3932))) k3934)))) k0))
set_option maxRecDepth 100000 in
set_option maxHeartbeats 4000000 in
theorem sg_J_countInto_27_3_7b {L : Nat} {xs : Nat → Int32} {A V : Nat → Nat → Int32} {K : Nat → Option Nat} {T : am_H} {v : Option Int32} {h' : am_H} {v2 v3 : Int32} (k0 :
    if 1080 ≤ v2 then (
      v = none ∧ h' = hp L xs A V K T)
    else (
      ¬ (v2 < 0 ∨ 1080 ≤ v2.toNatClampNeg) ∧ (
      if ((A 4) v2.toNatClampNeg) < 0 then (
        am_fin [(z_J_countInto, 7, [.ref 27, .ref 3, .int (v2 + 1), .int ((A 4) v2.toNatClampNeg)], [])] (hp L xs A V K T) v h')
      else (
        if 6 ≤ ((A 4) v2.toNatClampNeg) then (
          am_fin [(z_J_countInto, 7, [.ref 27, .ref 3, .int (v2 + 1), .int ((A 4) v2.toNatClampNeg)], [])] (hp L xs A V K T) v h')
        else (
          ¬ (((((A 4) v2.toNatClampNeg) * 3) + (v2 / 360)) < 0 ∨ 18 ≤ ((((A 4) v2.toNatClampNeg) * 3) + (v2 / 360)).toNatClampNeg) ∧ (
          ¬ (((((A 4) v2.toNatClampNeg) * 3) + (v2 / 360)) < 0 ∨ 18 ≤ ((((A 4) v2.toNatClampNeg) * 3) + (v2 / 360)).toNatClampNeg) ∧ (
          am_fin [(z_J_countInto, 7, [.ref 27, .ref 3, .int (v2 + 1), .int ((A 4) v2.toNatClampNeg)], [])] (hp L xs (upA A 27 (upd (A 27) ((((A 4) v2.toNatClampNeg) * 3) + (v2 / 360)).toNatClampNeg (((A 27) ((((A 4) v2.toNatClampNeg) * 3) + (v2 / 360)).toNatClampNeg) + 1))) V K T) v h'))))))) : am_fin [(z_J_countInto, 7, [.ref 27, .ref 3, .int v2, .int v3], [])] (hp L xs A V K T) v h' :=
  fn_iload_n rl_J_countInto_7 rfl (fn_sipush rl_J_countInto_8 (fn_icmp_ge rl_J_countInto_11 (fun k3942 => fn_retv rl_J_countInto_52 k3942) (fun k3943 => fn_aload_n rl_J_countInto_14 rfl (fn_get rl_J_countInto_15 hp_3 rfl (fn_iload_n rl_J_countInto_18 rfl (fn_iald rl_J_countInto_19 hp_4 (fun k3941 => fn_istore_n (ls' := [.ref 27, .ref 3, .int v2, .int ((A 4) v2.toNatClampNeg)]) rl_J_countInto_20 rfl rfl (fn_iload_n rl_J_countInto_21 rfl (fn_if_lt rl_J_countInto_22 (fun k3939 => fn_iinc (ls' := [.ref 27, .ref 3, .int (v2 + 1), .int ((A 4) v2.toNatClampNeg)]) rl_J_countInto_46 rfl rfl rfl (fn_goto rl_J_countInto_49 (k3939))) (fun k3940 => fn_iload_n rl_J_countInto_25 rfl (fn_bipush rl_J_countInto_26 (fn_icmp_ge rl_J_countInto_28 (fun k3937 => fn_iinc (ls' := [.ref 27, .ref 3, .int (v2 + 1), .int ((A 4) v2.toNatClampNeg)]) rl_J_countInto_46 rfl rfl rfl (fn_goto rl_J_countInto_49 (k3937))) (fun k3938 => fn_aload_n rl_J_countInto_31 rfl (fn_iload_n rl_J_countInto_32 rfl (fn_iconst rl_J_countInto_33 (fn_imul rl_J_countInto_34 (fn_iload_n rl_J_countInto_35 rfl (fn_sipush rl_J_countInto_36 (fn_idiv rl_J_countInto_39 (by decide +kernel) (fn_iadd rl_J_countInto_40 (fn_dup2 rl_J_countInto_41 (fn_iald rl_J_countInto_42 hp_27 (fun k3936 => fn_iconst rl_J_countInto_43 (fn_iadd rl_J_countInto_44 (fn_iast rl_J_countInto_45 hp_27 hps_27 (fun k3935 => fn_iinc (ls' := [.ref 27, .ref 3, .int (v2 + 1), .int ((A 4) v2.toNatClampNeg)]) rl_J_countInto_46 rfl rfl rfl (fn_goto rl_J_countInto_49 (k3935))) k3936))) k3938)))))))))) k3940))) k3941))) k3943)))) k0))
set_option maxRecDepth 100000 in
set_option maxHeartbeats 4000000 in
theorem sg_O_read_34_0 {L : Nat} {xs : Nat → Int32} {A V : Nat → Nat → Int32} {K : Nat → Option Nat} {T : am_H} {v : Option Int32} {h' : am_H} {a2 : Int32} (k0 :
    ¬ (a2 < 0 ∨ 6 ≤ a2.toNatClampNeg) ∧ (
    ¬ (a2 < 0 ∨ 6 ≤ a2.toNatClampNeg) ∧ (
    am_fin [(z_O_read, 28, [.ref 30, .ref 34, .int a2, .int 0], [])] (hp L xs A (upV (upV V 30 4 ((A 11) a2.toNatClampNeg)) 30 5 ((A 12) a2.toNatClampNeg)) K T) v h'))) : am_fin [(z_O_read, 0, [.ref 30, .ref 34, .int a2, .null], [])] (hp L xs A V K T) v h' :=
  fn_aload_n rl_O_read_0 rfl (fn_aload_n rl_O_read_1 rfl (fn_get rl_O_read_2 hp_30 rfl (fn_get rl_O_read_5 hp_10 rfl (fn_iload_n rl_O_read_8 rfl (fn_iald rl_O_read_9 hp_11 (fun k3945 => fn_put rl_O_read_10 hp_30 rfl hpv_30_4 (fn_aload_n rl_O_read_13 rfl (fn_aload_n rl_O_read_14 rfl (fn_get rl_O_read_15 hp_30 rfl (fn_get rl_O_read_18 hp_10 rfl (fn_iload_n rl_O_read_21 rfl (fn_iald rl_O_read_22 hp_12 (fun k3944 => fn_put rl_O_read_23 hp_30 rfl hpv_30_5 (fn_iconst rl_O_read_26 (fn_istore_n (ls' := [.ref 30, .ref 34, .int a2, .int 0]) rl_O_read_27 rfl rfl (k3944)))) k3945))))))) k0)))))
set_option maxRecDepth 100000 in
set_option maxHeartbeats 4000000 in
theorem sg_O_read_34_28 {L : Nat} {xs : Nat → Int32} {A V : Nat → Nat → Int32} {K : Nat → Option Nat} {T : am_H} {v : Option Int32} {h' : am_H} {v2 v3 : Int32} (k0 :
    if 1080 ≤ v3 then (
      v = none ∧ h' = hp L xs A V K T)
    else (
      ¬ (v3 < 0 ∨ 1081 ≤ v3.toNatClampNeg) ∧ (
      ¬ (v3 < 0 ∨ 1080 ≤ v3.toNatClampNeg) ∧ (
      if ((A 35) v3.toNatClampNeg) = v2 then (
        ¬ ((v3 + 1) < 0 ∨ 1081 ≤ (v3 + 1).toNatClampNeg) ∧ (
        am_fin [(z_O_read, 28, [.ref 30, .ref 34, .int v2, .int (v3 + 1)], [])] (hp L xs (upA A 31 (upd (A 31) (v3 + 1).toNatClampNeg (((A 31) v3.toNatClampNeg) + 1))) V K T) v h'))
      else (
        ¬ ((v3 + 1) < 0 ∨ 1081 ≤ (v3 + 1).toNatClampNeg) ∧ (
        am_fin [(z_O_read, 28, [.ref 30, .ref 34, .int v2, .int (v3 + 1)], [])] (hp L xs (upA A 31 (upd (A 31) (v3 + 1).toNatClampNeg (((A 31) v3.toNatClampNeg) + 0))) V K T) v h')))))) : am_fin [(z_O_read, 28, [.ref 30, .ref 34, .int v2, .int v3], [])] (hp L xs A V K T) v h' :=
  fn_iload_n rl_O_read_28 rfl (fn_sipush rl_O_read_29 (fn_icmp_ge rl_O_read_32 (fun k3952 => fn_retv rl_O_read_71 k3952) (fun k3953 => fn_aload_n rl_O_read_35 rfl (fn_get rl_O_read_36 hp_30 rfl (fn_iload_n rl_O_read_39 rfl (fn_iconst rl_O_read_40 (fn_iadd rl_O_read_41 (fn_aload_n rl_O_read_42 rfl (fn_get rl_O_read_43 hp_30 rfl (fn_iload_n rl_O_read_46 rfl (fn_iald rl_O_read_47 hp_31 (fun k3951 => fn_aload_n rl_O_read_48 rfl (fn_get rl_O_read_49 hp_34 rfl (fn_iload_n rl_O_read_52 rfl (fn_iald rl_O_read_53 hp_35 (fun k3950 => fn_iload_n rl_O_read_54 rfl (fn_icmp_ne rl_O_read_55 (fun k3948 => fn_iconst rl_O_read_58 (fn_goto rl_O_read_59 (fn_iadd rl_O_read_63 (fn_iast rl_O_read_64 hp_31 hps_31 (fun k3946 => fn_iinc (ls' := [.ref 30, .ref 34, .int v2, .int (v3 + 1)]) rl_O_read_65 rfl rfl rfl (fn_goto rl_O_read_68 (k3946))) k3948)))) (fun k3949 => fn_iconst rl_O_read_62 (fn_iadd rl_O_read_63 (fn_iast rl_O_read_64 hp_31 hps_31 (fun k3947 => fn_iinc (ls' := [.ref 30, .ref 34, .int v2, .int (v3 + 1)]) rl_O_read_65 rfl rfl rfl (fn_goto rl_O_read_68 (k3947))) k3949))) k3950)) k3951)))) k3953))))))))) k0))
set_option maxRecDepth 100000 in
set_option maxHeartbeats 4000000 in
theorem sg_X_fill_29_0 {L : Nat} {xs : Nat → Int32} {A V : Nat → Nat → Int32} {K : Nat → Option Nat} {T : am_H} {v : Option Int32} {h' : am_H} {a1 : Int32} (k0 :
    am_fin [(z_X_fill, 5, [.ref 29, .int a1, .int 0, .int (Int32.ofNat 18)], [])] (hp L xs A V K T) v h') : am_fin [(z_X_fill, 0, [.ref 29, .int a1, .null, .null], [])] (hp L xs A V K T) v h' :=
  fn_iconst rl_X_fill_0 (fn_istore_n (ls' := [.ref 29, .int a1, .int 0, .null]) rl_X_fill_1 rfl rfl (fn_aload_n rl_X_fill_2 rfl (fn_alen rl_X_fill_3 hp_29 (fn_istore_n (ls' := [.ref 29, .int a1, .int 0, .int (Int32.ofNat 18)]) rl_X_fill_4 rfl rfl (k0)))))
set_option maxRecDepth 100000 in
set_option maxHeartbeats 4000000 in
theorem sg_X_fill_29_5 {L : Nat} {xs : Nat → Int32} {A V : Nat → Nat → Int32} {K : Nat → Option Nat} {T : am_H} {v : Option Int32} {h' : am_H} {v1 v2 v3 : Int32} (k0 :
    if v3 ≤ v2 then (
      v = none ∧ h' = hp L xs A V K T)
    else (
      ¬ (v2 < 0 ∨ 18 ≤ v2.toNatClampNeg) ∧ (
      am_fin [(z_X_fill, 5, [.ref 29, .int v1, .int (v2 + 1), .int v3], [])] (hp L xs (upA A 29 (upd (A 29) v2.toNatClampNeg v1)) V K T) v h'))) : am_fin [(z_X_fill, 5, [.ref 29, .int v1, .int v2, .int v3], [])] (hp L xs A V K T) v h' :=
  fn_iload_n rl_X_fill_5 rfl (fn_iload_n rl_X_fill_6 rfl (fn_icmp_ge rl_X_fill_7 (fun k3955 => fn_retv rl_X_fill_20 k3955) (fun k3956 => fn_aload_n rl_X_fill_10 rfl (fn_iload_n rl_X_fill_11 rfl (fn_iload_n rl_X_fill_12 rfl (fn_iast rl_X_fill_13 hp_29 hps_29 (fun k3954 => fn_iinc (ls' := [.ref 29, .int v1, .int (v2 + 1), .int v3]) rl_X_fill_14 rfl rfl rfl (fn_goto rl_X_fill_17 (k3954))) k3956)))) k0))
set_option maxRecDepth 100000 in
set_option maxHeartbeats 4000000 in
theorem sg_X_fill_27_0 {L : Nat} {xs : Nat → Int32} {A V : Nat → Nat → Int32} {K : Nat → Option Nat} {T : am_H} {v : Option Int32} {h' : am_H} {a1 : Int32} (k0 :
    am_fin [(z_X_fill, 5, [.ref 27, .int a1, .int 0, .int (Int32.ofNat 18)], [])] (hp L xs A V K T) v h') : am_fin [(z_X_fill, 0, [.ref 27, .int a1, .null, .null], [])] (hp L xs A V K T) v h' :=
  fn_iconst rl_X_fill_0 (fn_istore_n (ls' := [.ref 27, .int a1, .int 0, .null]) rl_X_fill_1 rfl rfl (fn_aload_n rl_X_fill_2 rfl (fn_alen rl_X_fill_3 hp_27 (fn_istore_n (ls' := [.ref 27, .int a1, .int 0, .int (Int32.ofNat 18)]) rl_X_fill_4 rfl rfl (k0)))))
set_option maxRecDepth 100000 in
set_option maxHeartbeats 4000000 in
theorem sg_X_fill_27_5 {L : Nat} {xs : Nat → Int32} {A V : Nat → Nat → Int32} {K : Nat → Option Nat} {T : am_H} {v : Option Int32} {h' : am_H} {v1 v2 v3 : Int32} (k0 :
    if v3 ≤ v2 then (
      v = none ∧ h' = hp L xs A V K T)
    else (
      ¬ (v2 < 0 ∨ 18 ≤ v2.toNatClampNeg) ∧ (
      am_fin [(z_X_fill, 5, [.ref 27, .int v1, .int (v2 + 1), .int v3], [])] (hp L xs (upA A 27 (upd (A 27) v2.toNatClampNeg v1)) V K T) v h'))) : am_fin [(z_X_fill, 5, [.ref 27, .int v1, .int v2, .int v3], [])] (hp L xs A V K T) v h' :=
  fn_iload_n rl_X_fill_5 rfl (fn_iload_n rl_X_fill_6 rfl (fn_icmp_ge rl_X_fill_7 (fun k3958 => fn_retv rl_X_fill_20 k3958) (fun k3959 => fn_aload_n rl_X_fill_10 rfl (fn_iload_n rl_X_fill_11 rfl (fn_iload_n rl_X_fill_12 rfl (fn_iast rl_X_fill_13 hp_27 hps_27 (fun k3957 => fn_iinc (ls' := [.ref 27, .int v1, .int (v2 + 1), .int v3]) rl_X_fill_14 rfl rfl rfl (fn_goto rl_X_fill_17 (k3957))) k3959)))) k0))
set_option maxRecDepth 100000 in
set_option maxHeartbeats 4000000 in
theorem sg_P_landOn_34_0 {L : Nat} {xs : Nat → Int32} {A V : Nat → Nat → Int32} {K : Nat → Option Nat} {T : am_H} {v : Option Int32} {h' : am_H} {a1 : Int32} (k0 :
    if a1 < 0 then (
      v = some (-1) ∧ h' = hp L xs A V K T)
    else (
      if 1080 ≤ a1 then (
        v = some (-1) ∧ h' = hp L xs A V K T)
      else (
        ¬ (a1 < 0 ∨ 1080 ≤ a1.toNatClampNeg) ∧ (
        v = some ((A 35) a1.toNatClampNeg) ∧ h' = hp L xs A V K T)))) : am_fin [(z_P_landOn, 0, [.ref 34, .int a1], [])] (hp L xs A V K T) v h' :=
  fn_iload_n rl_P_landOn_0 rfl (fn_if_lt rl_P_landOn_1 (fun k3963 => fn_iconst rl_P_landOn_20 (fn_reti rl_P_landOn_21 rfl k3963)) (fun k3964 => fn_iload_n rl_P_landOn_4 rfl (fn_sipush rl_P_landOn_5 (fn_icmp_ge rl_P_landOn_8 (fun k3961 => fn_iconst rl_P_landOn_20 (fn_reti rl_P_landOn_21 rfl k3961)) (fun k3962 => fn_aload_n rl_P_landOn_11 rfl (fn_get rl_P_landOn_12 hp_34 rfl (fn_iload_n rl_P_landOn_15 rfl (fn_iald rl_P_landOn_16 hp_35 (fun k3960 => fn_goto rl_P_landOn_17 (fn_reti rl_P_landOn_21 rfl k3960)) k3962)))) k3964))) k0)
set_option maxRecDepth 100000 in
set_option maxHeartbeats 4000000 in
theorem sg_J_splitTill_34_0 {L : Nat} {xs : Nat → Int32} {A V : Nat → Nat → Int32} {K : Nat → Option Nat} {T : am_H} {v : Option Int32} {h' : am_H} {a1 a2 : Int32} (k0 :
    if 2 ≤ a2 then (
      am_fin [(z_J_splitTill, 25, [.ref 26, .int a1, .int a2, .ref 34, .int (((a2 * 360) + 360) - 1)], [])] (hp L xs A V K T) v h')
    else (
      am_fin [(z_J_isClaiming, 0, [.ref 26, .int a1, .int (a2 + 1)], []), (z_J_splitTill, 19, [.ref 26, .int a1, .int a2, .ref 34, .int (((a2 * 360) + 360) - 1)], [])] (hp L xs A V K T) v h')) : am_fin [(z_J_splitTill, 0, [.ref 26, .int a1, .int a2, .ref 34, .null], [])] (hp L xs A V K T) v h' :=
  fn_iload_n rl_J_splitTill_0 rfl (fn_stat (as := [.int a2]) (r := []) (ls' := [.int a2]) rl_J_splitTill_1 rfl rfl rfl rfl pl_L_lastOf rfl rfl (fn_iload_n rl_L_lastOf_0 rfl (fn_sipush rl_L_lastOf_1 (fn_imul rl_L_lastOf_4 (fn_sipush rl_L_lastOf_5 (fn_iadd rl_L_lastOf_8 (fn_iconst rl_L_lastOf_9 (fn_isub rl_L_lastOf_10 (fn_retci rl_L_lastOf_11 rfl (fn_istore (ls' := [.ref 26, .int a1, .int a2, .ref 34, .int (((a2 * 360) + 360) - 1)]) rl_J_splitTill_4 rfl rfl (fn_iload_n rl_J_splitTill_6 rfl (fn_iconst rl_J_splitTill_7 (fn_icmp_ge rl_J_splitTill_8 (fun k3965 => k3965) (fun k3966 => fn_aload_n rl_J_splitTill_11 rfl (fn_iload_n rl_J_splitTill_12 rfl (fn_iload_n rl_J_splitTill_13 rfl (fn_iconst rl_J_splitTill_14 (fn_iadd rl_J_splitTill_15 (fn_virt (as := [.ref 26, .int a1, .int (a2 + 1)]) (r := []) (ls' := [.ref 26, .int a1, .int (a2 + 1)]) rl_J_splitTill_16 rfl hp_26 rfl rfl pl_J_isClaiming rfl rfl (k3966))))))) k0)))))))))))))
set_option maxRecDepth 100000 in
set_option maxHeartbeats 4000000 in
theorem sg_J_splitTill_34_25 {L : Nat} {xs : Nat → Int32} {A V : Nat → Nat → Int32} {K : Nat → Option Nat} {T : am_H} {v : Option Int32} {h' : am_H} {v1 v2 v4 : Int32} (k0 :
    if v4 ≤ (v2 * 360) then (
      v = some v4 ∧ h' = hp L xs A V K T)
    else (
      am_fin [(z_J_isBound, 0, [.ref 26, .int v1, .int v4, .ref 34], []), (z_J_splitTill, 42, [.ref 26, .int v1, .int v2, .ref 34, .int v4], [])] (hp L xs A V K T) v h')) : am_fin [(z_J_splitTill, 25, [.ref 26, .int v1, .int v2, .ref 34, .int v4], [])] (hp L xs A V K T) v h' :=
  fn_iload rl_J_splitTill_25 rfl (fn_iload_n rl_J_splitTill_27 rfl (fn_stat (as := [.int v2]) (r := [.int v4]) (ls' := [.int v2]) rl_J_splitTill_28 rfl rfl rfl rfl pl_L_firstOf rfl rfl (fn_iload_n rl_L_firstOf_0 rfl (fn_sipush rl_L_firstOf_1 (fn_imul rl_L_firstOf_4 (fn_retci rl_L_firstOf_5 rfl (fn_icmp_le rl_J_splitTill_31 (fun k3967 => fn_iload rl_J_splitTill_51 rfl (fn_reti rl_J_splitTill_53 rfl k3967)) (fun k3968 => fn_aload_n rl_J_splitTill_34 rfl (fn_iload_n rl_J_splitTill_35 rfl (fn_iload rl_J_splitTill_36 rfl (fn_aload_n rl_J_splitTill_38 rfl (fn_virt (as := [.ref 26, .int v1, .int v4, .ref 34]) (r := []) (ls' := [.ref 26, .int v1, .int v4, .ref 34]) rl_J_splitTill_39 rfl hp_26 rfl rfl pl_J_isBound rfl rfl (k3968)))))) k0)))))))
set_option maxRecDepth 100000 in
set_option maxHeartbeats 4000000 in
theorem sg_J_splitTill_34_42r {L : Nat} {xs : Nat → Int32} {A V : Nat → Nat → Int32} {K : Nat → Option Nat} {T : am_H} {v : Option Int32} {h' : am_H} {v1 v2 v4 r : Int32} (k0 :
    if r = 0 then (
      am_fin [(z_J_splitTill, 25, [.ref 26, .int v1, .int v2, .ref 34, .int (v4 + (-1))], [])] (hp L xs A V K T) v h')
    else (
      v = some v4 ∧ h' = hp L xs A V K T)) : am_fin [(z_J_splitTill, 42, [.ref 26, .int v1, .int v2, .ref 34, .int v4], [.int r])] (hp L xs A V K T) v h' :=
  fn_if_ne rl_J_splitTill_42 (fun k3969 => fn_iinc (ls' := [.ref 26, .int v1, .int v2, .ref 34, .int (v4 + (-1))]) rl_J_splitTill_45 rfl rfl rfl (fn_goto rl_J_splitTill_48 (k3969))) (fun k3970 => fn_iload rl_J_splitTill_51 rfl (fn_reti rl_J_splitTill_53 rfl k3970)) k0
set_option maxRecDepth 100000 in
set_option maxHeartbeats 4000000 in
theorem sg_J_splitTill_34_19r {L : Nat} {xs : Nat → Int32} {A V : Nat → Nat → Int32} {K : Nat → Option Nat} {T : am_H} {v : Option Int32} {h' : am_H} {v1 v2 v4 r : Int32} (k0 :
    if r = 0 then (
      am_fin [(z_J_splitTill, 25, [.ref 26, .int v1, .int v2, .ref 34, .int v4], [])] (hp L xs A V K T) v h')
    else (
      v = some v4 ∧ h' = hp L xs A V K T)) : am_fin [(z_J_splitTill, 19, [.ref 26, .int v1, .int v2, .ref 34, .int v4], [.int r])] (hp L xs A V K T) v h' :=
  fn_if_eq rl_J_splitTill_19 (fun k3971 => k3971) (fun k3972 => fn_iload rl_J_splitTill_22 rfl (fn_reti rl_J_splitTill_24 rfl k3972)) k0
set_option maxRecDepth 100000 in
set_option maxHeartbeats 4000000 in
theorem sg_J_splitFrom_34_0 {L : Nat} {xs : Nat → Int32} {A V : Nat → Nat → Int32} {K : Nat → Option Nat} {T : am_H} {v : Option Int32} {h' : am_H} {a1 a2 : Int32} (k0 :
    if a2 ≤ 0 then (
      am_fin [(z_J_splitFrom, 24, [.ref 26, .int a1, .int a2, .ref 34, .int (a2 * 360)], [])] (hp L xs A V K T) v h')
    else (
      am_fin [(z_J_isClaiming, 0, [.ref 26, .int a1, .int (a2 - 1)], []), (z_J_splitFrom, 18, [.ref 26, .int a1, .int a2, .ref 34, .int (a2 * 360)], [])] (hp L xs A V K T) v h')) : am_fin [(z_J_splitFrom, 0, [.ref 26, .int a1, .int a2, .ref 34, .null], [])] (hp L xs A V K T) v h' :=
  fn_iload_n rl_J_splitFrom_0 rfl (fn_stat (as := [.int a2]) (r := []) (ls' := [.int a2]) rl_J_splitFrom_1 rfl rfl rfl rfl pl_L_firstOf rfl rfl (fn_iload_n rl_L_firstOf_0 rfl (fn_sipush rl_L_firstOf_1 (fn_imul rl_L_firstOf_4 (fn_retci rl_L_firstOf_5 rfl (fn_istore (ls' := [.ref 26, .int a1, .int a2, .ref 34, .int (a2 * 360)]) rl_J_splitFrom_4 rfl rfl (fn_iload_n rl_J_splitFrom_6 rfl (fn_if_le rl_J_splitFrom_7 (fun k3973 => k3973) (fun k3974 => fn_aload_n rl_J_splitFrom_10 rfl (fn_iload_n rl_J_splitFrom_11 rfl (fn_iload_n rl_J_splitFrom_12 rfl (fn_iconst rl_J_splitFrom_13 (fn_isub rl_J_splitFrom_14 (fn_virt (as := [.ref 26, .int a1, .int (a2 - 1)]) (r := []) (ls' := [.ref 26, .int a1, .int (a2 - 1)]) rl_J_splitFrom_15 rfl hp_26 rfl rfl pl_J_isClaiming rfl rfl (k3974))))))) k0))))))))
set_option maxRecDepth 100000 in
set_option maxHeartbeats 4000000 in
theorem sg_J_splitFrom_34_24 {L : Nat} {xs : Nat → Int32} {A V : Nat → Nat → Int32} {K : Nat → Option Nat} {T : am_H} {v : Option Int32} {h' : am_H} {v1 v2 v4 : Int32} (k0 :
    if (((v2 * 360) + 360) - 1) ≤ v4 then (
      v = some v4 ∧ h' = hp L xs A V K T)
    else (
      am_fin [(z_J_isBound, 0, [.ref 26, .int v1, .int v4, .ref 34], []), (z_J_splitFrom, 41, [.ref 26, .int v1, .int v2, .ref 34, .int v4], [])] (hp L xs A V K T) v h')) : am_fin [(z_J_splitFrom, 24, [.ref 26, .int v1, .int v2, .ref 34, .int v4], [])] (hp L xs A V K T) v h' :=
  fn_iload rl_J_splitFrom_24 rfl (fn_iload_n rl_J_splitFrom_26 rfl (fn_stat (as := [.int v2]) (r := [.int v4]) (ls' := [.int v2]) rl_J_splitFrom_27 rfl rfl rfl rfl pl_L_lastOf rfl rfl (fn_iload_n rl_L_lastOf_0 rfl (fn_sipush rl_L_lastOf_1 (fn_imul rl_L_lastOf_4 (fn_sipush rl_L_lastOf_5 (fn_iadd rl_L_lastOf_8 (fn_iconst rl_L_lastOf_9 (fn_isub rl_L_lastOf_10 (fn_retci rl_L_lastOf_11 rfl (fn_icmp_ge rl_J_splitFrom_30 (fun k3975 => fn_iload rl_J_splitFrom_50 rfl (fn_reti rl_J_splitFrom_52 rfl k3975)) (fun k3976 => fn_aload_n rl_J_splitFrom_33 rfl (fn_iload_n rl_J_splitFrom_34 rfl (fn_iload rl_J_splitFrom_35 rfl (fn_aload_n rl_J_splitFrom_37 rfl (fn_virt (as := [.ref 26, .int v1, .int v4, .ref 34]) (r := []) (ls' := [.ref 26, .int v1, .int v4, .ref 34]) rl_J_splitFrom_38 rfl hp_26 rfl rfl pl_J_isBound rfl rfl (k3976)))))) k0)))))))))))
set_option maxRecDepth 100000 in
set_option maxHeartbeats 4000000 in
theorem sg_J_splitFrom_34_41r {L : Nat} {xs : Nat → Int32} {A V : Nat → Nat → Int32} {K : Nat → Option Nat} {T : am_H} {v : Option Int32} {h' : am_H} {v1 v2 v4 r : Int32} (k0 :
    if r = 0 then (
      am_fin [(z_J_splitFrom, 24, [.ref 26, .int v1, .int v2, .ref 34, .int (v4 + 1)], [])] (hp L xs A V K T) v h')
    else (
      v = some v4 ∧ h' = hp L xs A V K T)) : am_fin [(z_J_splitFrom, 41, [.ref 26, .int v1, .int v2, .ref 34, .int v4], [.int r])] (hp L xs A V K T) v h' :=
  fn_if_ne rl_J_splitFrom_41 (fun k3977 => fn_iinc (ls' := [.ref 26, .int v1, .int v2, .ref 34, .int (v4 + 1)]) rl_J_splitFrom_44 rfl rfl rfl (fn_goto rl_J_splitFrom_47 (k3977))) (fun k3978 => fn_iload rl_J_splitFrom_50 rfl (fn_reti rl_J_splitFrom_52 rfl k3978)) k0
set_option maxRecDepth 100000 in
set_option maxHeartbeats 4000000 in
theorem sg_J_splitFrom_34_18r {L : Nat} {xs : Nat → Int32} {A V : Nat → Nat → Int32} {K : Nat → Option Nat} {T : am_H} {v : Option Int32} {h' : am_H} {v1 v2 v4 r : Int32} (k0 :
    if r = 0 then (
      am_fin [(z_J_splitFrom, 24, [.ref 26, .int v1, .int v2, .ref 34, .int v4], [])] (hp L xs A V K T) v h')
    else (
      v = some v4 ∧ h' = hp L xs A V K T)) : am_fin [(z_J_splitFrom, 18, [.ref 26, .int v1, .int v2, .ref 34, .int v4], [.int r])] (hp L xs A V K T) v h' :=
  fn_if_eq rl_J_splitFrom_18 (fun k3979 => k3979) (fun k3980 => fn_iload rl_J_splitFrom_21 rfl (fn_reti rl_J_splitFrom_23 rfl k3980)) k0
set_option maxRecDepth 100000 in
set_option maxHeartbeats 4000000 in
theorem sg_J_isBound_34_0 {L : Nat} {xs : Nat → Int32} {A V : Nat → Nat → Int32} {K : Nat → Option Nat} {T : am_H} {v : Option Int32} {h' : am_H} {a1 a2 : Int32} (k0 :
    am_fin [(z_P_landOn, 0, [.ref 34, .int a2], []), (z_J_isBound, 5, [.ref 26, .int a1, .int a2, .ref 34], [])] (hp L xs A V K T) v h') : am_fin [(z_J_isBound, 0, [.ref 26, .int a1, .int a2, .ref 34], [])] (hp L xs A V K T) v h' :=
  fn_aload_n rl_J_isBound_0 rfl (fn_iload_n rl_J_isBound_1 rfl (fn_virt (as := [.ref 34, .int a2]) (r := []) (ls' := [.ref 34, .int a2]) rl_J_isBound_2 rfl hp_34 rfl rfl pl_P_landOn rfl rfl (k0)))
set_option maxRecDepth 100000 in
set_option maxHeartbeats 4000000 in
theorem sg_J_isBound_34_5r {L : Nat} {xs : Nat → Int32} {A V : Nat → Nat → Int32} {K : Nat → Option Nat} {T : am_H} {v : Option Int32} {h' : am_H} {v1 v2 r : Int32} (k0 :
    if r = v1 then (
      v = some 1 ∧ h' = hp L xs A V K T)
    else (
      ¬ (v2 < 0 ∨ 1080 ≤ v2.toNatClampNeg) ∧ (
      if (((((A 9) v2.toNatClampNeg) : Int32) >>> (v1 &&& 31 : Int32)) &&& 1) = 1 then (
        v = some 1 ∧ h' = hp L xs A V K T)
      else (
        v = some 0 ∧ h' = hp L xs A V K T)))) : am_fin [(z_J_isBound, 5, [.ref 26, .int v1, .int v2, .ref 34], [.int r])] (hp L xs A V K T) v h' :=
  fn_iload_n rl_J_isBound_5 rfl (fn_icmp_eq rl_J_isBound_6 (fun k4028 => fn_iconst rl_J_isBound_21 (fn_goto rl_J_isBound_22 (fn_reti rl_J_isBound_26 rfl k4028))) (fun k4029 => fn_aload_n rl_J_isBound_9 rfl (fn_get rl_J_isBound_10 hp_26 rfl (fn_iload_n rl_J_isBound_13 rfl (fn_iload_n rl_J_isBound_14 rfl (fn_virt (as := [.ref 2, .int v1, .int v2]) (r := []) (ls' := [.ref 2, .int v1, .int v2]) rl_J_isBound_15 rfl hp_2 rfl rfl pl_S_hasHome rfl rfl (fn_aload_n rl_S_hasHome_0 rfl (fn_get rl_S_hasHome_1 hp_2 rfl (fn_iload_n rl_S_hasHome_4 rfl (fn_iald rl_S_hasHome_5 hp_9 (fun k4027 => fn_iload_n rl_S_hasHome_6 rfl (fn_stat (as := [.int ((A 9) v2.toNatClampNeg), .int v1]) (r := []) (ls' := [.int ((A 9) v2.toNatClampNeg), .int v1]) rl_S_hasHome_7 rfl rfl rfl rfl pl_L_hasBit rfl rfl (fn_iload_n rl_L_hasBit_0 rfl (fn_iload_n rl_L_hasBit_1 rfl (fn_ishr rl_L_hasBit_2 (fn_iconst rl_L_hasBit_3 (fn_iand rl_L_hasBit_4 (fn_iconst rl_L_hasBit_5 (fn_icmp_ne rl_L_hasBit_6 (fun k4025 => fn_iconst rl_L_hasBit_9 (fn_goto rl_L_hasBit_10 (fn_retci rl_L_hasBit_14 rfl (fn_retci rl_S_hasHome_10 rfl (fn_if_eq_f rl_J_isBound_18 (by decide +kernel) (fn_iconst rl_J_isBound_21 (fn_goto rl_J_isBound_22 (fn_reti rl_J_isBound_26 rfl k4025)))))))) (fun k4026 => fn_iconst rl_L_hasBit_13 (fn_retci rl_L_hasBit_14 rfl (fn_retci rl_S_hasHome_10 rfl (fn_if_eq_t rl_J_isBound_18 (by decide +kernel) (fn_iconst rl_J_isBound_25 (fn_reti rl_J_isBound_26 rfl k4026)))))) k4027))))))))) k4029))))))))) k0)
