theorem P_put_3_c {L : Nat} {xs : Nat → Int32} {A V : Nat → Nat → Int32} {K : Nat → Option Nat} {T : am_H} (x : Int32) (a b : Nat) (hb : b < 1080) (hab : a ≤ b + 1) : am_fin [(z_P_put, 0, [.ref 3, .int x, .int (nI a), .int (nI b), .null, .null], [])] (hp L xs A V K T) (some (nI (cn (fun d => ¬ A 4 d = x) a (b + 1 - a)))) (hp L xs (upA A 4 (fl (A 4) a (b + 1 - a) x)) V K T) := by
  refine sg_P_put_3_0 ?_
  rw [if_neg (nI_lt0 (by omega))]
  have key := am_iter (fun k => ([(z_P_put, 10, [.ref 3, .int x, .int (nI a), .int (nI b), .int (nI (cn (fun d => ¬ A 4 d = x) a k)), .int (nI (a + k))], [])], hp L xs (upA A 4 (fl (A 4) a k x)) V K T)) (b + 1 - a) (v := some (nI (cn (fun d => ¬ A 4 d = x) a (b + 1 - a)))) (h' := hp L xs (upA A 4 (fl (A 4) a (b + 1 - a) x)) V K T) (fun k hk ih => ?_) ?_
  · rw [fl_0, upA_self] at key
    exact key
  · dsimp only at ih ⊢
    refine sg_P_put_3_10 ?_
    simp (disch := omega) only [l_0, l_1, l_2, l_3, l_4, l_5, l_6, l_7, l_8, l_9, l_10, l_11, l_13, l_18, l_20, l_24, l_30, l_31, l_35, l_60, l_78, l_100, l_160, l_255, l_258, l_320, l_359, l_360, l_720, l_1000, l_1079, l_1080, l_2160, nI_ltI, nI_leI, nI_eq, nI_clamp, nI_add, Nat.add_assoc, Nat.add_zero, upA_same, upA_upA, fl_new, fl_s]
    rw [if_neg (by omega), if_neg (by omega)]
    refine ⟨by omega, ?_⟩
    by_cases hx : A 4 (a + k) = x
    · rw [if_pos hx, cn_F (p := fun d => ¬ A 4 d = x) (by simpa using hx), fl_same hx]
      exact ih
    · rw [if_neg hx]
      refine ⟨by omega, ?_⟩
      rw [cn_T (p := fun d => ¬ A 4 d = x) hx]
      exact ih
  · dsimp only
    refine sg_P_put_3_10 ?_
    simp (disch := omega) only [l_0, l_1, l_2, l_3, l_4, l_5, l_6, l_7, l_8, l_9, l_10, l_11, l_13, l_18, l_20, l_24, l_30, l_31, l_35, l_60, l_78, l_100, l_160, l_255, l_258, l_320, l_359, l_360, l_720, l_1000, l_1079, l_1080, l_2160, nI_ltI, nI_leI, nI_eq, nI_clamp, nI_add, Nat.add_assoc, Nat.add_zero, upA_same, upA_upA, fl_new, fl_s]
    rw [if_pos (by omega)]
    exact ⟨trivial, trivial⟩
theorem P_put_5_c {L : Nat} {xs : Nat → Int32} {A V : Nat → Nat → Int32} {K : Nat → Option Nat} {T : am_H} (x : Int32) (a b : Nat) (hb : b < 1080) (hab : a ≤ b + 1) : am_fin [(z_P_put, 0, [.ref 5, .int x, .int (nI a), .int (nI b), .null, .null], [])] (hp L xs A V K T) (some (nI (cn (fun d => ¬ A 6 d = x) a (b + 1 - a)))) (hp L xs (upA A 6 (fl (A 6) a (b + 1 - a) x)) V K T) := by
  refine sg_P_put_5_0 ?_
  rw [if_neg (nI_lt0 (by omega))]
  have key := am_iter (fun k => ([(z_P_put, 10, [.ref 5, .int x, .int (nI a), .int (nI b), .int (nI (cn (fun d => ¬ A 6 d = x) a k)), .int (nI (a + k))], [])], hp L xs (upA A 6 (fl (A 6) a k x)) V K T)) (b + 1 - a) (v := some (nI (cn (fun d => ¬ A 6 d = x) a (b + 1 - a)))) (h' := hp L xs (upA A 6 (fl (A 6) a (b + 1 - a) x)) V K T) (fun k hk ih => ?_) ?_
  · rw [fl_0, upA_self] at key
    exact key
  · dsimp only at ih ⊢
    refine sg_P_put_5_10 ?_
    simp (disch := omega) only [l_0, l_1, l_2, l_3, l_4, l_5, l_6, l_7, l_8, l_9, l_10, l_11, l_13, l_18, l_20, l_24, l_30, l_31, l_35, l_60, l_78, l_100, l_160, l_255, l_258, l_320, l_359, l_360, l_720, l_1000, l_1079, l_1080, l_2160, nI_ltI, nI_leI, nI_eq, nI_clamp, nI_add, Nat.add_assoc, Nat.add_zero, upA_same, upA_upA, fl_new, fl_s]
    rw [if_neg (by omega), if_neg (by omega)]
    refine ⟨by omega, ?_⟩
    by_cases hx : A 6 (a + k) = x
    · rw [if_pos hx, cn_F (p := fun d => ¬ A 6 d = x) (by simpa using hx), fl_same hx]
      exact ih
    · rw [if_neg hx]
      refine ⟨by omega, ?_⟩
      rw [cn_T (p := fun d => ¬ A 6 d = x) hx]
      exact ih
  · dsimp only
    refine sg_P_put_5_10 ?_
    simp (disch := omega) only [l_0, l_1, l_2, l_3, l_4, l_5, l_6, l_7, l_8, l_9, l_10, l_11, l_13, l_18, l_20, l_24, l_30, l_31, l_35, l_60, l_78, l_100, l_160, l_255, l_258, l_320, l_359, l_360, l_720, l_1000, l_1079, l_1080, l_2160, nI_ltI, nI_leI, nI_eq, nI_clamp, nI_add, Nat.add_assoc, Nat.add_zero, upA_same, upA_upA, fl_new, fl_s]
    rw [if_pos (by omega)]
    exact ⟨trivial, trivial⟩
theorem P_put_34_c {L : Nat} {xs : Nat → Int32} {A V : Nat → Nat → Int32} {K : Nat → Option Nat} {T : am_H} (x : Int32) (a b : Nat) (hb : b < 1080) (hab : a ≤ b + 1) : am_fin [(z_P_put, 0, [.ref 34, .int x, .int (nI a), .int (nI b), .null, .null], [])] (hp L xs A V K T) (some (nI (cn (fun d => ¬ A 35 d = x) a (b + 1 - a)))) (hp L xs (upA A 35 (fl (A 35) a (b + 1 - a) x)) V K T) := by
  refine sg_P_put_34_0 ?_
  rw [if_neg (nI_lt0 (by omega))]
  have key := am_iter (fun k => ([(z_P_put, 10, [.ref 34, .int x, .int (nI a), .int (nI b), .int (nI (cn (fun d => ¬ A 35 d = x) a k)), .int (nI (a + k))], [])], hp L xs (upA A 35 (fl (A 35) a k x)) V K T)) (b + 1 - a) (v := some (nI (cn (fun d => ¬ A 35 d = x) a (b + 1 - a)))) (h' := hp L xs (upA A 35 (fl (A 35) a (b + 1 - a) x)) V K T) (fun k hk ih => ?_) ?_
  · rw [fl_0, upA_self] at key
    exact key
  · dsimp only at ih ⊢
    refine sg_P_put_34_10 ?_
    simp (disch := omega) only [l_0, l_1, l_2, l_3, l_4, l_5, l_6, l_7, l_8, l_9, l_10, l_11, l_13, l_18, l_20, l_24, l_30, l_31, l_35, l_60, l_78, l_100, l_160, l_255, l_258, l_320, l_359, l_360, l_720, l_1000, l_1079, l_1080, l_2160, nI_ltI, nI_leI, nI_eq, nI_clamp, nI_add, Nat.add_assoc, Nat.add_zero, upA_same, upA_upA, fl_new, fl_s]
    rw [if_neg (by omega), if_neg (by omega)]
    refine ⟨by omega, ?_⟩
    by_cases hx : A 35 (a + k) = x
    · rw [if_pos hx, cn_F (p := fun d => ¬ A 35 d = x) (by simpa using hx), fl_same hx]
      exact ih
    · rw [if_neg hx]
      refine ⟨by omega, ?_⟩
      rw [cn_T (p := fun d => ¬ A 35 d = x) hx]
      exact ih
  · dsimp only
    refine sg_P_put_34_10 ?_
    simp (disch := omega) only [l_0, l_1, l_2, l_3, l_4, l_5, l_6, l_7, l_8, l_9, l_10, l_11, l_13, l_18, l_20, l_24, l_30, l_31, l_35, l_60, l_78, l_100, l_160, l_255, l_258, l_320, l_359, l_360, l_720, l_1000, l_1079, l_1080, l_2160, nI_ltI, nI_leI, nI_eq, nI_clamp, nI_add, Nat.add_assoc, Nat.add_zero, upA_same, upA_upA, fl_new, fl_s]
    rw [if_pos (by omega)]
    exact ⟨trivial, trivial⟩
theorem M_stay_lp {L : Nat} {xs : Nat → Int32} {A V : Nat → Nat → Int32} {K : Nat → Option Nat} {T : am_H} (x : Int32) (a b : Nat) (hb : b < 1080) (hab : a ≤ b + 1) : am_fin [(z_M_stay, 23, [.ref 36, .int x, .int (nI a), .int (nI b), .int 0, .int (nI a)], [])] (hp L xs A V K T) (some (nI (cn (fun d => ¬ A 37 d = x) a (b + 1 - a)))) (hp L xs (upA A 37 (fl (A 37) a (b + 1 - a) x)) V K T) := by
  have key := am_iter (fun k => ([(z_M_stay, 23, [.ref 36, .int x, .int (nI a), .int (nI b), .int (nI (cn (fun d => ¬ A 37 d = x) a k)), .int (nI (a + k))], [])], hp L xs (upA A 37 (fl (A 37) a k x)) V K T)) (b + 1 - a) (v := some (nI (cn (fun d => ¬ A 37 d = x) a (b + 1 - a)))) (h' := hp L xs (upA A 37 (fl (A 37) a (b + 1 - a) x)) V K T) (fun k hk ih => ?_) ?_
  · rw [fl_0, upA_self] at key
    exact key
  · dsimp only at ih ⊢
    refine sg_M_stay_23 ?_
    simp (disch := omega) only [l_0, l_1, l_2, l_3, l_4, l_5, l_6, l_7, l_8, l_9, l_10, l_11, l_13, l_18, l_20, l_24, l_30, l_31, l_35, l_60, l_78, l_100, l_160, l_255, l_258, l_320, l_359, l_360, l_720, l_1000, l_1079, l_1080, l_2160, nI_ltI, nI_leI, nI_eq, nI_clamp, nI_add, Nat.add_assoc, Nat.add_zero, upA_same, upA_upA, fl_new, fl_s]
    rw [if_neg (by omega)]
    refine ⟨by omega, ?_⟩
    by_cases hx : A 37 (a + k) = x
    · rw [if_pos hx]
      refine ⟨by omega, ?_⟩
      rw [cn_F (p := fun d => ¬ A 37 d = x) (by simpa using hx)]
      exact ih
    · rw [if_neg hx]
      refine ⟨by omega, ?_⟩
      rw [cn_T (p := fun d => ¬ A 37 d = x) hx]
      exact ih
  · dsimp only
    refine sg_M_stay_23 ?_
    simp (disch := omega) only [l_0, l_1, l_2, l_3, l_4, l_5, l_6, l_7, l_8, l_9, l_10, l_11, l_13, l_18, l_20, l_24, l_30, l_31, l_35, l_60, l_78, l_100, l_160, l_255, l_258, l_320, l_359, l_360, l_720, l_1000, l_1079, l_1080, l_2160, nI_ltI, nI_leI, nI_eq, nI_clamp, nI_add, Nat.add_assoc, Nat.add_zero, upA_same, upA_upA, fl_new, fl_s]
    rw [if_pos (by omega)]
    exact ⟨trivial, trivial⟩
theorem M_centre_lp {L : Nat} {xs : Nat → Int32} {A V : Nat → Nat → Int32} {K : Nat → Option Nat} {T : am_H} (x : Int32) (a b : Nat) (hb : b < 1080) (hab : a ≤ b + 1) : am_fin [(z_M_centre, 23, [.ref 36, .int x, .int (nI a), .int (nI b), .int 0, .int (nI a)], [])] (hp L xs A V K T) (some (nI (cn (fun d => ¬ A 39 d = x) a (b + 1 - a)))) (hp L xs (upA A 39 (fl (A 39) a (b + 1 - a) x)) V K T) := by
  have key := am_iter (fun k => ([(z_M_centre, 23, [.ref 36, .int x, .int (nI a), .int (nI b), .int (nI (cn (fun d => ¬ A 39 d = x) a k)), .int (nI (a + k))], [])], hp L xs (upA A 39 (fl (A 39) a k x)) V K T)) (b + 1 - a) (v := some (nI (cn (fun d => ¬ A 39 d = x) a (b + 1 - a)))) (h' := hp L xs (upA A 39 (fl (A 39) a (b + 1 - a) x)) V K T) (fun k hk ih => ?_) ?_
  · rw [fl_0, upA_self] at key
    exact key
  · dsimp only at ih ⊢
    refine sg_M_centre_23 ?_
    simp (disch := omega) only [l_0, l_1, l_2, l_3, l_4, l_5, l_6, l_7, l_8, l_9, l_10, l_11, l_13, l_18, l_20, l_24, l_30, l_31, l_35, l_60, l_78, l_100, l_160, l_255, l_258, l_320, l_359, l_360, l_720, l_1000, l_1079, l_1080, l_2160, nI_ltI, nI_leI, nI_eq, nI_clamp, nI_add, Nat.add_assoc, Nat.add_zero, upA_same, upA_upA, fl_new, fl_s]
    rw [if_neg (by omega)]
    refine ⟨by omega, ?_⟩
    by_cases hx : A 39 (a + k) = x
    · rw [if_pos hx]
      refine ⟨by omega, ?_⟩
      rw [cn_F (p := fun d => ¬ A 39 d = x) (by simpa using hx)]
      exact ih
    · rw [if_neg hx]
      refine ⟨by omega, ?_⟩
      rw [cn_T (p := fun d => ¬ A 39 d = x) hx]
      exact ih
  · dsimp only
    refine sg_M_centre_23 ?_
    simp (disch := omega) only [l_0, l_1, l_2, l_3, l_4, l_5, l_6, l_7, l_8, l_9, l_10, l_11, l_13, l_18, l_20, l_24, l_30, l_31, l_35, l_60, l_78, l_100, l_160, l_255, l_258, l_320, l_359, l_360, l_720, l_1000, l_1079, l_1080, l_2160, nI_ltI, nI_leI, nI_eq, nI_clamp, nI_add, Nat.add_assoc, Nat.add_zero, upA_same, upA_upA, fl_new, fl_s]
    rw [if_pos (by omega)]
    exact ⟨trivial, trivial⟩
