theorem i32_sub1 {a b : Nat} (ha : a < 1000000) (hb : b < 1000000) : (nI a - nI b + 1).toInt = (a : Int) - (b : Int) + 1 := by
  rw [Int32.toInt_add, Int32.toInt_sub, nI_toInt (by omega), nI_toInt (by omega), show (1 : Int32).toInt = 1 from by decide]
  rw [Int.bmod_eq_of_le (n := (a : Int) - (b : Int)) (by omega) (by omega)]
  exact Int.bmod_eq_of_le (by omega) (by omega)
theorem i32_a {x y z : Int32} (h1 : x < z) (h2 : ¬ y < z) : x < y := by
  rw [Int32.lt_iff_toInt_lt] at *; omega
theorem i32_b {x y z : Int32} (h1 : z < x) (h2 : ¬ z < y) : ¬ x < y := by
  rw [Int32.lt_iff_toInt_lt] at *; omega
theorem pl_of {x : Int32} (h1 : ¬ x < -1) (h2 : ¬ 5 < x) : pl x := by
  by_cases h : x < 0
  · left
    rw [Int32.lt_iff_toInt_lt] at h h1
    rw [show (-1 : Int32).toInt = -1 from by decide] at h1
    rw [Int32.toInt_zero] at h
    apply Int32.toInt_inj.mp
    rw [show (-1 : Int32).toInt = -1 from by decide]
    omega
  · obtain ⟨n, hn, rfl⟩ := i32_nat (m := 5) (by omega) h h2
    exact Or.inr ⟨n, by omega, rfl⟩
theorem fl_pl {f : Nat → Int32} {a n : Nat} {x : Int32} (hx : pl x) (hf : ∀ d, d < 1080 → pl (f d)) : ∀ d, d < 1080 → pl (fl f a n x d) := by
  intro d hd
  unfold fl
  split
  · exact hx
  · exact hf d hd
theorem fl_z {f : Nat → Int32} {a n : Nat} {x : Int32} (hn : a + n ≤ 1080) {d : Nat} (hd : 1080 ≤ d) (h : f d = 0) : fl f a n x d = 0 := by
  unfold fl
  rw [if_neg (by omega)]
  exact h
theorem RI_places {A V : Nat → Nat → Int32} {K : Nat → Option Nat} {T : am_H} {F : Nat → Int32} (R : RI A V K T) (hF : ∀ d, d < 1080 → pl (F d)) (hz : ∀ d, 1080 ≤ d → F d = 0) : RI (upA (upA A 4 F) 37 F) V K T := by
  obtain ⟨⟨r1, r2, r3, r4, r5, r6, r7, r8⟩, q2, q3, q4, q5, q6⟩ := R
  exact ⟨⟨rfl, r2, r3, r4, hF, r6, r7, r8⟩, q2, q3, q4, fun d hd => ⟨hz d hd, (q5 d hd).2⟩, q6⟩
theorem RI_centres {A V : Nat → Nat → Int32} {K : Nat → Option Nat} {T : am_H} {F : Nat → Int32} (R : RI A V K T) (hF : ∀ d, d < 1080 → pl (F d)) (hz : ∀ d, 1080 ≤ d → F d = 0) : RI (upA (upA A 6 F) 39 F) V K T := by
  obtain ⟨⟨r1, r2, r3, r4, r5, r6, r7, r8⟩, q2, q3, q4, q5, q6⟩ := R
  exact ⟨⟨r1, r2, rfl, r4, r5, hF, r7, r8⟩, q2, q3, q4, fun d hd => ⟨(q5 d hd).1, hz d hd, (q5 d hd).2.2⟩, q6⟩
section
variable {L : Nat} {xs : Nat → Int32} {A V : Nat → Nat → Int32} {K : Nat → Option Nat} {T : am_H}
theorem S_homeDays_c (x : Int32) (a b : Nat) (hb : b < 1080) (hab : a ≤ b + 1) : am_fin [(z_S_homeDays, 0, [.ref 2, .int x, .int (nI a), .int (nI b), .null, .null], [])] (hp L xs A V K T) (some (nI (cn (fun d => hbit (A 9 d) x) a (b + 1 - a)))) (hp L xs A V K T) := by
  refine sg_S_homeDays_0 ?_
  refine am_iter (fun k => ([(z_S_homeDays, 6, [.ref 2, .int x, .int (nI a), .int (nI b), .int (nI (cn (fun d => hbit (A 9 d) x) a k)), .int (nI (a + k))], [])], hp L xs A V K T)) (b + 1 - a) (fun k hk ih => ?_) ?_
  · dsimp only at ih ⊢
    refine sg_S_homeDays_6 ?_
    simp (disch := omega) only [l_0, l_1, l_2, l_3, l_4, l_5, l_6, l_7, l_8, l_9, l_10, l_11, l_13, l_18, l_20, l_24, l_30, l_31, l_35, l_60, l_78, l_100, l_160, l_255, l_258, l_320, l_359, l_360, l_720, l_1000, l_1079, l_1080, l_2160, nI_ltI, nI_leI, nI_eq, nI_clamp, nI_add, Nat.add_assoc, Nat.add_zero, upA_same, upA_upA, fl_new, fl_s]
    rw [if_neg (by omega)]
    refine ⟨by omega, ?_⟩
    by_cases h : hbit (A 9 (a + k)) x
    · refine iteP h ?_
      rw [cn_T (p := fun d => hbit (A 9 d) x) h]
      exact ih
    · refine iteN h ?_
      rw [cn_F (p := fun d => hbit (A 9 d) x) h]
      exact ih
  · dsimp only
    refine sg_S_homeDays_6 ?_
    simp (disch := omega) only [l_0, l_1, l_2, l_3, l_4, l_5, l_6, l_7, l_8, l_9, l_10, l_11, l_13, l_18, l_20, l_24, l_30, l_31, l_35, l_60, l_78, l_100, l_160, l_255, l_258, l_320, l_359, l_360, l_720, l_1000, l_1079, l_1080, l_2160, nI_ltI, nI_leI, nI_eq, nI_clamp, nI_add, Nat.add_assoc, Nat.add_zero, upA_same, upA_upA, fl_new, fl_s]
    rw [if_pos (by omega)]
    constructor <;> first | rfl | trivial
theorem pr_stay (a1 a2 a3 : Int32) (R : RI A V K T) : PRQ z_L_stay z_M_stay [.ref 1, .int a1, .int a2, .int a3] [.ref 36, .int a1, .int a2, .int a3, .null, .null] L xs A V K T := by
  by_cases c1 : a1 < -1
  · refine ⟨(-1), A, V, K, T, A, V, sg_L_stay_0 ?_, sg_M_stay_0 ?_, R⟩
    · (try simp only [lgl, lgg]); (repeat first | refine iteP (by first | assumption) ?_ | refine iteN (by first | assumption) ?_); (constructor <;> first | rfl | trivial)
    · (try simp only [lgl, lgg]); (repeat first | refine iteP (by first | assumption) ?_ | refine iteN (by first | assumption) ?_); (constructor <;> first | rfl | trivial)
  by_cases c2 : (5 : Int32) < a1
  · refine ⟨(-1), A, V, K, T, A, V, sg_L_stay_0 ?_, sg_M_stay_0 ?_, R⟩
    · (try simp only [lgl, lgg]); (repeat first | refine iteP (by first | assumption) ?_ | refine iteN (by first | assumption) ?_); (constructor <;> first | rfl | trivial)
    · (try simp only [lgl, lgg]); (repeat first | refine iteP (by first | assumption) ?_ | refine iteN (by first | assumption) ?_); (constructor <;> first | rfl | trivial)
  by_cases c3 : a2 < 0
  · refine ⟨(-1), A, V, K, T, A, V, sg_L_stay_0 ?_, sg_M_stay_0 ?_, R⟩
    · (try simp only [lgl, lgg]); (repeat first | refine iteP (by first | assumption) ?_ | refine iteN (by first | assumption) ?_); (constructor <;> first | rfl | trivial)
    · (try simp only [lgl, lgg]); (repeat first | refine iteP (by first | assumption) ?_ | refine iteN (by first | assumption) ?_); (constructor <;> first | rfl | trivial)
  by_cases c4 : (1079 : Int32) < a2
  · refine ⟨(-1), A, V, K, T, A, V, sg_L_stay_0 ?_, sg_M_stay_0 ?_, R⟩
    · (try simp only [lgl, lgg]); (repeat first | refine iteP (by first | assumption) ?_ | refine iteN (by first | assumption) ?_); (constructor <;> first | rfl | trivial)
    · (try simp only [lgl, lgg]); (repeat first | refine iteP (by first | assumption) ?_ | refine iteN (by first | assumption) ?_); (constructor <;> first | rfl | trivial)
  by_cases c5 : a3 < 0
  · refine ⟨(-1), A, V, K, T, A, V, sg_L_stay_0 ?_, sg_M_stay_0 ?_, R⟩
    · (try simp only [lgl, lgg]); (repeat first | refine iteP (by first | assumption) ?_ | refine iteN (by first | assumption) ?_); (constructor <;> first | rfl | trivial)
    · (try simp only [lgl, lgg]); (repeat first | refine iteP (by first | assumption | exact i32_a (z := 0) (by assumption) (by assumption)) ?_ | refine iteN (by first | assumption | exact i32_b (z := 1079) (by assumption) (by assumption)) ?_); (constructor <;> first | rfl | trivial)
  by_cases c6 : (1079 : Int32) < a3
  · refine ⟨(-1), A, V, K, T, A, V, sg_L_stay_0 ?_, sg_M_stay_0 ?_, R⟩
    · (try simp only [lgl, lgg]); (repeat first | refine iteP (by first | assumption) ?_ | refine iteN (by first | assumption) ?_); (constructor <;> first | rfl | trivial)
    · (try simp only [lgl, lgg]); (repeat first | refine iteP (by first | assumption | exact i32_a (z := 0) (by assumption) (by assumption)) ?_ | refine iteN (by first | assumption | exact i32_b (z := 1079) (by assumption) (by assumption)) ?_); (constructor <;> first | rfl | trivial)
  by_cases c7 : a3 < a2
  · refine ⟨(-1), A, V, K, T, A, V, sg_L_stay_0 ?_, sg_M_stay_0 ?_, R⟩
    · (try simp only [lgl, lgg]); (repeat first | refine iteP (by first | assumption) ?_ | refine iteN (by first | assumption) ?_); (constructor <;> first | rfl | trivial)
    · (try simp only [lgl, lgg]); (repeat first | refine iteP (by first | assumption) ?_ | refine iteN (by first | assumption) ?_); (constructor <;> first | rfl | trivial)
  obtain ⟨a, ha, rfl⟩ := i32_nat (m := 1079) (by omega) c3 c4
  obtain ⟨b, hb, rfl⟩ := i32_nat (m := 1079) (by omega) c5 c6
  have hab : a ≤ b := by rw [nI_ltI (by omega) (by omega)] at c7; omega
  obtain ⟨r1, r2, r3, r4, r5, r6, r7, r8⟩ := id R.1
  have hx := pl_of c1 c2
  refine ⟨nI (cn (fun d => ¬ A 4 d = a1) a (b + 1 - a)), upA A 4 (fl (A 4) a (b + 1 - a) a1), V, K, T, upA (upA A 4 (fl (A 4) a (b + 1 - a) a1)) 37 (fl (A 4) a (b + 1 - a) a1), V, sg_L_stay_0 ?_, sg_M_stay_0 ?_, ?_⟩
  · (try simp only [lgl, lgg]); (repeat first | refine iteP (by first | assumption) ?_ | refine iteN (by first | assumption) ?_)
    exact am_fin.call (P_put_3_c a1 a b (by omega) (by omega)) (sg_L_stay_30r ⟨rfl, rfl⟩)
  · (try simp only [lgl, lgg]); (repeat first | refine iteP (by first | assumption) ?_ | refine iteN (by first | assumption) ?_)
    have h := M_stay_lp (L := L) (xs := xs) (A := upA A 4 (fl (A 4) a (b + 1 - a) a1)) (V := V) (K := K) (T := T) a1 a b (by omega) (by omega)
    rw [show upA A 4 (fl (A 4) a (b + 1 - a) a1) 37 = A 4 from r1] at h
    exact h
  · exact RI_places R (fl_pl hx r5) (fun d hd => fl_z (by omega) hd (R.2.2.2.2.1 d hd).1)
theorem pr_centre (a1 a2 a3 : Int32) (R : RI A V K T) : PRQ z_L_centre z_M_centre [.ref 1, .int a1, .int a2, .int a3] [.ref 36, .int a1, .int a2, .int a3, .null, .null] L xs A V K T := by
  by_cases c1 : a1 < -1
  · refine ⟨(-1), A, V, K, T, A, V, sg_L_centre_0 ?_, sg_M_centre_0 ?_, R⟩
    · (try simp only [lgl, lgg]); (repeat first | refine iteP (by first | assumption) ?_ | refine iteN (by first | assumption) ?_); (constructor <;> first | rfl | trivial)
    · (try simp only [lgl, lgg]); (repeat first | refine iteP (by first | assumption) ?_ | refine iteN (by first | assumption) ?_); (constructor <;> first | rfl | trivial)
  by_cases c2 : (5 : Int32) < a1
  · refine ⟨(-1), A, V, K, T, A, V, sg_L_centre_0 ?_, sg_M_centre_0 ?_, R⟩
    · (try simp only [lgl, lgg]); (repeat first | refine iteP (by first | assumption) ?_ | refine iteN (by first | assumption) ?_); (constructor <;> first | rfl | trivial)
    · (try simp only [lgl, lgg]); (repeat first | refine iteP (by first | assumption) ?_ | refine iteN (by first | assumption) ?_); (constructor <;> first | rfl | trivial)
  by_cases c3 : a2 < 0
  · refine ⟨(-1), A, V, K, T, A, V, sg_L_centre_0 ?_, sg_M_centre_0 ?_, R⟩
    · (try simp only [lgl, lgg]); (repeat first | refine iteP (by first | assumption) ?_ | refine iteN (by first | assumption) ?_); (constructor <;> first | rfl | trivial)
    · (try simp only [lgl, lgg]); (repeat first | refine iteP (by first | assumption) ?_ | refine iteN (by first | assumption) ?_); (constructor <;> first | rfl | trivial)
  by_cases c4 : (1079 : Int32) < a2
  · refine ⟨(-1), A, V, K, T, A, V, sg_L_centre_0 ?_, sg_M_centre_0 ?_, R⟩
    · (try simp only [lgl, lgg]); (repeat first | refine iteP (by first | assumption) ?_ | refine iteN (by first | assumption) ?_); (constructor <;> first | rfl | trivial)
    · (try simp only [lgl, lgg]); (repeat first | refine iteP (by first | assumption) ?_ | refine iteN (by first | assumption) ?_); (constructor <;> first | rfl | trivial)
  by_cases c5 : a3 < 0
  · refine ⟨(-1), A, V, K, T, A, V, sg_L_centre_0 ?_, sg_M_centre_0 ?_, R⟩
    · (try simp only [lgl, lgg]); (repeat first | refine iteP (by first | assumption) ?_ | refine iteN (by first | assumption) ?_); (constructor <;> first | rfl | trivial)
    · (try simp only [lgl, lgg]); (repeat first | refine iteP (by first | assumption | exact i32_a (z := 0) (by assumption) (by assumption)) ?_ | refine iteN (by first | assumption | exact i32_b (z := 1079) (by assumption) (by assumption)) ?_); (constructor <;> first | rfl | trivial)
  by_cases c6 : (1079 : Int32) < a3
  · refine ⟨(-1), A, V, K, T, A, V, sg_L_centre_0 ?_, sg_M_centre_0 ?_, R⟩
    · (try simp only [lgl, lgg]); (repeat first | refine iteP (by first | assumption) ?_ | refine iteN (by first | assumption) ?_); (constructor <;> first | rfl | trivial)
    · (try simp only [lgl, lgg]); (repeat first | refine iteP (by first | assumption | exact i32_a (z := 0) (by assumption) (by assumption)) ?_ | refine iteN (by first | assumption | exact i32_b (z := 1079) (by assumption) (by assumption)) ?_); (constructor <;> first | rfl | trivial)
  by_cases c7 : a3 < a2
  · refine ⟨(-1), A, V, K, T, A, V, sg_L_centre_0 ?_, sg_M_centre_0 ?_, R⟩
    · (try simp only [lgl, lgg]); (repeat first | refine iteP (by first | assumption) ?_ | refine iteN (by first | assumption) ?_); (constructor <;> first | rfl | trivial)
    · (try simp only [lgl, lgg]); (repeat first | refine iteP (by first | assumption) ?_ | refine iteN (by first | assumption) ?_); (constructor <;> first | rfl | trivial)
  obtain ⟨a, ha, rfl⟩ := i32_nat (m := 1079) (by omega) c3 c4
  obtain ⟨b, hb, rfl⟩ := i32_nat (m := 1079) (by omega) c5 c6
  have hab : a ≤ b := by rw [nI_ltI (by omega) (by omega)] at c7; omega
  obtain ⟨r1, r2, r3, r4, r5, r6, r7, r8⟩ := id R.1
  have hx := pl_of c1 c2
  refine ⟨nI (cn (fun d => ¬ A 6 d = a1) a (b + 1 - a)), upA A 6 (fl (A 6) a (b + 1 - a) a1), V, K, T, upA (upA A 6 (fl (A 6) a (b + 1 - a) a1)) 39 (fl (A 6) a (b + 1 - a) a1), V, sg_L_centre_0 ?_, sg_M_centre_0 ?_, ?_⟩
  · (try simp only [lgl, lgg]); (repeat first | refine iteP (by first | assumption) ?_ | refine iteN (by first | assumption) ?_)
    exact am_fin.call (P_put_5_c a1 a b (by omega) (by omega)) (sg_L_centre_30r ⟨rfl, rfl⟩)
  · (try simp only [lgl, lgg]); (repeat first | refine iteP (by first | assumption) ?_ | refine iteN (by first | assumption) ?_)
    have h := M_centre_lp (L := L) (xs := xs) (A := upA A 6 (fl (A 6) a (b + 1 - a) a1)) (V := V) (K := K) (T := T) a1 a b (by omega) (by omega)
    rw [show upA A 6 (fl (A 6) a (b + 1 - a) a1) 39 = A 6 from r3] at h
    exact h
  · exact RI_centres R (fl_pl hx r6) (fun d hd => fl_z (by omega) hd (R.2.2.2.2.1 d hd).2.1)
theorem pr_within (a1 a2 a3 : Int32) (R : RI A V K T) : PRQ z_L_within z_M_within [.ref 1, .int a1, .int a2, .int a3] [.ref 36, .int a1, .int a2, .int a3] L xs A V K T := by
  by_cases c1 : a1 < 0
  · refine ⟨(-1), A, V, K, T, A, V, sg_L_within_0 ?_, sg_M_within_0 ?_, R⟩
    · (try simp only [lgl, lgg]); (repeat first | refine iteP (by first | assumption) ?_ | refine iteN (by first | assumption) ?_); (constructor <;> first | rfl | trivial)
    · (try simp only [lgl, lgg]); (repeat first | refine iteP (by first | assumption) ?_ | refine iteN (by first | assumption) ?_); (constructor <;> first | rfl | trivial)
  by_cases c2 : (5 : Int32) < a1
  · refine ⟨(-1), A, V, K, T, A, V, sg_L_within_0 ?_, sg_M_within_0 ?_, R⟩
    · (try simp only [lgl, lgg]); (repeat first | refine iteP (by first | assumption) ?_ | refine iteN (by first | assumption) ?_); (constructor <;> first | rfl | trivial)
    · (try simp only [lgl, lgg]); (repeat first | refine iteP (by first | assumption) ?_ | refine iteN (by first | assumption) ?_); (constructor <;> first | rfl | trivial)
  by_cases c3 : a2 < 0
  · refine ⟨(-1), A, V, K, T, A, V, sg_L_within_0 ?_, sg_M_within_0 ?_, R⟩
    · (try simp only [lgl, lgg]); (repeat first | refine iteP (by first | assumption) ?_ | refine iteN (by first | assumption) ?_); (constructor <;> first | rfl | trivial)
    · (try simp only [lgl, lgg]); (repeat first | refine iteP (by first | assumption) ?_ | refine iteN (by first | assumption) ?_); (constructor <;> first | rfl | trivial)
  by_cases c4 : (1079 : Int32) < a2
  · refine ⟨(-1), A, V, K, T, A, V, sg_L_within_0 ?_, sg_M_within_0 ?_, R⟩
    · (try simp only [lgl, lgg]); (repeat first | refine iteP (by first | assumption) ?_ | refine iteN (by first | assumption) ?_); (constructor <;> first | rfl | trivial)
    · (try simp only [lgl, lgg]); (repeat first | refine iteP (by first | assumption) ?_ | refine iteN (by first | assumption) ?_); (constructor <;> first | rfl | trivial)
  by_cases c5 : a3 < 1
  · refine ⟨(-1), A, V, K, T, A, V, sg_L_within_0 ?_, sg_M_within_0 ?_, R⟩
    · (try simp only [lgl, lgg]); (repeat first | refine iteP (by first | assumption) ?_ | refine iteN (by first | assumption) ?_); (constructor <;> first | rfl | trivial)
    · (try simp only [lgl, lgg]); (repeat first | refine iteP (by first | assumption) ?_ | refine iteN (by first | assumption) ?_); (constructor <;> first | rfl | trivial)
  by_cases c6 : (1080 : Int32) < a3
  · refine ⟨(-1), A, V, K, T, A, V, sg_L_within_0 ?_, sg_M_within_0 ?_, R⟩
    · (try simp only [lgl, lgg]); (repeat first | refine iteP (by first | assumption) ?_ | refine iteN (by first | assumption) ?_); (constructor <;> first | rfl | trivial)
    · (try simp only [lgl, lgg]); (repeat first | refine iteP (by first | assumption) ?_ | refine iteN (by first | assumption) ?_); (constructor <;> first | rfl | trivial)
  obtain ⟨b, hb, rfl⟩ := i32_nat (m := 1079) (by omega) c3 c4
  have c5' : ¬ a3 < 0 := fun z => c5 (by rw [Int32.lt_iff_toInt_lt] at *; have e0 : (0 : Int32).toInt = 0 := by decide
                                         have e1 : (1 : Int32).toInt = 1 := by decide
                                         omega)
  obtain ⟨w, hw, rfl⟩ := i32_nat (m := 1080) (by omega) c5' c6
  have hw1 : 1 ≤ w := by
    have := mt (nI_ltI (a := w) (b := 1) (by omega) (by omega)).mpr c5
    omega
  obtain ⟨r1, -⟩ := R.1
  by_cases hbw : w ≤ b + 1
  · have e : nI b - nI w + 1 = nI (b + 1 - w) := by
      apply Int32.toInt_inj.mp
      rw [i32_sub1 (by omega) (by omega), nI_toInt (by omega)]
      omega
    refine ⟨nI (cn (fun d => A 4 d = a1) (b + 1 - w) (b + 1 - (b + 1 - w))), A, V, K, T, A, V, sg_L_within_0 ?_, sg_M_within_0 ?_, R⟩
    · (try simp only [lgl, lgg]); (repeat first | refine iteP (by first | assumption) ?_ | refine iteN (by first | assumption) ?_)
      rw [e, if_neg (nI_lt0 (by omega))]
      exact am_fin.call (P_countOf_3_c a1 (b + 1 - w) b (by omega) (by omega)) (sg_L_within_48r ⟨rfl, rfl⟩)
    · (try simp only [lgl, lgg]); (repeat first | refine iteP (by first | assumption) ?_ | refine iteN (by first | assumption) ?_)
      rw [e]
      exact am_fin.call (M_between_c a1 (b + 1 - w) b (by omega) (by omega)) (sg_M_within_37r ⟨by rw [r1], (by first | rfl | trivial)⟩)
  · have e : nI b - nI w + 1 < 0 := by
      rw [Int32.lt_iff_toInt_lt, i32_sub1 (by omega) (by omega), Int32.toInt_zero]
      omega
    refine ⟨nI (cn (fun d => A 4 d = a1) 0 (b + 1)), A, V, K, T, A, V, sg_L_within_0 ?_, sg_M_within_0 ?_, R⟩
    · (try simp only [lgl, lgg]); (repeat first | refine iteP (by first | assumption) ?_ | refine iteN (by first | assumption) ?_)
      rw [if_pos e]
      exact am_fin.call (P_countOf_3_c a1 0 b (by omega) (by omega)) (sg_L_within_48r ⟨rfl, rfl⟩)
    · (try simp only [lgl, lgg]); (repeat first | refine iteP (by first | assumption) ?_ | refine iteN (by first | assumption) ?_)
      exact am_fin.call (M_between_n a1 _ b e (by omega)) (sg_M_within_37r ⟨by rw [r1], (by first | rfl | trivial)⟩)
theorem pr_days (a1 a2 a3 : Int32) (R : RI A V K T) : PRQ z_L_days z_M_days [.ref 1, .int a1, .int a2, .int a3] [.ref 36, .int a1, .int a2, .int a3] L xs A V K T := by
  by_cases c1 : a1 < 0
  · refine ⟨(-1), A, V, K, T, A, V, sg_L_days_0 ?_, sg_M_days_0 ?_, R⟩
    · (try simp only [lgl, lgg]); (repeat first | refine iteP (by first | assumption) ?_ | refine iteN (by first | assumption) ?_); (constructor <;> first | rfl | trivial)
    · (try simp only [lgl, lgg]); (repeat first | refine iteP (by first | assumption) ?_ | refine iteN (by first | assumption) ?_); (constructor <;> first | rfl | trivial)
  by_cases c2 : (5 : Int32) < a1
  · refine ⟨(-1), A, V, K, T, A, V, sg_L_days_0 ?_, sg_M_days_0 ?_, R⟩
    · (try simp only [lgl, lgg]); (repeat first | refine iteP (by first | assumption) ?_ | refine iteN (by first | assumption) ?_); (constructor <;> first | rfl | trivial)
    · (try simp only [lgl, lgg]); (repeat first | refine iteP (by first | assumption) ?_ | refine iteN (by first | assumption) ?_); (constructor <;> first | rfl | trivial)
  by_cases c3 : a2 < 0
  · refine ⟨(-1), A, V, K, T, A, V, sg_L_days_0 ?_, sg_M_days_0 ?_, R⟩
    · (try simp only [lgl, lgg]); (repeat first | refine iteP (by first | assumption) ?_ | refine iteN (by first | assumption) ?_); (constructor <;> first | rfl | trivial)
    · (try simp only [lgl, lgg]); (repeat first | refine iteP (by first | assumption) ?_ | refine iteN (by first | assumption) ?_); (constructor <;> first | rfl | trivial)
  by_cases c4 : (2 : Int32) < a2
  · refine ⟨(-1), A, V, K, T, A, V, sg_L_days_0 ?_, sg_M_days_0 ?_, R⟩
    · (try simp only [lgl, lgg]); (repeat first | refine iteP (by first | assumption) ?_ | refine iteN (by first | assumption) ?_); (constructor <;> first | rfl | trivial)
    · (try simp only [lgl, lgg]); (repeat first | refine iteP (by first | assumption) ?_ | refine iteN (by first | assumption) ?_); (constructor <;> first | rfl | trivial)
  by_cases c5 : a3 < 0
  · refine ⟨(-1), A, V, K, T, A, V, sg_L_days_0 ?_, sg_M_days_0 ?_, R⟩
    · (try simp only [lgl, lgg]); (repeat first | refine iteP (by first | assumption) ?_ | refine iteN (by first | assumption) ?_); (constructor <;> first | rfl | trivial)
    · (try simp only [lgl, lgg]); (repeat first | refine iteP (by first | assumption) ?_ | refine iteN (by first | assumption) ?_); (constructor <;> first | rfl | trivial)
  by_cases c6 : (4 : Int32) < a3
  · refine ⟨(-1), A, V, K, T, A, V, sg_L_days_0 ?_, sg_M_days_0 ?_, R⟩
    · (try simp only [lgl, lgg]); (repeat first | refine iteP (by first | assumption) ?_ | refine iteN (by first | assumption) ?_); (constructor <;> first | rfl | trivial)
    · (try simp only [lgl, lgg]); (repeat first | refine iteP (by first | assumption) ?_ | refine iteN (by first | assumption) ?_); (constructor <;> first | rfl | trivial)
  obtain ⟨y, hy, rfl⟩ := i32_nat (m := 2) (by omega) c3 c4
  obtain ⟨w, hw, rfl⟩ := i32_nat (m := 4) (by omega) c5 c6
  obtain ⟨r1, r2, r3, -⟩ := R.1
  have e1 : nI y * 360 = nI (360 * y) := by rw [Nat.mul_comm]; exact nI_mul y 360
  have e2 : nI (360 * y) + 360 - 1 = nI (360 * y + 359) := by rw [show (360 : Int32) = nI 360 from rfl, nI_add, nI_m1 (by omega)]; rfl
  have e3 : 360 * y + 359 + 1 - 360 * y = 360 := by omega
  have hw5 : w = 0 ∨ w = 1 ∨ w = 2 ∨ w = 3 ∨ w = 4 := by omega
  rcases hw5 with rfl | rfl | rfl | rfl | rfl
  · refine ⟨nI (cn (fun d => A 4 d = a1) (360 * y) 360), A, V, K, T, A, V, sg_L_days_0 ?_, sg_M_days_0 ?_, R⟩
    · (try simp only [lgl, lgg]); (repeat first | refine iteP (by first | assumption) ?_ | refine iteN (by first | assumption) ?_)
      rw [e1, e2]
      try refine iteP (show nI 0 = 0 from rfl) ?_
      have h := P_countOf_3_c (L := L) (xs := xs) (A := A) (V := V) (K := K) (T := T) a1 (360 * y) (360 * y + 359) (by omega) (by omega)
      rw [e3] at h
      exact am_fin.call h (sg_L_days_75r ⟨rfl, rfl⟩)
    · (try simp only [lgl, lgg]); (repeat first | refine iteP (by first | assumption) ?_ | refine iteN (by first | assumption) ?_)
      try refine iteN (show ¬ (3 : Int32) ≤ nI 0 by decide) ?_
      exact am_fin.call (M_daysIn_c0 a1 y (by omega)) (sg_M_days_40r ⟨by rw [r1], (by first | rfl | trivial)⟩)
  · refine ⟨nI (cn (fun d => hbit (A 9 d) a1) (360 * y) 360), A, V, K, T, A, V, sg_L_days_0 ?_, sg_M_days_0 ?_, R⟩
    · (try simp only [lgl, lgg]); (repeat first | refine iteP (by first | assumption) ?_ | refine iteN (by first | assumption) ?_)
      rw [e1, e2]
      try refine iteN (show ¬ nI 1 = 0 by decide) (iteP (show nI 1 = 1 from rfl) ?_)
      have h := S_homeDays_c (L := L) (xs := xs) (A := A) (V := V) (K := K) (T := T) a1 (360 * y) (360 * y + 359) (by omega) (by omega)
      rw [e3] at h
      exact am_fin.call h (sg_L_days_92r ⟨rfl, rfl⟩)
    · (try simp only [lgl, lgg]); (repeat first | refine iteP (by first | assumption) ?_ | refine iteN (by first | assumption) ?_)
      try refine iteN (show ¬ (3 : Int32) ≤ nI 1 by decide) ?_
      exact am_fin.call (M_daysIn_c1 a1 y (by omega)) (sg_M_days_40r ⟨by rw [r2], (by first | rfl | trivial)⟩)
  · refine ⟨nI (cn (fun d => A 6 d = a1) (360 * y) 360), A, V, K, T, A, V, sg_L_days_0 ?_, sg_M_days_0 ?_, R⟩
    · (try simp only [lgl, lgg]); (repeat first | refine iteP (by first | assumption) ?_ | refine iteN (by first | assumption) ?_)
      rw [e1, e2]
      try refine iteN (show ¬ nI 2 = 0 by decide) (iteN (show ¬ nI 2 = 1 by decide) (iteP (show nI 2 = 2 from rfl) ?_))
      have h := P_countOf_5_c (L := L) (xs := xs) (A := A) (V := V) (K := K) (T := T) a1 (360 * y) (360 * y + 359) (by omega) (by omega)
      rw [e3] at h
      exact am_fin.call h (sg_L_days_112r ⟨rfl, rfl⟩)
    · (try simp only [lgl, lgg]); (repeat first | refine iteP (by first | assumption) ?_ | refine iteN (by first | assumption) ?_)
      try refine iteN (show ¬ (3 : Int32) ≤ nI 2 by decide) ?_
      exact am_fin.call (M_daysIn_c2 a1 y (by omega)) (sg_M_days_40r ⟨by rw [r3], (by first | rfl | trivial)⟩)
  · refine ⟨nI (cn (rbeg (A 4) a1 (360 * y)) (360 * y) 360), A, V, K, T, A, V, sg_L_days_0 ?_, sg_M_days_0 ?_, R⟩
    · (try simp only [lgl, lgg]); (repeat first | refine iteP (by first | assumption) ?_ | refine iteN (by first | assumption) ?_)
      rw [e1, e2]
      try refine iteN (show ¬ nI 3 = 0 by decide) (iteN (show ¬ nI 3 = 1 by decide) (iteN (show ¬ nI 3 = 2 by decide) (iteP (show nI 3 = 3 from rfl) ?_)))
      have h := P_rowsOf_3_c (L := L) (xs := xs) (A := A) (V := V) (K := K) (T := T) a1 (360 * y) (360 * y + 359) (by omega) (by omega)
      rw [e3] at h
      exact am_fin.call h (sg_L_days_132r ⟨rfl, rfl⟩)
    · (try simp only [lgl, lgg]); (repeat first | refine iteP (by first | assumption) ?_ | refine iteN (by first | assumption) ?_)
      try refine iteP (show (3 : Int32) ≤ nI 3 by decide) ?_
      have h := M_rows_c (L := L) (xs := xs) (A := A) (V := V) (K := K) (T := T) a1 (nI 3) y (by omega)
      rw [if_pos (show nI 3 = 3 from rfl), r1] at h
      exact am_fin.call h (sg_M_days_50r ⟨(by first | rfl | trivial), (by first | rfl | trivial)⟩)
  · refine ⟨nI (lgn (fun d => A 4 d = a1) (360 * y) 360), A, V, K, T, A, V, sg_L_days_0 ?_, sg_M_days_0 ?_, R⟩
    · (try simp only [lgl, lgg]); (repeat first | refine iteP (by first | assumption) ?_ | refine iteN (by first | assumption) ?_)
      rw [e1, e2]
      try refine iteN (show ¬ nI 4 = 0 by decide) (iteN (show ¬ nI 4 = 1 by decide) (iteN (show ¬ nI 4 = 2 by decide) (iteN (show ¬ nI 4 = 3 by decide) ?_)))
      have h := P_longestRow_3_c (L := L) (xs := xs) (A := A) (V := V) (K := K) (T := T) a1 (360 * y) (360 * y + 359) (by omega) (by omega)
      rw [e3] at h
      exact am_fin.call h (sg_L_days_152r ⟨rfl, rfl⟩)
    · (try simp only [lgl, lgg]); (repeat first | refine iteP (by first | assumption) ?_ | refine iteN (by first | assumption) ?_)
      try refine iteP (show (3 : Int32) ≤ nI 4 by decide) ?_
      have h := M_rows_c (L := L) (xs := xs) (A := A) (V := V) (K := K) (T := T) a1 (nI 4) y (by omega)
      rw [if_neg (show ¬ nI 4 = 3 by decide), r1] at h
      exact am_fin.call h (sg_M_days_50r ⟨(by first | rfl | trivial), (by first | rfl | trivial)⟩)
end
