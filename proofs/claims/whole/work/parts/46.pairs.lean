section
variable {L : Nat} {xs : Nat → Int32} {A V : Nat → Nat → Int32} {K : Nat → Option Nat} {T : am_H}
theorem pr_most (a1 a2 a3 : Int32) (R : RI A V K T) : PRQ z_L_most z_M_most [.ref 1, .int a1, .int a2, .int a3] [.ref 36, .int a1, .int a2, .int a3] L xs A V K T := by
  by_cases c1 : a1 < 0
  · refine ⟨(-1), A, V, K, T, A, V, sg_L_most_0 ?_, sg_M_most_0 ?_, R⟩
    · (try simp only [lgl, lgg]); (repeat first | refine iteP (by first | assumption) ?_ | refine iteN (by first | assumption) ?_); (constructor <;> first | rfl | trivial)
    · (try simp only [lgl, lgg]); (repeat first | refine iteP (by first | assumption) ?_ | refine iteN (by first | assumption) ?_); (constructor <;> first | rfl | trivial)
  by_cases c2 : (5 : Int32) < a1
  · refine ⟨(-1), A, V, K, T, A, V, sg_L_most_0 ?_, sg_M_most_0 ?_, R⟩
    · (try simp only [lgl, lgg]); (repeat first | refine iteP (by first | assumption) ?_ | refine iteN (by first | assumption) ?_); (constructor <;> first | rfl | trivial)
    · (try simp only [lgl, lgg]); (repeat first | refine iteP (by first | assumption) ?_ | refine iteN (by first | assumption) ?_); (constructor <;> first | rfl | trivial)
  by_cases c3 : a2 < 0
  · refine ⟨(-1), A, V, K, T, A, V, sg_L_most_0 ?_, sg_M_most_0 ?_, R⟩
    · (try simp only [lgl, lgg]); (repeat first | refine iteP (by first | assumption) ?_ | refine iteN (by first | assumption) ?_); (constructor <;> first | rfl | trivial)
    · (try simp only [lgl, lgg]); (repeat first | refine iteP (by first | assumption) ?_ | refine iteN (by first | assumption) ?_); (constructor <;> first | rfl | trivial)
  by_cases c4 : (2 : Int32) < a2
  · refine ⟨(-1), A, V, K, T, A, V, sg_L_most_0 ?_, sg_M_most_0 ?_, R⟩
    · (try simp only [lgl, lgg]); (repeat first | refine iteP (by first | assumption) ?_ | refine iteN (by first | assumption) ?_); (constructor <;> first | rfl | trivial)
    · (try simp only [lgl, lgg]); (repeat first | refine iteP (by first | assumption) ?_ | refine iteN (by first | assumption) ?_); (constructor <;> first | rfl | trivial)
  by_cases c5 : a3 < 0
  · refine ⟨(-1), A, V, K, T, A, V, sg_L_most_0 ?_, sg_M_most_0 ?_, R⟩
    · (try simp only [lgl, lgg]); (repeat first | refine iteP (by first | assumption) ?_ | refine iteN (by first | assumption) ?_); (constructor <;> first | rfl | trivial)
    · (try simp only [lgl, lgg]); (repeat first | refine iteP (by first | assumption) ?_ | refine iteN (by first | assumption) ?_); (constructor <;> first | rfl | trivial)
  by_cases c6 : (2 : Int32) < a3
  · refine ⟨(-1), A, V, K, T, A, V, sg_L_most_0 ?_, sg_M_most_0 ?_, R⟩
    · (try simp only [lgl, lgg]); (repeat first | refine iteP (by first | assumption) ?_ | refine iteN (by first | assumption) ?_); (constructor <;> first | rfl | trivial)
    · (try simp only [lgl, lgg]); (repeat first | refine iteP (by first | assumption) ?_ | refine iteN (by first | assumption) ?_); (constructor <;> first | rfl | trivial)
  obtain ⟨l, hl, rfl⟩ := i32_nat (m := 5) (by omega) c1 c2
  obtain ⟨s, hs, rfl⟩ := i32_nat (m := 2) (by omega) c3 c4
  obtain ⟨y, hy, rfl⟩ := i32_nat (m := 2) (by omega) c5 c6
  obtain ⟨gc, gh, gd, gm, j1, j2, j3, m1, m2, m3, RR⟩ := weighed (L := L) (xs := xs) R
  refine ⟨nI (grt (nD (A 4)) (nH (A 9)) l s y), upA (upA (upA A 29 gc) 28 gh) 27 gd, V, K, T, upA (upA (upA (upA A 29 gc) 28 gh) 27 gd) 47 gm, V, sg_L_most_0 ?_, sg_M_most_0 ?_, RR⟩
  · (try simp only [lgl, lgg]); (repeat first | refine iteP (by first | assumption) ?_ | refine iteN (by first | assumption) ?_)
    exact am_fin.call j3 (sg_L_most_37r (am_fin.call (J_greatest_c j1 l s y (by omega) (by omega) (by omega)) (sg_L_most_47r ⟨(by first | rfl | trivial), (by first | rfl | trivial)⟩)))
  · (try simp only [lgl, lgg]); (repeat first | refine iteP (by first | assumption) ?_ | refine iteN (by first | assumption) ?_)
    exact am_fin.call m3 (sg_M_most_32r (am_fin.call (M_mostBy_c m1 l s y (by omega) (by omega) (by omega)) (sg_M_most_39r ⟨(by first | rfl | trivial), (by first | rfl | trivial)⟩)))
theorem pr_claims (a1 : Int32) (R : RI A V K T) : PRQ z_L_claims z_M_claims [.ref 1, .int a1] [.ref 36, .int a1] L xs A V K T := by
  by_cases c1 : a1 < 0
  · refine ⟨(-1), A, V, K, T, A, V, sg_L_claims_0 ?_, sg_M_claims_0 ?_, R⟩
    · (try simp only [lgl, lgg]); (repeat first | refine iteP (by first | assumption) ?_ | refine iteN (by first | assumption) ?_); (constructor <;> first | rfl | trivial)
    · (try simp only [lgl, lgg]); (repeat first | refine iteP (by first | assumption) ?_ | refine iteN (by first | assumption) ?_); (constructor <;> first | rfl | trivial)
  by_cases c2 : (2 : Int32) < a1
  · refine ⟨(-1), A, V, K, T, A, V, sg_L_claims_0 ?_, sg_M_claims_0 ?_, R⟩
    · (try simp only [lgl, lgg]); (repeat first | refine iteP (by first | assumption) ?_ | refine iteN (by first | assumption) ?_); (constructor <;> first | rfl | trivial)
    · (try simp only [lgl, lgg]); (repeat first | refine iteP (by first | assumption) ?_ | refine iteN (by first | assumption) ?_); (constructor <;> first | rfl | trivial)
  obtain ⟨y, hy, rfl⟩ := i32_nat (m := 2) (by omega) c1 c2
  obtain ⟨gc, gh, gd, gm, j1, j2, j3, m1, m2, m3, RR⟩ := weighed (L := L) (xs := xs) R
  refine ⟨nI (bs (clm (nD (A 4)) (nH (A 9)) (ruA A) y) 6), upA (upA (upA A 29 gc) 28 gh) 27 gd, V, K, T, upA (upA (upA (upA A 29 gc) 28 gh) 27 gd) 47 gm, V, sg_L_claims_0 ?_, sg_M_claims_0 ?_, RR⟩
  · (try simp only [lgl, lgg]); (repeat first | refine iteP (by first | assumption) ?_ | refine iteN (by first | assumption) ?_)
    exact am_fin.call j3 (sg_L_claims_23r (am_fin.call (J_claimBits_c j1 j2 y (by omega)) (sg_L_claims_31r ⟨(by first | rfl | trivial), (by first | rfl | trivial)⟩)))
  · (try simp only [lgl, lgg]); (repeat first | refine iteP (by first | assumption) ?_ | refine iteN (by first | assumption) ?_)
    exact am_fin.call m3 (sg_M_claims_13r (am_fin.call (M_claiming_c m1 m2 y (by omega)) (sg_M_claims_18r ⟨(by first | rfl | trivial), (by first | rfl | trivial)⟩)))
theorem pr_holds (a1 a2 : Int32) (R : RI A V K T) : PRQ z_L_holds z_M_holds [.ref 1, .int a1, .int a2] [.ref 36, .int a1, .int a2] L xs A V K T := by
  by_cases c1 : a1 < 0
  · refine ⟨(-1), A, V, K, T, A, V, sg_L_holds_0 ?_, sg_M_holds_0 ?_, R⟩
    · (try simp only [lgl, lgg]); (repeat first | refine iteP (by first | assumption) ?_ | refine iteN (by first | assumption) ?_); (constructor <;> first | rfl | trivial)
    · (try simp only [lgl, lgg]); (repeat first | refine iteP (by first | assumption) ?_ | refine iteN (by first | assumption) ?_); (constructor <;> first | rfl | trivial)
  by_cases c2 : (5 : Int32) < a1
  · refine ⟨(-1), A, V, K, T, A, V, sg_L_holds_0 ?_, sg_M_holds_0 ?_, R⟩
    · (try simp only [lgl, lgg]); (repeat first | refine iteP (by first | assumption) ?_ | refine iteN (by first | assumption) ?_); (constructor <;> first | rfl | trivial)
    · (try simp only [lgl, lgg]); (repeat first | refine iteP (by first | assumption) ?_ | refine iteN (by first | assumption) ?_); (constructor <;> first | rfl | trivial)
  by_cases c3 : a2 < 0
  · refine ⟨(-1), A, V, K, T, A, V, sg_L_holds_0 ?_, sg_M_holds_0 ?_, R⟩
    · (try simp only [lgl, lgg]); (repeat first | refine iteP (by first | assumption) ?_ | refine iteN (by first | assumption) ?_); (constructor <;> first | rfl | trivial)
    · (try simp only [lgl, lgg]); (repeat first | refine iteP (by first | assumption) ?_ | refine iteN (by first | assumption) ?_); (constructor <;> first | rfl | trivial)
  by_cases c4 : (2 : Int32) < a2
  · refine ⟨(-1), A, V, K, T, A, V, sg_L_holds_0 ?_, sg_M_holds_0 ?_, R⟩
    · (try simp only [lgl, lgg]); (repeat first | refine iteP (by first | assumption) ?_ | refine iteN (by first | assumption) ?_); (constructor <;> first | rfl | trivial)
    · (try simp only [lgl, lgg]); (repeat first | refine iteP (by first | assumption) ?_ | refine iteN (by first | assumption) ?_); (constructor <;> first | rfl | trivial)
  obtain ⟨l, hl, rfl⟩ := i32_nat (m := 5) (by omega) c1 c2
  obtain ⟨y, hy, rfl⟩ := i32_nat (m := 2) (by omega) c3 c4
  obtain ⟨gc, gh, gd, gm, j1, j2, j3, m1, m2, m3, RR⟩ := weighed (L := L) (xs := xs) R
  refine ⟨nI (bs (hq (nD (A 4)) (nH (A 9)) (ruA A) l y) 3), upA (upA (upA A 29 gc) 28 gh) 27 gd, V, K, T, upA (upA (upA (upA A 29 gc) 28 gh) 27 gd) 47 gm, V, sg_L_holds_0 ?_, sg_M_holds_0 ?_, RR⟩
  · (try simp only [lgl, lgg]); (repeat first | refine iteP (by first | assumption) ?_ | refine iteN (by first | assumption) ?_)
    exact am_fin.call j3 (sg_L_holds_30r (am_fin.call (J_holdingBits_c j1 j2 l y (by omega) (by omega)) (sg_L_holds_39r ⟨(by first | rfl | trivial), (by first | rfl | trivial)⟩)))
  · (try simp only [lgl, lgg]); (repeat first | refine iteP (by first | assumption) ?_ | refine iteN (by first | assumption) ?_)
    exact am_fin.call m3 (sg_M_holds_20r (am_fin.call (M_holding_c m1 m2 l y (by omega) (by omega)) (sg_M_holds_26r ⟨(by first | rfl | trivial), (by first | rfl | trivial)⟩)))
theorem pr_answers (a1 a2 a3 : Int32) (R : RI A V K T) : PRQ z_L_answers z_M_answers [.ref 1, .int a1, .int a2, .int a3] [.ref 36, .int a1, .int a2, .int a3] L xs A V K T := by
  by_cases c1 : a1 < 0
  · refine ⟨(-1), A, V, K, T, A, V, sg_L_answers_0 ?_, sg_M_answers_0 ?_, R⟩
    · (try simp only [lgl, lgg]); (repeat first | refine iteP (by first | assumption) ?_ | refine iteN (by first | assumption) ?_); (constructor <;> first | rfl | trivial)
    · (try simp only [lgl, lgg]); (repeat first | refine iteP (by first | assumption) ?_ | refine iteN (by first | assumption) ?_); (constructor <;> first | rfl | trivial)
  by_cases c2 : (5 : Int32) < a1
  · refine ⟨(-1), A, V, K, T, A, V, sg_L_answers_0 ?_, sg_M_answers_0 ?_, R⟩
    · (try simp only [lgl, lgg]); (repeat first | refine iteP (by first | assumption) ?_ | refine iteN (by first | assumption) ?_); (constructor <;> first | rfl | trivial)
    · (try simp only [lgl, lgg]); (repeat first | refine iteP (by first | assumption) ?_ | refine iteN (by first | assumption) ?_); (constructor <;> first | rfl | trivial)
  by_cases c3 : a2 < 0
  · refine ⟨(-1), A, V, K, T, A, V, sg_L_answers_0 ?_, sg_M_answers_0 ?_, R⟩
    · (try simp only [lgl, lgg]); (repeat first | refine iteP (by first | assumption) ?_ | refine iteN (by first | assumption) ?_); (constructor <;> first | rfl | trivial)
    · (try simp only [lgl, lgg]); (repeat first | refine iteP (by first | assumption) ?_ | refine iteN (by first | assumption) ?_); (constructor <;> first | rfl | trivial)
  by_cases c4 : (5 : Int32) < a2
  · refine ⟨(-1), A, V, K, T, A, V, sg_L_answers_0 ?_, sg_M_answers_0 ?_, R⟩
    · (try simp only [lgl, lgg]); (repeat first | refine iteP (by first | assumption) ?_ | refine iteN (by first | assumption) ?_); (constructor <;> first | rfl | trivial)
    · (try simp only [lgl, lgg]); (repeat first | refine iteP (by first | assumption) ?_ | refine iteN (by first | assumption) ?_); (constructor <;> first | rfl | trivial)
  by_cases c5 : a1 = a2
  · refine ⟨(-1), A, V, K, T, A, V, sg_L_answers_0 ?_, sg_M_answers_0 ?_, R⟩
    · (try simp only [lgl, lgg]); (repeat first | refine iteP (by first | assumption) ?_ | refine iteN (by first | assumption) ?_); (constructor <;> first | rfl | trivial)
    · (try simp only [lgl, lgg]); (repeat first | refine iteP (by first | assumption) ?_ | refine iteN (by first | assumption) ?_); (constructor <;> first | rfl | trivial)
  by_cases c6 : a3 < 0
  · refine ⟨(-1), A, V, K, T, A, V, sg_L_answers_0 ?_, sg_M_answers_0 ?_, R⟩
    · (try simp only [lgl, lgg]); (repeat first | refine iteP (by first | assumption) ?_ | refine iteN (by first | assumption) ?_); (constructor <;> first | rfl | trivial)
    · (try simp only [lgl, lgg]); (repeat first | refine iteP (by first | assumption) ?_ | refine iteN (by first | assumption) ?_); (constructor <;> first | rfl | trivial)
  by_cases c7 : (2 : Int32) < a3
  · refine ⟨(-1), A, V, K, T, A, V, sg_L_answers_0 ?_, sg_M_answers_0 ?_, R⟩
    · (try simp only [lgl, lgg]); (repeat first | refine iteP (by first | assumption) ?_ | refine iteN (by first | assumption) ?_); (constructor <;> first | rfl | trivial)
    · (try simp only [lgl, lgg]); (repeat first | refine iteP (by first | assumption) ?_ | refine iteN (by first | assumption) ?_); (constructor <;> first | rfl | trivial)
  obtain ⟨a, ha, rfl⟩ := i32_nat (m := 5) (by omega) c1 c2
  obtain ⟨b, hb, rfl⟩ := i32_nat (m := 5) (by omega) c3 c4
  obtain ⟨y, hy, rfl⟩ := i32_nat (m := 2) (by omega) c6 c7
  have hab : a ≠ b := fun z => c5 (by rw [z])
  obtain ⟨gc, gh, gd, gm, j1, j2, j3, m1, m2, m3, RR⟩ := weighed (L := L) (xs := xs) R
  refine ⟨ans (nD (A 4)) (nH (A 9)) (nD (A 6)) (naV V) (rnA A) (rlA A) y a b, upA (upA (upA A 29 gc) 28 gh) 27 gd, V, K, T, upA (upA (upA (upA A 29 gc) 28 gh) 27 gd) 47 gm, V, sg_L_answers_0 ?_, sg_M_answers_0 ?_, RR⟩
  · (try simp only [lgl, lgg]); (repeat first | refine iteP (by first | assumption) ?_ | refine iteN (by first | assumption) ?_)
    exact am_fin.call j3 (sg_L_answers_31r (am_fin.call (J_answerOf_c j1 j2 a b y (by omega) (by omega) hab (by omega)) (sg_L_answers_41r ⟨(by first | rfl | trivial), (by first | rfl | trivial)⟩)))
  · (try simp only [lgl, lgg]); (repeat first | refine iteP (by first | assumption) ?_ | refine iteN (by first | assumption) ?_)
    exact am_fin.call m3 (sg_M_answers_21r (am_fin.call (M_answer_c m1 m2 a b y (by omega) (by omega) hab (by omega)) (sg_M_answers_28r ⟨(by first | rfl | trivial), (by first | rfl | trivial)⟩)))
theorem pr_lives (a1 : Int32) (R : RI A V K T) : PRQ z_L_lives z_M_lives [.ref 1, .int a1] [.ref 36, .int a1] L xs A V K T := by
  by_cases c1 : a1 < 0
  · refine ⟨(-1), A, V, K, T, A, V, sg_L_lives_0 ?_, sg_M_lives_0 ?_, R⟩
    · (try simp only [lgl, lgg]); (repeat first | refine iteP (by first | assumption) ?_ | refine iteN (by first | assumption) ?_); (constructor <;> first | rfl | trivial)
    · (try simp only [lgl, lgg]); (repeat first | refine iteP (by first | assumption) ?_ | refine iteN (by first | assumption) ?_); (constructor <;> first | rfl | trivial)
  by_cases c2 : (2 : Int32) < a1
  · refine ⟨(-1), A, V, K, T, A, V, sg_L_lives_0 ?_, sg_M_lives_0 ?_, R⟩
    · (try simp only [lgl, lgg]); (repeat first | refine iteP (by first | assumption) ?_ | refine iteN (by first | assumption) ?_); (constructor <;> first | rfl | trivial)
    · (try simp only [lgl, lgg]); (repeat first | refine iteP (by first | assumption) ?_ | refine iteN (by first | assumption) ?_); (constructor <;> first | rfl | trivial)
  obtain ⟨y, hy, rfl⟩ := i32_nat (m := 2) (by omega) c1 c2
  obtain ⟨gc, gh, gd, gm, j1, j2, j3, m1, m2, m3, RR⟩ := weighed (L := L) (xs := xs) R
  refine ⟨onat (-2) (lives (nD (A 4)) (nH (A 9)) (nD (A 6)) (ruA A) (naV V) (rnA A) (rlA A) y), upA (upA (upA A 29 gc) 28 gh) 27 gd, V, K, T, upA (upA (upA (upA A 29 gc) 28 gh) 27 gd) 47 gm, V, sg_L_lives_0 ?_, sg_M_lives_0 ?_, RR⟩
  · (try simp only [lgl, lgg]); (repeat first | refine iteP (by first | assumption) ?_ | refine iteN (by first | assumption) ?_)
    exact am_fin.call j3 (sg_L_lives_23r (am_fin.call (J_livesIn_c j1 j2 y (by omega)) (sg_L_lives_31r ⟨(by first | rfl | trivial), (by first | rfl | trivial)⟩)))
  · (try simp only [lgl, lgg]); (repeat first | refine iteP (by first | assumption) ?_ | refine iteN (by first | assumption) ?_)
    exact am_fin.call m3 (sg_M_lives_13r (am_fin.call (M_livesNow_c m1 m2 y (by omega)) (sg_M_lives_18r ⟨(by first | rfl | trivial), (by first | rfl | trivial)⟩)))
theorem pr_by (a1 a2 a3 : Int32) (R : RI A V K T) : PRQ z_L_by z_M_by [.ref 1, .int a1, .int a2, .int a3] [.ref 36, .int a1, .int a2, .int a3, .null] L xs A V K T := by
  by_cases c1 : a1 < 0
  · refine ⟨(-1), A, V, K, T, A, V, sg_L_by_0 ?_, sg_M_by_0 ?_, R⟩
    · (try simp only [lgl, lgg]); (repeat first | refine iteP (by first | assumption) ?_ | refine iteN (by first | assumption) ?_); (constructor <;> first | rfl | trivial)
    · (try simp only [lgl, lgg]); (repeat first | refine iteP (by first | assumption) ?_ | refine iteN (by first | assumption) ?_); (constructor <;> first | rfl | trivial)
  by_cases c2 : (5 : Int32) < a1
  · refine ⟨(-1), A, V, K, T, A, V, sg_L_by_0 ?_, sg_M_by_0 ?_, R⟩
    · (try simp only [lgl, lgg]); (repeat first | refine iteP (by first | assumption) ?_ | refine iteN (by first | assumption) ?_); (constructor <;> first | rfl | trivial)
    · (try simp only [lgl, lgg]); (repeat first | refine iteP (by first | assumption) ?_ | refine iteN (by first | assumption) ?_); (constructor <;> first | rfl | trivial)
  by_cases c3 : a2 < 0
  · refine ⟨(-1), A, V, K, T, A, V, sg_L_by_0 ?_, sg_M_by_0 ?_, R⟩
    · (try simp only [lgl, lgg]); (repeat first | refine iteP (by first | assumption) ?_ | refine iteN (by first | assumption) ?_); (constructor <;> first | rfl | trivial)
    · (try simp only [lgl, lgg]); (repeat first | refine iteP (by first | assumption) ?_ | refine iteN (by first | assumption) ?_); (constructor <;> first | rfl | trivial)
  by_cases c4 : (5 : Int32) < a2
  · refine ⟨(-1), A, V, K, T, A, V, sg_L_by_0 ?_, sg_M_by_0 ?_, R⟩
    · (try simp only [lgl, lgg]); (repeat first | refine iteP (by first | assumption) ?_ | refine iteN (by first | assumption) ?_); (constructor <;> first | rfl | trivial)
    · (try simp only [lgl, lgg]); (repeat first | refine iteP (by first | assumption) ?_ | refine iteN (by first | assumption) ?_); (constructor <;> first | rfl | trivial)
  by_cases c5 : a1 = a2
  · refine ⟨(-1), A, V, K, T, A, V, sg_L_by_0 ?_, sg_M_by_0 ?_, R⟩
    · (try simp only [lgl, lgg]); (repeat first | refine iteP (by first | assumption) ?_ | refine iteN (by first | assumption) ?_); (constructor <;> first | rfl | trivial)
    · (try simp only [lgl, lgg]); (repeat first | refine iteP (by first | assumption) ?_ | refine iteN (by first | assumption) ?_); (constructor <;> first | rfl | trivial)
  by_cases c6 : a3 < 0
  · refine ⟨(-1), A, V, K, T, A, V, sg_L_by_0 ?_, sg_M_by_0 ?_, R⟩
    · (try simp only [lgl, lgg]); (repeat first | refine iteP (by first | assumption) ?_ | refine iteN (by first | assumption) ?_); (constructor <;> first | rfl | trivial)
    · (try simp only [lgl, lgg]); (repeat first | refine iteP (by first | assumption) ?_ | refine iteN (by first | assumption) ?_); (constructor <;> first | rfl | trivial)
  by_cases c7 : (2 : Int32) < a3
  · refine ⟨(-1), A, V, K, T, A, V, sg_L_by_0 ?_, sg_M_by_0 ?_, R⟩
    · (try simp only [lgl, lgg]); (repeat first | refine iteP (by first | assumption) ?_ | refine iteN (by first | assumption) ?_); (constructor <;> first | rfl | trivial)
    · (try simp only [lgl, lgg]); (repeat first | refine iteP (by first | assumption) ?_ | refine iteN (by first | assumption) ?_); (constructor <;> first | rfl | trivial)
  obtain ⟨a, ha, rfl⟩ := i32_nat (m := 5) (by omega) c1 c2
  obtain ⟨b, hb, rfl⟩ := i32_nat (m := 5) (by omega) c3 c4
  obtain ⟨y, hy, rfl⟩ := i32_nat (m := 2) (by omega) c6 c7
  have hab : a ≠ b := fun z => c5 (by rw [z])
  obtain ⟨gc, gh, gd, gm, j1, j2, j3, m1, m2, m3, RR⟩ := weighed (L := L) (xs := xs) R
  refine ⟨onat (-2) (tp (nD (A 4)) (nH (A 9)) (nD (A 6)) (naV V) (rnA A) (rlA A) y a b), upA (upA (upA A 29 gc) 28 gh) 27 gd, V, K, T, upA (upA (upA (upA A 29 gc) 28 gh) 27 gd) 47 gm, V, sg_L_by_0 ?_, sg_M_by_0 ?_, RR⟩
  · (try simp only [lgl, lgg]); (repeat first | refine iteP (by first | assumption) ?_ | refine iteN (by first | assumption) ?_)
    exact am_fin.call j3 (sg_L_by_31r (am_fin.call (J_tellingPlace_c j1 j2 a b y (by omega) (by omega) hab (by omega)) (sg_L_by_41r ⟨(by first | rfl | trivial), (by first | rfl | trivial)⟩)))
  · (try simp only [lgl, lgg]); (repeat first | refine iteP (by first | assumption) ?_ | refine iteN (by first | assumption) ?_)
    refine am_fin.call m3 (sg_M_by_21r (am_fin.call (M_letterBy_c m1 m2 a b y (by omega) (by omega) hab (by omega)) (sg_M_by_28r ?_)))
    have rb := (m2.2.2 a b (by omega) (by omega) hab).1
    cases ht : tp (nD (A 4)) (nH (A 9)) (nD (A 6)) (naV V) (rnA A) (rlA A) y a b with
    | none => exact iteP rfl ⟨rfl, rfl⟩
    | some k =>
      obtain ⟨-, k1, -⟩ := srch_in _ _ _ _ ht
      exact iteN (nI_neg1 (a := k) (by omega)) ⟨rfl, rfl⟩
end
section
variable {L : Nat} {xs : Nat → Int32} {A V : Nat → Nat → Int32} {K : Nat → Option Nat} {T : am_H} {D H C ru : Nat → Nat → Nat} {na : Nat → Nat} {rn : Nat → Nat → Nat} {rl : Nat → Nat → Nat → Nat}
theorem M_wins_lp (J : JMd A D H C) (R : JMr A ru na rn rl) (a y : Nat) (ha : a < 6) (hy : y < 3) : am_fin [(z_M_wins, 43, [.ref 36, .int (nI a), .int (nI y), .int (nI (bs (clm D H ru y) 6)), .int 0, .int 0, .null], [])] (hp L xs A V K T) (some (nI (cn (btn D H C ru na rn rl y a) 0 6))) (hp L xs A V K T) := by
  refine am_iterU (U := Option Int32) (fun k u => ([(z_M_wins, 43, [.ref 36, .int (nI a), .int (nI y), .int (nI (bs (clm D H ru y) 6)), .int (nI (cn (btn D H C ru na rn rl y a) 0 k)), .int (nI k), dl u], [])], hp L xs A V K T)) 6 (fun k u hk ih => ?_) (fun u => ?_) none
  · dsimp only at ih ⊢
    cases u
    case none =>
      refine sg_M_wins_43 (iteN (by rw [l_6, nI_leI (by omega) (by omega)]; omega) ?_)
      by_cases e : k = a
      · refine iteP (by rw [e]) ?_
        rw [Int32.add_zero, cn_f (p := btn D H C ru na rn rl y a) (by rw [Nat.zero_add]; exact fun z => z.1.1 e), nI_1]
        exact ih (some 0)
      refine iteN (mt (nI_eq (by omega) (by omega)).mp e) ?_
      by_cases c : clm D H ru y k
      · refine iteP ((bs_hbit hk).mpr c) (am_fin.call (M_answer_c J R a k y ha hk (Ne.symm e) hy) (sg_M_wins_88r ?_))
        rw [Int32.add_zero]
        by_cases z1 : ans D H C na rn rl y a k = nI a
        · refine iteP z1 (am_fin.call (M_answer_c J R k a y hk ha e hy) (sg_M_wins_100r ?_))
          rw [Int32.add_zero]
          by_cases z2 : ans D H C na rn rl y k a = nI a
          · refine iteP z2 ?_
            rw [cn_t (p := btn D H C ru na rn rl y a) (by rw [Nat.zero_add]; exact ⟨⟨e, c⟩, z1, z2⟩), nI_1]
            exact ih (some 1)
          · refine iteN z2 ?_
            rw [cn_f (p := btn D H C ru na rn rl y a) (by rw [Nat.zero_add]; exact fun z => z2 z.2.2), nI_1]
            exact ih (some 1)
        · refine iteN z1 ?_
          rw [cn_f (p := btn D H C ru na rn rl y a) (by rw [Nat.zero_add]; exact fun z => z1 z.2.1), nI_1]
          exact ih (some 1)
      · refine iteN (mt (bs_hbit hk).mp c) ?_
        rw [Int32.add_zero, cn_f (p := btn D H C ru na rn rl y a) (by rw [Nat.zero_add]; exact fun z => c z.1.2), nI_1]
        exact ih (some 0)

    case some w =>
      refine sg_M_wins_43b (iteN (by rw [l_6, nI_leI (by omega) (by omega)]; omega) ?_)
      by_cases e : k = a
      · refine iteP (by rw [e]) ?_
        rw [Int32.add_zero, cn_f (p := btn D H C ru na rn rl y a) (by rw [Nat.zero_add]; exact fun z => z.1.1 e), nI_1]
        exact ih (some 0)
      refine iteN (mt (nI_eq (by omega) (by omega)).mp e) ?_
      by_cases c : clm D H ru y k
      · refine iteP ((bs_hbit hk).mpr c) (am_fin.call (M_answer_c J R a k y ha hk (Ne.symm e) hy) (sg_M_wins_88r ?_))
        rw [Int32.add_zero]
        by_cases z1 : ans D H C na rn rl y a k = nI a
        · refine iteP z1 (am_fin.call (M_answer_c J R k a y hk ha e hy) (sg_M_wins_100r ?_))
          rw [Int32.add_zero]
          by_cases z2 : ans D H C na rn rl y k a = nI a
          · refine iteP z2 ?_
            rw [cn_t (p := btn D H C ru na rn rl y a) (by rw [Nat.zero_add]; exact ⟨⟨e, c⟩, z1, z2⟩), nI_1]
            exact ih (some 1)
          · refine iteN z2 ?_
            rw [cn_f (p := btn D H C ru na rn rl y a) (by rw [Nat.zero_add]; exact fun z => z2 z.2.2), nI_1]
            exact ih (some 1)
        · refine iteN z1 ?_
          rw [cn_f (p := btn D H C ru na rn rl y a) (by rw [Nat.zero_add]; exact fun z => z1 z.2.1), nI_1]
          exact ih (some 1)
      · refine iteN (mt (bs_hbit hk).mp c) ?_
        rw [Int32.add_zero, cn_f (p := btn D H C ru na rn rl y a) (by rw [Nat.zero_add]; exact fun z => c z.1.2), nI_1]
        exact ih (some 0)

  · dsimp only
    cases u
    · exact sg_M_wins_43 (iteP (by decide) ⟨rfl, rfl⟩)
    · exact sg_M_wins_43b (iteP (by decide) ⟨rfl, rfl⟩)
end
section
variable {L : Nat} {xs : Nat → Int32} {A V : Nat → Nat → Int32} {K : Nat → Option Nat} {T : am_H}
theorem pr_wins (a1 a2 : Int32) (R : RI A V K T) : PRQ z_L_wins z_M_wins [.ref 1, .int a1, .int a2, .null] [.ref 36, .int a1, .int a2, .null, .null, .null, .null] L xs A V K T := by
  by_cases c1 : a1 < 0
  · refine ⟨(-1), A, V, K, T, A, V, sg_L_wins_0 ?_, sg_M_wins_0 ?_, R⟩
    · (try simp only [lgl, lgg]); (repeat first | refine iteP (by first | assumption) ?_ | refine iteN (by first | assumption) ?_); (constructor <;> first | rfl | trivial)
    · (try simp only [lgl, lgg]); (repeat first | refine iteP (by first | assumption) ?_ | refine iteN (by first | assumption) ?_); (constructor <;> first | rfl | trivial)
  by_cases c2 : (5 : Int32) < a1
  · refine ⟨(-1), A, V, K, T, A, V, sg_L_wins_0 ?_, sg_M_wins_0 ?_, R⟩
    · (try simp only [lgl, lgg]); (repeat first | refine iteP (by first | assumption) ?_ | refine iteN (by first | assumption) ?_); (constructor <;> first | rfl | trivial)
    · (try simp only [lgl, lgg]); (repeat first | refine iteP (by first | assumption) ?_ | refine iteN (by first | assumption) ?_); (constructor <;> first | rfl | trivial)
  by_cases c3 : a2 < 0
  · refine ⟨(-1), A, V, K, T, A, V, sg_L_wins_0 ?_, sg_M_wins_0 ?_, R⟩
    · (try simp only [lgl, lgg]); (repeat first | refine iteP (by first | assumption) ?_ | refine iteN (by first | assumption) ?_); (constructor <;> first | rfl | trivial)
    · (try simp only [lgl, lgg]); (repeat first | refine iteP (by first | assumption) ?_ | refine iteN (by first | assumption) ?_); (constructor <;> first | rfl | trivial)
  by_cases c4 : (2 : Int32) < a2
  · refine ⟨(-1), A, V, K, T, A, V, sg_L_wins_0 ?_, sg_M_wins_0 ?_, R⟩
    · (try simp only [lgl, lgg]); (repeat first | refine iteP (by first | assumption) ?_ | refine iteN (by first | assumption) ?_); (constructor <;> first | rfl | trivial)
    · (try simp only [lgl, lgg]); (repeat first | refine iteP (by first | assumption) ?_ | refine iteN (by first | assumption) ?_); (constructor <;> first | rfl | trivial)
  obtain ⟨a, ha, rfl⟩ := i32_nat (m := 5) (by omega) c1 c2
  obtain ⟨y, hy, rfl⟩ := i32_nat (m := 2) (by omega) c3 c4
  obtain ⟨gc, gh, gd, gm, j1, j2, j3, m1, m2, m3, RR⟩ := weighed (L := L) (xs := xs) R
  by_cases q : clm (nD (A 4)) (nH (A 9)) (ruA A) y a
  · refine ⟨nI (cn (btn (nD (A 4)) (nH (A 9)) (nD (A 6)) (ruA A) (naV V) (rnA A) (rlA A) y a) 0 6), upA (upA (upA A 29 gc) 28 gh) 27 gd, V, K, T, upA (upA (upA (upA A 29 gc) 28 gh) 27 gd) 47 gm, V, sg_L_wins_0 ?_, sg_M_wins_0 ?_, RR⟩
    · (try simp only [lgl, lgg]); (repeat first | refine iteP (by first | assumption) ?_ | refine iteN (by first | assumption) ?_)
      exact am_fin.call j3 (sg_L_wins_30r (am_fin.call (J_claimBits_c j1 j2 y (by omega)) (sg_L_wins_38r (iteP ((bs_hbit (by omega)).mpr q) (am_fin.call (J_beaten_c j1 j2 a y (by omega) (by omega)) (sg_L_wins_60r ⟨(by first | rfl | trivial), (by first | rfl | trivial)⟩))))))
    · (try simp only [lgl, lgg]); (repeat first | refine iteP (by first | assumption) ?_ | refine iteN (by first | assumption) ?_)
      exact am_fin.call m3 (sg_M_wins_20r (am_fin.call (M_claiming_c m1 m2 y (by omega)) (sg_M_wins_25r (iteN (mt (bs_hbitz (by omega)).mp (fun z => z q)) (M_wins_lp m1 m2 a y (by omega) (by omega))))))
  · refine ⟨(-2), upA (upA (upA A 29 gc) 28 gh) 27 gd, V, K, T, upA (upA (upA (upA A 29 gc) 28 gh) 27 gd) 47 gm, V, sg_L_wins_0 ?_, sg_M_wins_0 ?_, RR⟩
    · (try simp only [lgl, lgg]); (repeat first | refine iteP (by first | assumption) ?_ | refine iteN (by first | assumption) ?_)
      exact am_fin.call j3 (sg_L_wins_30r (am_fin.call (J_claimBits_c j1 j2 y (by omega)) (sg_L_wins_38r (iteN (mt (bs_hbit (by omega)).mp q) ⟨(by first | rfl | trivial), (by first | rfl | trivial)⟩))))
    · (try simp only [lgl, lgg]); (repeat first | refine iteP (by first | assumption) ?_ | refine iteN (by first | assumption) ?_)
      exact am_fin.call m3 (sg_M_wins_20r (am_fin.call (M_claiming_c m1 m2 y (by omega)) (sg_M_wins_25r (iteP ((bs_hbitz (by omega)).mpr q) ⟨(by first | rfl | trivial), (by first | rfl | trivial)⟩))))
end
