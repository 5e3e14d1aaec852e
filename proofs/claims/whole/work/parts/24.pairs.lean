theorem g1080 {d : Nat} (h : d = 1080) : (1080 : Int32) ≤ nI d := by subst h; exact Int32.le_refl _
theorem l1080 {d : Nat} (h : d < 1080) : ¬ (1080 : Int32) ≤ nI d := mt (nI_leI (a := 1080) (b := d) (by omega) (by omega)).mp (by omega)
section
variable {L : Nat} {xs : Nat → Int32} {A V : Nat → Nat → Int32} {K : Nat → Option Nat} {T : am_H}
theorem away_lp (x w : Int32) (r1 : A 37 = A 4) : ∀ (r d : Nat) (lo fi ro : Int32), d + r = 1080 → ∃ v, am_fin [(z_L_away, 30, [.ref 1, .int x, .int w, .int lo, .int fi, .int ro, .int (nI d)], [])] (hp L xs A V K T) (some v) (hp L xs A V K T) ∧ am_fin [(z_M_away, 31, [.ref 36, .int x, .int w, .int lo, .int fi, .int ro, .int (nI d)], [])] (hp L xs A V K T) (some v) (hp L xs A V K T) := by
  intro r
  induction r with
  | zero =>
    intro d lo fi ro hd
    by_cases hw : w = 0
    · exact ⟨lo, sg_L_away_30 (iteP (g1080 (by omega)) (iteP hw ⟨rfl, rfl⟩)), sg_M_away_31 (iteP (g1080 (by omega)) (iteP hw ⟨rfl, rfl⟩))⟩
    · exact ⟨fi, sg_L_away_30 (iteP (g1080 (by omega)) (iteN hw ⟨rfl, rfl⟩)), sg_M_away_31 (iteP (g1080 (by omega)) (iteN hw ⟨rfl, rfl⟩))⟩
  | succ r ih =>
    intro d lo fi ro hd
    have hd' : d < 1080 := by omega
    have rd : A 37 (nI d).toNatClampNeg = A 4 d := by rw [nI_clamp (by omega), r1]
    have ib : ¬ (nI d < 0 ∨ 1080 ≤ (nI d).toNatClampNeg) := nI_inb (by omega) hd'
    by_cases hx : A 4 d = x
    · by_cases hl : 0 ≤ lo
      · obtain ⟨v, i1, i2⟩ := ih (d + 1) lo fi 0 (by omega)
        rw [← nI_1] at i1 i2
        exact ⟨v, sg_L_away_30 (iteN (l1080 hd') (am_fin.call (P_landOn_3_c d hd') (sg_L_away_50r (iteP hx (iteP hl i1))))), sg_M_away_31 (iteN (l1080 hd') ⟨ib, iteP (rd.trans hx) (iteN (Int32.not_lt.mpr hl) i2)⟩)⟩
      · obtain ⟨v, i1, i2⟩ := ih (d + 1) 0 (nI d - 0 + 1) 0 (by omega)
        rw [← nI_1] at i1 i2
        exact ⟨v, sg_L_away_30 (iteN (l1080 hd') (am_fin.call (P_landOn_3_c d hd') (sg_L_away_50r (iteP hx (iteN hl i1))))), sg_M_away_31 (iteN (l1080 hd') ⟨ib, iteP (rd.trans hx) (iteP (Int32.not_le.mp hl) i2)⟩)⟩
    · by_cases hl : ro + 1 ≤ lo
      · obtain ⟨v, i1, i2⟩ := ih (d + 1) lo fi (ro + 1) (by omega)
        rw [← nI_1] at i1 i2
        exact ⟨v, sg_L_away_30 (iteN (l1080 hd') (am_fin.call (P_landOn_3_c d hd') (sg_L_away_50r (iteN hx (iteP hl i1))))), sg_M_away_31 (iteN (l1080 hd') ⟨ib, iteN (fun z => hx (rd.symm.trans z)) (iteN (Int32.not_lt.mpr hl) i2)⟩)⟩
      · obtain ⟨v, i1, i2⟩ := ih (d + 1) (ro + 1) (nI d - (ro + 1) + 1) (ro + 1) (by omega)
        rw [← nI_1] at i1 i2
        exact ⟨v, sg_L_away_30 (iteN (l1080 hd') (am_fin.call (P_landOn_3_c d hd') (sg_L_away_50r (iteN hx (iteN hl i1))))), sg_M_away_31 (iteN (l1080 hd') ⟨ib, iteN (fun z => hx (rd.symm.trans z)) (iteP (Int32.not_le.mp hl) i2)⟩)⟩
theorem pr_away (a1 a2 : Int32) (R : RI A V K T) : PRQ z_L_away z_M_away [.ref 1, .int a1, .int a2, .null, .null, .null, .null] [.ref 36, .int a1, .int a2, .null, .null, .null, .null] L xs A V K T := by
  by_cases c1 : a1 < 0
  · refine ⟨(-1), A, V, K, T, A, V, sg_L_away_0 ?_, sg_M_away_0 ?_, R⟩
    · (try simp only [lgl, lgg]); (repeat first | refine iteP (by first | assumption) ?_ | refine iteN (by first | assumption) ?_); (constructor <;> first | rfl | trivial)
    · (try simp only [lgl, lgg]); (repeat first | refine iteP (by first | assumption) ?_ | refine iteN (by first | assumption) ?_); (constructor <;> first | rfl | trivial)
  by_cases c2 : (5 : Int32) < a1
  · refine ⟨(-1), A, V, K, T, A, V, sg_L_away_0 ?_, sg_M_away_0 ?_, R⟩
    · (try simp only [lgl, lgg]); (repeat first | refine iteP (by first | assumption) ?_ | refine iteN (by first | assumption) ?_); (constructor <;> first | rfl | trivial)
    · (try simp only [lgl, lgg]); (repeat first | refine iteP (by first | assumption) ?_ | refine iteN (by first | assumption) ?_); (constructor <;> first | rfl | trivial)
  by_cases c3 : a2 < 0
  · refine ⟨(-1), A, V, K, T, A, V, sg_L_away_0 ?_, sg_M_away_0 ?_, R⟩
    · (try simp only [lgl, lgg]); (repeat first | refine iteP (by first | assumption) ?_ | refine iteN (by first | assumption) ?_); (constructor <;> first | rfl | trivial)
    · (try simp only [lgl, lgg]); (repeat first | refine iteP (by first | assumption) ?_ | refine iteN (by first | assumption) ?_); (constructor <;> first | rfl | trivial)
  by_cases c4 : (1 : Int32) < a2
  · refine ⟨(-1), A, V, K, T, A, V, sg_L_away_0 ?_, sg_M_away_0 ?_, R⟩
    · (try simp only [lgl, lgg]); (repeat first | refine iteP (by first | assumption) ?_ | refine iteN (by first | assumption) ?_); (constructor <;> first | rfl | trivial)
    · (try simp only [lgl, lgg]); (repeat first | refine iteP (by first | assumption) ?_ | refine iteN (by first | assumption) ?_); (constructor <;> first | rfl | trivial)
  obtain ⟨v, i1, i2⟩ := away_lp (L := L) (xs := xs) (V := V) (K := K) (T := T) a1 a2 R.1.1 1080 0 0 (-2) 0 rfl
  refine ⟨v, A, V, K, T, A, V, sg_L_away_0 ?_, sg_M_away_0 ?_, R⟩
  · (try simp only [lgl, lgg]); (repeat first | refine iteP (by first | assumption) ?_ | refine iteN (by first | assumption) ?_)
    exact i1
  · (try simp only [lgl, lgg]); (repeat first | refine iteP (by first | assumption) ?_ | refine iteN (by first | assumption) ?_)
    exact i2
theorem routes_lp (x w : Int32) (y : Nat) (hy : y < 3) (r1 : A 37 = A 4) : ∀ (r d : Nat) (n : Int32), 1 ≤ d → d + r = 360 * y + 360 → ∃ v, am_fin [(z_L_routes, 41, [.ref 1, .int x, .int w, .int (nI y), .int n, .int (nI d)], [])] (hp L xs A V K T) (some v) (hp L xs A V K T) ∧ am_fin [(z_M_routes, 42, [.ref 36, .int x, .int w, .int (nI y), .int n, .int (nI d)], [])] (hp L xs A V K T) (some v) (hp L xs A V K T) := by
  have e1 : nI y * 360 + 360 - 1 = nI (360 * y + 359) := by rw [show nI y * 360 = nI (y * 360) from nI_mul y 360, show nI (y * 360) + 360 = nI (y * 360 + 360) from nI_add _ 360, nI_m1 (by omega)]; congr 1; omega
  have e2 : (360 : Int32) * nI y + 360 = nI (360 * y + 360) := by rw [show (360 : Int32) * nI y = nI (360 * y) from nI_mul 360 y]; exact nI_add _ 360
  intro r
  induction r with
  | zero =>
    intro d n h1 hd
    exact ⟨n, sg_L_routes_41 (iteP (by rw [e1, nI_ltI (by omega) (by omega)]; omega) ⟨rfl, rfl⟩), sg_M_routes_42 (iteP (by rw [e2, nI_leI (by omega) (by omega)]; omega) ⟨rfl, rfl⟩)⟩
  | succ r ih =>
    intro d n h1 hd
    have hd' : d < 1080 := by omega
    have q1 : ¬ nI y * 360 + 360 - 1 < nI d := by rw [e1, nI_ltI (by omega) (by omega)]; omega
    have q2 : ¬ (360 : Int32) * nI y + 360 ≤ nI d := by rw [e2, nI_leI (by omega) (by omega)]; omega
    have rd : A 37 (nI d).toNatClampNeg = A 4 d := by rw [nI_clamp (by omega), r1]
    have em : nI d - 1 = nI (d - 1) := nI_m1 (by omega)
    have rm : A 37 (nI d - 1).toNatClampNeg = A 4 (d - 1) := by rw [em, nI_clamp (by omega), r1]
    have ib : ¬ (nI d < 0 ∨ 1080 ≤ (nI d).toNatClampNeg) := nI_inb (by omega) hd'
    have im : ¬ (nI d - 1 < 0 ∨ 1080 ≤ (nI d - 1).toNatClampNeg) := by rw [em]; exact nI_inb (by omega) (by omega)
    have hm : am_fin [(z_P_landOn, 0, [.ref 3, .int (nI d - 1)], [])] (hp L xs A V K T) (some (A 4 (d - 1))) (hp L xs A V K T) := by rw [em]; exact P_landOn_3_c (d - 1) (by omega)
    by_cases hw : A 4 d = w
    · by_cases hx : A 4 (d - 1) = x
      · obtain ⟨v, i1, i2⟩ := ih (d + 1) (n + 1) (by omega) (by omega)
        rw [← nI_1] at i1 i2
        exact ⟨v, sg_L_routes_41 (iteN q1 (am_fin.call (P_landOn_3_c d hd') (sg_L_routes_62r (iteP hw (am_fin.call hm (sg_L_routes_80r (iteP hx i1))))))), sg_M_routes_42 (iteN q2 ⟨im, iteP (rm.trans hx) ⟨ib, iteP (rd.trans hw) i2⟩⟩)⟩
      · obtain ⟨v, i1, i2⟩ := ih (d + 1) n (by omega) (by omega)
        rw [← nI_1] at i1 i2
        exact ⟨v, sg_L_routes_41 (iteN q1 (am_fin.call (P_landOn_3_c d hd') (sg_L_routes_62r (iteP hw (am_fin.call hm (sg_L_routes_80r (iteN hx i1))))))), sg_M_routes_42 (iteN q2 ⟨im, iteN (fun z => hx (rm.symm.trans z)) (by rw [Int32.add_zero]; exact i2)⟩)⟩
    · obtain ⟨v, i1, i2⟩ := ih (d + 1) n (by omega) (by omega)
      rw [← nI_1] at i1 i2
      refine ⟨v, sg_L_routes_41 (iteN q1 (am_fin.call (P_landOn_3_c d hd') (sg_L_routes_62r (iteN hw i1)))), sg_M_routes_42 (iteN q2 ⟨im, ?_⟩)⟩
      by_cases hx : A 4 (d - 1) = x
      · exact iteP (rm.trans hx) ⟨ib, iteN (fun z => hw (rd.symm.trans z)) (by rw [Int32.add_zero]; exact i2)⟩
      · exact iteN (fun z => hx (rm.symm.trans z)) (by rw [Int32.add_zero]; exact i2)
theorem pr_routes (a1 a2 a3 : Int32) (R : RI A V K T) : PRQ z_L_routes z_M_routes [.ref 1, .int a1, .int a2, .int a3, .null, .null] [.ref 36, .int a1, .int a2, .int a3, .null, .null] L xs A V K T := by
  by_cases c1 : a1 < -1
  · refine ⟨(-1), A, V, K, T, A, V, sg_L_routes_0 ?_, sg_M_routes_0 ?_, R⟩
    · (try simp only [lgl, lgg]); (repeat first | refine iteP (by first | assumption) ?_ | refine iteN (by first | assumption) ?_); (constructor <;> first | rfl | trivial)
    · (try simp only [lgl, lgg]); (repeat first | refine iteP (by first | assumption) ?_ | refine iteN (by first | assumption) ?_); (constructor <;> first | rfl | trivial)
  by_cases c2 : (5 : Int32) < a1
  · refine ⟨(-1), A, V, K, T, A, V, sg_L_routes_0 ?_, sg_M_routes_0 ?_, R⟩
    · (try simp only [lgl, lgg]); (repeat first | refine iteP (by first | assumption) ?_ | refine iteN (by first | assumption) ?_); (constructor <;> first | rfl | trivial)
    · (try simp only [lgl, lgg]); (repeat first | refine iteP (by first | assumption) ?_ | refine iteN (by first | assumption) ?_); (constructor <;> first | rfl | trivial)
  by_cases c3 : a2 < -1
  · refine ⟨(-1), A, V, K, T, A, V, sg_L_routes_0 ?_, sg_M_routes_0 ?_, R⟩
    · (try simp only [lgl, lgg]); (repeat first | refine iteP (by first | assumption) ?_ | refine iteN (by first | assumption) ?_); (constructor <;> first | rfl | trivial)
    · (try simp only [lgl, lgg]); (repeat first | refine iteP (by first | assumption) ?_ | refine iteN (by first | assumption) ?_); (constructor <;> first | rfl | trivial)
  by_cases c4 : (5 : Int32) < a2
  · refine ⟨(-1), A, V, K, T, A, V, sg_L_routes_0 ?_, sg_M_routes_0 ?_, R⟩
    · (try simp only [lgl, lgg]); (repeat first | refine iteP (by first | assumption) ?_ | refine iteN (by first | assumption) ?_); (constructor <;> first | rfl | trivial)
    · (try simp only [lgl, lgg]); (repeat first | refine iteP (by first | assumption) ?_ | refine iteN (by first | assumption) ?_); (constructor <;> first | rfl | trivial)
  by_cases c5 : a1 = a2
  · refine ⟨(-1), A, V, K, T, A, V, sg_L_routes_0 ?_, sg_M_routes_0 ?_, R⟩
    · (try simp only [lgl, lgg]); (repeat first | refine iteP (by first | assumption) ?_ | refine iteN (by first | assumption) ?_); (constructor <;> first | rfl | trivial)
    · (try simp only [lgl, lgg]); (repeat first | refine iteP (by first | assumption) ?_ | refine iteN (by first | assumption) ?_); (constructor <;> first | rfl | trivial)
  by_cases c6 : a3 < 0
  · refine ⟨(-1), A, V, K, T, A, V, sg_L_routes_0 ?_, sg_M_routes_0 ?_, R⟩
    · (try simp only [lgl, lgg]); (repeat first | refine iteP (by first | assumption) ?_ | refine iteN (by first | assumption) ?_); (constructor <;> first | rfl | trivial)
    · (try simp only [lgl, lgg]); (repeat first | refine iteP (by first | assumption) ?_ | refine iteN (by first | assumption) ?_); (constructor <;> first | rfl | trivial)
  by_cases c7 : (2 : Int32) < a3
  · refine ⟨(-1), A, V, K, T, A, V, sg_L_routes_0 ?_, sg_M_routes_0 ?_, R⟩
    · (try simp only [lgl, lgg]); (repeat first | refine iteP (by first | assumption) ?_ | refine iteN (by first | assumption) ?_); (constructor <;> first | rfl | trivial)
    · (try simp only [lgl, lgg]); (repeat first | refine iteP (by first | assumption) ?_ | refine iteN (by first | assumption) ?_); (constructor <;> first | rfl | trivial)
  obtain ⟨y, hy, rfl⟩ := i32_nat (m := 2) (by omega) c6 c7
  have e1 : nI y * 360 = nI (360 * y) := by rw [Nat.mul_comm]; exact nI_mul y 360
  have e2 : (360 : Int32) * nI y = nI (360 * y) := nI_mul 360 y
  by_cases h0 : y = 0
  · obtain ⟨v, i1, i2⟩ := routes_lp (L := L) (xs := xs) (V := V) (K := K) (T := T) a1 a2 y (by omega) R.1.1 359 1 0 (by omega) (by omega)
    refine ⟨v, A, V, K, T, A, V, sg_L_routes_0 ?_, sg_M_routes_0 ?_, R⟩
    · (try simp only [lgl, lgg]); (repeat first | refine iteP (by first | assumption) ?_ | refine iteN (by first | assumption) ?_)
      rw [e1, if_pos (show nI (360 * y) < 1 by subst h0; decide)]
      exact i1
    · (try simp only [lgl, lgg]); (repeat first | refine iteP (by first | assumption) ?_ | refine iteN (by first | assumption) ?_)
      refine iteN (by rw [e2]; subst h0; decide) ?_
      exact i2
  · obtain ⟨v, i1, i2⟩ := routes_lp (L := L) (xs := xs) (V := V) (K := K) (T := T) a1 a2 y (by omega) R.1.1 360 (360 * y) 0 (by omega) (by omega)
    have q : ¬ nI (360 * y) < 1 := mt (nI_ltI (a := 360 * y) (b := 1) (by omega) (by omega)).mp (by omega)
    refine ⟨v, A, V, K, T, A, V, sg_L_routes_0 ?_, sg_M_routes_0 ?_, R⟩
    · (try simp only [lgl, lgg]); (repeat first | refine iteP (by first | assumption) ?_ | refine iteN (by first | assumption) ?_)
      rw [e1, if_neg q]
      exact i1
    · (try simp only [lgl, lgg]); (repeat first | refine iteP (by first | assumption) ?_ | refine iteN (by first | assumption) ?_)
      refine iteP (by rw [e2]; exact Int32.not_lt.mp q) ?_
      rw [e2]
      exact i2
theorem nth_lp (x w : Int32) (r1 : A 37 = A 4) (k : Nat) (hk : k < 2 ^ 31) : ∀ (r d s : Nat), s ≤ k → d + r = 1080 → ∃ v, am_fin [(z_L_nth, 28, [.ref 1, .int x, .int (nI k), .int w, .int (nI s), .int (nI d), .null], [])] (hp L xs A V K T) (some v) (hp L xs A V K T) ∧ am_fin [(z_M_nth, 31, [.ref 36, .int x, .int (nI k), .int w, .int (nI (k - s)), .int (nI d)], [])] (hp L xs A V K T) (some v) (hp L xs A V K T) := by
  intro r
  induction r with
  | zero =>
    intro d s hs hd
    exact ⟨-2, sg_L_nth_28 (iteP (g1080 (by omega)) ⟨rfl, rfl⟩), sg_M_nth_31 (iteP (g1080 (by omega)) ⟨rfl, rfl⟩)⟩
  | succ r ih =>
    intro d s hs hd
    have hd' : d < 1080 := by omega
    have rd : A 37 (nI d).toNatClampNeg = A 4 d := by rw [nI_clamp (by omega), r1]
    have ib : ¬ (nI d < 0 ∨ 1080 ≤ (nI d).toNatClampNeg) := nI_inb (by omega) hd'
    have hb : am_fin [(z_M_begins, 0, [.ref 36, .int (nI d)], [])] (hp L xs A V K T) (some (b2 (beg (A 4) d))) (hp L xs A V K T) := by rw [← r1]; exact M_begins_c d hd'
    have he : am_fin [(z_M_endOf, 0, [.ref 36, .int (nI d), .null], [])] (hp L xs A V K T) (some (nI (en (A 4) d))) (hp L xs A V K T) := by rw [← r1]; exact M_endOf_c d hd'
    by_cases hx : A 4 d = x
    · by_cases hbg : beg (A 4) d
      · have n0 : ¬ b2 (beg (A 4) d) = 0 := by unfold b2; rw [if_pos hbg]; decide
        by_cases hsk : s = k
        · subst hsk
          have z0 : nI (s - s) = 0 := by rw [Nat.sub_self]; rfl
          by_cases w0 : w = 0
          · exact ⟨nI d, sg_L_nth_28 (iteN (l1080 hd') (am_fin.call (P_landOn_3_c d hd') (sg_L_nth_48r (iteP hx (am_fin.call (P_startsStay_3_c d hd') (sg_L_nth_64r (iteN n0 (iteP rfl (am_fin.call (P_lastOfStay_3_c d hd') (sg_L_nth_85r (iteP w0 ⟨rfl, rfl⟩))))))))))), sg_M_nth_31 (iteN (l1080 hd') ⟨ib, iteP (rd.trans hx) (am_fin.call hb (sg_M_nth_56r (iteN n0 (iteP z0 (iteP w0 ⟨rfl, rfl⟩)))))⟩)⟩
          · by_cases w1 : w = 1
            · exact ⟨nI (en (A 4) d), sg_L_nth_28 (iteN (l1080 hd') (am_fin.call (P_landOn_3_c d hd') (sg_L_nth_48r (iteP hx (am_fin.call (P_startsStay_3_c d hd') (sg_L_nth_64r (iteN n0 (iteP rfl (am_fin.call (P_lastOfStay_3_c d hd') (sg_L_nth_85r (iteN w0 (iteP w1 ⟨rfl, rfl⟩)))))))))))), sg_M_nth_31 (iteN (l1080 hd') ⟨ib, iteP (rd.trans hx) (am_fin.call hb (sg_M_nth_56r (iteN n0 (iteP z0 (iteN w0 (iteP w1 (am_fin.call he (sg_M_nth_87r ⟨rfl, rfl⟩))))))))⟩)⟩
            · exact ⟨nI (en (A 4) d) - nI d + 1, sg_L_nth_28 (iteN (l1080 hd') (am_fin.call (P_landOn_3_c d hd') (sg_L_nth_48r (iteP hx (am_fin.call (P_startsStay_3_c d hd') (sg_L_nth_64r (iteN n0 (iteP rfl (am_fin.call (P_lastOfStay_3_c d hd') (sg_L_nth_85r (iteN w0 (iteN w1 ⟨rfl, rfl⟩)))))))))))), sg_M_nth_31 (iteN (l1080 hd') ⟨ib, iteP (rd.trans hx) (am_fin.call hb (sg_M_nth_56r (iteN n0 (iteP z0 (iteN w0 (iteN w1 (am_fin.call he (sg_M_nth_96r ⟨rfl, rfl⟩))))))))⟩)⟩
        · obtain ⟨v, i1, i2⟩ := ih (d + 1) (s + 1) (by omega) (by omega)
          have z0 : ¬ nI (k - s) = 0 := fun z => hsk (by have := (nI_eq (a := k - s) (b := 0) (by omega) (by omega)).mp z; omega)
          have zs : ¬ nI s = nI k := fun z => hsk ((nI_eq (by omega) hk).mp z)
          rw [← nI_1, ← nI_1] at i1
          rw [← nI_1, show k - (s + 1) = k - s - 1 by omega, ← nI_m1 (by omega)] at i2
          exact ⟨v, sg_L_nth_28 (iteN (l1080 hd') (am_fin.call (P_landOn_3_c d hd') (sg_L_nth_48r (iteP hx (am_fin.call (P_startsStay_3_c d hd') (sg_L_nth_64r (iteN n0 (iteN zs i1)))))))), sg_M_nth_31 (iteN (l1080 hd') ⟨ib, iteP (rd.trans hx) (am_fin.call hb (sg_M_nth_56r (iteN n0 (iteN z0 i2))))⟩)⟩
      · have n0 : b2 (beg (A 4) d) = 0 := by unfold b2; rw [if_neg hbg]
        obtain ⟨v, i1, i2⟩ := ih (d + 1) s hs (by omega)
        rw [← nI_1] at i1 i2
        exact ⟨v, sg_L_nth_28 (iteN (l1080 hd') (am_fin.call (P_landOn_3_c d hd') (sg_L_nth_48r (iteP hx (am_fin.call (P_startsStay_3_c d hd') (sg_L_nth_64r (iteP n0 i1))))))), sg_M_nth_31 (iteN (l1080 hd') ⟨ib, iteP (rd.trans hx) (am_fin.call hb (sg_M_nth_56r (iteP n0 i2)))⟩)⟩
    · obtain ⟨v, i1, i2⟩ := ih (d + 1) s hs (by omega)
      rw [← nI_1] at i1 i2
      exact ⟨v, sg_L_nth_28 (iteN (l1080 hd') (am_fin.call (P_landOn_3_c d hd') (sg_L_nth_48r (iteN hx i1)))), sg_M_nth_31 (iteN (l1080 hd') ⟨ib, iteN (fun z => hx (rd.symm.trans z)) i2⟩)⟩
theorem i32_nn {x : Int32} (h : ¬ x < 0) : ∃ n, n < 2 ^ 31 ∧ x = nI n := by
  have hx := x.toInt_lt
  rw [Int32.lt_iff_toInt_lt, Int32.toInt_zero] at h
  refine ⟨x.toInt.toNat, by omega, Int32.toInt_inj.mp ?_⟩
  rw [nI_toInt (by omega)]
  omega
theorem pr_nth (a1 a2 a3 : Int32) (R : RI A V K T) : PRQ z_L_nth z_M_nth [.ref 1, .int a1, .int a2, .int a3, .null, .null, .null] [.ref 36, .int a1, .int a2, .int a3, .null, .null] L xs A V K T := by
  by_cases c1 : a1 < 0
  · refine ⟨(-1), A, V, K, T, A, V, sg_L_nth_0 ?_, sg_M_nth_0 ?_, R⟩
    · (try simp only [lgl, lgg]); (repeat first | refine iteP (by first | assumption) ?_ | refine iteN (by first | assumption) ?_); (constructor <;> first | rfl | trivial)
    · (try simp only [lgl, lgg]); (repeat first | refine iteP (by first | assumption) ?_ | refine iteN (by first | assumption) ?_); (constructor <;> first | rfl | trivial)
  by_cases c2 : (5 : Int32) < a1
  · refine ⟨(-1), A, V, K, T, A, V, sg_L_nth_0 ?_, sg_M_nth_0 ?_, R⟩
    · (try simp only [lgl, lgg]); (repeat first | refine iteP (by first | assumption) ?_ | refine iteN (by first | assumption) ?_); (constructor <;> first | rfl | trivial)
    · (try simp only [lgl, lgg]); (repeat first | refine iteP (by first | assumption) ?_ | refine iteN (by first | assumption) ?_); (constructor <;> first | rfl | trivial)
  by_cases c3 : a2 < 0
  · refine ⟨(-1), A, V, K, T, A, V, sg_L_nth_0 ?_, sg_M_nth_0 ?_, R⟩
    · (try simp only [lgl, lgg]); (repeat first | refine iteP (by first | assumption) ?_ | refine iteN (by first | assumption) ?_); (constructor <;> first | rfl | trivial)
    · (try simp only [lgl, lgg]); (repeat first | refine iteP (by first | assumption) ?_ | refine iteN (by first | assumption) ?_); (constructor <;> first | rfl | trivial)
  by_cases c4 : a3 < 0
  · refine ⟨(-1), A, V, K, T, A, V, sg_L_nth_0 ?_, sg_M_nth_0 ?_, R⟩
    · (try simp only [lgl, lgg]); (repeat first | refine iteP (by first | assumption) ?_ | refine iteN (by first | assumption) ?_); (constructor <;> first | rfl | trivial)
    · (try simp only [lgl, lgg]); (repeat first | refine iteP (by first | assumption) ?_ | refine iteN (by first | assumption) ?_); (constructor <;> first | rfl | trivial)
  by_cases c5 : (2 : Int32) < a3
  · refine ⟨(-1), A, V, K, T, A, V, sg_L_nth_0 ?_, sg_M_nth_0 ?_, R⟩
    · (try simp only [lgl, lgg]); (repeat first | refine iteP (by first | assumption) ?_ | refine iteN (by first | assumption) ?_); (constructor <;> first | rfl | trivial)
    · (try simp only [lgl, lgg]); (repeat first | refine iteP (by first | assumption) ?_ | refine iteN (by first | assumption) ?_); (constructor <;> first | rfl | trivial)
  obtain ⟨k, hk, rfl⟩ := i32_nn c3
  obtain ⟨v, i1, i2⟩ := nth_lp (L := L) (xs := xs) (V := V) (K := K) (T := T) a1 a3 R.1.1 k hk 1080 0 0 (by omega) rfl
  refine ⟨v, A, V, K, T, A, V, sg_L_nth_0 ?_, sg_M_nth_0 ?_, R⟩
  · (try simp only [lgl, lgg]); (repeat first | refine iteP (by first | assumption) ?_ | refine iteN (by first | assumption) ?_)
    exact i1
  · (try simp only [lgl, lgg]); (repeat first | refine iteP (by first | assumption) ?_ | refine iteN (by first | assumption) ?_)
    exact i2
end
