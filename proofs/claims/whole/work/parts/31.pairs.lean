theorem mx1 {b r : Int32} (h : b ≤ r) : (if b < r then r else b) = r := by
  by_cases hl : b < r
  · rw [if_pos hl]
  · rw [if_neg hl]
    rw [Int32.lt_iff_toInt_lt] at hl
    rw [Int32.le_iff_toInt_le] at h
    exact Int32.toInt_inj.mp (by omega)
theorem mx2 {b r : Int32} (h : ¬ b ≤ r) : (if b < r then r else b) = b := by
  rw [if_neg (fun hl => h (by rw [Int32.lt_iff_toInt_lt] at hl; rw [Int32.le_iff_toInt_le]; omega))]
section
variable {L : Nat} {xs : Nat → Int32} {A V : Nat → Nat → Int32} {K : Nat → Option Nat} {T : am_H}
theorem together_lp (w : Int32) (y : Nat) (hy : y < 3) (r1 : A 37 = A 4) (r4 : A 40 = A 8) : ∀ (r d : Nat) (n c b m : Int32) (u : Option (Int32 × Int32)) (t : Option Int32), d + r = 360 * y + 360 → ∃ v, am_fin [(z_L_together, 48, .ref 1 :: .int (nI y) :: .int w :: .int n :: .int c :: .int b :: .int m :: .int (nI d) :: d2 u, [])] (hp L xs A V K T) (some v) (hp L xs A V K T) ∧ am_fin [(z_M_together, 49, [.ref 36, .int (nI y), .int w, .int n, .int b, .int c, .int m, .int (nI d), dl t], [])] (hp L xs A V K T) (some v) (hp L xs A V K T) := by
  have e1 : nI y * 360 + 360 - 1 = nI (360 * y + 359) := by rw [show nI y * 360 = nI (y * 360) from nI_mul y 360, show nI (y * 360) + 360 = nI (y * 360 + 360) from nI_add _ 360, nI_m1 (by omega)]; congr 1; omega
  have e2 : (360 : Int32) * nI y + 360 = nI (360 * y + 360) := by rw [show (360 : Int32) * nI y = nI (360 * y) from nI_mul 360 y]; exact nI_add _ 360
  intro r
  induction r with
  | zero =>
    intro d n c b m u t hd
    have q1 : nI y * 360 + 360 - 1 < nI d := by rw [e1, nI_ltI (by omega) (by omega)]; omega
    have q2 : (360 : Int32) * nI y + 360 ≤ nI d := by rw [e2, nI_leI (by omega) (by omega)]; omega
    by_cases h0 : w = 0
    · refine ⟨n, ?_, ?_⟩
      · cases u
        · exact sg_L_together_48 (iteP q1 (iteP h0 ⟨rfl, rfl⟩))
        · exact sg_L_together_48b (iteP q1 (iteP h0 ⟨rfl, rfl⟩))
      · cases t
        · exact sg_M_together_49 (iteP q2 (iteP h0 ⟨rfl, rfl⟩))
        · exact sg_M_together_49b (iteP q2 (iteP h0 ⟨rfl, rfl⟩))
    · by_cases h1 : w = 1
      · refine ⟨b, ?_, ?_⟩
        · cases u
          · exact sg_L_together_48 (iteP q1 (iteN h0 (iteP h1 ⟨rfl, rfl⟩)))
          · exact sg_L_together_48b (iteP q1 (iteN h0 (iteP h1 ⟨rfl, rfl⟩)))
        · cases t
          · exact sg_M_together_49 (iteP q2 (iteN h0 (iteP h1 ⟨rfl, rfl⟩)))
          · exact sg_M_together_49b (iteP q2 (iteN h0 (iteP h1 ⟨rfl, rfl⟩)))
      · by_cases h2 : w = 2
        · refine ⟨m, ?_, ?_⟩
          · cases u
            · exact sg_L_together_48 (iteP q1 (iteN h0 (iteN h1 (iteP h2 ⟨rfl, rfl⟩))))
            · exact sg_L_together_48b (iteP q1 (iteN h0 (iteN h1 (iteP h2 ⟨rfl, rfl⟩))))
          · cases t
            · exact sg_M_together_49 (iteP q2 (iteN h0 (iteN h1 (iteP h2 ⟨rfl, rfl⟩))))
            · exact sg_M_together_49b (iteP q2 (iteN h0 (iteN h1 (iteP h2 ⟨rfl, rfl⟩))))
        · refine ⟨360 - n, ?_, ?_⟩
          · cases u
            · exact sg_L_together_48 (iteP q1 (iteN h0 (iteN h1 (iteN h2 ⟨rfl, rfl⟩))))
            · exact sg_L_together_48b (iteP q1 (iteN h0 (iteN h1 (iteN h2 ⟨rfl, rfl⟩))))
          · cases t
            · exact sg_M_together_49 (iteP q2 (iteN h0 (iteN h1 (iteN h2 ⟨rfl, rfl⟩))))
            · exact sg_M_together_49b (iteP q2 (iteN h0 (iteN h1 (iteN h2 ⟨rfl, rfl⟩))))
  | succ r ih =>
    intro d n c b m u t hd
    have hd' : d < 1080 := by omega
    have q1 : ¬ nI y * 360 + 360 - 1 < nI d := by rw [e1, nI_ltI (by omega) (by omega)]; omega
    have q2 : ¬ (360 : Int32) * nI y + 360 ≤ nI d := by rw [e2, nI_leI (by omega) (by omega)]; omega
    have rd : A 37 (nI d).toNatClampNeg = A 4 d := by rw [nI_clamp (by omega), r1]
    have rp : A 40 (nI d).toNatClampNeg = A 8 d := by rw [nI_clamp (by omega), r4]
    have ib : ¬ (nI d < 0 ∨ 1080 ≤ (nI d).toNatClampNeg) := nI_inb (by omega) hd'
    have hc := P_landOn_3_c (L := L) (xs := xs) (A := A) (V := V) (K := K) (T := T) d hd'
    have hq := P_landOn_7_c (L := L) (xs := xs) (A := A) (V := V) (K := K) (T := T) d hd'
    by_cases hx : A 4 d = -1
    · obtain ⟨v, i1, i2⟩ := ih (d + 1) n 0 (if b < 0 then 0 else b) m (some (A 4 d, 0)) (some 0) (by omega)
      rw [← nI_1] at i1 i2
      refine ⟨v, ?_, ?_⟩
      · cases u
        · exact sg_L_together_48 (iteN q1 (am_fin.call hc (sg_L_together_69r (iteP hx i1))))
        · exact sg_L_together_48b (iteN q1 (am_fin.call hc (sg_L_together_69rb (iteP hx i1))))
      · by_cases hb : b ≤ 0
        · rw [mx1 hb] at i2
          cases t
          · exact sg_M_together_49 (iteN q2 ⟨ib, iteP (rd.trans hx) (iteP hb (by rw [Int32.add_zero]; exact i2))⟩)
          · exact sg_M_together_49b (iteN q2 ⟨ib, iteP (rd.trans hx) (iteP hb (by rw [Int32.add_zero]; exact i2))⟩)
        · rw [mx2 hb] at i2
          cases t
          · exact sg_M_together_49 (iteN q2 ⟨ib, iteP (rd.trans hx) (iteN hb (by rw [Int32.add_zero]; exact i2))⟩)
          · exact sg_M_together_49b (iteN q2 ⟨ib, iteP (rd.trans hx) (iteN hb (by rw [Int32.add_zero]; exact i2))⟩)
    · by_cases he : A 4 d = A 8 d
      · obtain ⟨v, i1, i2⟩ := ih (d + 1) (n + 1) (c + 1) (if b < c + 1 then c + 1 else b) (m ||| ((1 : Int32) <<< (A 4 d &&& 31))) (some (A 4 d, 1)) (some 1) (by omega)
        rw [← nI_1] at i1 i2
        refine ⟨v, ?_, ?_⟩
        · cases u
          · exact sg_L_together_48 (iteN q1 (am_fin.call hc (sg_L_together_69r (iteN hx (am_fin.call hq (sg_L_together_91rb (iteP he i1)))))))
          · exact sg_L_together_48b (iteN q1 (am_fin.call hc (sg_L_together_69rb (iteN hx (am_fin.call hq (sg_L_together_91r (iteP he i1)))))))
        · by_cases hb : b ≤ c + 1
          · rw [mx1 hb] at i2
            cases t
            · exact sg_M_together_49 (iteN q2 ⟨ib, iteN (fun z => hx (rd.symm.trans z)) ⟨ib, ib, iteP (rd.trans (he.trans rp.symm)) (iteP hb ⟨ib, by rw [rd]; exact i2⟩)⟩⟩)
            · exact sg_M_together_49b (iteN q2 ⟨ib, iteN (fun z => hx (rd.symm.trans z)) ⟨ib, ib, iteP (rd.trans (he.trans rp.symm)) (iteP hb ⟨ib, by rw [rd]; exact i2⟩)⟩⟩)
          · rw [mx2 hb] at i2
            cases t
            · exact sg_M_together_49 (iteN q2 ⟨ib, iteN (fun z => hx (rd.symm.trans z)) ⟨ib, ib, iteP (rd.trans (he.trans rp.symm)) (iteN hb ⟨ib, by rw [rd]; exact i2⟩)⟩⟩)
            · exact sg_M_together_49b (iteN q2 ⟨ib, iteN (fun z => hx (rd.symm.trans z)) ⟨ib, ib, iteP (rd.trans (he.trans rp.symm)) (iteN hb ⟨ib, by rw [rd]; exact i2⟩)⟩⟩)
      · obtain ⟨v, i1, i2⟩ := ih (d + 1) n 0 (if b < 0 then 0 else b) m (some (A 4 d, 0)) (some 0) (by omega)
        rw [← nI_1] at i1 i2
        refine ⟨v, ?_, ?_⟩
        · cases u
          · exact sg_L_together_48 (iteN q1 (am_fin.call hc (sg_L_together_69r (iteN hx (am_fin.call hq (sg_L_together_91rb (iteN he i1)))))))
          · exact sg_L_together_48b (iteN q1 (am_fin.call hc (sg_L_together_69rb (iteN hx (am_fin.call hq (sg_L_together_91r (iteN he i1)))))))
        · by_cases hb : b ≤ 0
          · rw [mx1 hb] at i2
            cases t
            · exact sg_M_together_49 (iteN q2 ⟨ib, iteN (fun z => hx (rd.symm.trans z)) ⟨ib, ib, iteN (fun z => he (rd.symm.trans (z.trans rp))) (iteP hb (by rw [Int32.add_zero]; exact i2))⟩⟩)
            · exact sg_M_together_49b (iteN q2 ⟨ib, iteN (fun z => hx (rd.symm.trans z)) ⟨ib, ib, iteN (fun z => he (rd.symm.trans (z.trans rp))) (iteP hb (by rw [Int32.add_zero]; exact i2))⟩⟩)
          · rw [mx2 hb] at i2
            cases t
            · exact sg_M_together_49 (iteN q2 ⟨ib, iteN (fun z => hx (rd.symm.trans z)) ⟨ib, ib, iteN (fun z => he (rd.symm.trans (z.trans rp))) (iteN hb (by rw [Int32.add_zero]; exact i2))⟩⟩)
            · exact sg_M_together_49b (iteN q2 ⟨ib, iteN (fun z => hx (rd.symm.trans z)) ⟨ib, ib, iteN (fun z => he (rd.symm.trans (z.trans rp))) (iteN hb (by rw [Int32.add_zero]; exact i2))⟩⟩)
theorem pr_together (a1 a2 : Int32) (R : RI A V K T) : PRQ z_L_together z_M_together [.ref 1, .int a1, .int a2, .null, .null, .null, .null, .null, .null, .null] [.ref 36, .int a1, .int a2, .null, .null, .null, .null, .null, .null] L xs A V K T := by
  by_cases c1 : a1 < 0
  · refine ⟨(-1), A, V, K, T, A, V, sg_L_together_0 ?_, sg_M_together_0 ?_, R⟩
    · (try simp only [lgl, lgg]); (repeat first | refine iteP (by first | assumption) ?_ | refine iteN (by first | assumption) ?_); (constructor <;> first | rfl | trivial)
    · (try simp only [lgl, lgg]); (repeat first | refine iteP (by first | assumption) ?_ | refine iteN (by first | assumption) ?_); (constructor <;> first | rfl | trivial)
  by_cases c2 : (2 : Int32) < a1
  · refine ⟨(-1), A, V, K, T, A, V, sg_L_together_0 ?_, sg_M_together_0 ?_, R⟩
    · (try simp only [lgl, lgg]); (repeat first | refine iteP (by first | assumption) ?_ | refine iteN (by first | assumption) ?_); (constructor <;> first | rfl | trivial)
    · (try simp only [lgl, lgg]); (repeat first | refine iteP (by first | assumption) ?_ | refine iteN (by first | assumption) ?_); (constructor <;> first | rfl | trivial)
  by_cases c3 : a2 < 0
  · refine ⟨(-1), A, V, K, T, A, V, sg_L_together_0 ?_, sg_M_together_0 ?_, R⟩
    · (try simp only [lgl, lgg]); (repeat first | refine iteP (by first | assumption) ?_ | refine iteN (by first | assumption) ?_); (constructor <;> first | rfl | trivial)
    · (try simp only [lgl, lgg]); (repeat first | refine iteP (by first | assumption) ?_ | refine iteN (by first | assumption) ?_); (constructor <;> first | rfl | trivial)
  by_cases c4 : (3 : Int32) < a2
  · refine ⟨(-1), A, V, K, T, A, V, sg_L_together_0 ?_, sg_M_together_0 ?_, R⟩
    · (try simp only [lgl, lgg]); (repeat first | refine iteP (by first | assumption) ?_ | refine iteN (by first | assumption) ?_); (constructor <;> first | rfl | trivial)
    · (try simp only [lgl, lgg]); (repeat first | refine iteP (by first | assumption) ?_ | refine iteN (by first | assumption) ?_); (constructor <;> first | rfl | trivial)
  by_cases c5 : V 2 5 = 0
  · have c6 : V 36 5 = 0 := R.2.1.1.trans c5
    refine ⟨-2, A, V, K, T, A, V, sg_L_together_0 ?_, sg_M_together_0 ?_, R⟩
    · (try simp only [lgl, lgg]); (repeat first | refine iteP (by first | assumption) ?_ | refine iteN (by first | assumption) ?_); (constructor <;> first | rfl | trivial)
    · (try simp only [lgl, lgg]); (repeat first | refine iteP (by first | assumption) ?_ | refine iteN (by first | assumption) ?_); (constructor <;> first | rfl | trivial)
  have c6 : ¬ V 36 5 = 0 := by rw [R.2.1.1]; exact c5
  obtain ⟨y, hy, rfl⟩ := i32_nat (m := 2) (by omega) c1 c2
  have e1 : nI y * 360 = nI (360 * y) := by rw [Nat.mul_comm]; exact nI_mul y 360
  have e2 : (360 : Int32) * nI y = nI (360 * y) := nI_mul 360 y
  obtain ⟨v, i1, i2⟩ := together_lp (L := L) (xs := xs) (V := V) (K := K) (T := T) a2 y (by omega) R.1.1 R.1.2.2.2.1 360 (360 * y) 0 0 0 0 none none (by omega)
  refine ⟨v, A, V, K, T, A, V, sg_L_together_0 ?_, sg_M_together_0 ?_, R⟩
  · (try simp only [lgl, lgg]); (repeat first | refine iteP (by first | assumption) ?_ | refine iteN (by first | assumption) ?_)
    rw [e1]
    exact i1
  · (try simp only [lgl, lgg]); (repeat first | refine iteP (by first | assumption) ?_ | refine iteN (by first | assumption) ?_)
    rw [e2]
    exact i2
end
