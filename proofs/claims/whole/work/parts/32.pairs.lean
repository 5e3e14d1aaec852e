section
variable {L : Nat} {xs : Nat → Int32} {A V : Nat → Nat → Int32} {K : Nat → Option Nat} {T : am_H}
theorem entered_lp (x w le : Int32) (hx1 : ¬ x = -1) (hle : le ≤ 0 → le = 0) (y : Nat) (hy : y < 3) (r1 : A 37 = A 4) : ∀ (r d : Nat) (n f : Int32), d + r = 360 * y + 360 → ∃ v, am_fin [(z_L_entered, 52, [.ref 1, .int x, .int (nI y), .int w, .int le, .int n, .int f, .int (nI d)], [])] (hp L xs A V K T) (some v) (hp L xs A V K T) ∧ am_fin [(z_M_entered, 51, [.ref 36, .int x, .int (nI y), .int w, .int n, .int le, .int f, .int (nI d)], [])] (hp L xs A V K T) (some v) (hp L xs A V K T) := by
  have e1 : nI y * 360 + 360 - 1 = nI (360 * y + 359) := by rw [show nI y * 360 = nI (y * 360) from nI_mul y 360, show nI (y * 360) + 360 = nI (y * 360 + 360) from nI_add _ 360, nI_m1 (by omega)]; congr 1; omega
  have e2 : (360 : Int32) * nI y + 360 = nI (360 * y + 360) := by rw [show (360 : Int32) * nI y = nI (360 * y) from nI_mul 360 y]; exact nI_add _ 360
  intro r
  induction r with
  | zero =>
    intro d n f hd
    have q1 : nI y * 360 + 360 - 1 < nI d := by rw [e1, nI_ltI (by omega) (by omega)]; omega
    have q2 : (360 : Int32) * nI y + 360 ≤ nI d := by rw [e2, nI_leI (by omega) (by omega)]; omega
    by_cases h0 : w = 0
    · exact ⟨n, sg_L_entered_52 (iteP q1 (iteP h0 ⟨rfl, rfl⟩)), sg_M_entered_51 (iteP q2 (iteP h0 ⟨rfl, rfl⟩))⟩
    · by_cases h1 : w = 1
      · by_cases hz : le ≤ 0
        · exact ⟨0, sg_L_entered_52 (iteP q1 (iteN h0 (iteP h1 (iteP hz ⟨rfl, rfl⟩)))), sg_M_entered_51 (iteP q2 (iteN h0 (iteP h1 (iteP (hle hz) ⟨rfl, rfl⟩))))⟩
        · have hz' : ¬ le = 0 := fun e => hz (by rw [e]; exact Int32.le_refl _)
          refine ⟨if n - le < 0 then 0 else n - le, sg_L_entered_52 (iteP q1 (iteN h0 (iteP h1 (iteN hz ⟨rfl, rfl⟩)))), sg_M_entered_51 (iteP q2 (iteN h0 (iteP h1 (iteN hz' ?_))))⟩
          by_cases hn : n - le < 0
          · exact iteN (Int32.not_le.mpr hn) ⟨by rw [if_pos hn], rfl⟩
          · exact iteP (Int32.not_lt.mp hn) ⟨by rw [if_neg hn], rfl⟩
      · exact ⟨f, sg_L_entered_52 (iteP q1 (iteN h0 (iteN h1 ⟨rfl, rfl⟩))), sg_M_entered_51 (iteP q2 (iteN h0 (iteN h1 ⟨rfl, rfl⟩)))⟩
  | succ r ih =>
    intro d n f hd
    have hd' : d < 1080 := by omega
    have q1 : ¬ nI y * 360 + 360 - 1 < nI d := by rw [e1, nI_ltI (by omega) (by omega)]; omega
    have q2 : ¬ (360 : Int32) * nI y + 360 ≤ nI d := by rw [e2, nI_leI (by omega) (by omega)]; omega
    have rd : A 37 (nI d).toNatClampNeg = A 4 d := by rw [nI_clamp (by omega), r1]
    have ib : ¬ (nI d < 0 ∨ 1080 ≤ (nI d).toNatClampNeg) := nI_inb (by omega) hd'
    have hc := P_landOn_3_c (L := L) (xs := xs) (A := A) (V := V) (K := K) (T := T) d hd'
    have hs := P_startsStay_3_c (L := L) (xs := xs) (A := A) (V := V) (K := K) (T := T) d hd'
    by_cases hx : A 4 d = x
    · by_cases hb : beg (A 4) d
      · have n0 : ¬ b2 (beg (A 4) d) = 0 := by unfold b2; rw [if_pos hb]; decide
        by_cases hz : le ≤ 0
        · obtain ⟨v, i1, i2⟩ := ih (d + 1) (n + 1) f (by omega)
          rw [← nI_1] at i1 i2
          refine ⟨v, sg_L_entered_52 (iteN q1 (am_fin.call hc (sg_L_entered_73r (iteP hx (am_fin.call hs (sg_L_entered_89r (iteN n0 (iteP hz i1)))))))), sg_M_entered_51 (iteN q2 ⟨ib, iteP (rd.trans hx) ?_⟩)⟩
          by_cases h0 : d = 0
          · exact iteP ((nI_leI (a := d) (b := 0) (by omega) (by omega)).mpr (by omega)) (iteP hz i2)
          · have em : nI d - 1 = nI (d - 1) := nI_m1 (by omega)
            have rm : A 37 (nI d - 1).toNatClampNeg = A 4 (d - 1) := by rw [em, nI_clamp (by omega), r1]
            have im : ¬ (nI d - 1 < 0 ∨ 1080 ≤ (nI d - 1).toNatClampNeg) := by rw [em]; exact nI_inb (by omega) (by omega)
            have hl : ¬ A 4 (d - 1) = x := fun z => hb.2.elim h0 (fun k => k (z.trans hx.symm))
            exact iteN (mt (nI_leI (a := d) (b := 0) (by omega) (by omega)).mp (by omega)) ⟨im, iteN (fun z => hl (rm.symm.trans z)) (iteP hz i2)⟩
        · by_cases hn : n = le
          · obtain ⟨v, i1, i2⟩ := ih (d + 1) (n + 1) (nI d) (by omega)
            rw [← nI_1] at i1 i2
            refine ⟨v, sg_L_entered_52 (iteN q1 (am_fin.call hc (sg_L_entered_73r (iteP hx (am_fin.call hs (sg_L_entered_89r (iteN n0 (iteN hz (iteP (by rw [hn]) i1))))))))), sg_M_entered_51 (iteN q2 ⟨ib, iteP (rd.trans hx) ?_⟩)⟩
            by_cases h0 : d = 0
            · exact iteP ((nI_leI (a := d) (b := 0) (by omega) (by omega)).mpr (by omega)) (iteN hz (iteP hn i2))
            · have em : nI d - 1 = nI (d - 1) := nI_m1 (by omega)
              have rm : A 37 (nI d - 1).toNatClampNeg = A 4 (d - 1) := by rw [em, nI_clamp (by omega), r1]
              have im : ¬ (nI d - 1 < 0 ∨ 1080 ≤ (nI d - 1).toNatClampNeg) := by rw [em]; exact nI_inb (by omega) (by omega)
              have hl : ¬ A 4 (d - 1) = x := fun z => hb.2.elim h0 (fun k => k (z.trans hx.symm))
              exact iteN (mt (nI_leI (a := d) (b := 0) (by omega) (by omega)).mp (by omega)) ⟨im, iteN (fun z => hl (rm.symm.trans z)) (iteN hz (iteP hn i2))⟩
          · obtain ⟨v, i1, i2⟩ := ih (d + 1) (n + 1) f (by omega)
            rw [← nI_1] at i1 i2
            refine ⟨v, sg_L_entered_52 (iteN q1 (am_fin.call hc (sg_L_entered_73r (iteP hx (am_fin.call hs (sg_L_entered_89r (iteN n0 (iteN hz (iteN (fun z => hn ((Int32.add_left_inj 1).mp z)) i1))))))))), sg_M_entered_51 (iteN q2 ⟨ib, iteP (rd.trans hx) ?_⟩)⟩
            by_cases h0 : d = 0
            · exact iteP ((nI_leI (a := d) (b := 0) (by omega) (by omega)).mpr (by omega)) (iteN hz (iteN hn i2))
            · have em : nI d - 1 = nI (d - 1) := nI_m1 (by omega)
              have rm : A 37 (nI d - 1).toNatClampNeg = A 4 (d - 1) := by rw [em, nI_clamp (by omega), r1]
              have im : ¬ (nI d - 1 < 0 ∨ 1080 ≤ (nI d - 1).toNatClampNeg) := by rw [em]; exact nI_inb (by omega) (by omega)
              have hl : ¬ A 4 (d - 1) = x := fun z => hb.2.elim h0 (fun k => k (z.trans hx.symm))
              exact iteN (mt (nI_leI (a := d) (b := 0) (by omega) (by omega)).mp (by omega)) ⟨im, iteN (fun z => hl (rm.symm.trans z)) (iteN hz (iteN hn i2))⟩
      · have n0 : b2 (beg (A 4) d) = 0 := by unfold b2; rw [if_neg hb]
        have h0 : ¬ d = 0 := fun z => hb ⟨by rw [hx]; exact hx1, Or.inl z⟩
        have em : nI d - 1 = nI (d - 1) := nI_m1 (by omega)
        have rm : A 37 (nI d - 1).toNatClampNeg = A 4 (d - 1) := by rw [em, nI_clamp (by omega), r1]
        have im : ¬ (nI d - 1 < 0 ∨ 1080 ≤ (nI d - 1).toNatClampNeg) := by rw [em]; exact nI_inb (by omega) (by omega)
        have hl : A 4 (d - 1) = x := by
          by_cases k : A 4 (d - 1) = A 4 d
          · exact k.trans hx
          · exact absurd ⟨by rw [hx]; exact hx1, Or.inr k⟩ hb
        obtain ⟨v, i1, i2⟩ := ih (d + 1) n f (by omega)
        rw [← nI_1] at i1 i2
        exact ⟨v, sg_L_entered_52 (iteN q1 (am_fin.call hc (sg_L_entered_73r (iteP hx (am_fin.call hs (sg_L_entered_89r (iteP n0 i1))))))), sg_M_entered_51 (iteN q2 ⟨ib, iteP (rd.trans hx) (iteN (mt (nI_leI (a := d) (b := 0) (by omega) (by omega)).mp (by omega)) ⟨im, iteP (rm.trans hl) i2⟩)⟩)⟩
    · obtain ⟨v, i1, i2⟩ := ih (d + 1) n f (by omega)
      rw [← nI_1] at i1 i2
      exact ⟨v, sg_L_entered_52 (iteN q1 (am_fin.call hc (sg_L_entered_73r (iteN hx i1)))), sg_M_entered_51 (iteN q2 ⟨ib, iteN (fun z => hx (rd.symm.trans z)) i2⟩)⟩
theorem pr_entered (a1 a2 a3 : Int32) (R : RI A V K T) : PRQ z_L_entered z_M_entered [.ref 1, .int a1, .int a2, .int a3, .null, .null, .null, .null] [.ref 36, .int a1, .int a2, .int a3, .null, .null, .null, .null] L xs A V K T := by
  by_cases c1 : a1 < 0
  · refine ⟨(-1), A, V, K, T, A, V, sg_L_entered_0 ?_, sg_M_entered_0 ?_, R⟩
    · (try simp only [lgl, lgg]); (repeat first | refine iteP (by first | assumption) ?_ | refine iteN (by first | assumption) ?_); (constructor <;> first | rfl | trivial)
    · (try simp only [lgl, lgg]); (repeat first | refine iteP (by first | assumption) ?_ | refine iteN (by first | assumption) ?_); (constructor <;> first | rfl | trivial)
  by_cases c2 : (5 : Int32) < a1
  · refine ⟨(-1), A, V, K, T, A, V, sg_L_entered_0 ?_, sg_M_entered_0 ?_, R⟩
    · (try simp only [lgl, lgg]); (repeat first | refine iteP (by first | assumption) ?_ | refine iteN (by first | assumption) ?_); (constructor <;> first | rfl | trivial)
    · (try simp only [lgl, lgg]); (repeat first | refine iteP (by first | assumption) ?_ | refine iteN (by first | assumption) ?_); (constructor <;> first | rfl | trivial)
  by_cases c3 : a2 < 0
  · refine ⟨(-1), A, V, K, T, A, V, sg_L_entered_0 ?_, sg_M_entered_0 ?_, R⟩
    · (try simp only [lgl, lgg]); (repeat first | refine iteP (by first | assumption) ?_ | refine iteN (by first | assumption) ?_); (constructor <;> first | rfl | trivial)
    · (try simp only [lgl, lgg]); (repeat first | refine iteP (by first | assumption) ?_ | refine iteN (by first | assumption) ?_); (constructor <;> first | rfl | trivial)
  by_cases c4 : (2 : Int32) < a2
  · refine ⟨(-1), A, V, K, T, A, V, sg_L_entered_0 ?_, sg_M_entered_0 ?_, R⟩
    · (try simp only [lgl, lgg]); (repeat first | refine iteP (by first | assumption) ?_ | refine iteN (by first | assumption) ?_); (constructor <;> first | rfl | trivial)
    · (try simp only [lgl, lgg]); (repeat first | refine iteP (by first | assumption) ?_ | refine iteN (by first | assumption) ?_); (constructor <;> first | rfl | trivial)
  by_cases c5 : a3 < 0
  · refine ⟨(-1), A, V, K, T, A, V, sg_L_entered_0 ?_, sg_M_entered_0 ?_, R⟩
    · (try simp only [lgl, lgg]); (repeat first | refine iteP (by first | assumption) ?_ | refine iteN (by first | assumption) ?_); (constructor <;> first | rfl | trivial)
    · (try simp only [lgl, lgg]); (repeat first | refine iteP (by first | assumption) ?_ | refine iteN (by first | assumption) ?_); (constructor <;> first | rfl | trivial)
  by_cases c6 : (2 : Int32) < a3
  · refine ⟨(-1), A, V, K, T, A, V, sg_L_entered_0 ?_, sg_M_entered_0 ?_, R⟩
    · (try simp only [lgl, lgg]); (repeat first | refine iteP (by first | assumption) ?_ | refine iteN (by first | assumption) ?_); (constructor <;> first | rfl | trivial)
    · (try simp only [lgl, lgg]); (repeat first | refine iteP (by first | assumption) ?_ | refine iteN (by first | assumption) ?_); (constructor <;> first | rfl | trivial)
  obtain ⟨y, hy, rfl⟩ := i32_nat (m := 2) (by omega) c3 c4
  obtain ⟨l, hl, rfl⟩ := i32_nat (m := 5) (by omega) c1 c2
  have e1 : nI y * 360 = nI (360 * y) := by rw [Nat.mul_comm]; exact nI_mul y 360
  have e2 : (360 : Int32) * nI y = nI (360 * y) := nI_mul 360 y
  have RR := R.2.2.1.1 l (by omega)
  have g7 : A 41 (13 * l + 7) = A 15 l := RR.2.2.2.2.2.1
  obtain ⟨e, he, ee⟩ := RR.2.2.2.2.2.2.2.2.2
  have ex : (13 : Int32) * nI l + 7 = nI (13 * l + 7) := e13 l 7
  have im : ¬ ((13 : Int32) * nI l + 7 < 0 ∨ 258 ≤ ((13 : Int32) * nI l + 7).toNatClampNeg) := by rw [ex]; exact nI_inb (by omega) (by omega)
  have cm : A 41 ((13 : Int32) * nI l + 7).toNatClampNeg = A 15 l := by rw [ex, nI_clamp (by omega)]; exact g7
  have ib : ¬ (nI l < 0 ∨ 6 ≤ (nI l).toNatClampNeg) := nI_inb (by omega) (by omega)
  obtain ⟨v, i1, i2⟩ := entered_lp (L := L) (xs := xs) (V := V) (K := K) (T := T) (nI l) a3 (A 15 l) (nI_neg1 (by omega)) (fun h => by rw [ee] at h ⊢; have := (nI_leI (a := e) (b := 0) (by omega) (by omega)).mp h; rw [show e = 0 by omega]; rfl) y (by omega) R.1.1 360 (360 * y) 0 (-2) (by omega)
  refine ⟨v, A, V, K, T, A, V, sg_L_entered_0 ?_, sg_M_entered_0 ?_, R⟩
  · (try simp only [lgl, lgg]); (repeat first | refine iteP (by first | assumption) ?_ | refine iteN (by first | assumption) ?_)
    refine ⟨ib, ?_⟩
    rw [e1, nI_clamp (by omega)]
    exact i1
  · (try simp only [lgl, lgg]); (repeat first | refine iteP (by first | assumption) ?_ | refine iteN (by first | assumption) ?_)
    refine ⟨im, ?_⟩
    rw [e2, cm]
    exact i2
end
