def setD (D : Nat → Nat → Nat) (l y n : Nat) : Nat → Nat → Nat := fun a b => if a = l ∧ b = y then n else D a b
theorem setD_id (D : Nat → Nat → Nat) (l y : Nat) : setD D l y (D l y) = D := by
  funext a b
  unfold setD
  split
  · rename_i h; rw [h.1, h.2]
  · rfl
theorem upd_upd (f : Nat → Int32) (i : Nat) (x y : Int32) : upd (upd f i x) i y = upd f i y := by
  funext j
  unfold upd
  by_cases h : j = i
  · rw [if_pos h, if_pos h]
  · rw [if_neg h, if_neg h, if_neg h]
theorem updat (f : Nat → Int32) (i : Nat) (x : Int32) : upd f i x i = x := by unfold upd; rw [if_pos rfl]
theorem nI_addneg (a b : Nat) : nI (a + b) + -nI b = nI a := by rw [← nI_add, Int32.add_assoc, Int32.add_right_neg, Int32.add_zero]
theorem JCd_set {A : Nat → Nat → Int32} {D H C : Nat → Nat → Nat} (J : JCd A D H C) (l y n : Nat) (hn : n ≤ 1500) (hy : y < 3) : JCd (upA A 27 (upd (A 27) (l * 3 + y) (nI n))) (setD D l y n) H C := by
  intro a b ha hb
  obtain ⟨h1, h2, h3, h4, h5, h6⟩ := J a b ha hb
  have e : upA A 27 (upd (A 27) (l * 3 + y) (nI n)) 27 = upd (A 27) (l * 3 + y) (nI n) := rfl
  rw [e]
  unfold upd setD
  by_cases c : a = l ∧ b = y
  · rw [if_pos (by omega), if_pos c]
    exact ⟨rfl, h2, h3, hn, h5, h6⟩
  · rw [if_neg (by omega), if_neg c]
    exact ⟨h1, h2, h3, h4, h5, h6⟩
theorem JMd_set {A : Nat → Nat → Int32} {D H C : Nat → Nat → Nat} (J : JMd A D H C) (l y n : Nat) (hn : n ≤ 1500) (hl : l < 6) (hy : y < 3) : JMd (upA A 47 (upd (A 47) (18 * 0 + 3 * l + y) (nI n))) (setD D l y n) H C := by
  intro a b ha hb
  obtain ⟨h1, h2, h3, h4, h5, h6⟩ := J a b ha hb
  have e : upA A 47 (upd (A 47) (18 * 0 + 3 * l + y) (nI n)) 47 = upd (A 47) (18 * 0 + 3 * l + y) (nI n) := rfl
  rw [e]
  unfold upd setD
  rw [if_neg (by omega : ¬ 18 * 1 + 3 * a + b = 18 * 0 + 3 * l + y), if_neg (by omega : ¬ 18 * 2 + 3 * a + b = 18 * 0 + 3 * l + y)]
  by_cases c : a = l ∧ b = y
  · rw [if_pos (by omega), if_pos c]
    exact ⟨rfl, h2, h3, hn, h5, h6⟩
  · rw [if_neg (by omega), if_neg c]
    exact ⟨h1, h2, h3, h4, h5, h6⟩
/-- with m days more the land claims -/
abbrev ndp (D H ru : Nat → Nat → Nat) (l y m : Nat) : Prop := clm (setD D l y (D l y + m)) H ru y l
def nd (D H ru : Nat → Nat → Nat) (l y : Nat) : Option Nat := srch (ndp D H ru l y) (361 - D l y) 0
section
variable {L : Nat} {xs : Nat → Int32} {A V : Nat → Nat → Int32} {K : Nat → Option Nat} {T : am_H} {D H C ru : Nat → Nat → Nat} {na : Nat → Nat} {rn : Nat → Nat → Nat} {rl : Nat → Nat → Nat → Nat}

theorem J_nd_lp (J : JCd A D H C) (R : JCr A V ru na rn rl) (l y : Nat) (hl : l < 6) (hy : y < 3) (hD : D l y ≤ 360) : ∀ r m (x : Int32), m + r = 361 - D l y → am_fin [(z_J_needOf, 21, [.ref 26, .int (nI l), .int (nI y), .int (nI (l * 3 + y)), .int (nI (D l y)), .int (-2), .int (nI m)], [])] (hp L xs (upA A 27 (upd (A 27) (l * 3 + y) x)) V K T) (some (onat (-2) (srch (ndp D H ru l y) r m))) (hp L xs A V K T) := by
  have e0 := (J l y hl hy).1
  have ob : ¬ (nI (l * 3 + y) < 0 ∨ 18 ≤ (nI (l * 3 + y)).toNatClampNeg) := nI_inb (by omega) (by omega)
  have es : (360 : Int32) - nI (D l y) = nI (360 - D l y) := by rw [l_360, nI_sub hD]
  have back : ∀ x : Int32, hp L xs A V K T = hp L xs (upA (upA A 27 (upd (A 27) (l * 3 + y) x)) 27 (upd (upA A 27 (upd (A 27) (l * 3 + y) x) 27) (nI (l * 3 + y)).toNatClampNeg (nI (D l y)))) V K T := by
    intro x
    rw [nI_clamp (by omega), upA_same, upA_upA, upd_upd, ← e0, upd_id, upA_self]
  intro r
  induction r with
  | zero =>
    intro m x h
    exact sg_J_needOf_21 (iteP (by rw [es, nI_ltI (by omega) (by omega)]; omega) ⟨ob, rfl, back x⟩)
  | succ r ih =>
    intro m x h
    refine sg_J_needOf_21 (iteN (by rw [es, nI_ltI (by omega) (by omega)]; omega) (iteP rfl ⟨ob, ?_⟩))
    rw [nI_clamp (by omega), upA_same, upA_upA, upd_upd, nI_add]
    have J2 := JCd_set J l y (D l y + m) (by omega) hy
    refine am_fin.call (J_isClaiming_c J2 R l y hl hy) (sg_J_needOf_56r ?_)
    rw [nI_1]
    by_cases q : ndp D H ru l y m
    · rw [srch_t q]
      refine iteN (mt b2_z.mp (fun z => z q)) ?_
      refine sg_J_needOf_21 ?_
      have fin := And.intro ob (And.intro (rfl : some (onat (-2) (some m)) = some (nI m)) (back (nI (D l y + m))))
      by_cases c : (360 : Int32) - nI (D l y) < nI (m + 1)
      · exact iteP c fin
      · exact iteN c (iteN (nI_neg2 (by omega)) fin)
    · rw [srch_f q]
      exact iteP (b2_z.mpr q) (ih (m + 1) _ (by omega))
theorem J_needOf_c (J : JCd A D H C) (R : JCr A V ru na rn rl) (l y : Nat) (hl : l < 6) (hy : y < 3) (hD : D l y ≤ 360) : am_fin [(z_J_needOf, 0, [.ref 26, .int (nI l), .int (nI y), .null, .null, .null, .null], [])] (hp L xs A V K T) (some (onat (-2) (nd D H ru l y))) (hp L xs A V K T) := by
  have e0 := (J l y hl hy).1
  have i0 : nI l * 3 + nI y = nI (l * 3 + y) := by rw [l_3, nI_mul, nI_add]
  have k := J_nd_lp (L := L) (xs := xs) (K := K) (T := T) J R l y hl hy hD (361 - D l y) 0 (A 27 (l * 3 + y)) (by omega)
  rw [upd_id, upA_self] at k
  refine sg_J_needOf_0 ?_
  rw [i0]
  refine ⟨nI_inb (by omega) (by omega), ?_⟩
  rw [nI_clamp (by omega), e0]
  exact k
theorem M_nd_end (J : JMd A D H C) (l y m : Nat) (hl : l < 6) (hy : y < 3) (q : Prop) [Decidable q] {z : Option Nat} (hz : z = if q then some m else none) : am_fin [(z_M_needs, 52, [.ref 36, .int (nI l), .int (nI y), .int (nI (D l y)), .int (nI m), .null], [.int (b2 q)])] (hp L xs (upA A 47 (upd (A 47) (18 * 0 + 3 * l + y) (nI (D l y + m)))) V K T) (some (onat (-2) z)) (hp L xs A V K T) := by
  have e0 := (J l y hl hy).1
  have i0 : (18 : Int32) * 0 + 3 * nI l + nI y = nI (18 * 0 + 3 * l + y) := by rw [l_18, l_0, l_3, nI_mul, nI_mul, nI_add, nI_add]
  refine sg_M_needs_52r (iteN (nI_neg1 (by omega)) ?_)
  rw [i0]
  have ob : ¬ (nI (18 * 0 + 3 * l + y) < 0 ∨ 54 ≤ (nI (18 * 0 + 3 * l + y)).toNatClampNeg) := nI_inb (by omega) (by omega)
  refine ⟨ob, ob, ?_⟩
  rw [nI_clamp (by omega), upA_same, upA_upA, upd_upd, updat, nI_addneg, ← e0, upd_id, upA_self]
  by_cases c : q
  · rw [hz, if_pos c]; exact iteN (mt b2_z.mp (fun z => z c)) ⟨rfl, rfl⟩
  · rw [hz, if_neg c]; exact iteP (b2_z.mpr c) ⟨rfl, rfl⟩
theorem M_nd_lp (J : JMd A D H C) (R : JMr A ru na rn rl) (l y : Nat) (hl : l < 6) (hy : y < 3) (hD : D l y ≤ 360) : ∀ r m, m + r = 360 - D l y → am_fin [(z_M_needs, 11, [.ref 36, .int (nI l), .int (nI y), .int (nI (D l y)), .int (nI m), .null], [])] (hp L xs (upA A 47 (upd (A 47) (18 * 0 + 3 * l + y) (nI (D l y + m)))) V K T) (some (onat (-2) (srch (ndp D H ru l y) (r + 1) m))) (hp L xs A V K T) := by
  have i0 : (18 : Int32) * 0 + 3 * nI l + nI y = nI (18 * 0 + 3 * l + y) := by rw [l_18, l_0, l_3, nI_mul, nI_mul, nI_add, nI_add]
  have ob : ¬ (nI (18 * 0 + 3 * l + y) < 0 ∨ 54 ≤ (nI (18 * 0 + 3 * l + y)).toNatClampNeg) := nI_inb (by omega) (by omega)
  intro r
  induction r with
  | zero =>
    intro m h
    have J2 := JMd_set J l y (D l y + m) (by omega) hl hy
    refine sg_M_needs_11 (iteP (by rw [l_360, nI_add, nI_leI (by omega) (by omega)]; omega) (am_fin.call (M_isClaimed_c J2 R l y hl hy) (M_nd_end J l y m hl hy _ rfl)))
  | succ r ih =>
    intro m h
    have J2 := JMd_set J l y (D l y + m) (by omega) hl hy
    refine sg_M_needs_11 (iteN (by rw [l_360, nI_add, nI_leI (by omega) (by omega)]; omega) (am_fin.call (M_isClaimed_c J2 R l y hl hy) (sg_M_needs_27r ?_)))
    by_cases q : ndp D H ru l y m
    · rw [srch_t q]
      exact iteN (mt b2_z.mp (fun z => z q)) (am_fin.call (M_isClaimed_c J2 R l y hl hy) (M_nd_end J l y m hl hy _ (by rw [if_pos q])))
    · rw [srch_f q]
      refine iteP (b2_z.mpr q) (iteN (nI_neg1 (by omega)) ?_)
      rw [i0]
      refine ⟨ob, ob, ?_⟩
      rw [nI_clamp (by omega), upA_same, upA_upA, upd_upd, updat, nI_1, nI_1]
      exact ih (m + 1) (by omega)
theorem M_needs_c (J : JMd A D H C) (R : JMr A ru na rn rl) (l y : Nat) (hl : l < 6) (hy : y < 3) (hD : D l y ≤ 360) : am_fin [(z_M_needs, 0, [.ref 36, .int (nI l), .int (nI y), .null, .null, .null], [])] (hp L xs A V K T) (some (onat (-2) (nd D H ru l y))) (hp L xs A V K T) := by
  have e0 := (J l y hl hy).1
  have i0 : (18 : Int32) * 0 + 3 * nI l + nI y = nI (18 * 0 + 3 * l + y) := by rw [l_18, l_0, l_3, nI_mul, nI_mul, nI_add, nI_add]
  have k := M_nd_lp (L := L) (xs := xs) (V := V) (K := K) (T := T) J R l y hl hy hD (360 - D l y) 0 (by omega)
  rw [Nat.add_zero, ← e0, upd_id, upA_self, e0, show 360 - D l y + 1 = 361 - D l y by omega] at k
  refine sg_M_needs_0 ?_
  rw [i0]
  refine ⟨nI_inb (by omega) (by omega), ?_⟩
  rw [nI_clamp (by omega), e0]
  exact k
end
section
variable {L : Nat} {xs : Nat → Int32} {A V : Nat → Nat → Int32} {K : Nat → Option Nat} {T : am_H}
theorem nD_le (f : Nat → Int32) (l y : Nat) : nD f l y ≤ 360 := cn_le _ _ _
theorem pr_need (a1 a2 : Int32) (R : RI A V K T) : PRQ z_L_need z_M_need [.ref 1, .int a1, .int a2] [.ref 36, .int a1, .int a2] L xs A V K T := by
  by_cases c1 : a1 < 0
  · refine ⟨(-1), A, V, K, T, A, V, sg_L_need_0 ?_, sg_M_need_0 ?_, R⟩
    · (try simp only [lgl, lgg]); (repeat first | refine iteP (by first | assumption) ?_ | refine iteN (by first | assumption) ?_); (constructor <;> first | rfl | trivial)
    · (try simp only [lgl, lgg]); (repeat first | refine iteP (by first | assumption) ?_ | refine iteN (by first | assumption) ?_); (constructor <;> first | rfl | trivial)
  by_cases c2 : (5 : Int32) < a1
  · refine ⟨(-1), A, V, K, T, A, V, sg_L_need_0 ?_, sg_M_need_0 ?_, R⟩
    · (try simp only [lgl, lgg]); (repeat first | refine iteP (by first | assumption) ?_ | refine iteN (by first | assumption) ?_); (constructor <;> first | rfl | trivial)
    · (try simp only [lgl, lgg]); (repeat first | refine iteP (by first | assumption) ?_ | refine iteN (by first | assumption) ?_); (constructor <;> first | rfl | trivial)
  by_cases c3 : a2 < 0
  · refine ⟨(-1), A, V, K, T, A, V, sg_L_need_0 ?_, sg_M_need_0 ?_, R⟩
    · (try simp only [lgl, lgg]); (repeat first | refine iteP (by first | assumption) ?_ | refine iteN (by first | assumption) ?_); (constructor <;> first | rfl | trivial)
    · (try simp only [lgl, lgg]); (repeat first | refine iteP (by first | assumption) ?_ | refine iteN (by first | assumption) ?_); (constructor <;> first | rfl | trivial)
  by_cases c4 : (2 : Int32) < a2
  · refine ⟨(-1), A, V, K, T, A, V, sg_L_need_0 ?_, sg_M_need_0 ?_, R⟩
    · (try simp only [lgl, lgg]); (repeat first | refine iteP (by first | assumption) ?_ | refine iteN (by first | assumption) ?_); (constructor <;> first | rfl | trivial)
    · (try simp only [lgl, lgg]); (repeat first | refine iteP (by first | assumption) ?_ | refine iteN (by first | assumption) ?_); (constructor <;> first | rfl | trivial)
  obtain ⟨l, hl, rfl⟩ := i32_nat (m := 5) (by omega) c1 c2
  obtain ⟨y, hy, rfl⟩ := i32_nat (m := 2) (by omega) c3 c4
  obtain ⟨gc, gh, gd, gm, j1, j2, j3, m1, m2, m3, RR⟩ := weighed (L := L) (xs := xs) R
  refine ⟨onat (-2) (nd (nD (A 4)) (nH (A 9)) (ruA A) l y), upA (upA (upA A 29 gc) 28 gh) 27 gd, V, K, T, upA (upA (upA (upA A 29 gc) 28 gh) 27 gd) 47 gm, V, sg_L_need_0 ?_, sg_M_need_0 ?_, RR⟩
  · (try simp only [lgl, lgg]); (repeat first | refine iteP (by first | assumption) ?_ | refine iteN (by first | assumption) ?_)
    exact am_fin.call j3 (sg_L_need_30r (am_fin.call (J_needOf_c j1 j2 l y (by omega) (by omega) (nD_le _ _ _)) (sg_L_need_39r ⟨(by first | rfl | trivial), (by first | rfl | trivial)⟩)))
  · (try simp only [lgl, lgg]); (repeat first | refine iteP (by first | assumption) ?_ | refine iteN (by first | assumption) ?_)
    exact am_fin.call m3 (sg_M_need_20r (am_fin.call (M_needs_c m1 m2 l y (by omega) (by omega) (nD_le _ _ _)) (sg_M_need_26r ⟨(by first | rfl | trivial), (by first | rfl | trivial)⟩)))
end
