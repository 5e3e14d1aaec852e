theorem dif_z {p q : Nat} (hp : p ≤ 1500) (hq : q ≤ 1500) : nI p - nI q = 0 ↔ p = q := by
  rw [← nI_eq (by omega) (by omega)]
  constructor
  · intro h
    have := congrArg (· + nI q) h
    simp only [Int32.sub_add_cancel, Int32.zero_add] at this
    exact this
  · intro h; rw [h, Int32.sub_self]
theorem dif_toInt {p q : Nat} (hp : p ≤ 1500) (hq : q ≤ 1500) : (nI p - nI q).toInt = (p : Int) - q := by
  rw [Int32.toInt_sub, nI_toInt (by omega), nI_toInt (by omega), Int.bmod_eq_of_le (by omega) (by omega)]
theorem dif_le {p q : Nat} (hp : p ≤ 1500) (hq : q ≤ 1500) : nI p - nI q ≤ 0 ↔ p ≤ q := by
  rw [Int32.le_iff_toInt_le, dif_toInt hp hq, Int32.toInt_zero]
  omega
section
variable {L : Nat} {xs : Nat → Int32} {A V : Nat → Nat → Int32} {K : Nat → Option Nat} {T : am_H} {D H C ru : Nat → Nat → Nat} {na : Nat → Nat} {rn : Nat → Nat → Nat} {rl : Nat → Nat → Nat → Nat}

theorem J_tp_lp (J : JCd A D H C) (R : JCr A V ru na rn rl) (a b y : Nat) (ha : a < 6) (hb : b < 6) (hab : a ≠ b) (hy : y < 3) : ∀ r k, k + r = rn a b → am_fin [(z_J_tellingPlace, 14, [.ref 26, .int (nI a), .int (nI b), .int (nI y), .int (jrow A a b), .int (nI k)], [])] (hp L xs A V K T) (some (onat (-2) (srch (tlp D H C na rl y a b) r k))) (hp L xs A V K T) := by
  obtain ⟨q1, q2, q3⟩ := R.2.2 a b ha hb hab
  intro r
  induction r with
  | zero =>
    intro k hk
    refine sg_J_tellingPlace_14 ?_
    rw [show (jrow A a b &&& 7) = nI (rn a b) from q2]
    by_cases z : 4 ≤ k
    · exact iteP (by rw [l_4, nI_leI (by omega) (by omega)]; omega) ⟨rfl, rfl⟩
    · exact iteN (by rw [l_4, nI_leI (by omega) (by omega)]; omega) (iteP (by rw [nI_leI (by omega) (by omega)]; omega) ⟨rfl, rfl⟩)
  | succ r ih =>
    intro k hk
    obtain ⟨w1, w2⟩ := q3 k (by omega)
    refine sg_J_tellingPlace_14 ?_
    rw [show (jrow A a b &&& 7) = nI (rn a b) from q2, show (jrow A a b >>> ((3 + 2 * nI k) &&& 31)) &&& 3 = nI (rl a b k) from w1]
    refine iteN (by rw [l_4, nI_leI (by omega) (by omega)]; omega) (iteN (by rw [nI_leI (by omega) (by omega)]; omega) ?_)
    have l1 := lv_leC J R (rl a b k) a y ha hy
    have l2 := lv_leC J R (rl a b k) b y hb hy
    refine am_fin.call (J_leaning_c J R (rl a b k) a b y w2 ha hb hy) (sg_J_tellingPlace_44r ?_)
    by_cases t : tlp D H C na rl y a b k
    · rw [srch_t t]
      exact iteN (mt (dif_z l1 l2).mp t) ⟨rfl, rfl⟩
    · rw [srch_f t, l_1, nI_add]
      exact iteP ((dif_z l1 l2).mpr (Decidable.not_not.mp t)) (ih (k + 1) (by omega))
theorem J_tellingPlace_c (J : JCd A D H C) (R : JCr A V ru na rn rl) (a b y : Nat) (ha : a < 6) (hb : b < 6) (hab : a ≠ b) (hy : y < 3) : am_fin [(z_J_tellingPlace, 0, [.ref 26, .int (nI a), .int (nI b), .int (nI y), .null, .null], [])] (hp L xs A V K T) (some (onat (-2) (tp D H C na rn rl y a b))) (hp L xs A V K T) := by
  have key := J_tp_lp (L := L) (xs := xs) (K := K) (T := T) J R a b y ha hb hab hy (rn a b) 0 (by omega)
  refine sg_J_tellingPlace_0 ?_
  have i0 : nI a * 6 + nI b = nI (a * 6 + b) := by rw [l_6, nI_mul, nI_add]
  have o0 : ¬ (nI a * 6 + nI b < 0 ∨ 36 ≤ (nI a * 6 + nI b).toNatClampNeg) := by rw [i0]; exact nI_inb (by omega) (by omega)
  refine ⟨o0, ?_⟩
  rw [i0, nI_clamp (by omega), nI_clamp (by omega)]
  by_cases z : A 17 (a * 6 + b) = -1
  · have e : jrow A a b = A 16 a := by unfold jrow; rw [if_pos z]
    refine iteP z ⟨fun h => h.elim (nI_lt0 (by omega)) (fun h => by omega), ?_⟩
    rw [← e]; exact key
  · have e : jrow A a b = A 17 (a * 6 + b) := by unfold jrow; rw [if_neg z]
    refine iteN z ?_
    rw [← e]; exact key
theorem J_ao_lp (J : JCd A D H C) (R : JCr A V ru na rn rl) (a b y : Nat) (ha : a < 6) (hb : b < 6) (hab : a ≠ b) (hy : y < 3) : ∀ r k, k + r = rn a b → am_fin [(z_J_answerOf, 17, [.ref 26, .int (nI a), .int (nI b), .int (nI y), .int (jrow A a b), .int 0, .int (nI k)], [])] (hp L xs A V K T) (some (wn D H C na rl y a b (srch (tlp D H C na rl y a b) r k))) (hp L xs A V K T) := by
  obtain ⟨q1, q2, q3⟩ := R.2.2 a b ha hb hab
  intro r
  induction r with
  | zero =>
    intro k hk
    refine sg_J_answerOf_17 ?_
    rw [show (jrow A a b &&& 7) = nI (rn a b) from q2]
    by_cases z : 4 ≤ k
    · exact iteP (by rw [l_4, nI_leI (by omega) (by omega)]; omega) (iteP rfl ⟨rfl, rfl⟩)
    · exact iteN (by rw [l_4, nI_leI (by omega) (by omega)]; omega) (iteP (by rw [nI_leI (by omega) (by omega)]; omega) (iteP rfl ⟨rfl, rfl⟩))
  | succ r ih =>
    intro k hk
    obtain ⟨w1, w2⟩ := q3 k (by omega)
    refine sg_J_answerOf_17 ?_
    rw [show (jrow A a b &&& 7) = nI (rn a b) from q2, show (jrow A a b >>> ((3 + 2 * nI k) &&& 31)) &&& 3 = nI (rl a b k) from w1]
    refine iteN (by rw [l_4, nI_leI (by omega) (by omega)]; omega) (iteN (by rw [nI_leI (by omega) (by omega)]; omega) (iteP rfl ?_))
    have l1 := lv_leC J R (rl a b k) a y ha hy
    have l2 := lv_leC J R (rl a b k) b y hb hy
    refine am_fin.call (J_leaning_c J R (rl a b k) a b y w2 ha hb hy) (sg_J_answerOf_52r ?_)
    by_cases t : tlp D H C na rl y a b k
    · rw [srch_t t]
      have nz := mt (dif_z l1 l2).mp t
      have e : wn D H C na rl y a b (some k) = if lv D H C na y (rl a b k) b < lv D H C na y (rl a b k) a then nI a else nI b := rfl
      rw [e]
      refine sg_J_answerOf_17 ?_
      by_cases s : lv D H C na y (rl a b k) b < lv D H C na y (rl a b k) a
      · have np := mt (dif_le l1 l2).mp (by omega)
        rw [if_pos s]
        by_cases z : (4 : Int32) ≤ nI k + 1
        · exact iteP z (iteN nz (iteN np ⟨rfl, rfl⟩))
        · refine iteN z ?_
          by_cases z2 : (jrow A a b &&& 7) ≤ nI k + 1
          · exact iteP z2 (iteN nz (iteN np ⟨rfl, rfl⟩))
          · exact iteN z2 (iteN nz (iteN nz (iteN np ⟨rfl, rfl⟩)))
      · have np := (dif_le l1 l2).mpr (by omega)
        rw [if_neg s]
        by_cases z : (4 : Int32) ≤ nI k + 1
        · exact iteP z (iteN nz (iteP np ⟨rfl, rfl⟩))
        · refine iteN z ?_
          by_cases z2 : (jrow A a b &&& 7) ≤ nI k + 1
          · exact iteP z2 (iteN nz (iteP np ⟨rfl, rfl⟩))
          · exact iteN z2 (iteN nz (iteN nz (iteP np ⟨rfl, rfl⟩)))
    · rw [srch_f t, (dif_z l1 l2).mpr (Decidable.not_not.mp t), l_1, nI_add]
      exact ih (k + 1) (by omega)
theorem J_answerOf_c (J : JCd A D H C) (R : JCr A V ru na rn rl) (a b y : Nat) (ha : a < 6) (hb : b < 6) (hab : a ≠ b) (hy : y < 3) : am_fin [(z_J_answerOf, 0, [.ref 26, .int (nI a), .int (nI b), .int (nI y), .null, .null, .null], [])] (hp L xs A V K T) (some (ans D H C na rn rl y a b)) (hp L xs A V K T) := by
  have key := J_ao_lp (L := L) (xs := xs) (K := K) (T := T) J R a b y ha hb hab hy (rn a b) 0 (by omega)
  refine sg_J_answerOf_0 ?_
  have i0 : nI a * 6 + nI b = nI (a * 6 + b) := by rw [l_6, nI_mul, nI_add]
  have o0 : ¬ (nI a * 6 + nI b < 0 ∨ 36 ≤ (nI a * 6 + nI b).toNatClampNeg) := by rw [i0]; exact nI_inb (by omega) (by omega)
  refine ⟨o0, ?_⟩
  rw [i0, nI_clamp (by omega), nI_clamp (by omega)]
  by_cases z : A 17 (a * 6 + b) = -1
  · have e : jrow A a b = A 16 a := by unfold jrow; rw [if_pos z]
    refine iteP z ⟨fun h => h.elim (nI_lt0 (by omega)) (fun h => by omega), ?_⟩
    rw [← e]; exact key
  · have e : jrow A a b = A 17 (a * 6 + b) := by unfold jrow; rw [if_neg z]
    refine iteN z ?_
    rw [← e]; exact key
end
