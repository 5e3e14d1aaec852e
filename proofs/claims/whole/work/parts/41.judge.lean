section
variable {L : Nat} {xs : Nat → Int32} {A V : Nat → Nat → Int32} {K : Nat → Option Nat} {T : am_H} {D H C ru : Nat → Nat → Nat} {na : Nat → Nat} {rn : Nat → Nat → Nat} {rl : Nat → Nat → Nat → Nat}

theorem tl_ne {a b : Nat} (ha : a < 6) (hb : b < 6) (y c : Nat) : tl D H C na y c a b = -1 ↔ lv D H C na y c a = lv D H C na y c b := by
  unfold tl
  constructor
  · intro h
    by_cases z : lv D H C na y c b < lv D H C na y c a
    · rw [if_pos z] at h; exact absurd h (nI_neg1 (by omega))
    · rw [if_neg z] at h
      by_cases z2 : lv D H C na y c a < lv D H C na y c b
      · rw [if_pos z2] at h; exact absurd h (nI_neg1 (by omega))
      · omega
  · intro h
    rw [if_neg (by omega), if_neg (by omega)]
theorem M_lb_lp0 (J : JMd A D H C) (R : JMr A ru na rn rl) (a b y : Nat) (ha : a < 6) (hb : b < 6) (hab : a ≠ b) (hy : y < 3) (u : Int32) (hl : ∀ k, k < rn a b → A 41 (13 * a + (9 + k)) = nI (rl a b k)) : ∀ r k, k + r = rn a b → am_fin [(z_M_letterBy, 53, [.ref 36, .int (nI a), .int (nI b), .int (nI y), .int u, .int 0, .int (nI (rn a b)), .int (nI k)], [])] (hp L xs A V K T) (some (onat (-1) (srch (tlp D H C na rl y a b) r k))) (hp L xs A V K T) := by
  obtain ⟨q1, q2, -⟩ := R.2.2 a b ha hb hab
  intro r
  induction r with
  | zero =>
    intro k hk
    exact sg_M_letterBy_53 (iteP (by rw [nI_leI (by omega) (by omega)]; omega) ⟨rfl, rfl⟩)
  | succ r ih =>
    intro k hk
    have i0 : (13 : Int32) * nI a + (9 + nI k) = nI (13 * a + (9 + k)) := by rw [l_13, l_9, nI_mul, nI_add, nI_add]
    refine sg_M_letterBy_53 (iteN (by rw [nI_leI (by omega) (by omega)]; omega) (iteP rfl ⟨by rw [i0]; exact nI_inb (by omega) (by omega), ?_⟩))
    rw [i0, nI_clamp (by omega), hl k (by omega)]
    refine am_fin.call (M_tells_c J R (rl a b k) a b y (q2 k (by omega)) ha hb hy) (sg_M_letterBy_97r ?_)
    by_cases t : tlp D H C na rl y a b k
    · rw [srch_t t]
      exact iteN (mt (tl_ne ha hb y _).mp t) ⟨rfl, rfl⟩
    · rw [srch_f t, l_1, nI_add]
      exact iteP ((tl_ne ha hb y _).mpr (Decidable.not_not.mp t)) (ih (k + 1) (by omega))
theorem M_lb_lp1 (J : JMd A D H C) (R : JMr A ru na rn rl) (a b y : Nat) (ha : a < 6) (hb : b < 6) (hab : a ≠ b) (hy : y < 3) (p : Nat) (hp1 : p < 253) (hl : ∀ k, k < rn a b → A 41 (p + 1 + k) = nI (rl a b k)) : ∀ r k, k + r = rn a b → am_fin [(z_M_letterBy, 53, [.ref 36, .int (nI a), .int (nI b), .int (nI y), .int (nI p), .int 1, .int (nI (rn a b)), .int (nI k)], [])] (hp L xs A V K T) (some (onat (-1) (srch (tlp D H C na rl y a b) r k))) (hp L xs A V K T) := by
  obtain ⟨q1, q2, -⟩ := R.2.2 a b ha hb hab
  intro r
  induction r with
  | zero =>
    intro k hk
    exact sg_M_letterBy_53 (iteP (by rw [nI_leI (by omega) (by omega)]; omega) ⟨rfl, rfl⟩)
  | succ r ih =>
    intro k hk
    have i0 : nI p + 1 + nI k = nI (p + 1 + k) := by rw [l_1, nI_add, nI_add]
    refine sg_M_letterBy_53 (iteN (by rw [nI_leI (by omega) (by omega)]; omega) (iteN (by decide) ⟨by rw [i0]; exact nI_inb (by omega) (by omega), ?_⟩))
    rw [i0, nI_clamp (by omega), hl k (by omega)]
    refine am_fin.call (M_tells_c J R (rl a b k) a b y (q2 k (by omega)) ha hb hy) (sg_M_letterBy_97r ?_)
    by_cases t : tlp D H C na rl y a b k
    · rw [srch_t t]
      exact iteN (mt (tl_ne ha hb y _).mp t) ⟨rfl, rfl⟩
    · rw [srch_f t, l_1, nI_add]
      exact iteP ((tl_ne ha hb y _).mpr (Decidable.not_not.mp t)) (ih (k + 1) (by omega))
theorem M_letterBy_c (J : JMd A D H C) (R : JMr A ru na rn rl) (a b y : Nat) (ha : a < 6) (hb : b < 6) (hab : a ≠ b) (hy : y < 3) : am_fin [(z_M_letterBy, 0, [.ref 36, .int (nI a), .int (nI b), .int (nI y), .null, .null, .null, .null], [])] (hp L xs A V K T) (some (onat (-1) (tp D H C na rn rl y a b))) (hp L xs A V K T) := by
  obtain ⟨q1, q2, q3⟩ := R.2.2 a b ha hb hab
  have hp0 : ∃ p, p = 78 + 5 * (6 * min a b + max a b) := ⟨_, rfl⟩
  obtain ⟨p, hp0⟩ := hp0
  rw [← hp0] at q3
  have hp1 : p < 253 := by omega
  have op : ¬ (nI p < 0 ∨ 258 ≤ (nI p).toNatClampNeg) := nI_inb (by omega) (by omega)
  have i8 : (13 : Int32) * nI a + 8 = nI (13 * a + 8) := by rw [l_13, l_8, nI_mul, nI_add]
  have o8 : ¬ ((13 : Int32) * nI a + 8 < 0 ∨ 258 ≤ ((13 : Int32) * nI a + 8).toNatClampNeg) := by rw [i8]; exact nI_inb (by omega) (by omega)
  refine sg_M_letterBy_0 ?_
  by_cases o : b < a
  · have e1 : min a b = b := by omega
    have e2 : max a b = a := by omega
    refine iteP ((nI_leI (by omega) (by omega)).mpr (by omega)) (iteN (mt (nI_leI (by omega) (by omega)).mp (by omega)) ?_)
    have ip : (78 : Int32) + 5 * (6 * nI b + nI a) = nI p := by rw [hp0, l_78, l_5, l_6, nI_mul, nI_add, nI_mul, nI_add, e1, e2]
    rw [ip]
    refine ⟨op, ?_⟩
    rw [nI_clamp (by omega)]
    rcases q3 with ⟨z1, z2, z3⟩ | ⟨z1, z3⟩
    · rw [z1]
      refine iteP (by decide) ⟨o8, ?_⟩
      rw [i8, nI_clamp (by omega), z2]
      exact M_lb_lp0 J R a b y ha hb hab hy _ z3 (rn a b) 0 (by omega)
    · rw [z1]
      refine iteN (by rw [l_0, nI_leI (by omega) (by omega)]; omega) ⟨fun h => h.elim (nI_lt0 (by omega)) (fun h => by omega), ?_⟩
      rw [nI_m1 (by omega), Nat.add_sub_cancel]
      exact M_lb_lp1 J R a b y ha hb hab hy p hp1 z3 (rn a b) 0 (by omega)
  · have e1 : min a b = a := by omega
    have e2 : max a b = b := by omega
    refine iteN (mt (nI_leI (by omega) (by omega)).mp (by omega)) (iteP ((nI_leI (by omega) (by omega)).mpr (by omega)) ?_)
    have ip : (78 : Int32) + 5 * (6 * nI a + nI b) = nI p := by rw [hp0, l_78, l_5, l_6, nI_mul, nI_add, nI_mul, nI_add, e1, e2]
    rw [ip]
    refine ⟨op, ?_⟩
    rw [nI_clamp (by omega)]
    rcases q3 with ⟨z1, z2, z3⟩ | ⟨z1, z3⟩
    · rw [z1]
      refine iteP (by decide) ⟨o8, ?_⟩
      rw [i8, nI_clamp (by omega), z2]
      exact M_lb_lp0 J R a b y ha hb hab hy _ z3 (rn a b) 0 (by omega)
    · rw [z1]
      refine iteN (by rw [l_0, nI_leI (by omega) (by omega)]; omega) ⟨fun h => h.elim (nI_lt0 (by omega)) (fun h => by omega), ?_⟩
      rw [nI_m1 (by omega), Nat.add_sub_cancel]
      exact M_lb_lp1 J R a b y ha hb hab hy p hp1 z3 (rn a b) 0 (by omega)
theorem M_answer_c (J : JMd A D H C) (R : JMr A ru na rn rl) (a b y : Nat) (ha : a < 6) (hb : b < 6) (hab : a ≠ b) (hy : y < 3) : am_fin [(z_M_answer, 0, [.ref 36, .int (nI a), .int (nI b), .int (nI y), .null, .null], [])] (hp L xs A V K T) (some (ans D H C na rn rl y a b)) (hp L xs A V K T) := by
  refine sg_M_answer_0 (am_fin.call (M_letterBy_c J R a b y ha hb hab hy) (sg_M_answer_7r ?_))
  obtain ⟨q1, q2, q3⟩ := R.2.2 a b ha hb hab
  have hp0 : ∃ p, p = 78 + 5 * (6 * min a b + max a b) := ⟨_, rfl⟩
  obtain ⟨p, hp0⟩ := hp0
  rw [← hp0] at q3
  have hp1 : p < 253 := by omega
  have op : ¬ (nI p < 0 ∨ 258 ≤ (nI p).toNatClampNeg) := nI_inb (by omega) (by omega)
  unfold ans
  cases ht : tp D H C na rn rl y a b with
  | none =>
    by_cases o : b < a
    · exact iteP ((nI_leI (by omega) (by omega)).mpr (by omega)) (iteN (mt (nI_leI (by omega) (by omega)).mp (by omega)) (iteP rfl ⟨rfl, rfl⟩))
    · exact iteN (mt (nI_leI (by omega) (by omega)).mp (by omega)) (iteP ((nI_leI (by omega) (by omega)).mpr (by omega)) (iteP rfl ⟨rfl, rfl⟩))
  | some k =>
    obtain ⟨-, k1, k2⟩ := srch_in _ _ _ _ ht
    have k1 : k < rn a b := by omega
    have nk : ¬ onat (-1) (some k) = -1 := nI_neg1 (a := k) (by omega)
    have et : tl D H C na y (rl a b k) a b = wn D H C na rl y a b (some k) := by
      unfold tl wn
      dsimp only
      by_cases z : lv D H C na y (rl a b k) b < lv D H C na y (rl a b k) a
      · rw [if_pos z, if_pos z]
      · rw [if_neg z, if_neg z, if_pos (Nat.lt_of_le_of_ne (by omega) k2)]
    have i0 : (13 : Int32) * nI a + (9 + onat (-1) (some k)) = nI (13 * a + (9 + k)) := by unfold onat; rw [l_13, l_9, nI_mul, nI_add, nI_add]
    have i1 : nI p + 1 + onat (-1) (some k) = nI (p + 1 + k) := by unfold onat; rw [l_1, nI_add, nI_add]
    have tt := M_tells_c (L := L) (xs := xs) (V := V) (K := K) (T := T) J R (rl a b k) a b y (q2 k k1) ha hb hy
    rw [et] at tt
    by_cases o : b < a
    · have e1 : min a b = b := by omega
      have e2 : max a b = a := by omega
      refine iteP ((nI_leI (by omega) (by omega)).mpr (by omega)) (iteN (mt (nI_leI (by omega) (by omega)).mp (by omega)) (iteN nk ?_))
      have ip : (78 : Int32) + 5 * (6 * nI b + nI a) = nI p := by rw [hp0, l_78, l_5, l_6, nI_mul, nI_add, nI_mul, nI_add, e1, e2]
      rw [ip]
      refine ⟨op, ?_⟩
      rw [nI_clamp (by omega)]
      rcases q3 with ⟨z1, z2, z3⟩ | ⟨z1, z3⟩
      · rw [z1]
        refine iteP (by decide) ⟨by rw [i0]; exact nI_inb (by omega) (by omega), ?_⟩
        rw [i0, nI_clamp (by omega), z3 k k1]
        exact am_fin.call tt (sg_M_answer_69r ⟨rfl, rfl⟩)
      · rw [z1]
        refine iteN (by rw [l_0, nI_leI (by omega) (by omega)]; omega) ⟨by rw [i1]; exact nI_inb (by omega) (by omega), ?_⟩
        rw [i1, nI_clamp (by omega), z3 k k1]
        exact am_fin.call tt (sg_M_answer_69r ⟨rfl, rfl⟩)
    · have e1 : min a b = a := by omega
      have e2 : max a b = b := by omega
      refine iteN (mt (nI_leI (by omega) (by omega)).mp (by omega)) (iteP ((nI_leI (by omega) (by omega)).mpr (by omega)) (iteN nk ?_))
      have ip : (78 : Int32) + 5 * (6 * nI a + nI b) = nI p := by rw [hp0, l_78, l_5, l_6, nI_mul, nI_add, nI_mul, nI_add, e1, e2]
      rw [ip]
      refine ⟨op, ?_⟩
      rw [nI_clamp (by omega)]
      rcases q3 with ⟨z1, z2, z3⟩ | ⟨z1, z3⟩
      · rw [z1]
        refine iteP (by decide) ⟨by rw [i0]; exact nI_inb (by omega) (by omega), ?_⟩
        rw [i0, nI_clamp (by omega), z3 k k1]
        exact am_fin.call tt (sg_M_answer_69r ⟨rfl, rfl⟩)
      · rw [z1]
        refine iteN (by rw [l_0, nI_leI (by omega) (by omega)]; omega) ⟨by rw [i1]; exact nI_inb (by omega) (by omega), ?_⟩
        rw [i1, nI_clamp (by omega), z3 k k1]
        exact am_fin.call tt (sg_M_answer_69r ⟨rfl, rfl⟩)
end
