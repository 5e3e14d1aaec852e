def fw (p : Nat → Prop) [DecidablePred p] : Nat → Nat → Nat
  | 0, d => d
  | r + 1, d => if p d then d else fw p r (d + 1)
def dn (p : Nat → Prop) [DecidablePred p] : Nat → Nat → Nat
  | 0, d => d
  | r + 1, d => if p d then d else dn p r (d - 1)
theorem fw_in (p : Nat → Prop) [DecidablePred p] : ∀ r d, d ≤ fw p r d ∧ fw p r d ≤ d + r
  | 0, d => ⟨Nat.le_refl _, Nat.le_refl _⟩
  | r + 1, d => by
    have := fw_in p r (d + 1)
    unfold fw
    split <;> omega
theorem dn_in (p : Nat → Prop) [DecidablePred p] : ∀ r d, r ≤ d → d - r ≤ dn p r d ∧ dn p r d ≤ d
  | 0, d, _ => ⟨Nat.le_refl _, Nat.le_refl _⟩
  | r + 1, d, h => by
    have := dn_in p r (d - 1) (by omega)
    unfold dn
    split <;> omega
/-- one is there, or has a home there -/
abbrev bnd (f h : Nat → Int32) (l d : Nat) : Prop := f d = nI l ∨ hbit (h d) (nI l)
def sF (D H ru : Nat → Nat → Nat) (f h : Nat → Int32) (l y : Nat) : Nat := if 0 < y ∧ clm D H ru (y - 1) l then 360 * y else fw (bnd f h l) 359 (360 * y)
def sT (D H ru : Nat → Nat → Nat) (f h : Nat → Int32) (l y : Nat) : Nat := if y < 2 ∧ clm D H ru (y + 1) l then 360 * y + 359 else dn (bnd f h l) 359 (360 * y + 359)
theorem sF_t {D H ru : Nat → Nat → Nat} {f h : Nat → Int32} {l y : Nat} (c : 0 < y ∧ clm D H ru (y - 1) l) : sF D H ru f h l y = 360 * y := if_pos c
theorem sF_f {D H ru : Nat → Nat → Nat} {f h : Nat → Int32} {l y : Nat} (c : ¬ (0 < y ∧ clm D H ru (y - 1) l)) : sF D H ru f h l y = fw (bnd f h l) 359 (360 * y) := if_neg c
theorem sT_t {D H ru : Nat → Nat → Nat} {f h : Nat → Int32} {l y : Nat} (c : y < 2 ∧ clm D H ru (y + 1) l) : sT D H ru f h l y = 360 * y + 359 := if_pos c
theorem sT_f {D H ru : Nat → Nat → Nat} {f h : Nat → Int32} {l y : Nat} (c : ¬ (y < 2 ∧ clm D H ru (y + 1) l)) : sT D H ru f h l y = dn (bnd f h l) 359 (360 * y + 359) := if_neg c
theorem sF_in (D H ru : Nat → Nat → Nat) (f h : Nat → Int32) (l y : Nat) : 360 * y ≤ sF D H ru f h l y ∧ sF D H ru f h l y ≤ 360 * y + 359 := by
  have := fw_in (bnd f h l) 359 (360 * y)
  unfold sF
  split <;> omega
theorem sT_in (D H ru : Nat → Nat → Nat) (f h : Nat → Int32) (l y : Nat) : 360 * y ≤ sT D H ru f h l y ∧ sT D H ru f h l y ≤ 360 * y + 359 := by
  have := dn_in (bnd f h l) 359 (360 * y + 359) (by omega)
  unfold sT
  split <;> omega
theorem b2_z {p : Prop} [Decidable p] : b2 p = 0 ↔ ¬ p := by
  unfold b2
  by_cases h : p
  · rw [if_pos h]; exact ⟨fun z => absurd z (by decide), fun z => absurd h z⟩
  · rw [if_neg h]; exact ⟨fun _ => h, fun _ => rfl⟩
theorem nI_am1 {d : Nat} (h : 0 < d) : nI d + (-1) = nI (d - 1) := by
  rw [← nI_m1 h]
  exact (Int32.sub_eq_add_neg ..).symm
section
variable {L : Nat} {xs : Nat → Int32} {A V : Nat → Nat → Int32} {K : Nat → Option Nat} {T : am_H} {D H C ru : Nat → Nat → Nat} {na : Nat → Nat} {rn : Nat → Nat → Nat} {rl : Nat → Nat → Nat → Nat}
theorem J_isBound_3_c (l d : Nat) (hd : d < 1080) : am_fin [(z_J_isBound, 0, [.ref 26, .int (nI l), .int (nI d), .ref 3], [])] (hp L xs A V K T) (some (b2 (bnd (A 4) (A 9) l d))) (hp L xs A V K T) := by
  refine sg_J_isBound_3_0 (am_fin.call (P_landOn_3_c d hd) (sg_J_isBound_3_5r ?_))
  unfold b2
  by_cases c1 : A 4 d = nI l
  · exact iteP c1 ⟨by rw [if_pos (Or.inl c1)], rfl⟩
  · refine iteN c1 ⟨nI_inb (by omega) hd, ?_⟩
    rw [nI_clamp (by omega)]
    by_cases c2 : hbit (A 9 d) (nI l)
    · exact iteP c2 ⟨by rw [if_pos (Or.inr c2)], rfl⟩
    · exact iteN c2 ⟨by rw [if_neg (fun z => z.elim c1 c2)], rfl⟩
theorem J_sF_3_lp (l y : Nat) (hy : y < 3) : ∀ r d, d + r = 360 * y + 359 → am_fin [(z_J_splitFrom, 24, [.ref 26, .int (nI l), .int (nI y), .ref 3, .int (nI d)], [])] (hp L xs A V K T) (some (nI (fw (bnd (A 4) (A 9) l) r d))) (hp L xs A V K T) := by
  have el : nI y * 360 + 360 - 1 = nI (360 * y + 359) := by rw [l_360, nI_mul, nI_add, nI_m1 (by omega)]; congr 1; omega
  intro r
  induction r with
  | zero => intro d h; exact sg_J_splitFrom_3_24 (iteP (by rw [el, nI_leI (by omega) (by omega)]; omega) ⟨rfl, rfl⟩)
  | succ r ih =>
    intro d h
    refine sg_J_splitFrom_3_24 (iteN (by rw [el, nI_leI (by omega) (by omega)]; omega) (am_fin.call (J_isBound_3_c l d (by omega)) (sg_J_splitFrom_3_41r ?_)))
    rw [show fw (bnd (A 4) (A 9) l) (r + 1) d = if bnd (A 4) (A 9) l d then d else fw (bnd (A 4) (A 9) l) r (d + 1) from rfl, nI_1]
    by_cases q : bnd (A 4) (A 9) l d
    · rw [if_pos q]; exact iteN (mt b2_z.mp (fun z => z q)) ⟨rfl, rfl⟩
    · rw [if_neg q]; exact iteP (b2_z.mpr q) (ih (d + 1) (by omega))
theorem J_splitFrom_3_c (J : JCd A D H C) (R : JCr A V ru na rn rl) (l y : Nat) (hl : l < 6) (hy : y < 3) : am_fin [(z_J_splitFrom, 0, [.ref 26, .int (nI l), .int (nI y), .ref 3, .null], [])] (hp L xs A V K T) (some (nI (sF D H ru (A 4) (A 9) l y))) (hp L xs A V K T) := by
  have ef : nI y * 360 = nI (360 * y) := by rw [l_360, nI_mul, Nat.mul_comm]
  have k := J_sF_3_lp (L := L) (xs := xs) (A := A) (V := V) (K := K) (T := T) l y hy 359 (360 * y) (by omega)
  refine sg_J_splitFrom_3_0 ?_
  rw [ef]
  by_cases y0 : y = 0
  · rw [sF_f (fun z => by omega)]
    exact iteP (by rw [l_0, nI_leI (by omega) (by omega)]; omega) k
  · refine iteN (by rw [l_0, nI_leI (by omega) (by omega)]; omega) ?_
    rw [nI_m1 (by omega)]
    refine am_fin.call (J_isClaiming_c J R l (y - 1) hl (by omega)) (sg_J_splitFrom_3_18r ?_)
    by_cases q : clm D H ru (y - 1) l
    · rw [sF_t ⟨by omega, q⟩]; exact iteN (mt b2_z.mp (fun z => z q)) ⟨rfl, rfl⟩
    · rw [sF_f (fun z => q z.2)]; exact iteP (b2_z.mpr q) k
theorem J_sT_3_lp (l y : Nat) (hy : y < 3) : ∀ r d, d = 360 * y + r → r < 360 → am_fin [(z_J_splitTill, 25, [.ref 26, .int (nI l), .int (nI y), .ref 3, .int (nI d)], [])] (hp L xs A V K T) (some (nI (dn (bnd (A 4) (A 9) l) r d))) (hp L xs A V K T) := by
  have ef : nI y * 360 = nI (360 * y) := by rw [l_360, nI_mul, Nat.mul_comm]
  intro r
  induction r with
  | zero => intro d h _; exact sg_J_splitTill_3_25 (iteP (by rw [ef, nI_leI (by omega) (by omega)]; omega) ⟨rfl, rfl⟩)
  | succ r ih =>
    intro d h h2
    refine sg_J_splitTill_3_25 (iteN (by rw [ef, nI_leI (by omega) (by omega)]; omega) (am_fin.call (J_isBound_3_c l d (by omega)) (sg_J_splitTill_3_42r ?_)))
    rw [show dn (bnd (A 4) (A 9) l) (r + 1) d = if bnd (A 4) (A 9) l d then d else dn (bnd (A 4) (A 9) l) r (d - 1) from rfl, nI_am1 (by omega)]
    by_cases q : bnd (A 4) (A 9) l d
    · rw [if_pos q]; exact iteN (mt b2_z.mp (fun z => z q)) ⟨rfl, rfl⟩
    · rw [if_neg q]; exact iteP (b2_z.mpr q) (ih (d - 1) (by omega) (by omega))
theorem J_splitTill_3_c (J : JCd A D H C) (R : JCr A V ru na rn rl) (l y : Nat) (hl : l < 6) (hy : y < 3) : am_fin [(z_J_splitTill, 0, [.ref 26, .int (nI l), .int (nI y), .ref 3, .null], [])] (hp L xs A V K T) (some (nI (sT D H ru (A 4) (A 9) l y))) (hp L xs A V K T) := by
  have el : nI y * 360 + 360 - 1 = nI (360 * y + 359) := by rw [l_360, nI_mul, nI_add, nI_m1 (by omega)]; congr 1; omega
  have k := J_sT_3_lp (L := L) (xs := xs) (A := A) (V := V) (K := K) (T := T) l y hy 359 (360 * y + 359) rfl (by omega)
  refine sg_J_splitTill_3_0 ?_
  rw [el]
  by_cases y0 : 2 ≤ y
  · rw [sT_f (fun z => by omega)]
    exact iteP (by rw [l_2, nI_leI (by omega) (by omega)]; omega) k
  · refine iteN (by rw [l_2, nI_leI (by omega) (by omega)]; omega) ?_
    rw [nI_1]
    refine am_fin.call (J_isClaiming_c J R l (y + 1) hl (by omega)) (sg_J_splitTill_3_19r ?_)
    by_cases q : clm D H ru (y + 1) l
    · rw [sT_t ⟨by omega, q⟩]; exact iteN (mt b2_z.mp (fun z => z q)) ⟨rfl, rfl⟩
    · rw [sT_f (fun z => q z.2)]; exact iteP (b2_z.mpr q) k
theorem J_isBound_34_c (l d : Nat) (hd : d < 1080) : am_fin [(z_J_isBound, 0, [.ref 26, .int (nI l), .int (nI d), .ref 34], [])] (hp L xs A V K T) (some (b2 (bnd (A 35) (A 9) l d))) (hp L xs A V K T) := by
  refine sg_J_isBound_34_0 (am_fin.call (P_landOn_34_c d hd) (sg_J_isBound_34_5r ?_))
  unfold b2
  by_cases c1 : A 35 d = nI l
  · exact iteP c1 ⟨by rw [if_pos (Or.inl c1)], rfl⟩
  · refine iteN c1 ⟨nI_inb (by omega) hd, ?_⟩
    rw [nI_clamp (by omega)]
    by_cases c2 : hbit (A 9 d) (nI l)
    · exact iteP c2 ⟨by rw [if_pos (Or.inr c2)], rfl⟩
    · exact iteN c2 ⟨by rw [if_neg (fun z => z.elim c1 c2)], rfl⟩
theorem J_sF_34_lp (l y : Nat) (hy : y < 3) : ∀ r d, d + r = 360 * y + 359 → am_fin [(z_J_splitFrom, 24, [.ref 26, .int (nI l), .int (nI y), .ref 34, .int (nI d)], [])] (hp L xs A V K T) (some (nI (fw (bnd (A 35) (A 9) l) r d))) (hp L xs A V K T) := by
  have el : nI y * 360 + 360 - 1 = nI (360 * y + 359) := by rw [l_360, nI_mul, nI_add, nI_m1 (by omega)]; congr 1; omega
  intro r
  induction r with
  | zero => intro d h; exact sg_J_splitFrom_34_24 (iteP (by rw [el, nI_leI (by omega) (by omega)]; omega) ⟨rfl, rfl⟩)
  | succ r ih =>
    intro d h
    refine sg_J_splitFrom_34_24 (iteN (by rw [el, nI_leI (by omega) (by omega)]; omega) (am_fin.call (J_isBound_34_c l d (by omega)) (sg_J_splitFrom_34_41r ?_)))
    rw [show fw (bnd (A 35) (A 9) l) (r + 1) d = if bnd (A 35) (A 9) l d then d else fw (bnd (A 35) (A 9) l) r (d + 1) from rfl, nI_1]
    by_cases q : bnd (A 35) (A 9) l d
    · rw [if_pos q]; exact iteN (mt b2_z.mp (fun z => z q)) ⟨rfl, rfl⟩
    · rw [if_neg q]; exact iteP (b2_z.mpr q) (ih (d + 1) (by omega))
theorem J_splitFrom_34_c (J : JCd A D H C) (R : JCr A V ru na rn rl) (l y : Nat) (hl : l < 6) (hy : y < 3) : am_fin [(z_J_splitFrom, 0, [.ref 26, .int (nI l), .int (nI y), .ref 34, .null], [])] (hp L xs A V K T) (some (nI (sF D H ru (A 35) (A 9) l y))) (hp L xs A V K T) := by
  have ef : nI y * 360 = nI (360 * y) := by rw [l_360, nI_mul, Nat.mul_comm]
  have k := J_sF_34_lp (L := L) (xs := xs) (A := A) (V := V) (K := K) (T := T) l y hy 359 (360 * y) (by omega)
  refine sg_J_splitFrom_34_0 ?_
  rw [ef]
  by_cases y0 : y = 0
  · rw [sF_f (fun z => by omega)]
    exact iteP (by rw [l_0, nI_leI (by omega) (by omega)]; omega) k
  · refine iteN (by rw [l_0, nI_leI (by omega) (by omega)]; omega) ?_
    rw [nI_m1 (by omega)]
    refine am_fin.call (J_isClaiming_c J R l (y - 1) hl (by omega)) (sg_J_splitFrom_34_18r ?_)
    by_cases q : clm D H ru (y - 1) l
    · rw [sF_t ⟨by omega, q⟩]; exact iteN (mt b2_z.mp (fun z => z q)) ⟨rfl, rfl⟩
    · rw [sF_f (fun z => q z.2)]; exact iteP (b2_z.mpr q) k
theorem J_sT_34_lp (l y : Nat) (hy : y < 3) : ∀ r d, d = 360 * y + r → r < 360 → am_fin [(z_J_splitTill, 25, [.ref 26, .int (nI l), .int (nI y), .ref 34, .int (nI d)], [])] (hp L xs A V K T) (some (nI (dn (bnd (A 35) (A 9) l) r d))) (hp L xs A V K T) := by
  have ef : nI y * 360 = nI (360 * y) := by rw [l_360, nI_mul, Nat.mul_comm]
  intro r
  induction r with
  | zero => intro d h _; exact sg_J_splitTill_34_25 (iteP (by rw [ef, nI_leI (by omega) (by omega)]; omega) ⟨rfl, rfl⟩)
  | succ r ih =>
    intro d h h2
    refine sg_J_splitTill_34_25 (iteN (by rw [ef, nI_leI (by omega) (by omega)]; omega) (am_fin.call (J_isBound_34_c l d (by omega)) (sg_J_splitTill_34_42r ?_)))
    rw [show dn (bnd (A 35) (A 9) l) (r + 1) d = if bnd (A 35) (A 9) l d then d else dn (bnd (A 35) (A 9) l) r (d - 1) from rfl, nI_am1 (by omega)]
    by_cases q : bnd (A 35) (A 9) l d
    · rw [if_pos q]; exact iteN (mt b2_z.mp (fun z => z q)) ⟨rfl, rfl⟩
    · rw [if_neg q]; exact iteP (b2_z.mpr q) (ih (d - 1) (by omega) (by omega))
theorem J_splitTill_34_c (J : JCd A D H C) (R : JCr A V ru na rn rl) (l y : Nat) (hl : l < 6) (hy : y < 3) : am_fin [(z_J_splitTill, 0, [.ref 26, .int (nI l), .int (nI y), .ref 34, .null], [])] (hp L xs A V K T) (some (nI (sT D H ru (A 35) (A 9) l y))) (hp L xs A V K T) := by
  have el : nI y * 360 + 360 - 1 = nI (360 * y + 359) := by rw [l_360, nI_mul, nI_add, nI_m1 (by omega)]; congr 1; omega
  have k := J_sT_34_lp (L := L) (xs := xs) (A := A) (V := V) (K := K) (T := T) l y hy 359 (360 * y + 359) rfl (by omega)
  refine sg_J_splitTill_34_0 ?_
  rw [el]
  by_cases y0 : 2 ≤ y
  · rw [sT_f (fun z => by omega)]
    exact iteP (by rw [l_2, nI_leI (by omega) (by omega)]; omega) k
  · refine iteN (by rw [l_2, nI_leI (by omega) (by omega)]; omega) ?_
    rw [nI_1]
    refine am_fin.call (J_isClaiming_c J R l (y + 1) hl (by omega)) (sg_J_splitTill_34_19r ?_)
    by_cases q : clm D H ru (y + 1) l
    · rw [sT_t ⟨by omega, q⟩]; exact iteN (mt b2_z.mp (fun z => z q)) ⟨rfl, rfl⟩
    · rw [sT_f (fun z => q z.2)]; exact iteP (b2_z.mpr q) k
theorem M_isTied_c (l d : Nat) (hd : d < 1080) : am_fin [(z_M_isTied, 0, [.ref 36, .int (nI l), .int (nI d)], [])] (hp L xs A V K T) (some (b2 (bnd (A 37) (A 38) l d))) (hp L xs A V K T) := by
  have ib : ¬ (nI d < 0 ∨ 1080 ≤ (nI d).toNatClampNeg) := nI_inb (by omega) hd
  refine sg_M_isTied_0 ⟨ib, ?_⟩
  rw [nI_clamp (by omega)]
  unfold b2
  by_cases c1 : A 37 d = nI l
  · exact iteP c1 ⟨by rw [if_pos (Or.inl c1)], rfl⟩
  · refine iteN c1 ⟨fun h => h.elim (nI_lt0 (by omega)) (fun h => by omega), ?_⟩
    by_cases c2 : hbit (A 38 d) (nI l)
    · exact iteP c2 ⟨by rw [if_pos (Or.inr c2)], rfl⟩
    · exact iteN c2 ⟨by rw [if_neg (fun z => z.elim c1 c2)], rfl⟩
theorem M_isClaimed_n (l : Nat) (y : Int32) (h : y < 0 ∨ 2 < y) : am_fin [(z_M_isClaimed, 0, [.ref 36, .int (nI l), .int y], [])] (hp L xs A V K T) (some 0) (hp L xs A V K T) := by
  refine sg_M_isClaimed_0 ?_
  simp only [lgl, lgg]
  by_cases c : y < 0
  · exact iteP c ⟨by first | rfl | trivial, by first | rfl | trivial⟩
  · exact iteN c (iteP (h.resolve_left c) ⟨by first | rfl | trivial, by first | rfl | trivial⟩)
theorem M_fF_lp (l y : Nat) (hy : y < 3) : ∀ r d, d + r = 360 * y + 359 → am_fin [(z_M_fromOf, 19, [.ref 36, .int (nI l), .int (nI y), .int (nI d)], [])] (hp L xs A V K T) (some (nI (fw (bnd (A 37) (A 38) l) r d))) (hp L xs A V K T) := by
  have el : (360 : Int32) * nI y + 360 - 1 = nI (360 * y + 359) := by rw [l_360, nI_mul, nI_add, nI_m1 (by omega)]; rfl
  intro r
  induction r with
  | zero => intro d h; exact sg_M_fromOf_19 (iteP (by rw [el, nI_leI (by omega) (by omega)]; omega) ⟨rfl, rfl⟩)
  | succ r ih =>
    intro d h
    refine sg_M_fromOf_19 (iteN (by rw [el, nI_leI (by omega) (by omega)]; omega) (am_fin.call (M_isTied_c l d (by omega)) (sg_M_fromOf_40r ?_)))
    rw [show fw (bnd (A 37) (A 38) l) (r + 1) d = if bnd (A 37) (A 38) l d then d else fw (bnd (A 37) (A 38) l) r (d + 1) from rfl, nI_1]
    by_cases q : bnd (A 37) (A 38) l d
    · rw [if_pos q]; exact iteN (mt b2_z.mp (fun z => z q)) ⟨rfl, rfl⟩
    · rw [if_neg q]; exact iteP (b2_z.mpr q) (ih (d + 1) (by omega))
theorem M_fromOf_c (J : JMd A D H C) (R : JMr A ru na rn rl) (l y : Nat) (hl : l < 6) (hy : y < 3) : am_fin [(z_M_fromOf, 0, [.ref 36, .int (nI l), .int (nI y), .null], [])] (hp L xs A V K T) (some (nI (sF D H ru (A 37) (A 38) l y))) (hp L xs A V K T) := by
  have ef : (360 : Int32) * nI y = nI (360 * y) := by rw [l_360, nI_mul]
  have k := M_fF_lp (L := L) (xs := xs) (A := A) (V := V) (K := K) (T := T) l y hy 359 (360 * y) (by omega)
  refine sg_M_fromOf_0 ?_
  rw [ef]
  by_cases y0 : y = 0
  · rw [sF_f (fun z => by omega)]
    subst y0
    exact am_fin.call (M_isClaimed_n l _ (Or.inl (by decide))) (sg_M_fromOf_14r (iteP rfl k))
  · rw [nI_m1 (by omega)]
    refine am_fin.call (M_isClaimed_c J R l (y - 1) hl (by omega)) (sg_M_fromOf_14r ?_)
    by_cases q : clm D H ru (y - 1) l
    · rw [sF_t ⟨by omega, q⟩]; exact iteN (mt b2_z.mp (fun z => z q)) ⟨rfl, rfl⟩
    · rw [sF_f (fun z => q z.2)]; exact iteP (b2_z.mpr q) k
theorem M_tT_lp (l y : Nat) (hy : y < 3) : ∀ r d, d = 360 * y + r → r < 360 → am_fin [(z_M_tillOf, 25, [.ref 36, .int (nI l), .int (nI y), .int (nI d)], [])] (hp L xs A V K T) (some (nI (dn (bnd (A 37) (A 38) l) r d))) (hp L xs A V K T) := by
  have ef : (360 : Int32) * nI y = nI (360 * y) := by rw [l_360, nI_mul]
  intro r
  induction r with
  | zero => intro d h _; exact sg_M_tillOf_25 (iteP (by rw [ef, nI_leI (by omega) (by omega)]; omega) ⟨rfl, rfl⟩)
  | succ r ih =>
    intro d h h2
    refine sg_M_tillOf_25 (iteN (by rw [ef, nI_leI (by omega) (by omega)]; omega) (am_fin.call (M_isTied_c l d (by omega)) (sg_M_tillOf_40r ?_)))
    rw [show dn (bnd (A 37) (A 38) l) (r + 1) d = if bnd (A 37) (A 38) l d then d else dn (bnd (A 37) (A 38) l) r (d - 1) from rfl, nI_m1 (by omega)]
    by_cases q : bnd (A 37) (A 38) l d
    · rw [if_pos q]; exact iteN (mt b2_z.mp (fun z => z q)) ⟨rfl, rfl⟩
    · rw [if_neg q]; exact iteP (b2_z.mpr q) (ih (d - 1) (by omega) (by omega))
theorem M_tillOf_c (J : JMd A D H C) (R : JMr A ru na rn rl) (l y : Nat) (hl : l < 6) (hy : y < 3) : am_fin [(z_M_tillOf, 0, [.ref 36, .int (nI l), .int (nI y), .null], [])] (hp L xs A V K T) (some (nI (sT D H ru (A 37) (A 38) l y))) (hp L xs A V K T) := by
  have el : (360 : Int32) * nI y + 360 - 1 = nI (360 * y + 359) := by rw [l_360, nI_mul, nI_add, nI_m1 (by omega)]; rfl
  have k := M_tT_lp (L := L) (xs := xs) (A := A) (V := V) (K := K) (T := T) l y hy 359 (360 * y + 359) rfl (by omega)
  refine sg_M_tillOf_0 ?_
  rw [el, nI_1]
  by_cases y0 : 2 ≤ y
  · rw [sT_f (fun z => by omega)]
    exact am_fin.call (M_isClaimed_n l _ (Or.inr (by rw [l_2, nI_ltI (by omega) (by omega)]; omega))) (sg_M_tillOf_20r (iteP rfl k))
  · refine am_fin.call (M_isClaimed_c J R l (y + 1) hl (by omega)) (sg_M_tillOf_20r ?_)
    by_cases q : clm D H ru (y + 1) l
    · rw [sT_t ⟨by omega, q⟩]; exact iteN (mt b2_z.mp (fun z => z q)) ⟨rfl, rfl⟩
    · rw [sT_f (fun z => q z.2)]; exact iteP (b2_z.mpr q) k
theorem P_countOf_3_d (x : Int32) (a b : Nat) (hb : b < 1080) (ha : a < 1080) : am_fin [(z_P_countOf, 0, [.ref 3, .int x, .int (nI a), .int (nI b), .null, .null], [])] (hp L xs A V K T) (some (nI (cn (fun d => A 4 d = x) a (b + 1 - a)))) (hp L xs A V K T) := by
  by_cases h : a ≤ b + 1
  · exact P_countOf_3_c x a b hb h
  · rw [show b + 1 - a = 0 by omega]
    exact sg_P_countOf_3_0 (sg_P_countOf_3_6 (iteP ((nI_ltI (by omega) (by omega)).mpr (by omega)) ⟨rfl, rfl⟩))
end
