/-- a land claims -/
abbrev clm (D H ru : Nat → Nat → Nat) (y l : Nat) : Prop := ¬ bs (hq D H ru l y) 3 = 0
theorem nI_z {n : Nat} (h : n < 2 ^ 31) : nI n = 0 ↔ n = 0 := by rw [l_0, nI_eq h (by omega)]
/-- the first from k on, of r -/
def srch (p : Nat → Prop) [DecidablePred p] : Nat → Nat → Option Nat
  | 0, _ => none
  | r + 1, k => if p k then some k else srch p r (k + 1)
theorem srch_in (p : Nat → Prop) [DecidablePred p] : ∀ r k m, srch p r k = some m → k ≤ m ∧ m < k + r ∧ p m
  | 0, k, m, h => by cases h
  | r + 1, k, m, h => by
    unfold srch at h
    split at h
    · cases h; rename_i h; exact ⟨Nat.le_refl _, by omega, h⟩
    · obtain ⟨a, b, c⟩ := srch_in p r (k + 1) m h
      exact ⟨by omega, by omega, c⟩
theorem srch_t {p : Nat → Prop} [DecidablePred p] {r k : Nat} (h : p k) : srch p (r + 1) k = some k := by unfold srch; rw [if_pos h]
theorem srch_f {p : Nat → Prop} [DecidablePred p] {r k : Nat} (h : ¬ p k) : srch p (r + 1) k = srch p r (k + 1) := by
  rw [show srch p (r + 1) k = if p k then some k else srch p r (k + 1) from rfl, if_neg h]
def onat (z : Int32) : Option Nat → Int32
  | none => z
  | some k => nI k
/-- what a letter weighs -/
def lv (D H C : Nat → Nat → Nat) (na : Nat → Nat) (y c a : Nat) : Nat := if c = 0 then H a y else if c = 1 then C a y else if c = 2 then D a y else na a
abbrev tlp (D H C : Nat → Nat → Nat) (na : Nat → Nat) (rl : Nat → Nat → Nat → Nat) (y a b k : Nat) : Prop := lv D H C na y (rl a b k) a ≠ lv D H C na y (rl a b k) b
/-- by which letter -/
def tp (D H C : Nat → Nat → Nat) (na : Nat → Nat) (rn : Nat → Nat → Nat) (rl : Nat → Nat → Nat → Nat) (y a b : Nat) : Option Nat := srch (tlp D H C na rl y a b) (rn a b) 0
def wn (D H C : Nat → Nat → Nat) (na : Nat → Nat) (rl : Nat → Nat → Nat → Nat) (y a b : Nat) : Option Nat → Int32
  | none => -2
  | some k => if lv D H C na y (rl a b k) b < lv D H C na y (rl a b k) a then nI a else nI b
def ans (D H C : Nat → Nat → Nat) (na : Nat → Nat) (rn : Nat → Nat → Nat) (rl : Nat → Nat → Nat → Nat) (y a b : Nat) : Int32 := wn D H C na rl y a b (tp D H C na rn rl y a b)
section
variable {L : Nat} {xs : Nat → Int32} {A V : Nat → Nat → Int32} {K : Nat → Option Nat} {T : am_H} {D H C ru : Nat → Nat → Nat} {na : Nat → Nat} {rn : Nat → Nat → Nat} {rl : Nat → Nat → Nat → Nat}

theorem J_claimBits_c (J : JCd A D H C) (R : JCr A V ru na rn rl) (y : Nat) (hy : y < 3) : am_fin [(z_J_claimBits, 0, [.ref 26, .int (nI y), .null, .null], [])] (hp L xs A V K T) (some (nI (bs (clm D H ru y) 6))) (hp L xs A V K T) := by
  refine sg_J_claimBits_0 ?_
  refine am_iter (fun k => ([(z_J_claimBits, 4, [.ref 26, .int (nI y), .int (nI (bs (clm D H ru y) k)), .int (nI k)], [])], hp L xs A V K T)) 6 (fun k hk ih => ?_) ?_
  · dsimp only at ih ⊢
    refine sg_J_claimBits_4 (iteN (by rw [l_6, nI_leI (by omega) (by omega)]; omega) (am_fin.call (J_holdingBits_c J R k y hk hy) (sg_J_claimBits_17r ?_)))
    have b := bs_lt (hq D H ru k y) 3
    rw [l_1, nI_add]
    by_cases q : clm D H ru y k
    · rw [← bs_t hk q] at ih
      exact iteN (mt (nI_z (by omega)).mp q) ih
    · rw [← bs_f q] at ih
      rw [or0]
      exact iteP ((nI_z (by omega)).mpr (Decidable.not_not.mp q)) ih
  · exact sg_J_claimBits_4 (iteP (by decide) ⟨rfl, rfl⟩)
theorem M_claiming_c (J : JMd A D H C) (R : JMr A ru na rn rl) (y : Nat) (hy : y < 3) : am_fin [(z_M_claiming, 0, [.ref 36, .int (nI y), .null, .null], [])] (hp L xs A V K T) (some (nI (bs (clm D H ru y) 6))) (hp L xs A V K T) := by
  refine sg_M_claiming_0 ?_
  refine am_iter (fun k => ([(z_M_claiming, 4, [.ref 36, .int (nI y), .int (nI (bs (clm D H ru y) k)), .int (nI k)], [])], hp L xs A V K T)) 6 (fun k hk ih => ?_) ?_
  · dsimp only at ih ⊢
    refine sg_M_claiming_4 (iteN (by rw [l_6, nI_leI (by omega) (by omega)]; omega) (am_fin.call (M_holding_c J R k y hk hy) (sg_M_claiming_16r ?_)))
    have b := bs_lt (hq D H ru k y) 3
    rw [l_1, nI_add]
    by_cases q : clm D H ru y k
    · rw [← bs_t hk q] at ih
      exact iteN (mt (nI_z (by omega)).mp q) ih
    · rw [← bs_f q] at ih
      exact iteP ((nI_z (by omega)).mpr (Decidable.not_not.mp q)) ih
  · exact sg_M_claiming_4 (iteP (by decide) ⟨rfl, rfl⟩)
theorem J_isClaiming_c (J : JCd A D H C) (R : JCr A V ru na rn rl) (l y : Nat) (hl : l < 6) (hy : y < 3) : am_fin [(z_J_isClaiming, 0, [.ref 26, .int (nI l), .int (nI y)], [])] (hp L xs A V K T) (some (b2 (clm D H ru y l))) (hp L xs A V K T) := by
  refine sg_J_isClaiming_0 (am_fin.call (J_holdingBits_c J R l y hl hy) (sg_J_isClaiming_6r ?_))
  have b := bs_lt (hq D H ru l y) 3
  by_cases q : clm D H ru y l
  · exact iteN (mt (nI_z (by omega)).mp q) ⟨by unfold b2; rw [if_pos q], rfl⟩
  · exact iteP ((nI_z (by omega)).mpr (Decidable.not_not.mp q)) ⟨by unfold b2; rw [if_neg q], rfl⟩
theorem M_isClaimed_c (J : JMd A D H C) (R : JMr A ru na rn rl) (l y : Nat) (hl : l < 6) (hy : y < 3) : am_fin [(z_M_isClaimed, 0, [.ref 36, .int (nI l), .int (nI y)], [])] (hp L xs A V K T) (some (b2 (clm D H ru y l))) (hp L xs A V K T) := by
  refine sg_M_isClaimed_0 ?_
  simp only [lgl, lgg]
  refine iteN (nI_lt0 (by omega)) (iteN (by rw [l_2, nI_ltI (by omega) (by omega)]; omega) ?_)
  refine am_fin.call (M_holding_c J R l y hl hy) (sg_M_isClaimed_13r ?_)
  have b := bs_lt (hq D H ru l y) 3
  by_cases q : clm D H ru y l
  · exact iteN (mt (nI_z (by omega)).mp q) ⟨by unfold b2; rw [if_pos q], rfl⟩
  · exact iteP ((nI_z (by omega)).mpr (Decidable.not_not.mp q)) ⟨by unfold b2; rw [if_neg q], rfl⟩
theorem J_leaning_c (J : JCd A D H C) (R : JCr A V ru na rn rl) (c a b y : Nat) (hc : c < 4) (ha : a < 6) (hb : b < 6) (hy : y < 3) : am_fin [(z_J_leaning, 0, [.ref 26, .int (nI c), .int (nI a), .int (nI b), .int (nI y), .null, .null], [])] (hp L xs A V K T) (some (nI (lv D H C na y c a) - nI (lv D H C na y c b))) (hp L xs A V K T) := by
  obtain ⟨e0, h0, c0, -⟩ := J a y ha hy
  obtain ⟨e1, h1, c1, -⟩ := J b y hb hy
  obtain ⟨n0, -⟩ := R.2.1 a ha
  obtain ⟨n1, -⟩ := R.2.1 b hb
  refine sg_J_leaning_0 ?_
  rw [n0, n1]
  have i0 : nI a * 3 + nI y = nI (a * 3 + y) := by rw [l_3, nI_mul, nI_add]
  have i1 : nI b * 3 + nI y = nI (b * 3 + y) := by rw [l_3, nI_mul, nI_add]
  have o0 : ¬ (nI (a * 3 + y) < 0 ∨ 18 ≤ (nI (a * 3 + y)).toNatClampNeg) := nI_inb (by omega) (by omega)
  have o1 : ¬ (nI (b * 3 + y) < 0 ∨ 18 ≤ (nI (b * 3 + y)).toNatClampNeg) := nI_inb (by omega) (by omega)
  rw [i0, i1]
  unfold lv
  rcases (by omega : c = 0 ∨ c = 1 ∨ c = 2 ∨ c = 3) with rfl | rfl | rfl | rfl
  · exact iteP rfl ⟨o0, o1, by rw [nI_clamp (by omega), nI_clamp (by omega), h0, h1]; rfl, rfl⟩
  · exact iteN (by decide) (iteP rfl ⟨o0, o1, by rw [nI_clamp (by omega), nI_clamp (by omega), c0, c1]; rfl, rfl⟩)
  · exact iteN (by decide) (iteN (by decide) (iteP rfl ⟨o0, o1, by rw [nI_clamp (by omega), nI_clamp (by omega), e0, e1]; rfl, rfl⟩))
  · exact iteN (by decide) (iteN (by decide) (iteN (by decide) ⟨rfl, rfl⟩))
theorem lv_leC (J : JCd A D H C) (R : JCr A V ru na rn rl) (c a y : Nat) (ha : a < 6) (hy : y < 3) : lv D H C na y c a ≤ 1500 := by
  obtain ⟨-, -, -, b0, b1, b2⟩ := J a y ha hy
  have b3 := (R.2.1 a ha).2
  unfold lv
  (repeat' split) <;> omega
theorem lv_leM (J : JMd A D H C) (R : JMr A ru na rn rl) (c a y : Nat) (ha : a < 6) (hy : y < 3) : lv D H C na y c a ≤ 1500 := by
  obtain ⟨-, -, -, b0, b1, b2⟩ := J a y ha hy
  have b3 := (R.2.1 a ha).2
  unfold lv
  (repeat' split) <;> omega
def tl (D H C : Nat → Nat → Nat) (na : Nat → Nat) (y c a b : Nat) : Int32 := if lv D H C na y c b < lv D H C na y c a then nI a else if lv D H C na y c a < lv D H C na y c b then nI b else -1
theorem M_tells_c (J : JMd A D H C) (R : JMr A ru na rn rl) (c a b y : Nat) (hc : c < 4) (ha : a < 6) (hb : b < 6) (hy : y < 3) : am_fin [(z_M_tells, 0, [.ref 36, .int (nI c), .int (nI a), .int (nI b), .int (nI y), .null, .null], [])] (hp L xs A V K T) (some (tl D H C na y c a b)) (hp L xs A V K T) := by
  obtain ⟨e0, h0, c0, b0, b1, b2⟩ := J a y ha hy
  obtain ⟨e1, h1, c1, b3, b4, b5⟩ := J b y hb hy
  obtain ⟨n0, b6⟩ := R.2.1 a ha
  obtain ⟨n1, b7⟩ := R.2.1 b hb
  refine sg_M_tells_0 ?_
  have fin : ∀ (p q : Nat), p ≤ 1500 → q ≤ 1500 → lv D H C na y c a = p → lv D H C na y c b = q → (if nI p ≤ nI q then (if nI q ≤ nI p then (some (tl D H C na y c a b) = some (-1) ∧ (hp L xs A V K T) = (hp L xs A V K T)) else (some (tl D H C na y c a b) = some (nI b) ∧ (hp L xs A V K T) = (hp L xs A V K T))) else (some (tl D H C na y c a b) = some (nI a) ∧ (hp L xs A V K T) = (hp L xs A V K T))) := by
    intro p q hp1 hq1 h1 h2
    have e : tl D H C na y c a b = if q < p then nI a else if p < q then nI b else -1 := by unfold tl; rw [h1, h2]
    rw [e]
    by_cases z1 : p ≤ q
    · by_cases z2 : q ≤ p
      · exact iteP ((nI_leI (by omega) (by omega)).mpr z1) (iteP ((nI_leI (by omega) (by omega)).mpr z2) ⟨by rw [if_neg (by omega), if_neg (by omega)], rfl⟩)
      · exact iteP ((nI_leI (by omega) (by omega)).mpr z1) (iteN (mt (nI_leI (by omega) (by omega)).mp z2) ⟨by rw [if_neg (by omega), if_pos (by omega)], rfl⟩)
    · exact iteN (mt (nI_leI (by omega) (by omega)).mp z1) ⟨by rw [if_pos (by omega)], rfl⟩
  have j0 : (13 : Int32) * nI a + 6 = nI (13 * a + 6) := by rw [l_13, l_6, nI_mul, nI_add]
  have j1 : (13 : Int32) * nI b + 6 = nI (13 * b + 6) := by rw [l_13, l_6, nI_mul, nI_add]
  have i0a : (18 : Int32) * 0 + 3 * nI a + nI y = nI (18 * 0 + 3 * a + y) := by rw [l_18, l_0, l_3, nI_mul, nI_mul, nI_add, nI_add]
  have o0a : ¬ ((18 : Int32) * 0 + 3 * nI a + nI y < 0 ∨ 54 ≤ ((18 : Int32) * 0 + 3 * nI a + nI y).toNatClampNeg) := by rw [i0a]; exact nI_inb (by omega) (by omega)
  have i0b : (18 : Int32) * 0 + 3 * nI b + nI y = nI (18 * 0 + 3 * b + y) := by rw [l_18, l_0, l_3, nI_mul, nI_mul, nI_add, nI_add]
  have o0b : ¬ ((18 : Int32) * 0 + 3 * nI b + nI y < 0 ∨ 54 ≤ ((18 : Int32) * 0 + 3 * nI b + nI y).toNatClampNeg) := by rw [i0b]; exact nI_inb (by omega) (by omega)
  have i1a : (18 : Int32) * 1 + 3 * nI a + nI y = nI (18 * 1 + 3 * a + y) := by rw [l_18, l_1, l_3, nI_mul, nI_mul, nI_add, nI_add]
  have o1a : ¬ ((18 : Int32) * 1 + 3 * nI a + nI y < 0 ∨ 54 ≤ ((18 : Int32) * 1 + 3 * nI a + nI y).toNatClampNeg) := by rw [i1a]; exact nI_inb (by omega) (by omega)
  have i1b : (18 : Int32) * 1 + 3 * nI b + nI y = nI (18 * 1 + 3 * b + y) := by rw [l_18, l_1, l_3, nI_mul, nI_mul, nI_add, nI_add]
  have o1b : ¬ ((18 : Int32) * 1 + 3 * nI b + nI y < 0 ∨ 54 ≤ ((18 : Int32) * 1 + 3 * nI b + nI y).toNatClampNeg) := by rw [i1b]; exact nI_inb (by omega) (by omega)
  have i2a : (18 : Int32) * 2 + 3 * nI a + nI y = nI (18 * 2 + 3 * a + y) := by rw [l_18, l_2, l_3, nI_mul, nI_mul, nI_add, nI_add]
  have o2a : ¬ ((18 : Int32) * 2 + 3 * nI a + nI y < 0 ∨ 54 ≤ ((18 : Int32) * 2 + 3 * nI a + nI y).toNatClampNeg) := by rw [i2a]; exact nI_inb (by omega) (by omega)
  have i2b : (18 : Int32) * 2 + 3 * nI b + nI y = nI (18 * 2 + 3 * b + y) := by rw [l_18, l_2, l_3, nI_mul, nI_mul, nI_add, nI_add]
  have o2b : ¬ ((18 : Int32) * 2 + 3 * nI b + nI y < 0 ∨ 54 ≤ ((18 : Int32) * 2 + 3 * nI b + nI y).toNatClampNeg) := by rw [i2b]; exact nI_inb (by omega) (by omega)
  rcases (by omega : c = 0 ∨ c = 1 ∨ c = 2 ∨ c = 3) with rfl | rfl | rfl | rfl
  · refine iteN (by decide) (iteP rfl ⟨o1a, iteN (by decide) (iteP rfl ⟨o1b, ?_⟩)⟩)
    rw [i1a, i1b, nI_clamp (by omega), nI_clamp (by omega), h0, h1]
    exact fin _ _ b1 b4 rfl rfl
  · refine iteN (by decide) (iteN (by decide) (iteP rfl ⟨o2a, iteN (by decide) (iteN (by decide) (iteP rfl ⟨o2b, ?_⟩))⟩))
    rw [i2a, i2b, nI_clamp (by omega), nI_clamp (by omega), c0, c1]
    exact fin _ _ b2 b5 rfl rfl
  · refine iteN (by decide) (iteN (by decide) (iteN (by decide) ⟨o0a, iteN (by decide) (iteN (by decide) (iteN (by decide) ⟨o0b, ?_⟩))⟩))
    rw [i0a, i0b, nI_clamp (by omega), nI_clamp (by omega), e0, e1]
    exact fin _ _ b0 b3 rfl rfl
  · refine iteP rfl ⟨by rw [j0]; exact nI_inb (by omega) (by omega), iteP rfl ⟨by rw [j1]; exact nI_inb (by omega) (by omega), ?_⟩⟩
    rw [j0, j1, nI_clamp (by omega), nI_clamp (by omega), n0, n1]
    exact fin _ _ (by omega) (by omega) rfl rfl
end
