/-! THE JUDGE: what both sides have counted, and the rules, as numbers -/
/-- the class's counts -/
def JCd (A : Nat → Nat → Int32) (D H C : Nat → Nat → Nat) : Prop := ∀ l y, l < 6 → y < 3 → A 27 (l * 3 + y) = nI (D l y) ∧ A 28 (l * 3 + y) = nI (H l y) ∧ A 29 (l * 3 + y) = nI (C l y) ∧ D l y ≤ 1500 ∧ H l y ≤ 1500 ∧ C l y ≤ 1500
/-- the reference's -/
def JMd (A : Nat → Nat → Int32) (D H C : Nat → Nat → Nat) : Prop := ∀ l y, l < 6 → y < 3 → A 47 (18 * 0 + 3 * l + y) = nI (D l y) ∧ A 47 (18 * 1 + 3 * l + y) = nI (H l y) ∧ A 47 (18 * 2 + 3 * l + y) = nI (C l y) ∧ D l y ≤ 1500 ∧ H l y ≤ 1500 ∧ C l y ≤ 1500
def jrow (A : Nat → Nat → Int32) (a b : Nat) : Int32 := if A 17 (a * 6 + b) = -1 then A 16 a else A 17 (a * 6 + b)
/-- the class's rules -/
def JCr (A V : Nat → Nat → Int32) (ru : Nat → Nat → Nat) (na : Nat → Nat) (rn : Nat → Nat → Nat) (rl : Nat → Nat → Nat → Nat) : Prop := (∀ l s, l < 6 → s < 3 → A 13 (l * 3 + s) = nI (ru l s) ∧ ru l s ≤ 360) ∧ (∀ l, l < 6 → ((V 10 7 >>> (nI l &&& 31)) &&& 1) = nI (na l) ∧ na l ≤ 1) ∧ ∀ a b, a < 6 → b < 6 → a ≠ b → rn a b ≤ 4 ∧ rlen (jrow A a b) = nI (rn a b) ∧ ∀ k, k < rn a b → rlet (jrow A a b) k = nI (rl a b k) ∧ rl a b k < 4
/-- the reference's -/
def JMr (A : Nat → Nat → Int32) (ru : Nat → Nat → Nat) (na : Nat → Nat) (rn : Nat → Nat → Nat) (rl : Nat → Nat → Nat → Nat) : Prop := (∀ l s, l < 6 → s < 3 → A 41 (13 * l + (2 + s)) = nI (ru l s) ∧ ru l s ≤ 360) ∧ (∀ l, l < 6 → A 41 (13 * l + 6) = nI (na l) ∧ na l ≤ 1) ∧ ∀ a b, a < 6 → b < 6 → a ≠ b → rn a b ≤ 4 ∧ (∀ k, k < rn a b → rl a b k < 4) ∧ ((A 41 (78 + 5 * (6 * min a b + max a b)) = nI 0 ∧ A 41 (13 * a + 8) = nI (rn a b) ∧ ∀ k, k < rn a b → A 41 (13 * a + (9 + k)) = nI (rl a b k)) ∨ (A 41 (78 + 5 * (6 * min a b + max a b)) = nI (rn a b + 1) ∧ ∀ k, k < rn a b → A 41 (78 + 5 * (6 * min a b + max a b) + 1 + k) = nI (rl a b k)))
def six (D : Nat → Nat → Nat) (l y : Nat) : Nat := 6 * D l y + (if 0 < y then 2 * D l (y - 1) else 0) + (if 1 < y then D l (y - 2) else 0)
def grt (D H : Nat → Nat → Nat) (l s y : Nat) : Nat := if s = 0 then D l y else if s = 1 then (if 31 ≤ D l y then (if six D l y < 2160 then six D l y / 6 else 360) else 0) else if D l y = 0 then 0 else H l y
/-- a rule holds -/
abbrev hq (D H ru : Nat → Nat → Nat) (l y s : Nat) : Prop := 0 < ru l s ∧ ru l s ≤ grt D H l s y
/-- numbers below n, as bits -/
def bs (p : Nat → Prop) [DecidablePred p] : Nat → Nat
  | 0 => 0
  | n + 1 => bs p n + (if p n then 2 ^ n else 0)
theorem bs_lt (p : Nat → Prop) [DecidablePred p] : ∀ n, bs p n < 2 ^ n
  | 0 => by unfold bs; decide
  | n + 1 => by
    have := bs_lt p n
    unfold bs
    rw [Nat.pow_succ]
    split <;> omega
theorem or64 : ∀ k, k < 6 → ∀ n, n < 2 ^ k → nI n ||| ((1 : Int32) <<< (nI k &&& 31)) = nI (n + 2 ^ k) := by decide +kernel
theorem or0 (x : Int32) : x ||| 0 = x := by
  apply Int32.toBitVec_inj.mp
  rw [Int32.toBitVec_or]
  exact BitVec.or_zero
theorem bs_t {p : Nat → Prop} [DecidablePred p] {n : Nat} (hn : n < 6) (h : p n) : nI (bs p n) ||| ((1 : Int32) <<< (nI n &&& 31)) = nI (bs p (n + 1)) := by
  rw [or64 n hn _ (bs_lt p n), show bs p (n + 1) = bs p n + (if p n then 2 ^ n else 0) from rfl, if_pos h]
theorem bs_f {p : Nat → Prop} [DecidablePred p] {n : Nat} (h : ¬ p n) : bs p n = bs p (n + 1) := by
  rw [show bs p (n + 1) = bs p n + (if p n then 2 ^ n else 0) from rfl, if_neg h, Nat.add_zero]
theorem hb64a : ∀ n, n < 64 → ∀ k, k < 6 → (hbit (nI n) (nI k) ↔ n / 2 ^ k % 2 = 1) := by decide +kernel
theorem hb64z : ∀ n, n < 64 → ∀ k, k < 6 → (((nI n >>> (nI k &&& 31)) &&& 1) = 0 ↔ ¬ n / 2 ^ k % 2 = 1) := by decide +kernel
theorem bs_bit (p : Nat → Prop) [DecidablePred p] (k : Nat) : ∀ n, k < n → (bs p n / 2 ^ k % 2 = 1 ↔ p k) := by
  intro n
  induction n with
  | zero => intro h; omega
  | succ n ih =>
    intro h
    show ((bs p n + (if p n then 2 ^ n else 0)) / 2 ^ k % 2 = 1 ↔ p k)
    by_cases hk : k = n
    · subst hk
      have b := bs_lt p k
      by_cases hp : p k
      · rw [if_pos hp, Nat.add_div_right _ (Nat.two_pow_pos k), Nat.div_eq_of_lt b]
        exact ⟨fun _ => hp, fun _ => rfl⟩
      · rw [if_neg hp, Nat.add_zero, Nat.div_eq_of_lt b]
        exact ⟨fun h => absurd h (by decide), fun h => absurd h hp⟩
    · have ih := ih (by omega)
      by_cases hp : p n
      · rw [if_pos hp, show 2 ^ n = 2 ^ k * (2 * 2 ^ (n - k - 1)) by rw [← Nat.mul_assoc, ← Nat.pow_succ, ← Nat.pow_add]; congr 1; omega, Nat.add_mul_div_left _ _ (Nat.two_pow_pos k), Nat.add_mul_mod_self_left]
        exact ih
      · rw [if_neg hp, Nat.add_zero]; exact ih
theorem bs_hbit {p : Nat → Prop} [DecidablePred p] {k : Nat} (h : k < 6) : hbit (nI (bs p 6)) (nI k) ↔ p k := (hb64a _ (bs_lt p 6) k h).trans (bs_bit p k 6 h)
theorem bs_hbitz {p : Nat → Prop} [DecidablePred p] {k : Nat} (h : k < 6) : ((nI (bs p 6) >>> (nI k &&& 31)) &&& 1) = 0 ↔ ¬ p k := (hb64z _ (bs_lt p 6) k h).trans (not_congr (bs_bit p k 6 h))
theorem nI_div6 : ∀ n, n < 1048576 → nI n / nI 6 = nI (n / 6) := by
  intro n h
  apply Int32.toInt_inj.mp
  rw [Int32.toInt_div_of_ne_right _ _ (by decide), nI_toInt (by omega), nI_toInt (by omega), nI_toInt (by omega)]
  exact (Int.natCast_ediv n 6 ▸ Int.tdiv_eq_ediv_of_nonneg (by omega))
section
variable {L : Nat} {xs : Nat → Int32} {A V : Nat → Nat → Int32} {K : Nat → Option Nat} {T : am_H} {D H C ru : Nat → Nat → Nat} {na : Nat → Nat} {rn : Nat → Nat → Nat} {rl : Nat → Nat → Nat → Nat}
theorem J_greatest_c (J : JCd A D H C) (l s y : Nat) (hl : l < 6) (hs : s < 3) (hy : y < 3) : am_fin [(z_J_greatest, 0, [.ref 26, .int (nI l), .int (nI s), .int (nI y), .null, .null, .null], [])] (hp L xs A V K T) (some (nI (grt D H l s y))) (hp L xs A V K T) := by
  obtain ⟨e0, h0, -, b0, c0, -⟩ := J l y hl hy
  refine sg_J_greatest_0 ?_
  simp (disch := omega) only [l_0, l_1, l_2, l_3, l_4, l_5, l_6, l_7, l_8, l_9, l_13, l_18, l_30, l_31, l_78, l_258, l_360, l_2160, nI_mul, nI_add, nI_sub, nI_ltI, nI_leI, nI_eq, nI_clamp, -Int32.reduceOfNat, e0, h0]
  refine ⟨by omega, ?_⟩
  by_cases s0 : s = 0
  · rw [if_pos s0]; exact ⟨by (congr 2; unfold grt six; (repeat' split) <;> omega), trivial⟩
  rw [if_neg s0]
  by_cases s1 : s = 1
  · rw [if_pos s1]
    by_cases d : 31 ≤ D l y
    · rw [if_pos d]
      by_cases y0 : y = 0
      · (repeat first | refine iteP (by omega) ?_ | refine iteN (by omega) ?_ | refine And.intro (by omega) ?_)
        split
        · rw [nI_div6 _ (by omega)]; exact ⟨by (congr 2; unfold grt six; (repeat' split) <;> omega), trivial⟩
        · exact ⟨by (congr 2; unfold grt six; (repeat' split) <;> omega), trivial⟩
      · obtain ⟨e1, -, -, b1, -⟩ := J l (y - 1) hl (by omega)
        rw [← Nat.add_sub_assoc (by omega)] at e1
        rw [if_neg (by omega : ¬ y ≤ 0)]
        simp (disch := omega) only [l_0, l_1, l_2, l_3, l_4, l_5, l_6, l_7, l_8, l_9, l_13, l_18, l_30, l_31, l_78, l_258, l_360, l_2160, nI_mul, nI_add, nI_sub, nI_ltI, nI_leI, nI_eq, nI_clamp, -Int32.reduceOfNat, e1]
        refine ⟨by omega, ?_⟩
        by_cases y1 : y = 1
        · rw [if_pos (by omega : y ≤ 1)]
          split
          · rw [nI_div6 _ (by omega)]; exact ⟨by (congr 2; unfold grt six; (repeat' split) <;> omega), trivial⟩
          · exact ⟨by (congr 2; unfold grt six; (repeat' split) <;> omega), trivial⟩
        · obtain ⟨e2, -, -, b2, -⟩ := J l (y - 2) hl (by omega)
          rw [← Nat.add_sub_assoc (by omega)] at e2
          rw [if_neg (by omega : ¬ y ≤ 1)]
          simp (disch := omega) only [l_0, l_1, l_2, l_3, l_4, l_5, l_6, l_7, l_8, l_9, l_13, l_18, l_30, l_31, l_78, l_258, l_360, l_2160, nI_mul, nI_add, nI_sub, nI_ltI, nI_leI, nI_eq, nI_clamp, -Int32.reduceOfNat, e2]
          refine ⟨by omega, ?_⟩
          split
          · rw [nI_div6 _ (by omega)]; exact ⟨by (congr 2; unfold grt six; (repeat' split) <;> omega), trivial⟩
          · exact ⟨by (congr 2; unfold grt six; (repeat' split) <;> omega), trivial⟩
    · rw [if_neg d]; exact ⟨by (congr 2; unfold grt six; (repeat' split) <;> omega), trivial⟩
  · rw [if_neg s1]
    by_cases d : D l y = 0
    · rw [if_pos d]; exact ⟨by (congr 2; unfold grt six; (repeat' split) <;> omega), trivial⟩
    · rw [if_neg d]; exact ⟨by omega, by (congr 2; unfold grt six; (repeat' split) <;> omega), trivial⟩
theorem M_sixfold_c (J : JMd A D H C) (l y : Nat) (hl : l < 6) (hy : y < 3) : am_fin [(z_M_sixfold, 0, [.ref 36, .int (nI l), .int (nI y), .null], [])] (hp L xs A V K T) (some (nI (six D l y))) (hp L xs A V K T) := by
  obtain ⟨e0, h0, -, b0, c0, -⟩ := J l y hl hy
  refine sg_M_sixfold_0 ?_
  simp (disch := omega) only [l_0, l_1, l_2, l_3, l_4, l_5, l_6, l_7, l_8, l_9, l_13, l_18, l_30, l_31, l_78, l_258, l_360, l_2160, nI_mul, nI_add, nI_sub, nI_ltI, nI_leI, nI_eq, nI_clamp, -Int32.reduceOfNat, e0, h0]
  refine ⟨by omega, ?_⟩
  by_cases y0 : y = 0
  · (repeat first | refine iteP (by omega) ?_ | refine iteN (by omega) ?_ | refine And.intro (by omega) ?_)
    exact ⟨by (congr 2; unfold six; (repeat' split) <;> omega), trivial⟩
  · obtain ⟨e1, -, -, b1, -⟩ := J l (y - 1) hl (by omega)
    rw [if_neg (by omega : ¬ y ≤ 0)]
    simp (disch := omega) only [l_0, l_1, l_2, l_3, l_4, l_5, l_6, l_7, l_8, l_9, l_13, l_18, l_30, l_31, l_78, l_258, l_360, l_2160, nI_mul, nI_add, nI_sub, nI_ltI, nI_leI, nI_eq, nI_clamp, -Int32.reduceOfNat, e1]
    refine ⟨by omega, ?_⟩
    by_cases y1 : y = 1
    · rw [if_pos (by omega : y ≤ 1)]
      exact ⟨by (congr 2; unfold six; (repeat' split) <;> omega), trivial⟩
    · obtain ⟨e2, -, -, b2, -⟩ := J l (y - 2) hl (by omega)
      rw [if_neg (by omega : ¬ y ≤ 1)]
      simp (disch := omega) only [l_0, l_1, l_2, l_3, l_4, l_5, l_6, l_7, l_8, l_9, l_13, l_18, l_30, l_31, l_78, l_258, l_360, l_2160, nI_mul, nI_add, nI_sub, nI_ltI, nI_leI, nI_eq, nI_clamp, -Int32.reduceOfNat, e2]
      exact ⟨by omega, by (congr 2; unfold six; (repeat' split) <;> omega), trivial⟩
theorem six_le (J : JMd A D H C) (l y : Nat) (hl : l < 6) (hy : y < 3) : six D l y ≤ 13500 := by
  have b0 := (J l y hl hy).2.2.2.1
  have b1 := (J l (y - 1) hl (by omega)).2.2.2.1
  have b2 := (J l (y - 2) hl (by omega)).2.2.2.1
  unfold six
  (repeat' split) <;> omega
theorem M_mostBy_c (J : JMd A D H C) (l s y : Nat) (hl : l < 6) (hs : s < 3) (hy : y < 3) : am_fin [(z_M_mostBy, 0, [.ref 36, .int (nI l), .int (nI s), .int (nI y), .null], [])] (hp L xs A V K T) (some (nI (grt D H l s y))) (hp L xs A V K T) := by
  obtain ⟨e0, h0, -, b0, c0, -⟩ := J l y hl hy
  have b6 := six_le J l y hl hy
  refine sg_M_mostBy_0 ?_
  simp (disch := omega) only [l_0, l_1, l_2, l_3, l_4, l_5, l_6, l_7, l_8, l_9, l_13, l_18, l_30, l_31, l_78, l_258, l_360, l_2160, nI_mul, nI_add, nI_sub, nI_ltI, nI_leI, nI_eq, nI_clamp, -Int32.reduceOfNat, e0, h0]
  refine ⟨by omega, ?_⟩
  by_cases s0 : s = 0
  · rw [if_pos s0]; exact ⟨by (congr 2; unfold grt; (repeat' split) <;> omega), trivial⟩
  rw [if_neg s0]
  by_cases s1 : s = 1
  · rw [if_pos s1]
    by_cases d : 31 ≤ D l y
    · rw [if_pos d]
      refine am_fin.call (M_sixfold_c J l y hl hy) (sg_M_mostBy_41r ?_)
      rw [l_6, nI_div6 _ (by omega)]
      simp (disch := omega) only [l_0, l_1, l_2, l_3, l_4, l_5, l_6, l_7, l_8, l_9, l_13, l_18, l_30, l_31, l_78, l_258, l_360, l_2160, nI_mul, nI_add, nI_sub, nI_ltI, nI_leI, nI_eq, nI_clamp, -Int32.reduceOfNat]
      split
      · exact ⟨by (congr 2; unfold grt; (repeat' split) <;> omega), trivial⟩
      · exact ⟨by (congr 2; unfold grt; (repeat' split) <;> omega), trivial⟩
    · rw [if_neg d]; exact ⟨by (congr 2; unfold grt; (repeat' split) <;> omega), trivial⟩
  · rw [if_neg s1]
    by_cases d : 1 ≤ D l y
    · rw [if_pos d]; exact ⟨by omega, by (congr 2; unfold grt; (repeat' split) <;> omega), trivial⟩
    · rw [if_neg d]; exact ⟨by (congr 2; unfold grt; (repeat' split) <;> omega), trivial⟩
theorem grt_le (J : JMd A D H C) (l s y : Nat) (hl : l < 6) (hy : y < 3) : grt D H l s y ≤ 1500 := by
  obtain ⟨-, -, -, b0, c0, -⟩ := J l y hl hy
  unfold grt
  (repeat' split) <;> omega
theorem grt_leC (J : JCd A D H C) (l s y : Nat) (hl : l < 6) (hy : y < 3) : grt D H l s y ≤ 1500 := by
  obtain ⟨-, -, -, b0, c0, -⟩ := J l y hl hy
  unfold grt
  (repeat' split) <;> omega
/-- by the mean -/
theorem hq1 (D H ru : Nat → Nat → Nat) (l y : Nat) (h0 : 0 < ru l 1) (h : ru l 1 ≤ 360) : hq D H ru l y 1 ↔ 30 < D l y ∧ 6 * ru l 1 ≤ six D l y := by
  unfold hq grt
  rw [if_neg (by decide), if_pos rfl]
  (repeat' split) <;> omega
theorem J_holdingBits_c (J : JCd A D H C) (R : JCr A V ru na rn rl) (l y : Nat) (hl : l < 6) (hy : y < 3) : am_fin [(z_J_holdingBits, 0, [.ref 26, .int (nI l), .int (nI y), .null, .null, .null], [])] (hp L xs A V K T) (some (nI (bs (hq D H ru l y) 3))) (hp L xs A V K T) := by
  refine sg_J_holdingBits_0 ?_
  refine am_iterU (U := Option Int32) (fun k u => ([(z_J_holdingBits, 5, [.ref 26, .int (nI l), .int (nI y), .int (nI (bs (hq D H ru l y) k)), .int (nI k), dl u], [])], hp L xs A V K T)) 3 (fun k u hk ih => ?_) (fun u => ?_) none
  · dsimp only at ih ⊢
    obtain ⟨e0, b0⟩ := R.1 l k hl hk
    have b1 := grt_leC J l k y hl hy
    cases u
    case none =>
      refine sg_J_holdingBits_5 ?_
      rw [if_neg (by rw [l_3, nI_leI (by omega) (by omega)]; omega)]
      simp (disch := omega) only [l_0, l_1, l_2, l_3, l_4, l_5, l_6, l_7, l_8, l_9, l_13, l_18, l_30, l_31, l_78, l_258, l_360, l_2160, nI_mul, nI_add, nI_sub, nI_ltI, nI_leI, nI_eq, nI_clamp, -Int32.reduceOfNat, e0]
      refine ⟨by omega, ?_⟩
      by_cases z : ru l k ≤ 0
      · rw [if_pos z]
        have ih := ih (some (nI (ru l k)))
        rw [← bs_f (p := hq D H ru l y) (fun q => by have := q.1; omega)] at ih
        exact ih
      · rw [if_neg z]
        refine am_fin.call (J_greatest_c J l k y hl hk hy) (sg_J_holdingBits_36r ?_)
        have ih := ih (some (nI (ru l k)))
        by_cases q : hq D H ru l y k
        · rw [if_neg (by rw [nI_ltI (by omega) (by omega)]; have := q.2; omega)]
          rw [← bs_t (by omega) q] at ih
          rw [l_1, nI_add]
          exact ih
        · rw [if_pos (by rw [nI_ltI (by omega) (by omega)]; exact Nat.lt_of_not_le (fun h => q ⟨by omega, h⟩))]
          rw [← bs_f q] at ih
          rw [l_1, nI_add]
          exact ih
    case some w =>
      refine sg_J_holdingBits_5b ?_
      rw [if_neg (by rw [l_3, nI_leI (by omega) (by omega)]; omega)]
      simp (disch := omega) only [l_0, l_1, l_2, l_3, l_4, l_5, l_6, l_7, l_8, l_9, l_13, l_18, l_30, l_31, l_78, l_258, l_360, l_2160, nI_mul, nI_add, nI_sub, nI_ltI, nI_leI, nI_eq, nI_clamp, -Int32.reduceOfNat, e0]
      refine ⟨by omega, ?_⟩
      by_cases z : ru l k ≤ 0
      · rw [if_pos z]
        have ih := ih (some (nI (ru l k)))
        rw [← bs_f (p := hq D H ru l y) (fun q => by have := q.1; omega)] at ih
        exact ih
      · rw [if_neg z]
        refine am_fin.call (J_greatest_c J l k y hl hk hy) (sg_J_holdingBits_36r ?_)
        have ih := ih (some (nI (ru l k)))
        by_cases q : hq D H ru l y k
        · rw [if_neg (by rw [nI_ltI (by omega) (by omega)]; have := q.2; omega)]
          rw [← bs_t (by omega) q] at ih
          rw [l_1, nI_add]
          exact ih
        · rw [if_pos (by rw [nI_ltI (by omega) (by omega)]; exact Nat.lt_of_not_le (fun h => q ⟨by omega, h⟩))]
          rw [← bs_f q] at ih
          rw [l_1, nI_add]
          exact ih
  · dsimp only
    cases u
    · exact sg_J_holdingBits_5 (iteP (by decide) ⟨rfl, rfl⟩)
    · exact sg_J_holdingBits_5b (iteP (by decide) ⟨rfl, rfl⟩)
theorem M_holding_c (J : JMd A D H C) (R : JMr A ru na rn rl) (l y : Nat) (hl : l < 6) (hy : y < 3) : am_fin [(z_M_holding, 0, [.ref 36, .int (nI l), .int (nI y), .null, .null, .null, .null], [])] (hp L xs A V K T) (some (nI (bs (hq D H ru l y) 3))) (hp L xs A V K T) := by
  refine sg_M_holding_0 ?_
  refine am_iterU (U := Option (Int32 × Int32)) (fun k u => ([(z_M_holding, 5, [.ref 36, .int (nI l), .int (nI y), .int (nI (bs (hq D H ru l y) k)), .int (nI k), dl (u.map Prod.fst), dl (u.map Prod.snd)], [])], hp L xs A V K T)) 3 (fun k u hk ih => ?_) (fun u => ?_) none
  · dsimp only at ih ⊢
    obtain ⟨e0, b0⟩ := R.1 l k hl hk
    obtain ⟨e1, h1, -, b1, c1, -⟩ := J l y hl hy
    have b2 := grt_le J l k y hl hy
    have b6 := six_le J l y hl hy
    cases u
    case none =>
      refine sg_M_holding_5 ?_
      rw [if_neg (by rw [l_3, nI_leI (by omega) (by omega)]; omega)]
      simp (disch := omega) only [l_0, l_1, l_2, l_3, l_4, l_5, l_6, l_7, l_8, l_9, l_13, l_18, l_30, l_31, l_78, l_258, l_360, l_2160, nI_mul, nI_add, nI_sub, nI_ltI, nI_leI, nI_eq, nI_clamp, -Int32.reduceOfNat, e0, e1]
      refine ⟨by omega, ?_⟩
      by_cases z : ru l k ≤ 0
      · rw [if_pos z]
        have ih := ih (some (nI (ru l k), nI 0))
        rw [← bs_f (p := hq D H ru l y) (fun q => by have := q.1; omega)] at ih
        exact ih
      · rw [if_neg z]
        by_cases k1 : k = 1
        · subst k1
          rw [if_pos rfl]
          refine ⟨by omega, ?_⟩
          have hh := hq1 D H ru l y (by omega) b0
          by_cases d : D l y ≤ 30
          · rw [if_pos d]
            have ih := ih (some (nI (ru l 1), nI 0))
            rw [← bs_f (p := hq D H ru l y) (fun q => by have := hh.mp q; omega)] at ih
            exact ih
          · rw [if_neg d]
            refine am_fin.call (M_sixfold_c J l y hl hy) (sg_M_holding_51rb ?_)
            rw [l_6, nI_mul]
            by_cases q : hq D H ru l y 1
            · have ih := ih (some (nI (ru l 1), nI 1))
              rw [if_neg (by rw [nI_ltI (by omega) (by omega)]; have := hh.mp q; omega)]
              rw [← bs_t (by omega) q] at ih
              exact ih
            · have ih := ih (some (nI (ru l 1), nI 0))
              rw [if_pos (by rw [nI_ltI (by omega) (by omega)]; exact Nat.lt_of_not_le (fun h => q (hh.mpr ⟨by omega, h⟩)))]
              rw [← bs_f q] at ih
              exact ih
        · rw [if_neg k1]
          refine am_fin.call (M_mostBy_c J l k y hl hk hy) (sg_M_holding_70rb ?_)
          rw [l_1, nI_add]
          by_cases q : hq D H ru l y k
          · have ih := ih (some (nI (ru l k), nI 1))
            rw [if_neg (by rw [nI_ltI (by omega) (by omega)]; have := q.2; omega)]
            rw [← bs_t (by omega) q] at ih
            exact ih
          · have ih := ih (some (nI (ru l k), nI 0))
            rw [if_pos (by rw [nI_ltI (by omega) (by omega)]; exact Nat.lt_of_not_le (fun h => q ⟨by omega, h⟩))]
            rw [← bs_f q] at ih
            exact ih
    case some w =>
      refine sg_M_holding_5b ?_
      rw [if_neg (by rw [l_3, nI_leI (by omega) (by omega)]; omega)]
      simp (disch := omega) only [l_0, l_1, l_2, l_3, l_4, l_5, l_6, l_7, l_8, l_9, l_13, l_18, l_30, l_31, l_78, l_258, l_360, l_2160, nI_mul, nI_add, nI_sub, nI_ltI, nI_leI, nI_eq, nI_clamp, -Int32.reduceOfNat, e0, e1]
      refine ⟨by omega, ?_⟩
      by_cases z : ru l k ≤ 0
      · rw [if_pos z]
        have ih := ih (some (nI (ru l k), nI 0))
        rw [← bs_f (p := hq D H ru l y) (fun q => by have := q.1; omega)] at ih
        exact ih
      · rw [if_neg z]
        by_cases k1 : k = 1
        · subst k1
          rw [if_pos rfl]
          refine ⟨by omega, ?_⟩
          have hh := hq1 D H ru l y (by omega) b0
          by_cases d : D l y ≤ 30
          · rw [if_pos d]
            have ih := ih (some (nI (ru l 1), nI 0))
            rw [← bs_f (p := hq D H ru l y) (fun q => by have := hh.mp q; omega)] at ih
            exact ih
          · rw [if_neg d]
            refine am_fin.call (M_sixfold_c J l y hl hy) (sg_M_holding_51r ?_)
            rw [l_6, nI_mul]
            by_cases q : hq D H ru l y 1
            · have ih := ih (some (nI (ru l 1), nI 1))
              rw [if_neg (by rw [nI_ltI (by omega) (by omega)]; have := hh.mp q; omega)]
              rw [← bs_t (by omega) q] at ih
              exact ih
            · have ih := ih (some (nI (ru l 1), nI 0))
              rw [if_pos (by rw [nI_ltI (by omega) (by omega)]; exact Nat.lt_of_not_le (fun h => q (hh.mpr ⟨by omega, h⟩)))]
              rw [← bs_f q] at ih
              exact ih
        · rw [if_neg k1]
          refine am_fin.call (M_mostBy_c J l k y hl hk hy) (sg_M_holding_70r ?_)
          rw [l_1, nI_add]
          by_cases q : hq D H ru l y k
          · have ih := ih (some (nI (ru l k), nI 1))
            rw [if_neg (by rw [nI_ltI (by omega) (by omega)]; have := q.2; omega)]
            rw [← bs_t (by omega) q] at ih
            exact ih
          · have ih := ih (some (nI (ru l k), nI 0))
            rw [if_pos (by rw [nI_ltI (by omega) (by omega)]; exact Nat.lt_of_not_le (fun h => q ⟨by omega, h⟩))]
            rw [← bs_f q] at ih
            exact ih
  · dsimp only
    cases u
    · exact sg_M_holding_5 (iteP (by decide) ⟨rfl, rfl⟩)
    · exact sg_M_holding_5b (iteP (by decide) ⟨rfl, rfl⟩)
end
