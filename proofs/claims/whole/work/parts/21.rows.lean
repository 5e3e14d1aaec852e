/-! rows of days, days of a year -/
def rwn (p : Nat → Prop) [DecidablePred p] (a : Nat) : Nat → Nat
  | 0 => 0
  | n + 1 => if p (a + n) then rwn p a n + 1 else 0
def lgn (p : Nat → Prop) [DecidablePred p] (a : Nat) : Nat → Nat
  | 0 => 0
  | n + 1 => max (lgn p a n) (rwn p a (n + 1))
theorem rwn_le (p : Nat → Prop) [DecidablePred p] (a : Nat) : ∀ n, rwn p a n ≤ n
  | 0 => Nat.le_refl _
  | n + 1 => by
    have := rwn_le p a n
    unfold rwn
    split <;> omega
theorem lgn_le (p : Nat → Prop) [DecidablePred p] (a : Nat) : ∀ n, lgn p a n ≤ n
  | 0 => Nat.le_refl _
  | n + 1 => by
    have := lgn_le p a n
    have := rwn_le p a (n + 1)
    unfold lgn
    omega
theorem rwn_T {p : Nat → Prop} [DecidablePred p] {a n : Nat} (h : p (a + n)) : rwn p a (n + 1) = rwn p a n + 1 := if_pos h
theorem rwn_F {p : Nat → Prop} [DecidablePred p] {a n : Nat} (h : ¬ p (a + n)) : rwn p a (n + 1) = 0 := if_neg h
theorem rwn_0 {p : Nat → Prop} [DecidablePred p] {a : Nat} : ∀ {n : Nat}, rwn p a n = 0 ↔ (n = 0 ∨ ¬ p (a + n - 1))
  | 0 => ⟨fun _ => Or.inl rfl, fun _ => rfl⟩
  | n + 1 => by
    rw [show a + (n + 1) - 1 = a + n by omega]
    by_cases h : p (a + n)
    · rw [rwn_T h]
      exact ⟨fun z => by omega, fun z => z.elim (fun z => by omega) (fun z => absurd h z)⟩
    · rw [rwn_F h]
      exact ⟨fun _ => Or.inr h, fun _ => rfl⟩
theorem nI_max {a b : Nat} (ha : a < 2 ^ 31) (hb : b < 2 ^ 31) : (if nI a < nI b then nI b else nI a) = nI (max a b) := by
  by_cases h : a < b
  · rw [if_pos ((nI_ltI ha hb).mpr h), Nat.max_eq_right (by omega)]
  · rw [if_neg (fun z => h ((nI_ltI ha hb).mp z)), Nat.max_eq_left (by omega)]
abbrev hbit (u l : Int32) : Prop := ((u >>> (l &&& 31)) &&& 1) = 1
abbrev rbeg (f : Nat → Int32) (x : Int32) (a d : Nat) : Prop := f d = x ∧ (d = a ∨ ¬ f (d - 1) = x)
section
variable {L : Nat} {xs : Nat → Int32} {A V : Nat → Nat → Int32} {K : Nat → Option Nat} {T : am_H}
theorem P_rowsOf_3_c (x : Int32) (a b : Nat) (hb : b < 1080) (hab : a ≤ b + 1) : am_fin [(z_P_rowsOf, 0, [.ref 3, .int x, .int (nI a), .int (nI b), .null, .null], [])] (hp L xs A V K T) (some (nI (cn (rbeg (A 4) x a) a (b + 1 - a)))) (hp L xs A V K T) := by
  refine sg_P_rowsOf_3_0 ?_
  refine am_iter (fun k => ([(z_P_rowsOf, 6, [.ref 3, .int x, .int (nI a), .int (nI b), .int (nI (cn (rbeg (A 4) x a) a k)), .int (nI (a + k))], [])], hp L xs A V K T)) (b + 1 - a) (fun k hk ih => ?_) ?_
  · dsimp only at ih ⊢
    refine sg_P_rowsOf_3_6 ?_
    simp (disch := omega) only [l_0, l_1, l_2, l_3, l_4, l_5, l_6, l_7, l_8, l_9, l_10, l_11, l_13, l_18, l_20, l_24, l_30, l_31, l_35, l_60, l_78, l_100, l_160, l_255, l_258, l_320, l_359, l_360, l_720, l_1000, l_1079, l_1080, l_2160, nI_ltI, nI_leI, nI_eq, nI_clamp, nI_add, Nat.add_assoc, Nat.add_zero, upA_same, upA_upA, fl_new, fl_s]
    rw [if_neg (by omega)]
    refine am_fin.call (P_landOn_3_c (a + k) (by omega)) (sg_P_rowsOf_3_18r ?_)
    simp (disch := omega) only [l_0, l_1, l_2, l_3, l_4, l_5, l_6, l_7, l_8, l_9, l_10, l_11, l_13, l_18, l_20, l_24, l_30, l_31, l_35, l_60, l_78, l_100, l_160, l_255, l_258, l_320, l_359, l_360, l_720, l_1000, l_1079, l_1080, l_2160, nI_ltI, nI_leI, nI_eq, nI_clamp, nI_add, Nat.add_assoc, Nat.add_zero, upA_same, upA_upA, fl_new, fl_s]
    by_cases h : A 4 (a + k) = x
    · rw [if_pos h]
      by_cases h0 : a + k = a
      · rw [if_pos h0, cn_T (p := rbeg (A 4) x a) ⟨h, Or.inl h0⟩]
        exact ih
      · rw [if_neg h0, show nI (a + k) - nI 1 = nI (a + k - 1) from nI_m1 (by omega)]
        refine am_fin.call (P_landOn_3_c (a + k - 1) (by omega)) (sg_P_rowsOf_3_36r ?_)
        simp (disch := omega) only [l_0, l_1, l_2, l_3, l_4, l_5, l_6, l_7, l_8, l_9, l_10, l_11, l_13, l_18, l_20, l_24, l_30, l_31, l_35, l_60, l_78, l_100, l_160, l_255, l_258, l_320, l_359, l_360, l_720, l_1000, l_1079, l_1080, l_2160, nI_ltI, nI_leI, nI_eq, nI_clamp, nI_add, Nat.add_assoc, Nat.add_zero, upA_same, upA_upA, fl_new, fl_s]
        by_cases h1 : A 4 (a + k - 1) = x
        · rw [if_pos h1, cn_F (p := rbeg (A 4) x a) (fun z => z.2.elim h0 (fun z => z h1))]
          exact ih
        · rw [if_neg h1, cn_T (p := rbeg (A 4) x a) ⟨h, Or.inr h1⟩]
          exact ih
    · rw [if_neg h, cn_F (p := rbeg (A 4) x a) (fun z => h z.1)]
      exact ih
  · dsimp only
    refine sg_P_rowsOf_3_6 ?_
    simp (disch := omega) only [l_0, l_1, l_2, l_3, l_4, l_5, l_6, l_7, l_8, l_9, l_10, l_11, l_13, l_18, l_20, l_24, l_30, l_31, l_35, l_60, l_78, l_100, l_160, l_255, l_258, l_320, l_359, l_360, l_720, l_1000, l_1079, l_1080, l_2160, nI_ltI, nI_leI, nI_eq, nI_clamp, nI_add, Nat.add_assoc, Nat.add_zero, upA_same, upA_upA, fl_new, fl_s]
    rw [if_pos (by omega)]
    exact ⟨trivial, trivial⟩
theorem P_longestRow_3_c (x : Int32) (a b : Nat) (hb : b < 1080) (hab : a ≤ b + 1) : am_fin [(z_P_longestRow, 0, [.ref 3, .int x, .int (nI a), .int (nI b), .null, .null, .null], [])] (hp L xs A V K T) (some (nI (lgn (fun d => A 4 d = x) a (b + 1 - a)))) (hp L xs A V K T) := by
  refine sg_P_longestRow_3_0 ?_
  refine am_iter (fun k => ([(z_P_longestRow, 9, [.ref 3, .int x, .int (nI a), .int (nI b), .int (nI (lgn (fun d => A 4 d = x) a k)), .int (nI (rwn (fun d => A 4 d = x) a k)), .int (nI (a + k))], [])], hp L xs A V K T)) (b + 1 - a) (fun k hk ih => ?_) ?_
  · dsimp only at ih ⊢
    have b1 := lgn_le (fun d => A 4 d = x) a k
    have b2 := rwn_le (fun d => A 4 d = x) a k
    refine sg_P_longestRow_3_9 ?_
    simp (disch := omega) only [l_0, l_1, l_2, l_3, l_4, l_5, l_6, l_7, l_8, l_9, l_10, l_11, l_13, l_18, l_20, l_24, l_30, l_31, l_35, l_60, l_78, l_100, l_160, l_255, l_258, l_320, l_359, l_360, l_720, l_1000, l_1079, l_1080, l_2160, nI_ltI, nI_leI, nI_eq, nI_clamp, nI_add, Nat.add_assoc, Nat.add_zero, upA_same, upA_upA, fl_new, fl_s]
    rw [if_neg (by omega)]
    refine am_fin.call (P_landOn_3_c (a + k) (by omega)) (sg_P_longestRow_3_21r ?_)
    rw [nI_1, nI_1, Nat.add_assoc, nI_max (by omega) (by omega)]
    by_cases h : A 4 (a + k) = x
    · rw [if_pos h, ← rwn_T (p := fun d => A 4 d = x) h]
      exact ih
    · rw [if_neg h, show (if nI (lgn (fun d => A 4 d = x) a k) < 0 then 0 else nI (lgn (fun d => A 4 d = x) a k)) = nI (max (lgn (fun d => A 4 d = x) a k) 0) from nI_max (b := 0) (by omega) (by omega)]
      have e := rwn_F (p := fun d => A 4 d = x) h
      rw [show nI (max (lgn (fun d => A 4 d = x) a k) 0) = nI (lgn (fun d => A 4 d = x) a (k + 1)) by rw [show lgn (fun d => A 4 d = x) a (k + 1) = max (lgn (fun d => A 4 d = x) a k) (rwn (fun d => A 4 d = x) a (k + 1)) from rfl, e]]
      rw [e] at ih
      exact ih
  · dsimp only
    refine sg_P_longestRow_3_9 ?_
    simp (disch := omega) only [l_0, l_1, l_2, l_3, l_4, l_5, l_6, l_7, l_8, l_9, l_10, l_11, l_13, l_18, l_20, l_24, l_30, l_31, l_35, l_60, l_78, l_100, l_160, l_255, l_258, l_320, l_359, l_360, l_720, l_1000, l_1079, l_1080, l_2160, nI_ltI, nI_leI, nI_eq, nI_clamp, nI_add, Nat.add_assoc, Nat.add_zero, upA_same, upA_upA, fl_new, fl_s]
    rw [if_pos (by omega)]
    exact ⟨trivial, trivial⟩
theorem M_rows_c (x w : Int32) (y : Nat) (hy : y < 3) : am_fin [(z_M_rows, 0, [.ref 36, .int x, .int (nI y), .int w, .null, .null, .null, .null], [])] (hp L xs A V K T) (some (if w = 3 then nI (cn (rbeg (A 37) x (360 * y)) (360 * y) 360) else nI (lgn (fun d => A 37 d = x) (360 * y) 360))) (hp L xs A V K T) := by
  refine sg_M_rows_0 ?_
  rw [show (360 : Int32) * nI y = nI (360 * y) from nI_mul 360 y]
  refine am_iter (fun k => ([(z_M_rows, 16, [.ref 36, .int x, .int (nI y), .int w, .int (nI (cn (rbeg (A 37) x (360 * y)) (360 * y) k)), .int (nI (lgn (fun d => A 37 d = x) (360 * y) k)), .int (nI (rwn (fun d => A 37 d = x) (360 * y) k)), .int (nI (360 * y + k))], [])], hp L xs A V K T)) 360 (fun k hk ih => ?_) ?_
  · dsimp only at ih ⊢
    have b1 := lgn_le (fun d => A 37 d = x) (360 * y) k
    have b2 := rwn_le (fun d => A 37 d = x) (360 * y) k
    refine sg_M_rows_16 ?_
    simp (disch := omega) only [l_0, l_1, l_360, nI_mul, nI_add, nI_leI, nI_ltI, nI_eq, nI_clamp, Nat.add_assoc, Nat.add_zero]
    rw [if_neg (by omega)]
    refine ⟨by omega, ?_⟩
    by_cases h : A 37 (360 * y + k) = x
    · rw [if_pos h]
      have e := rwn_T (p := fun d => A 37 d = x) h
      have e2 : lgn (fun d => A 37 d = x) (360 * y) (k + 1) = max (lgn (fun d => A 37 d = x) (360 * y) k) (rwn (fun d => A 37 d = x) (360 * y) k + 1) := by rw [← e]; rfl
      rw [e, e2] at ih
      have e3 : cn (rbeg (A 37) x (360 * y)) (360 * y) (k + 1) = if rwn (fun d => A 37 d = x) (360 * y) k + 1 = 1 then cn (rbeg (A 37) x (360 * y)) (360 * y) k + 1 else cn (rbeg (A 37) x (360 * y)) (360 * y) k := by
        by_cases hz : rwn (fun d => A 37 d = x) (360 * y) k = 0
        · rw [if_pos (by omega)]
          refine (cn_T (p := rbeg (A 37) x (360 * y)) ⟨h, ?_⟩).symm
          rcases rwn_0.mp hz with hz | hz
          · left; omega
          · right; exact hz
        · rw [if_neg (by omega)]
          refine (cn_F (p := rbeg (A 37) x (360 * y)) (fun q => hz (rwn_0.mpr ?_))).symm
          rcases q.2 with q | q
          · left; omega
          · right; exact q
      rw [e3] at ih
      by_cases h1 : rwn (fun d => A 37 d = x) (360 * y) k + 1 = 1
      · rw [if_pos h1]
        rw [if_pos h1] at ih
        by_cases h2 : lgn (fun d => A 37 d = x) (360 * y) k ≤ rwn (fun d => A 37 d = x) (360 * y) k + 1
        · rw [if_pos h2]; rw [Nat.max_eq_right h2] at ih; exact ih
        · rw [if_neg h2]; rw [Nat.max_eq_left (by omega)] at ih; exact ih
      · rw [if_neg h1]
        rw [if_neg h1] at ih
        by_cases h2 : lgn (fun d => A 37 d = x) (360 * y) k ≤ rwn (fun d => A 37 d = x) (360 * y) k + 1
        · rw [if_pos h2]; rw [Nat.max_eq_right h2] at ih; exact ih
        · rw [if_neg h2]; rw [Nat.max_eq_left (by omega)] at ih; exact ih
    · rw [if_neg h]
      have e := rwn_F (p := fun d => A 37 d = x) h
      have e2 : lgn (fun d => A 37 d = x) (360 * y) (k + 1) = max (lgn (fun d => A 37 d = x) (360 * y) k) 0 := by rw [← e]; rfl
      rw [e, e2, ← cn_F (p := rbeg (A 37) x (360 * y)) (fun z => h z.1)] at ih
      by_cases h2 : lgn (fun d => A 37 d = x) (360 * y) k ≤ 0
      · rw [if_pos h2]; rw [Nat.max_eq_right h2] at ih; exact ih
      · rw [if_neg h2]; rw [Nat.max_eq_left (by omega)] at ih; exact ih
  · dsimp only
    refine sg_M_rows_16 ?_
    simp (disch := omega) only [l_360, nI_mul, nI_add, nI_leI]
    rw [if_pos (by omega)]
    by_cases hw : w = 3
    · rw [if_pos hw, if_pos hw]; constructor <;> first | rfl | trivial
    · rw [if_neg hw, if_neg hw]; constructor <;> first | rfl | trivial
theorem M_daysIn_c0 (x : Int32) (y : Nat) (hy : y < 3) : am_fin [(z_M_daysIn, 0, [.ref 36, .int x, .int (nI y), .int (nI 0), .null, .null, .null], [])] (hp L xs A V K T) (some (nI (cn (fun d => A 37 d = x) (360 * y) 360))) (hp L xs A V K T) := by
  refine sg_M_daysIn_0 ?_
  rw [show (360 : Int32) * nI y = nI (360 * y) from nI_mul 360 y]
  refine am_iterU (U := Option Int32) (fun k u => ([(z_M_daysIn, 10, [.ref 36, .int x, .int (nI y), .int (nI 0), .int (nI (cn (fun d => A 37 d = x) (360 * y) k)), .int (nI (360 * y + k)), dl u], [])], hp L xs A V K T)) 360 (fun k u hk ih => ?_) (fun u => ?_) none
  · dsimp only at ih ⊢
    have hz : (fun d => A 37 d = x) (360 * y + k) ∨ ¬ (fun d => A 37 d = x) (360 * y + k) := Decidable.em _
    cases u
    case none =>
      refine sg_M_daysIn_10 ?_
      simp (disch := omega) only [l_0, l_1, l_360, nI_mul, nI_add, nI_leI, nI_ltI, nI_eq, nI_clamp, Nat.add_assoc, Nat.add_zero]
      rw [if_neg (by omega), if_pos (by trivial)]
      refine ⟨by omega, ?_⟩
      rcases hz with h | h
      · refine iteP h ?_
        rw [cn_T (p := fun d => A 37 d = x) h]
        exact ih (some 1)
      · refine iteN h ?_
        rw [cn_F (p := fun d => A 37 d = x) h]
        exact ih (some 0)
    case some w =>
      refine sg_M_daysIn_10b ?_
      simp (disch := omega) only [l_0, l_1, l_360, nI_mul, nI_add, nI_leI, nI_ltI, nI_eq, nI_clamp, Nat.add_assoc, Nat.add_zero]
      rw [if_neg (by omega), if_pos (by trivial)]
      refine ⟨by omega, ?_⟩
      rcases hz with h | h
      · refine iteP h ?_
        rw [cn_T (p := fun d => A 37 d = x) h]
        exact ih (some 1)
      · refine iteN h ?_
        rw [cn_F (p := fun d => A 37 d = x) h]
        exact ih (some 0)
  · dsimp only
    cases u
    case none =>
      refine sg_M_daysIn_10 ?_
      simp (disch := omega) only [l_360, nI_mul, nI_add, nI_leI]
      rw [if_pos (by omega)]
      constructor <;> first | rfl | trivial
    case some w =>
      refine sg_M_daysIn_10b ?_
      simp (disch := omega) only [l_360, nI_mul, nI_add, nI_leI]
      rw [if_pos (by omega)]
      constructor <;> first | rfl | trivial
theorem M_daysIn_c1 (x : Int32) (y : Nat) (hy : y < 3) : am_fin [(z_M_daysIn, 0, [.ref 36, .int x, .int (nI y), .int (nI 1), .null, .null, .null], [])] (hp L xs A V K T) (some (nI (cn (fun d => hbit (A 38 d) x) (360 * y) 360))) (hp L xs A V K T) := by
  refine sg_M_daysIn_0 ?_
  rw [show (360 : Int32) * nI y = nI (360 * y) from nI_mul 360 y]
  refine am_iterU (U := Option Int32) (fun k u => ([(z_M_daysIn, 10, [.ref 36, .int x, .int (nI y), .int (nI 1), .int (nI (cn (fun d => hbit (A 38 d) x) (360 * y) k)), .int (nI (360 * y + k)), dl u], [])], hp L xs A V K T)) 360 (fun k u hk ih => ?_) (fun u => ?_) none
  · dsimp only at ih ⊢
    have hz : (fun d => hbit (A 38 d) x) (360 * y + k) ∨ ¬ (fun d => hbit (A 38 d) x) (360 * y + k) := Decidable.em _
    cases u
    case none =>
      refine sg_M_daysIn_10 ?_
      simp (disch := omega) only [l_0, l_1, l_360, nI_mul, nI_add, nI_leI, nI_ltI, nI_eq, nI_clamp, Nat.add_assoc, Nat.add_zero]
      rw [if_neg (by omega), if_neg (by omega), if_pos (by trivial)]
      refine ⟨by omega, ?_⟩
      rcases hz with h | h
      · refine iteP h ?_
        rw [cn_T (p := fun d => hbit (A 38 d) x) h]
        exact ih (some 1)
      · refine iteN h ?_
        rw [cn_F (p := fun d => hbit (A 38 d) x) h]
        exact ih (some 0)
    case some w =>
      refine sg_M_daysIn_10b ?_
      simp (disch := omega) only [l_0, l_1, l_360, nI_mul, nI_add, nI_leI, nI_ltI, nI_eq, nI_clamp, Nat.add_assoc, Nat.add_zero]
      rw [if_neg (by omega), if_neg (by omega), if_pos (by trivial)]
      refine ⟨by omega, ?_⟩
      rcases hz with h | h
      · refine iteP h ?_
        rw [cn_T (p := fun d => hbit (A 38 d) x) h]
        exact ih (some 1)
      · refine iteN h ?_
        rw [cn_F (p := fun d => hbit (A 38 d) x) h]
        exact ih (some 0)
  · dsimp only
    cases u
    case none =>
      refine sg_M_daysIn_10 ?_
      simp (disch := omega) only [l_360, nI_mul, nI_add, nI_leI]
      rw [if_pos (by omega)]
      constructor <;> first | rfl | trivial
    case some w =>
      refine sg_M_daysIn_10b ?_
      simp (disch := omega) only [l_360, nI_mul, nI_add, nI_leI]
      rw [if_pos (by omega)]
      constructor <;> first | rfl | trivial
theorem M_daysIn_c2 (x : Int32) (y : Nat) (hy : y < 3) : am_fin [(z_M_daysIn, 0, [.ref 36, .int x, .int (nI y), .int (nI 2), .null, .null, .null], [])] (hp L xs A V K T) (some (nI (cn (fun d => A 39 d = x) (360 * y) 360))) (hp L xs A V K T) := by
  refine sg_M_daysIn_0 ?_
  rw [show (360 : Int32) * nI y = nI (360 * y) from nI_mul 360 y]
  refine am_iterU (U := Option Int32) (fun k u => ([(z_M_daysIn, 10, [.ref 36, .int x, .int (nI y), .int (nI 2), .int (nI (cn (fun d => A 39 d = x) (360 * y) k)), .int (nI (360 * y + k)), dl u], [])], hp L xs A V K T)) 360 (fun k u hk ih => ?_) (fun u => ?_) none
  · dsimp only at ih ⊢
    have hz : (fun d => A 39 d = x) (360 * y + k) ∨ ¬ (fun d => A 39 d = x) (360 * y + k) := Decidable.em _
    cases u
    case none =>
      refine sg_M_daysIn_10 ?_
      simp (disch := omega) only [l_0, l_1, l_360, nI_mul, nI_add, nI_leI, nI_ltI, nI_eq, nI_clamp, Nat.add_assoc, Nat.add_zero]
      rw [if_neg (by omega), if_neg (by omega), if_neg (by omega)]
      refine ⟨by omega, ?_⟩
      rcases hz with h | h
      · refine iteP h ?_
        rw [cn_T (p := fun d => A 39 d = x) h]
        exact ih (some 1)
      · refine iteN h ?_
        rw [cn_F (p := fun d => A 39 d = x) h]
        exact ih (some 0)
    case some w =>
      refine sg_M_daysIn_10b ?_
      simp (disch := omega) only [l_0, l_1, l_360, nI_mul, nI_add, nI_leI, nI_ltI, nI_eq, nI_clamp, Nat.add_assoc, Nat.add_zero]
      rw [if_neg (by omega), if_neg (by omega), if_neg (by omega)]
      refine ⟨by omega, ?_⟩
      rcases hz with h | h
      · refine iteP h ?_
        rw [cn_T (p := fun d => A 39 d = x) h]
        exact ih (some 1)
      · refine iteN h ?_
        rw [cn_F (p := fun d => A 39 d = x) h]
        exact ih (some 0)
  · dsimp only
    cases u
    case none =>
      refine sg_M_daysIn_10 ?_
      simp (disch := omega) only [l_360, nI_mul, nI_add, nI_leI]
      rw [if_pos (by omega)]
      constructor <;> first | rfl | trivial
    case some w =>
      refine sg_M_daysIn_10b ?_
      simp (disch := omega) only [l_360, nI_mul, nI_add, nI_leI]
      rw [if_pos (by omega)]
      constructor <;> first | rfl | trivial
end
