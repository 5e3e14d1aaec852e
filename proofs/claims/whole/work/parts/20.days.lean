/-! days: where one is, stays, counts -/
def dl (u : Option Int32) : Value := match u with
  | none => .null
  | some w => .int w
theorem am_iterU {U : Type} (S : Nat → U → List am_F × am_H) (N : Nat) {v : Option Int32} {h' : am_H} (step : ∀ k u, k < N → (∀ u', am_fin (S (k + 1) u').1 (S (k + 1) u').2 v h') → am_fin (S k u).1 (S k u).2 v h') (done : ∀ u, am_fin (S N u).1 (S N u).2 v h') (u : U) : am_fin (S 0 u).1 (S 0 u).2 v h' := by
  have key : ∀ r k u, k + r = N → am_fin (S k u).1 (S k u).2 v h' := by
    intro r
    induction r with
    | zero => intro k u hk; rw [Nat.add_zero] at hk; subst hk; exact done u
    | succ r ih => intro k u hk; exact step k u (by omega) (fun u' => ih (k + 1) u' (by omega))
  exact key N 0 u (by omega)
theorem nI_m1 {d : Nat} (h : 0 < d) : nI d - 1 = nI (d - 1) := by
  obtain ⟨k, rfl⟩ : ∃ k, d = k + 1 := ⟨d - 1, by omega⟩
  rw [nI_pred]; rfl
theorem nI_0m1 : nI 0 - 1 = -1 := by decide
theorem nI_sub {a b : Nat} (h : b ≤ a) : nI a - nI b = nI (a - b) := by
  have : nI a = nI (a - b) + nI b := by rw [nI_add, Nat.sub_add_cancel h]
  rw [this, Int32.add_sub_cancel]
theorem nI_mul (a b : Nat) : nI a * nI b = nI (a * b) := (Int32.ofNat_mul a b).symm
def b2 (p : Prop) [Decidable p] : Int32 := if p then 1 else 0
/-- a stay begins -/
abbrev beg (f : Nat → Int32) (d : Nat) : Prop := ¬ f d = -1 ∧ (d = 0 ∨ ¬ f (d - 1) = f d)
/-- its end: as long as it is the same -/
def eo (f : Nat → Int32) (x : Int32) : Nat → Nat → Nat
  | d, 0 => d
  | d, n + 1 => if f (d + 1) = x then eo f x (d + 1) n else d
def en (f : Nat → Int32) (d : Nat) : Nat := eo f (f d) d (1079 - d)
section
variable {L : Nat} {xs : Nat → Int32} {A V : Nat → Nat → Int32} {K : Nat → Option Nat} {T : am_H}
theorem P_landOn_3_c (d : Nat) (hd : d < 1080) : am_fin [(z_P_landOn, 0, [.ref 3, .int (nI d)], [])] (hp L xs A V K T) (some (A 4 d)) (hp L xs A V K T) := by
  refine sg_P_landOn_3_0 ?_
  simp (disch := omega) only [l_0, l_1, l_2, l_3, l_4, l_5, l_6, l_7, l_8, l_9, l_10, l_11, l_13, l_18, l_20, l_24, l_30, l_31, l_35, l_60, l_78, l_100, l_160, l_255, l_258, l_320, l_359, l_360, l_720, l_1000, l_1079, l_1080, l_2160, nI_ltI, nI_leI, nI_eq, nI_clamp, nI_add, Nat.add_assoc, Nat.add_zero, upA_same, upA_upA, fl_new, fl_s]
  rw [if_neg (by omega), if_neg (by omega)]
  exact ⟨by omega, by trivial, by trivial⟩
theorem P_landOn_3_n (x : Int32) (hx : x < 0) : am_fin [(z_P_landOn, 0, [.ref 3, .int x], [])] (hp L xs A V K T) (some (-1)) (hp L xs A V K T) := by
  refine sg_P_landOn_3_0 ?_
  rw [if_pos hx]
  exact ⟨rfl, rfl⟩
theorem P_landOn_5_c (d : Nat) (hd : d < 1080) : am_fin [(z_P_landOn, 0, [.ref 5, .int (nI d)], [])] (hp L xs A V K T) (some (A 6 d)) (hp L xs A V K T) := by
  refine sg_P_landOn_5_0 ?_
  simp (disch := omega) only [l_0, l_1, l_2, l_3, l_4, l_5, l_6, l_7, l_8, l_9, l_10, l_11, l_13, l_18, l_20, l_24, l_30, l_31, l_35, l_60, l_78, l_100, l_160, l_255, l_258, l_320, l_359, l_360, l_720, l_1000, l_1079, l_1080, l_2160, nI_ltI, nI_leI, nI_eq, nI_clamp, nI_add, Nat.add_assoc, Nat.add_zero, upA_same, upA_upA, fl_new, fl_s]
  rw [if_neg (by omega), if_neg (by omega)]
  exact ⟨by omega, by trivial, by trivial⟩
theorem P_landOn_5_n (x : Int32) (hx : x < 0) : am_fin [(z_P_landOn, 0, [.ref 5, .int x], [])] (hp L xs A V K T) (some (-1)) (hp L xs A V K T) := by
  refine sg_P_landOn_5_0 ?_
  rw [if_pos hx]
  exact ⟨rfl, rfl⟩
theorem P_landOn_7_c (d : Nat) (hd : d < 1080) : am_fin [(z_P_landOn, 0, [.ref 7, .int (nI d)], [])] (hp L xs A V K T) (some (A 8 d)) (hp L xs A V K T) := by
  refine sg_P_landOn_7_0 ?_
  simp (disch := omega) only [l_0, l_1, l_2, l_3, l_4, l_5, l_6, l_7, l_8, l_9, l_10, l_11, l_13, l_18, l_20, l_24, l_30, l_31, l_35, l_60, l_78, l_100, l_160, l_255, l_258, l_320, l_359, l_360, l_720, l_1000, l_1079, l_1080, l_2160, nI_ltI, nI_leI, nI_eq, nI_clamp, nI_add, Nat.add_assoc, Nat.add_zero, upA_same, upA_upA, fl_new, fl_s]
  rw [if_neg (by omega), if_neg (by omega)]
  exact ⟨by omega, by trivial, by trivial⟩
theorem P_landOn_7_n (x : Int32) (hx : x < 0) : am_fin [(z_P_landOn, 0, [.ref 7, .int x], [])] (hp L xs A V K T) (some (-1)) (hp L xs A V K T) := by
  refine sg_P_landOn_7_0 ?_
  rw [if_pos hx]
  exact ⟨rfl, rfl⟩
theorem P_landOn_34_c (d : Nat) (hd : d < 1080) : am_fin [(z_P_landOn, 0, [.ref 34, .int (nI d)], [])] (hp L xs A V K T) (some (A 35 d)) (hp L xs A V K T) := by
  refine sg_P_landOn_34_0 ?_
  simp (disch := omega) only [l_0, l_1, l_2, l_3, l_4, l_5, l_6, l_7, l_8, l_9, l_10, l_11, l_13, l_18, l_20, l_24, l_30, l_31, l_35, l_60, l_78, l_100, l_160, l_255, l_258, l_320, l_359, l_360, l_720, l_1000, l_1079, l_1080, l_2160, nI_ltI, nI_leI, nI_eq, nI_clamp, nI_add, Nat.add_assoc, Nat.add_zero, upA_same, upA_upA, fl_new, fl_s]
  rw [if_neg (by omega), if_neg (by omega)]
  exact ⟨by omega, by trivial, by trivial⟩
theorem P_landOn_34_n (x : Int32) (hx : x < 0) : am_fin [(z_P_landOn, 0, [.ref 34, .int x], [])] (hp L xs A V K T) (some (-1)) (hp L xs A V K T) := by
  refine sg_P_landOn_34_0 ?_
  rw [if_pos hx]
  exact ⟨rfl, rfl⟩
theorem P_startsStay_3_c (d : Nat) (hd : d < 1080) : am_fin [(z_P_startsStay, 0, [.ref 3, .int (nI d)], [])] (hp L xs A V K T) (some (b2 (beg (A 4) d))) (hp L xs A V K T) := by
  refine sg_P_startsStay_3_0 (am_fin.call (P_landOn_3_c d hd) (sg_P_startsStay_3_5r ?_))
  by_cases h1 : A 4 d = -1
  · rw [if_pos h1]
    exact ⟨by unfold b2; rw [if_neg (fun h => h.1 h1)], rfl⟩
  · rw [if_neg h1]
    refine am_fin.call (P_landOn_3_c d hd) (sg_P_startsStay_3_14r ?_)
    by_cases h0 : d = 0
    · subst h0
      refine am_fin.call (P_landOn_3_n _ (by decide)) (sg_P_startsStay_3_21r ?_)
      rw [if_neg h1]
      exact ⟨by unfold b2; rw [if_pos ⟨h1, Or.inl rfl⟩], rfl⟩
    · rw [nI_m1 (by omega)]
      refine am_fin.call (P_landOn_3_c (d - 1) (by omega)) (sg_P_startsStay_3_21r ?_)
      by_cases h2 : A 4 d = A 4 (d - 1)
      · rw [if_pos h2]
        exact ⟨by unfold b2; rw [if_neg (fun h => h.2.elim h0 (fun z => z h2.symm))], rfl⟩
      · rw [if_neg h2]
        exact ⟨by unfold b2; rw [if_pos ⟨h1, Or.inr (fun z => h2 z.symm)⟩], rfl⟩
theorem M_begins_c (d : Nat) (hd : d < 1080) : am_fin [(z_M_begins, 0, [.ref 36, .int (nI d)], [])] (hp L xs A V K T) (some (b2 (beg (A 37) d))) (hp L xs A V K T) := by
  refine sg_M_begins_0 ?_
  refine ⟨nI_inb (by omega) hd, ?_⟩
  rw [nI_clamp (by omega)]
  by_cases h1 : A 37 d = -1
  · rw [if_pos h1]
    exact ⟨by unfold b2; rw [if_neg (fun h => h.1 h1)], rfl⟩
  · rw [if_neg h1]
    by_cases h0 : d = 0
    · subst h0
      rw [if_pos (show nI 0 = 0 from rfl)]
      exact ⟨by unfold b2; rw [if_pos ⟨h1, Or.inl rfl⟩], rfl⟩
    · rw [if_neg (show ¬ nI d = 0 from fun z => h0 ((nI_eq (by omega) (by omega)).mp (show nI d = nI 0 from z))), nI_m1 (by omega)]
      rw [nI_clamp (by omega)]
      refine ⟨fun z => z.elim (nI_lt0 (by omega)) (by omega), fun z => z.elim (nI_lt0 (by omega)) (by omega), ?_⟩
      by_cases h2 : A 37 (d - 1) = A 37 d
      · rw [if_pos h2]
        exact ⟨by unfold b2; rw [if_neg (fun h => h.2.elim h0 (fun z => z h2))], rfl⟩
      · rw [if_neg h2]
        exact ⟨by unfold b2; rw [if_pos ⟨h1, Or.inr h2⟩], rfl⟩
theorem P_lastOfStay_3_c (d : Nat) (hd : d < 1080) : am_fin [(z_P_lastOfStay, 0, [.ref 3, .int (nI d), .null, .null, .null], [])] (hp L xs A V K T) (some (nI (en (A 4) d))) (hp L xs A V K T) := by
  refine sg_P_lastOfStay_3_0 (am_fin.call (P_landOn_3_c d hd) (sg_P_lastOfStay_3_7r ?_))
  have key : ∀ (x : Int32) (n e : Nat), e + n = 1079 → am_fin [(z_P_lastOfStay, 13, [.ref 3, .int (nI d), .int (nI e), .int x, .int (nI (e + 1))], [])] (hp L xs A V K T) (some (nI (eo (A 4) x e n))) (hp L xs A V K T) := by
    intro x n
    induction n with
    | zero =>
      intro e he
      refine sg_P_lastOfStay_3_13 ?_
      simp (disch := omega) only [l_0, l_1, l_2, l_3, l_4, l_5, l_6, l_7, l_8, l_9, l_10, l_11, l_13, l_18, l_20, l_24, l_30, l_31, l_35, l_60, l_78, l_100, l_160, l_255, l_258, l_320, l_359, l_360, l_720, l_1000, l_1079, l_1080, l_2160, nI_ltI, nI_leI, nI_eq, nI_clamp, nI_add, Nat.add_assoc, Nat.add_zero, upA_same, upA_upA, fl_new, fl_s]
      rw [if_pos (by omega)]
      exact ⟨by rfl, by trivial⟩
    | succ n ih =>
      intro e he
      refine sg_P_lastOfStay_3_13 ?_
      simp (disch := omega) only [l_0, l_1, l_2, l_3, l_4, l_5, l_6, l_7, l_8, l_9, l_10, l_11, l_13, l_18, l_20, l_24, l_30, l_31, l_35, l_60, l_78, l_100, l_160, l_255, l_258, l_320, l_359, l_360, l_720, l_1000, l_1079, l_1080, l_2160, nI_ltI, nI_leI, nI_eq, nI_clamp, nI_add, Nat.add_assoc, Nat.add_zero, upA_same, upA_upA, fl_new, fl_s]
      rw [if_neg (by omega)]
      refine ⟨by omega, ?_⟩
      by_cases h : A 4 (e + 1) = x
      · rw [if_pos h]
        have := ih (e + 1) (by omega)
        rw [show eo (A 4) x e (n + 1) = eo (A 4) x (e + 1) n from if_pos h]
        exact this
      · rw [if_neg h]
        exact ⟨by rw [show eo (A 4) x e (n + 1) = e from if_neg h], by trivial⟩
  rw [nI_1]
  exact key (A 4 d) (1079 - d) d (by omega)
theorem M_endOf_c (d : Nat) (hd : d < 1080) : am_fin [(z_M_endOf, 0, [.ref 36, .int (nI d), .null], [])] (hp L xs A V K T) (some (nI (en (A 37) d))) (hp L xs A V K T) := by
  refine sg_M_endOf_0 ?_
  have key : ∀ (n e : Nat), e + n = 1079 → am_fin [(z_M_endOf, 2, [.ref 36, .int (nI d), .int (nI e)], [])] (hp L xs A V K T) (some (nI (eo (A 37) (A 37 d) e n))) (hp L xs A V K T) := by
    intro n
    induction n with
    | zero =>
      intro e he
      refine sg_M_endOf_2 ?_
      simp (disch := omega) only [l_0, l_1, l_2, l_3, l_4, l_5, l_6, l_7, l_8, l_9, l_10, l_11, l_13, l_18, l_20, l_24, l_30, l_31, l_35, l_60, l_78, l_100, l_160, l_255, l_258, l_320, l_359, l_360, l_720, l_1000, l_1079, l_1080, l_2160, nI_ltI, nI_leI, nI_eq, nI_clamp, nI_add, Nat.add_assoc, Nat.add_zero, upA_same, upA_upA, fl_new, fl_s]
      rw [if_pos (by omega)]
      exact ⟨by rfl, by trivial⟩
    | succ n ih =>
      intro e he
      refine sg_M_endOf_2 ?_
      simp (disch := omega) only [l_0, l_1, l_2, l_3, l_4, l_5, l_6, l_7, l_8, l_9, l_10, l_11, l_13, l_18, l_20, l_24, l_30, l_31, l_35, l_60, l_78, l_100, l_160, l_255, l_258, l_320, l_359, l_360, l_720, l_1000, l_1079, l_1080, l_2160, nI_ltI, nI_leI, nI_eq, nI_clamp, nI_add, Nat.add_assoc, Nat.add_zero, upA_same, upA_upA, fl_new, fl_s]
      rw [if_neg (by omega)]
      refine ⟨by omega, by omega, ?_⟩
      by_cases h : A 37 (e + 1) = A 37 d
      · rw [if_pos h]
        have := ih (e + 1) (by omega)
        rw [show eo (A 37) (A 37 d) e (n + 1) = eo (A 37) (A 37 d) (e + 1) n from if_pos h]
        exact this
      · rw [if_neg h]
        exact ⟨by rw [show eo (A 37) (A 37 d) e (n + 1) = e from if_neg h], by trivial⟩
  exact key (1079 - d) d (by omega)
theorem P_stayCount_3_c : am_fin [(z_P_stayCount, 0, [.ref 3, .null, .null], [])] (hp L xs A V K T) (some (nI (cn (beg (A 4)) 0 1080))) (hp L xs A V K T) := by
  refine sg_P_stayCount_3_0 ?_
  refine am_iter (fun k => ([(z_P_stayCount, 4, [.ref 3, .int (nI (cn (beg (A 4)) 0 k)), .int (nI k)], [])], hp L xs A V K T)) 1080 (fun k hk ih => ?_) ?_
  · dsimp only at ih ⊢
    refine sg_P_stayCount_3_4 ?_
    simp (disch := omega) only [l_0, l_1, l_2, l_3, l_4, l_5, l_6, l_7, l_8, l_9, l_10, l_11, l_13, l_18, l_20, l_24, l_30, l_31, l_35, l_60, l_78, l_100, l_160, l_255, l_258, l_320, l_359, l_360, l_720, l_1000, l_1079, l_1080, l_2160, nI_ltI, nI_leI, nI_eq, nI_clamp, nI_add, Nat.add_assoc, Nat.add_zero, upA_same, upA_upA, fl_new, fl_s]
    rw [if_neg (by omega)]
    refine am_fin.call (P_startsStay_3_c k hk) (sg_P_stayCount_3_16r ?_)
    have hz : 0 + k = k := by omega
    by_cases h : beg (A 4) k
    · rw [if_neg (by unfold b2; rw [if_pos h]; decide), nI_1, nI_1, cn_T (p := beg (A 4)) (by rw [hz]; exact h)]
      exact ih
    · rw [if_pos (by unfold b2; rw [if_neg h]), nI_1, cn_F (p := beg (A 4)) (by rw [hz]; exact h)]
      exact ih
  · dsimp only
    refine sg_P_stayCount_3_4 ?_
    rw [if_pos (show (1080 : Int32) ≤ nI 1080 from Int32.le_refl _)]
    exact ⟨rfl, rfl⟩
theorem M_allStays_c : am_fin [(z_M_allStays, 0, [.ref 36, .null, .null], [])] (hp L xs A V K T) (some (nI (cn (beg (A 37)) 0 1080))) (hp L xs A V K T) := by
  refine sg_M_allStays_0 ?_
  refine am_iter (fun k => ([(z_M_allStays, 4, [.ref 36, .int (nI (cn (beg (A 37)) 0 k)), .int (nI k)], [])], hp L xs A V K T)) 1080 (fun k hk ih => ?_) ?_
  · dsimp only at ih ⊢
    refine sg_M_allStays_4 ?_
    simp (disch := omega) only [l_0, l_1, l_2, l_3, l_4, l_5, l_6, l_7, l_8, l_9, l_10, l_11, l_13, l_18, l_20, l_24, l_30, l_31, l_35, l_60, l_78, l_100, l_160, l_255, l_258, l_320, l_359, l_360, l_720, l_1000, l_1079, l_1080, l_2160, nI_ltI, nI_leI, nI_eq, nI_clamp, nI_add, Nat.add_assoc, Nat.add_zero, upA_same, upA_upA, fl_new, fl_s]
    rw [if_neg (by omega)]
    refine am_fin.call (M_begins_c k hk) (sg_M_allStays_17r ?_)
    have hz : 0 + k = k := by omega
    by_cases h : beg (A 37) k
    · rw [if_neg (by unfold b2; rw [if_pos h]; decide), nI_1, nI_1, cn_T (p := beg (A 37)) (by rw [hz]; exact h)]
      exact ih
    · rw [if_pos (by unfold b2; rw [if_neg h]), nI_1, Int32.add_zero, cn_F (p := beg (A 37)) (by rw [hz]; exact h)]
      exact ih
  · dsimp only
    refine sg_M_allStays_4 ?_
    rw [if_pos (show (1080 : Int32) ≤ nI 1080 from Int32.le_refl _)]
    exact ⟨rfl, rfl⟩
theorem P_countOf_3_c (x : Int32) (a b : Nat) (hb : b < 1080) (hab : a ≤ b + 1) : am_fin [(z_P_countOf, 0, [.ref 3, .int x, .int (nI a), .int (nI b), .null, .null], [])] (hp L xs A V K T) (some (nI (cn (fun d => A 4 d = x) a (b + 1 - a)))) (hp L xs A V K T) := by
  refine sg_P_countOf_3_0 ?_
  refine am_iter (fun k => ([(z_P_countOf, 6, [.ref 3, .int x, .int (nI a), .int (nI b), .int (nI (cn (fun d => A 4 d = x) a k)), .int (nI (a + k))], [])], hp L xs A V K T)) (b + 1 - a) (fun k hk ih => ?_) ?_
  · dsimp only at ih ⊢
    refine sg_P_countOf_3_6 ?_
    simp (disch := omega) only [l_0, l_1, l_2, l_3, l_4, l_5, l_6, l_7, l_8, l_9, l_10, l_11, l_13, l_18, l_20, l_24, l_30, l_31, l_35, l_60, l_78, l_100, l_160, l_255, l_258, l_320, l_359, l_360, l_720, l_1000, l_1079, l_1080, l_2160, nI_ltI, nI_leI, nI_eq, nI_clamp, nI_add, Nat.add_assoc, Nat.add_zero, upA_same, upA_upA, fl_new, fl_s]
    rw [if_neg (by omega)]
    refine am_fin.call (P_landOn_3_c (a + k) (by omega)) (sg_P_countOf_3_18r ?_)
    rw [nI_1, nI_1, Nat.add_assoc]
    by_cases h : A 4 (a + k) = x
    · rw [if_pos h, cn_T (p := fun d => A 4 d = x) h]
      exact ih
    · rw [if_neg h, cn_F (p := fun d => A 4 d = x) h]
      exact ih
  · dsimp only
    refine sg_P_countOf_3_6 ?_
    simp (disch := omega) only [l_0, l_1, l_2, l_3, l_4, l_5, l_6, l_7, l_8, l_9, l_10, l_11, l_13, l_18, l_20, l_24, l_30, l_31, l_35, l_60, l_78, l_100, l_160, l_255, l_258, l_320, l_359, l_360, l_720, l_1000, l_1079, l_1080, l_2160, nI_ltI, nI_leI, nI_eq, nI_clamp, nI_add, Nat.add_assoc, Nat.add_zero, upA_same, upA_upA, fl_new, fl_s]
    rw [if_pos (by omega)]
    exact ⟨trivial, trivial⟩
theorem P_countOf_5_c (x : Int32) (a b : Nat) (hb : b < 1080) (hab : a ≤ b + 1) : am_fin [(z_P_countOf, 0, [.ref 5, .int x, .int (nI a), .int (nI b), .null, .null], [])] (hp L xs A V K T) (some (nI (cn (fun d => A 6 d = x) a (b + 1 - a)))) (hp L xs A V K T) := by
  refine sg_P_countOf_5_0 ?_
  refine am_iter (fun k => ([(z_P_countOf, 6, [.ref 5, .int x, .int (nI a), .int (nI b), .int (nI (cn (fun d => A 6 d = x) a k)), .int (nI (a + k))], [])], hp L xs A V K T)) (b + 1 - a) (fun k hk ih => ?_) ?_
  · dsimp only at ih ⊢
    refine sg_P_countOf_5_6 ?_
    simp (disch := omega) only [l_0, l_1, l_2, l_3, l_4, l_5, l_6, l_7, l_8, l_9, l_10, l_11, l_13, l_18, l_20, l_24, l_30, l_31, l_35, l_60, l_78, l_100, l_160, l_255, l_258, l_320, l_359, l_360, l_720, l_1000, l_1079, l_1080, l_2160, nI_ltI, nI_leI, nI_eq, nI_clamp, nI_add, Nat.add_assoc, Nat.add_zero, upA_same, upA_upA, fl_new, fl_s]
    rw [if_neg (by omega)]
    refine am_fin.call (P_landOn_5_c (a + k) (by omega)) (sg_P_countOf_5_18r ?_)
    rw [nI_1, nI_1, Nat.add_assoc]
    by_cases h : A 6 (a + k) = x
    · rw [if_pos h, cn_T (p := fun d => A 6 d = x) h]
      exact ih
    · rw [if_neg h, cn_F (p := fun d => A 6 d = x) h]
      exact ih
  · dsimp only
    refine sg_P_countOf_5_6 ?_
    simp (disch := omega) only [l_0, l_1, l_2, l_3, l_4, l_5, l_6, l_7, l_8, l_9, l_10, l_11, l_13, l_18, l_20, l_24, l_30, l_31, l_35, l_60, l_78, l_100, l_160, l_255, l_258, l_320, l_359, l_360, l_720, l_1000, l_1079, l_1080, l_2160, nI_ltI, nI_leI, nI_eq, nI_clamp, nI_add, Nat.add_assoc, Nat.add_zero, upA_same, upA_upA, fl_new, fl_s]
    rw [if_pos (by omega)]
    exact ⟨trivial, trivial⟩
theorem M_between_c (x : Int32) (a b : Nat) (hb : b < 1080) (hab : a ≤ b + 1) : am_fin [(z_M_between, 0, [.ref 36, .int x, .int (nI a), .int (nI b), .null, .null], [])] (hp L xs A V K T) (some (nI (cn (fun d => A 37 d = x) a (b + 1 - a)))) (hp L xs A V K T) := by
  refine sg_M_between_0 ?_
  rw [if_pos (nI_ge0 (by omega))]
  refine am_iter (fun k => ([(z_M_between, 10, [.ref 36, .int x, .int (nI a), .int (nI b), .int (nI (cn (fun d => A 37 d = x) a k)), .int (nI (a + k))], [])], hp L xs A V K T)) (b + 1 - a) (fun k hk ih => ?_) ?_
  · dsimp only at ih ⊢
    refine sg_M_between_10 ?_
    simp (disch := omega) only [l_0, l_1, l_2, l_3, l_4, l_5, l_6, l_7, l_8, l_9, l_10, l_11, l_13, l_18, l_20, l_24, l_30, l_31, l_35, l_60, l_78, l_100, l_160, l_255, l_258, l_320, l_359, l_360, l_720, l_1000, l_1079, l_1080, l_2160, nI_ltI, nI_leI, nI_eq, nI_clamp, nI_add, Nat.add_assoc, Nat.add_zero, upA_same, upA_upA, fl_new, fl_s]
    rw [if_neg (by omega)]
    refine ⟨by omega, ?_⟩
    by_cases h : A 37 (a + k) = x
    · rw [if_pos h, cn_T (p := fun d => A 37 d = x) h]
      exact ih
    · rw [if_neg h, cn_F (p := fun d => A 37 d = x) h]
      exact ih
  · dsimp only
    refine sg_M_between_10 ?_
    simp (disch := omega) only [l_0, l_1, l_2, l_3, l_4, l_5, l_6, l_7, l_8, l_9, l_10, l_11, l_13, l_18, l_20, l_24, l_30, l_31, l_35, l_60, l_78, l_100, l_160, l_255, l_258, l_320, l_359, l_360, l_720, l_1000, l_1079, l_1080, l_2160, nI_ltI, nI_leI, nI_eq, nI_clamp, nI_add, Nat.add_assoc, Nat.add_zero, upA_same, upA_upA, fl_new, fl_s]
    rw [if_pos (by omega)]
    exact ⟨trivial, trivial⟩
theorem M_between_n (x y : Int32) (b : Nat) (hy : y < 0) (hb : b < 1080) : am_fin [(z_M_between, 0, [.ref 36, .int x, .int y, .int (nI b), .null, .null], [])] (hp L xs A V K T) (some (nI (cn (fun d => A 37 d = x) 0 (b + 1)))) (hp L xs A V K T) := by
  refine sg_M_between_0 ?_
  rw [if_neg (Int32.not_le.mpr hy)]
  refine am_iter (fun k => ([(z_M_between, 10, [.ref 36, .int x, .int y, .int (nI b), .int (nI (cn (fun d => A 37 d = x) 0 k)), .int (nI k)], [])], hp L xs A V K T)) (b + 1) (fun k hk ih => ?_) ?_
  · dsimp only at ih ⊢
    refine sg_M_between_10 ?_
    simp (disch := omega) only [l_0, l_1, l_2, l_3, l_4, l_5, l_6, l_7, l_8, l_9, l_10, l_11, l_13, l_18, l_20, l_24, l_30, l_31, l_35, l_60, l_78, l_100, l_160, l_255, l_258, l_320, l_359, l_360, l_720, l_1000, l_1079, l_1080, l_2160, nI_ltI, nI_leI, nI_eq, nI_clamp, nI_add, Nat.add_assoc, Nat.add_zero, upA_same, upA_upA, fl_new, fl_s]
    rw [if_neg (by omega)]
    refine ⟨by omega, ?_⟩
    have hz : 0 + k = k := by omega
    by_cases h : A 37 k = x
    · rw [if_pos h, cn_T (p := fun d => A 37 d = x) (by rw [hz]; exact h)]
      exact ih
    · rw [if_neg h, cn_F (p := fun d => A 37 d = x) (by rw [hz]; exact h)]
      exact ih
  · dsimp only
    refine sg_M_between_10 ?_
    simp (disch := omega) only [l_0, l_1, l_2, l_3, l_4, l_5, l_6, l_7, l_8, l_9, l_10, l_11, l_13, l_18, l_20, l_24, l_30, l_31, l_35, l_60, l_78, l_100, l_160, l_255, l_258, l_320, l_359, l_360, l_720, l_1000, l_1079, l_1080, l_2160, nI_ltI, nI_leI, nI_eq, nI_clamp, nI_add, Nat.add_assoc, Nat.add_zero, upA_same, upA_upA, fl_new, fl_s]
    rw [if_pos (by omega)]
    exact ⟨trivial, trivial⟩
end
