theorem srch_snoc (p : Nat → Prop) [DecidablePred p] : ∀ r k, srch p (r + 1) k = match srch p r k with
    | some m => some m
    | none => if p (k + r) then some (k + r) else none
  | 0, k => rfl
  | r + 1, k => by
    rw [show srch p (r + 1 + 1) k = if p k then some k else srch p (r + 1) (k + 1) from rfl, srch_snoc p r (k + 1), show srch p (r + 1) k = if p k then some k else srch p r (k + 1) from rfl]
    by_cases h : p k
    · rw [if_pos h, if_pos h]
    · rw [if_neg h, if_neg h, show k + 1 + r = k + (r + 1) by omega]
abbrev abv (D : Nat → Nat → Nat) (y l m : Nat) : Prop := D l y < D m y ∨ (D m y = D l y ∧ m < l)
theorem abv_lt (D : Nat → Nat → Nat) (y l m : Nat) (hm : m < 6) (h : abv D y l m) : cn (abv D y m) 0 6 < cn (abv D y l) 0 6 := by
  have e := cn_sub (p := abv D y l) (q := abv D y m) (a := 0) (fun i z => by unfold abv at *; omega) 6
  refine Nat.lt_of_le_of_ne e.1 (fun z => ?_)
  have := e.2.mp z m (by omega) (by omega) h
  unfold abv at this
  omega
theorem abv_uniq (D : Nat → Nat → Nat) (y l m : Nat) (hl : l < 6) (hm : m < 6) (h : cn (abv D y l) 0 6 = cn (abv D y m) 0 6) : l = m := by
  by_cases c : abv D y l m
  · have := abv_lt D y l m hm c; omega
  by_cases c2 : abv D y m l
  · have := abv_lt D y m l hl c2; omega
  unfold abv at c c2
  omega
section
variable {L : Nat} {xs : Nat → Int32} {A V : Nat → Nat → Int32} {K : Nat → Option Nat} {T : am_H} {D H C ru : Nat → Nat → Nat} {na : Nat → Nat} {rn : Nat → Nat → Nat} {rl : Nat → Nat → Nat → Nat}

theorem J_landsAbove_c (J : JCd A D H C) (l y : Nat) (hl : l < 6) (hy : y < 3) : am_fin [(z_J_landsAbove, 0, [.ref 26, .int (nI l), .int (nI y), .null, .null, .null, .null], [])] (hp L xs A V K T) (some (nI (cn (abv D y l) 0 6))) (hp L xs A V K T) := by
  obtain ⟨e0, -, -, b0, -⟩ := J l y hl hy
  have i0 : nI l * 3 + nI y = nI (l * 3 + y) := by rw [l_3, nI_mul, nI_add]
  refine sg_J_landsAbove_0 ⟨by rw [i0]; exact nI_inb (by omega) (by omega), ?_⟩
  rw [i0, nI_clamp (by omega), e0]
  refine am_iterU (U := Option Int32) (fun k u => ([(z_J_landsAbove, 17, [.ref 26, .int (nI l), .int (nI y), .int (nI (D l y)), .int (nI (cn (abv D y l) 0 k)), .int (nI k), dl u], [])], hp L xs A V K T)) 6 (fun k u hk ih => ?_) (fun u => ?_) none
  · dsimp only at ih ⊢
    obtain ⟨e1, -, -, b1, -⟩ := J k y hk hy
    have i1 : nI k * 3 + nI y = nI (k * 3 + y) := by rw [l_3, nI_mul, nI_add]
    have ob : ¬ (nI k * 3 + nI y < 0 ∨ 18 ≤ (nI k * 3 + nI y).toNatClampNeg) := by rw [i1]; exact nI_inb (by omega) (by omega)
    have ih := ih (some (nI (D k y)))
    rw [← nI_1] at ih
    cases u
    case none =>
      refine sg_J_landsAbove_17 (iteN (by rw [l_6, nI_leI (by omega) (by omega)]; omega) ⟨ob, ?_⟩)
      rw [i1, nI_clamp (by omega), e1]
      by_cases c1 : D l y < D k y
      · rw [← cn_t (p := abv D y l) (by rw [Nat.zero_add]; exact Or.inl c1)] at ih
        exact iteP ((nI_ltI (by omega) (by omega)).mpr c1) ih
      refine iteN (mt (nI_ltI (by omega) (by omega)).mp c1) ?_
      by_cases c3 : D k y = D l y
      · refine iteP (by rw [c3]) ?_
        by_cases c2 : l ≤ k
        · rw [← cn_f (p := abv D y l) (by rw [Nat.zero_add]; unfold abv; omega)] at ih
          exact iteP ((nI_leI (by omega) (by omega)).mpr c2) ih
        · rw [← cn_t (p := abv D y l) (by rw [Nat.zero_add]; unfold abv; omega)] at ih
          exact iteN (mt (nI_leI (by omega) (by omega)).mp c2) ih
      · rw [← cn_f (p := abv D y l) (by rw [Nat.zero_add]; unfold abv; omega)] at ih
        exact iteN (mt (nI_eq (by omega) (by omega)).mp c3) ih
    case some w =>
      refine sg_J_landsAbove_17b (iteN (by rw [l_6, nI_leI (by omega) (by omega)]; omega) ⟨ob, ?_⟩)
      rw [i1, nI_clamp (by omega), e1]
      by_cases c1 : D l y < D k y
      · rw [← cn_t (p := abv D y l) (by rw [Nat.zero_add]; exact Or.inl c1)] at ih
        exact iteP ((nI_ltI (by omega) (by omega)).mpr c1) ih
      refine iteN (mt (nI_ltI (by omega) (by omega)).mp c1) ?_
      by_cases c3 : D k y = D l y
      · refine iteP (by rw [c3]) ?_
        by_cases c2 : l ≤ k
        · rw [← cn_f (p := abv D y l) (by rw [Nat.zero_add]; unfold abv; omega)] at ih
          exact iteP ((nI_leI (by omega) (by omega)).mpr c2) ih
        · rw [← cn_t (p := abv D y l) (by rw [Nat.zero_add]; unfold abv; omega)] at ih
          exact iteN (mt (nI_leI (by omega) (by omega)).mp c2) ih
      · rw [← cn_f (p := abv D y l) (by rw [Nat.zero_add]; unfold abv; omega)] at ih
        exact iteN (mt (nI_eq (by omega) (by omega)).mp c3) ih
  · dsimp only
    cases u
    · exact sg_J_landsAbove_17 (iteP (by decide) ⟨rfl, rfl⟩)
    · exact sg_J_landsAbove_17b (iteP (by decide) ⟨rfl, rfl⟩)
theorem L_rank_lp (J : JCd A D H C) (y k : Nat) (hy : y < 3) (hk : k < 6) : ∀ r l, l + r = 6 → am_fin [(z_L_rank, 34, [.ref 1, .int (nI y), .int (nI k), .int (nI l)], [])] (hp L xs A V K T) (some (onat (-1) (srch (fun l => cn (abv D y l) 0 6 = k) r l))) (hp L xs A V K T) := by
  intro r
  induction r with
  | zero => intro l h; exact sg_L_rank_34 (iteP (by rw [l_6, nI_leI (by omega) (by omega)]; omega) ⟨rfl, rfl⟩)
  | succ r ih =>
    intro l h
    have b := cn_le (abv D y l) 0 6
    refine sg_L_rank_34 (iteN (by rw [l_6, nI_leI (by omega) (by omega)]; omega) (am_fin.call (J_landsAbove_c J l y (by omega) hy) (sg_L_rank_49r ?_)))
    by_cases q : cn (abv D y l) 0 6 = k
    · rw [srch_t (p := fun l => cn (abv D y l) 0 6 = k) q]
      exact iteP (by rw [q]) ⟨rfl, rfl⟩
    · rw [srch_f (p := fun l => cn (abv D y l) 0 6 = k) q, nI_1]
      exact iteN (mt (nI_eq (by omega) (by omega)).mp q) (ih (l + 1) (by omega))
theorem M_rank_in (J : JMd A D H C) (y l k : Nat) (hy : y < 3) (hl : l < 6) (hk : k < 6) (z : Int32) {v : Option Int32} {h' : am_H} (cont : am_fin [(z_M_rank, 30, [.ref 36, .int (nI y), .int (nI k), .int (if cn (abv D y l) 0 6 = k then nI l else z), .int (nI l + 1), .int (nI (cn (abv D y l) 0 6)), .int (nI 6)], [])] (hp L xs A V K T) v h') : am_fin [(z_M_rank, 43, [.ref 36, .int (nI y), .int (nI k), .int z, .int (nI l), .int 0, .int 0], [])] (hp L xs A V K T) v h' := by
  obtain ⟨e0, -, -, b0, -⟩ := J l y hl hy
  have i0 : (18 : Int32) * 0 + 3 * nI l + nI y = nI (18 * 0 + 3 * l + y) := by rw [l_18, l_0, l_3, nI_mul, nI_mul, nI_add, nI_add]
  have o0 : ¬ ((18 : Int32) * 0 + 3 * nI l + nI y < 0 ∨ 54 ≤ ((18 : Int32) * 0 + 3 * nI l + nI y).toNatClampNeg) := by rw [i0]; exact nI_inb (by omega) (by omega)
  refine am_iter (fun m => ([(z_M_rank, 43, [.ref 36, .int (nI y), .int (nI k), .int z, .int (nI l), .int (nI (cn (abv D y l) 0 m)), .int (nI m)], [])], hp L xs A V K T)) 6 (fun m hm ih => ?_) ?_
  · dsimp only at ih ⊢
    obtain ⟨e1, -, -, b1, -⟩ := J m y hm hy
    have i1 : (18 : Int32) * 0 + 3 * nI m + nI y = nI (18 * 0 + 3 * m + y) := by rw [l_18, l_0, l_3, nI_mul, nI_mul, nI_add, nI_add]
    have o1 : ¬ ((18 : Int32) * 0 + 3 * nI m + nI y < 0 ∨ 54 ≤ ((18 : Int32) * 0 + 3 * nI m + nI y).toNatClampNeg) := by rw [i1]; exact nI_inb (by omega) (by omega)
    rw [← nI_1] at ih
    refine sg_M_rank_43 (iteN (by rw [l_6, nI_leI (by omega) (by omega)]; omega) ⟨o1, o0, ?_⟩)
    rw [i0, i1, nI_clamp (by omega), nI_clamp (by omega), e0, e1, Int32.add_zero]
    by_cases c1 : D l y < D m y
    · rw [← cn_t (p := abv D y l) (by rw [Nat.zero_add]; exact Or.inl c1)] at ih
      exact iteP ((nI_ltI (by omega) (by omega)).mpr c1) ih
    refine iteN (mt (nI_ltI (by omega) (by omega)).mp c1) ?_
    by_cases c2 : l ≤ m
    · rw [← cn_f (p := abv D y l) (by rw [Nat.zero_add]; unfold abv; omega)] at ih
      exact iteP ((nI_leI (by omega) (by omega)).mpr c2) ih
    refine iteN (mt (nI_leI (by omega) (by omega)).mp c2) ⟨fun h => h.elim (nI_lt0 (by omega)) (fun h => by omega), fun h => h.elim (nI_lt0 (by omega)) (fun h => by omega), ?_⟩
    by_cases c3 : D m y = D l y
    · rw [← cn_t (p := abv D y l) (by rw [Nat.zero_add]; unfold abv; omega)] at ih
      exact iteP (by rw [c3]) ih
    · rw [← cn_f (p := abv D y l) (by rw [Nat.zero_add]; unfold abv; omega)] at ih
      exact iteN (mt (nI_eq (by omega) (by omega)).mp c3) ih
  · dsimp only
    have b := cn_le (abv D y l) 0 6
    refine sg_M_rank_43 (iteP (by decide) ?_)
    by_cases q : cn (abv D y l) 0 6 = k
    · rw [if_pos q] at cont
      exact iteP (by rw [q]) cont
    · rw [if_neg q] at cont
      exact iteN (mt (nI_eq (by omega) (by omega)).mp q) cont
theorem M_rank_lp (J : JMd A D H C) (y k : Nat) (hy : y < 3) (hk : k < 6) : am_fin [(z_M_rank, 30, [.ref 36, .int (nI y), .int (nI k), .int (-1), .int 0, .null, .null], [])] (hp L xs A V K T) (some (onat (-1) (srch (fun l => cn (abv D y l) 0 6 = k) 6 0))) (hp L xs A V K T) := by
  refine am_iterU (U := Option (Int32 × Int32)) (fun l u => ([(z_M_rank, 30, [.ref 36, .int (nI y), .int (nI k), .int (onat (-1) (srch (fun l => cn (abv D y l) 0 6 = k) l 0)), .int (nI l), dl (u.map Prod.fst), dl (u.map Prod.snd)], [])], hp L xs A V K T)) 6 (fun l u hl ih => ?_) (fun u => ?_) none
  · dsimp only at ih ⊢
    have ih := ih (some (nI (cn (abv D y l) 0 6), nI 6))
    rw [← nI_1, srch_snoc, Nat.zero_add] at ih
    have key : am_fin [(z_M_rank, 43, [.ref 36, .int (nI y), .int (nI k), .int (onat (-1) (srch (fun l => cn (abv D y l) 0 6 = k) l 0)), .int (nI l), .int 0, .int 0], [])] (hp L xs A V K T) (some (onat (-1) (srch (fun l => cn (abv D y l) 0 6 = k) 6 0))) (hp L xs A V K T) := by
      refine M_rank_in J y l k hy hl hk _ ?_
      cases hs : srch (fun l => cn (abv D y l) 0 6 = k) l 0 with
      | none =>
        rw [hs] at ih
        dsimp only at ih
        by_cases q : cn (abv D y l) 0 6 = k
        · rw [if_pos q] at ih ⊢; exact ih
        · rw [if_neg q] at ih ⊢; exact ih
      | some m =>
        rw [hs] at ih
        obtain ⟨-, k1, k2⟩ := srch_in _ _ _ _ hs
        have k2 : cn (abv D y m) 0 6 = k := k2
        rw [if_neg (fun q => by have := abv_uniq D y l m hl (by omega) (q.trans k2.symm); omega)]
        exact ih
    cases u
    · exact sg_M_rank_30 (iteN (by rw [l_6, nI_leI (by omega) (by omega)]; omega) key)
    · exact sg_M_rank_30b (iteN (by rw [l_6, nI_leI (by omega) (by omega)]; omega) key)
  · dsimp only
    cases u
    · exact sg_M_rank_30 (iteP (by decide) ⟨rfl, rfl⟩)
    · exact sg_M_rank_30b (iteP (by decide) ⟨rfl, rfl⟩)
/-- a pair that is asked for -/
abbrev pw (D H C : Nat → Nat → Nat) (na : Nat → Nat) (rn : Nat → Nat → Nat) (rl : Nat → Nat → Nat → Nat) (y w a b : Nat) : Prop := w = 0 ∨ (w = 1 ∧ ans D H C na rn rl y a b ≠ ans D H C na rn rl y b a) ∨ (w = 2 ∧ ans D H C na rn rl y a b = -2 ∧ ans D H C na rn rl y b a = -2)
theorem J_isPairOf_c (J : JCd A D H C) (R : JCr A V ru na rn rl) (a b y w : Nat) (ha : a < 6) (hb : b < 6) (hab : a ≠ b) (hy : y < 3) (hw : w < 3) : am_fin [(z_J_isPairOf, 0, [.ref 26, .int (nI a), .int (nI b), .int (nI y), .int (nI w), .null, .null], [])] (hp L xs A V K T) (some (b2 (pw D H C na rn rl y w a b))) (hp L xs A V K T) := by
  refine sg_J_isPairOf_0 (am_fin.call (J_answerOf_c J R a b y ha hb hab hy) (sg_J_isPairOf_7r (am_fin.call (J_answerOf_c J R b a y hb ha (Ne.symm hab) hy) (sg_J_isPairOf_16r ?_))))
  unfold b2
  rcases (by omega : w = 0 ∨ w = 1 ∨ w = 2) with rfl | rfl | rfl
  · exact iteN (by decide) (iteP rfl ⟨by rw [if_pos (Or.inl rfl)], rfl⟩)
  · by_cases q : ans D H C na rn rl y a b = ans D H C na rn rl y b a
    · exact iteP rfl (iteP q ⟨by rw [if_neg (by rintro (h | ⟨-, h⟩ | ⟨h, -⟩) <;> first | omega | exact h q)], rfl⟩)
    · exact iteP rfl (iteN q ⟨by rw [if_pos (Or.inr (Or.inl ⟨rfl, q⟩))], rfl⟩)
  · by_cases q1 : ans D H C na rn rl y a b = -2
    · by_cases q2 : ans D H C na rn rl y b a = -2
      · exact iteN (by decide) (iteN (by decide) (iteP q1 (iteP q2 ⟨by rw [if_pos (Or.inr (Or.inr ⟨rfl, q1, q2⟩))], rfl⟩)))
      · exact iteN (by decide) (iteN (by decide) (iteP q1 (iteN q2 ⟨by rw [if_neg (by rintro (h | ⟨h, -⟩ | ⟨-, -, h⟩) <;> first | omega | exact q2 h)], rfl⟩)))
    · exact iteN (by decide) (iteN (by decide) (iteN q1 ⟨by rw [if_neg (by rintro (h | ⟨h, -⟩ | ⟨-, h, -⟩) <;> first | omega | exact q1 h)], rfl⟩))
theorem M_pw {a b y w : Nat} (hw : w < 3) {P Q : Prop} (hP : pw D H C na rn rl y w a b → P) (hQ : ¬ pw D H C na rn rl y w a b → Q) : if nI w = 0 then P else if nI w = 1 then (if ans D H C na rn rl y a b = ans D H C na rn rl y b a then Q else P) else if ans D H C na rn rl y a b = -2 then (if ans D H C na rn rl y b a = -2 then P else Q) else Q := by
  rcases (by omega : w = 0 ∨ w = 1 ∨ w = 2) with rfl | rfl | rfl
  · exact iteP rfl (hP (Or.inl rfl))
  · refine iteN (by decide) (iteP rfl ?_)
    by_cases q : ans D H C na rn rl y a b = ans D H C na rn rl y b a
    · exact iteP q (hQ (by rintro (h | ⟨-, h⟩ | ⟨h, -⟩) <;> first | omega | exact h q))
    · exact iteN q (hP (Or.inr (Or.inl ⟨rfl, q⟩)))
  · refine iteN (by decide) (iteN (by decide) ?_)
    by_cases q1 : ans D H C na rn rl y a b = -2
    · by_cases q2 : ans D H C na rn rl y b a = -2
      · exact iteP q1 (iteP q2 (hP (Or.inr (Or.inr ⟨rfl, q1, q2⟩))))
      · exact iteP q1 (iteN q2 (hQ (by rintro (h | ⟨h, -⟩ | ⟨-, -, h⟩) <;> first | omega | exact q2 h)))
    · exact iteN q1 (hQ (by rintro (h | ⟨h, -⟩ | ⟨-, h, -⟩) <;> first | omega | exact q1 h))
end
section
variable {L : Nat} {xs : Nat → Int32} {A B V W : Nat → Nat → Int32} {K K' : Nat → Option Nat} {T T' : am_H} {D H C ru : Nat → Nat → Nat} {na : Nat → Nat} {rn : Nat → Nat → Nat} {rl : Nat → Nat → Nat → Nat}
theorem pairs_lp (J : JCd A D H C) (R : JCr A V ru na rn rl) (JM : JMd B D H C) (RM : JMr B ru na rn rl) (y w : Nat) (hy : y < 3) (hw : w < 3) : ∀ (m a b : Nat) (n : Int32), 7 * (5 - a) + (6 - b) ≤ m → a < 6 → a < b → b ≤ 6 → ∃ v : Int32, am_fin [(z_L_pairs, 60, [.ref 1, .int (nI y), .int (nI w), .int (nI (bs (clm D H ru y) 6)), .int n, .int (nI a), .int (nI b)], [])] (hp L xs A V K T) (some v) (hp L xs A V K T) ∧ ∀ u : Option (Int32 × Int32), am_fin [(z_M_pairs, 50, [.ref 36, .int (nI y), .int (nI w), .int (nI (bs (clm D H ru y) 6)), .int n, .int (nI a), .int (nI b), dl (u.map Prod.fst), dl (u.map Prod.snd)], [])] (hp L xs B W K' T') (some v) (hp L xs B W K' T') := by
  intro m
  induction m with
  | zero =>
    intro a b n h1 ha hab hb
    have e1 : a = 5 := by omega
    have e2 : b = 6 := by omega
    subst e1; subst e2
    refine ⟨n, sg_L_pairs_60 (iteP (by decide) (sg_L_pairs_47b (iteP (by decide) ⟨rfl, rfl⟩))), fun u => ?_⟩
    cases u
    · exact sg_M_pairs_50 (iteP (by decide) (sg_M_pairs_37b (iteP (by decide) ⟨rfl, rfl⟩)))
    · exact sg_M_pairs_50b (iteP (by decide) (sg_M_pairs_37c (iteP (by decide) ⟨rfl, rfl⟩)))
  | succ m ih =>
    intro a b n h1 ha hab hb
    by_cases b6 : b = 6
    · subst b6
      by_cases a5 : a = 5
      · subst a5
        refine ⟨n, sg_L_pairs_60 (iteP (by decide) (sg_L_pairs_47b (iteP (by decide) ⟨rfl, rfl⟩))), fun u => ?_⟩
        cases u
        · exact sg_M_pairs_50 (iteP (by decide) (sg_M_pairs_37b (iteP (by decide) ⟨rfl, rfl⟩)))
        · exact sg_M_pairs_50b (iteP (by decide) (sg_M_pairs_37c (iteP (by decide) ⟨rfl, rfl⟩)))
      · obtain ⟨v, i1, i2⟩ := ih (a + 1) (a + 2) n (by omega) (by omega) (by omega) (by omega)
        have e1 : nI a + 1 = nI (a + 1) := nI_1 a
        have e2 : nI (a + 1) + 1 = nI (a + 2) := nI_1 (a + 1)
        refine ⟨v, sg_L_pairs_60 (iteP (by decide) (sg_L_pairs_47b (iteN (by rw [e1]; rw [l_6, nI_leI (by omega) (by omega)]; omega) (by rw [e1, e2]; exact i1)))), fun u => ?_⟩
        cases u
        · exact sg_M_pairs_50 (iteP (by decide) (sg_M_pairs_37b (iteN (by rw [e1]; rw [l_6, nI_leI (by omega) (by omega)]; omega) (by rw [e1, e2]; exact i2 none))))
        · exact sg_M_pairs_50b (iteP (by decide) (sg_M_pairs_37c (iteN (by rw [e1]; rw [l_6, nI_leI (by omega) (by omega)]; omega) (by rw [e1, e2]; exact i2 (some _)))))
    · have b6' : b < 6 := by omega
      have hn : a ≠ b := by omega
      have e1 : nI b + 1 = nI (b + 1) := nI_1 b
      have l6 : ¬ (6 : Int32) ≤ nI b := by rw [l_6, nI_leI (by omega) (by omega)]; omega
      by_cases ca : clm D H ru y a
      · by_cases cb : clm D H ru y b
        · have mq : ∀ {v' : Option Int32} {h' : am_H} (u : Option (Int32 × Int32)), (pw D H C na rn rl y w a b → ∀ x z : Int32, am_fin [(z_M_pairs, 50, [.ref 36, .int (nI y), .int (nI w), .int (nI (bs (clm D H ru y) 6)), .int (n + 1), .int (nI a), .int (nI b + 1), .int x, .int z], [])] (hp L xs B W K' T') v' h') → (¬ pw D H C na rn rl y w a b → ∀ x z : Int32, am_fin [(z_M_pairs, 50, [.ref 36, .int (nI y), .int (nI w), .int (nI (bs (clm D H ru y) 6)), .int (n + 0), .int (nI a), .int (nI b + 1), .int x, .int z], [])] (hp L xs B W K' T') v' h') → am_fin [(z_M_pairs, 50, [.ref 36, .int (nI y), .int (nI w), .int (nI (bs (clm D H ru y) 6)), .int n, .int (nI a), .int (nI b), dl (u.map Prod.fst), dl (u.map Prod.snd)], [])] (hp L xs B W K' T') v' h' := by
            intro v' h' u k1 k2
            cases u
            · exact sg_M_pairs_50 (iteN l6 (iteN (mt (bs_hbitz ha).mp (fun z => z ca)) (iteN (mt (bs_hbitz b6').mp (fun z => z cb)) (am_fin.call (M_answer_c JM RM a b y ha b6' hn hy) (sg_M_pairs_87r (am_fin.call (M_answer_c JM RM b a y b6' ha (Ne.symm hn) hy) (sg_M_pairs_98r (M_pw hw (fun q => k1 q _ _) (fun q => k2 q _ _)))))))))
            · exact sg_M_pairs_50b (iteN l6 (iteN (mt (bs_hbitz ha).mp (fun z => z ca)) (iteN (mt (bs_hbitz b6').mp (fun z => z cb)) (am_fin.call (M_answer_c JM RM a b y ha b6' hn hy) (sg_M_pairs_87rb (am_fin.call (M_answer_c JM RM b a y b6' ha (Ne.symm hn) hy) (sg_M_pairs_98rb (M_pw hw (fun q => k1 q _ _) (fun q => k2 q _ _)))))))))
          by_cases q : pw D H C na rn rl y w a b
          · obtain ⟨v, i1, i2⟩ := ih a (b + 1) (n + 1) (by omega) ha (by omega) (by omega)
            refine ⟨v, sg_L_pairs_60 (iteN l6 (iteP ((bs_hbit ha).mpr ca) (iteP ((bs_hbit b6').mpr cb) (am_fin.call (J_isPairOf_c J R a b y w ha b6' hn hy hw) (sg_L_pairs_98r (iteN (by unfold b2; rw [if_pos q]; decide) (by rw [e1]; exact i1))))))), fun u => mq u (fun _ x z => by rw [e1]; exact i2 (some (x, z))) (fun z => absurd q z)⟩
          · obtain ⟨v, i1, i2⟩ := ih a (b + 1) n (by omega) ha (by omega) (by omega)
            refine ⟨v, sg_L_pairs_60 (iteN l6 (iteP ((bs_hbit ha).mpr ca) (iteP ((bs_hbit b6').mpr cb) (am_fin.call (J_isPairOf_c J R a b y w ha b6' hn hy hw) (sg_L_pairs_98r (iteP (by unfold b2; rw [if_neg q]) (by rw [e1]; exact i1))))))), fun u => mq u (fun z => absurd z q) (fun _ x z => by rw [e1, Int32.add_zero]; exact i2 (some (x, z)))⟩
        · obtain ⟨v, i1, i2⟩ := ih a (b + 1) n (by omega) ha (by omega) (by omega)
          refine ⟨v, sg_L_pairs_60 (iteN l6 (iteP ((bs_hbit ha).mpr ca) (iteN (mt (bs_hbit b6').mp cb) (by rw [e1]; exact i1)))), fun u => ?_⟩
          cases u
          · exact sg_M_pairs_50 (iteN l6 (iteN (mt (bs_hbitz ha).mp (fun z => z ca)) (iteP ((bs_hbitz b6').mpr cb) (by rw [e1]; exact i2 none))))
          · exact sg_M_pairs_50b (iteN l6 (iteN (mt (bs_hbitz ha).mp (fun z => z ca)) (iteP ((bs_hbitz b6').mpr cb) (by rw [e1]; exact i2 (some _)))))
      · obtain ⟨v, i1, i2⟩ := ih a (b + 1) n (by omega) ha (by omega) (by omega)
        refine ⟨v, sg_L_pairs_60 (iteN l6 (iteN (mt (bs_hbit ha).mp ca) (by rw [e1]; exact i1))), fun u => ?_⟩
        cases u
        · exact sg_M_pairs_50 (iteN l6 (iteP ((bs_hbitz ha).mpr ca) (by rw [e1]; exact i2 none)))
        · exact sg_M_pairs_50b (iteN l6 (iteP ((bs_hbitz ha).mpr ca) (by rw [e1]; exact i2 (some _))))
end
section
variable {L : Nat} {xs : Nat → Int32} {A V : Nat → Nat → Int32} {K : Nat → Option Nat} {T : am_H}
theorem pr_rank (a1 a2 : Int32) (R : RI A V K T) : PRQ z_L_rank z_M_rank [.ref 1, .int a1, .int a2, .null] [.ref 36, .int a1, .int a2, .null, .null, .null, .null] L xs A V K T := by
  by_cases c1 : a1 < 0
  · refine ⟨(-1), A, V, K, T, A, V, sg_L_rank_0 ?_, sg_M_rank_0 ?_, R⟩
    · (try simp only [lgl, lgg]); (repeat first | refine iteP (by first | assumption) ?_ | refine iteN (by first | assumption) ?_); (constructor <;> first | rfl | trivial)
    · (try simp only [lgl, lgg]); (repeat first | refine iteP (by first | assumption) ?_ | refine iteN (by first | assumption) ?_); (constructor <;> first | rfl | trivial)
  by_cases c2 : (2 : Int32) < a1
  · refine ⟨(-1), A, V, K, T, A, V, sg_L_rank_0 ?_, sg_M_rank_0 ?_, R⟩
    · (try simp only [lgl, lgg]); (repeat first | refine iteP (by first | assumption) ?_ | refine iteN (by first | assumption) ?_); (constructor <;> first | rfl | trivial)
    · (try simp only [lgl, lgg]); (repeat first | refine iteP (by first | assumption) ?_ | refine iteN (by first | assumption) ?_); (constructor <;> first | rfl | trivial)
  by_cases c3 : a2 < 0
  · refine ⟨(-1), A, V, K, T, A, V, sg_L_rank_0 ?_, sg_M_rank_0 ?_, R⟩
    · (try simp only [lgl, lgg]); (repeat first | refine iteP (by first | assumption) ?_ | refine iteN (by first | assumption) ?_); (constructor <;> first | rfl | trivial)
    · (try simp only [lgl, lgg]); (repeat first | refine iteP (by first | assumption) ?_ | refine iteN (by first | assumption) ?_); (constructor <;> first | rfl | trivial)
  by_cases c4 : (5 : Int32) < a2
  · refine ⟨(-1), A, V, K, T, A, V, sg_L_rank_0 ?_, sg_M_rank_0 ?_, R⟩
    · (try simp only [lgl, lgg]); (repeat first | refine iteP (by first | assumption) ?_ | refine iteN (by first | assumption) ?_); (constructor <;> first | rfl | trivial)
    · (try simp only [lgl, lgg]); (repeat first | refine iteP (by first | assumption) ?_ | refine iteN (by first | assumption) ?_); (constructor <;> first | rfl | trivial)
  obtain ⟨y, hy, rfl⟩ := i32_nat (m := 2) (by omega) c1 c2
  obtain ⟨k, hk, rfl⟩ := i32_nat (m := 5) (by omega) c3 c4
  obtain ⟨gc, gh, gd, gm, j1, j2, j3, m1, m2, m3, RR⟩ := weighed (L := L) (xs := xs) R
  refine ⟨onat (-1) (srch (fun l => cn (abv (nD (A 4)) y l) 0 6 = k) 6 0), upA (upA (upA A 29 gc) 28 gh) 27 gd, V, K, T, upA (upA (upA (upA A 29 gc) 28 gh) 27 gd) 47 gm, V, sg_L_rank_0 ?_, sg_M_rank_0 ?_, RR⟩
  · (try simp only [lgl, lgg]); (repeat first | refine iteP (by first | assumption) ?_ | refine iteN (by first | assumption) ?_)
    exact am_fin.call j3 (sg_L_rank_32r (L_rank_lp j1 y k (by omega) (by omega) 6 0 (by omega)))
  · (try simp only [lgl, lgg]); (repeat first | refine iteP (by first | assumption) ?_ | refine iteN (by first | assumption) ?_)
    exact am_fin.call m3 (sg_M_rank_25r (M_rank_lp m1 y k (by omega) (by omega)))
theorem pr_pairs (a1 a2 : Int32) (R : RI A V K T) : PRQ z_L_pairs z_M_pairs [.ref 1, .int a1, .int a2, .null, .null, .null, .null] [.ref 36, .int a1, .int a2, .null, .null, .null, .null, .null, .null] L xs A V K T := by
  by_cases c1 : a1 < 0
  · refine ⟨(-1), A, V, K, T, A, V, sg_L_pairs_0 ?_, sg_M_pairs_0 ?_, R⟩
    · (try simp only [lgl, lgg]); (repeat first | refine iteP (by first | assumption) ?_ | refine iteN (by first | assumption) ?_); (constructor <;> first | rfl | trivial)
    · (try simp only [lgl, lgg]); (repeat first | refine iteP (by first | assumption) ?_ | refine iteN (by first | assumption) ?_); (constructor <;> first | rfl | trivial)
  by_cases c2 : (2 : Int32) < a1
  · refine ⟨(-1), A, V, K, T, A, V, sg_L_pairs_0 ?_, sg_M_pairs_0 ?_, R⟩
    · (try simp only [lgl, lgg]); (repeat first | refine iteP (by first | assumption) ?_ | refine iteN (by first | assumption) ?_); (constructor <;> first | rfl | trivial)
    · (try simp only [lgl, lgg]); (repeat first | refine iteP (by first | assumption) ?_ | refine iteN (by first | assumption) ?_); (constructor <;> first | rfl | trivial)
  by_cases c3 : a2 < 0
  · refine ⟨(-1), A, V, K, T, A, V, sg_L_pairs_0 ?_, sg_M_pairs_0 ?_, R⟩
    · (try simp only [lgl, lgg]); (repeat first | refine iteP (by first | assumption) ?_ | refine iteN (by first | assumption) ?_); (constructor <;> first | rfl | trivial)
    · (try simp only [lgl, lgg]); (repeat first | refine iteP (by first | assumption) ?_ | refine iteN (by first | assumption) ?_); (constructor <;> first | rfl | trivial)
  by_cases c4 : (2 : Int32) < a2
  · refine ⟨(-1), A, V, K, T, A, V, sg_L_pairs_0 ?_, sg_M_pairs_0 ?_, R⟩
    · (try simp only [lgl, lgg]); (repeat first | refine iteP (by first | assumption) ?_ | refine iteN (by first | assumption) ?_); (constructor <;> first | rfl | trivial)
    · (try simp only [lgl, lgg]); (repeat first | refine iteP (by first | assumption) ?_ | refine iteN (by first | assumption) ?_); (constructor <;> first | rfl | trivial)
  obtain ⟨y, hy, rfl⟩ := i32_nat (m := 2) (by omega) c1 c2
  obtain ⟨w, hw, rfl⟩ := i32_nat (m := 2) (by omega) c3 c4
  obtain ⟨gc, gh, gd, gm, j1, j2, j3, m1, m2, m3, RR⟩ := weighed (L := L) (xs := xs) R
  obtain ⟨v, i1, i2⟩ := pairs_lp (L := L) (xs := xs) (V := V) (W := V) (K := K) (K' := K) (T := T) (T' := T) j1 j2 m1 m2 y w (by omega) (by omega) 50 0 1 0 (by omega) (by omega) (by omega) (by omega)
  refine ⟨v, upA (upA (upA A 29 gc) 28 gh) 27 gd, V, K, T, upA (upA (upA (upA A 29 gc) 28 gh) 27 gd) 47 gm, V, sg_L_pairs_0 ?_, sg_M_pairs_0 ?_, RR⟩
  · (try simp only [lgl, lgg]); (repeat first | refine iteP (by first | assumption) ?_ | refine iteN (by first | assumption) ?_)
    exact am_fin.call j3 (sg_L_pairs_32r (am_fin.call (J_claimBits_c j1 j2 y (by omega)) (sg_L_pairs_40r (sg_L_pairs_47 (iteN (by decide) i1)))))
  · (try simp only [lgl, lgg]); (repeat first | refine iteP (by first | assumption) ?_ | refine iteN (by first | assumption) ?_)
    exact am_fin.call m3 (sg_M_pairs_25r (am_fin.call (M_claiming_c m1 m2 y (by omega)) (sg_M_pairs_30r (sg_M_pairs_37 (iteN (by decide) (i2 none))))))
end
