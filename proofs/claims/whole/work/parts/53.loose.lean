/-- places by numbers: 0 nowhere, 1 + a land -/
def ot (j : Nat) : Option Nat := if j = 0 then none else some (j - 1)
def pn (j : Nat) : Int32 := onat (-1) (ot j)
theorem pn_0 : pn 0 = -1 := rfl
theorem pn_s (j : Nat) : pn (j + 1) = nI j := by
  unfold pn ot
  rw [if_neg (by omega), Nat.add_sub_cancel]
  rfl
theorem pn_1 (j : Nat) : pn j + 1 = nI j := by
  cases j with
  | zero => decide
  | succ j => rw [pn_s, nI_1]
theorem pn_2 (j : Nat) : pn j + 1 = pn (j + 1) := by rw [pn_1, pn_s]
theorem pn_6 {j : Nat} (h : j ≤ 7) : (6 : Int32) ≤ pn j ↔ j = 7 := by
  cases j with
  | zero => decide
  | succ j => rw [pn_s, l_6, nI_leI (by omega) (by omega)]; omega
theorem pn_eq {i j : Nat} (hi : i ≤ 7) (hj : j ≤ 7) : pn i = pn j ↔ i = j := by
  constructor
  · intro h
    have := congrArg (· + 1) h
    simp only [pn_1] at this
    exact (nI_eq (by omega) (by omega)).mp this
  · intro h; rw [h]
theorem ot_lt {j l : Nat} (hj : j < 7) (h : ot j = some l) : l < 6 := by
  unfold ot at h
  split at h
  · cases h
  · cases h; omega
theorem mvD_self {D : Nat → Nat → Nat} {w : Option Nat} {y : Nat} (h : ∀ l, w = some l → 1 ≤ D l y) : mvD D w w y = D := by
  cases w with
  | none => rfl
  | some l =>
    have h := h l rfl
    funext a b
    show setD (setD D l y (D l y - 1)) l y (setD D l y (D l y - 1) l y + 1) a b = D a b
    have e1 : setD D l y (D l y - 1) l y = D l y - 1 := if_pos ⟨rfl, rfl⟩
    rw [e1]
    show (if a = l ∧ b = y then D l y - 1 + 1 else setD D l y (D l y - 1) a b) = D a b
    by_cases c : a = l ∧ b = y
    · rw [if_pos c, c.1, c.2]; omega
    · rw [if_neg c]; exact if_neg c
/-- moving a day from there changes where one lives -/
abbrev loq (D H C ru : Nat → Nat → Nat) (na : Nat → Nat) (rn : Nat → Nat → Nat) (rl : Nat → Nat → Nat → Nat) (y i : Nat) : Prop := ¬ ∀ j, j < 7 → lives (mvD D (ot i) (ot j) y) H C ru na rn rl y = lives D H C ru na rn rl y
abbrev lop (D H C ru : Nat → Nat → Nat) (na : Nat → Nat) (rn : Nat → Nat → Nat) (rl : Nat → Nat → Nat → Nat) (y i : Nat) : Prop := (i = 0 ∨ D (i - 1) y ≠ 0) ∧ loq D H C ru na rn rl y i
theorem or128 : ∀ k, k < 7 → ∀ n, n < 2 ^ k → nI n ||| ((1 : Int32) <<< (nI k &&& 31)) = nI (n + 2 ^ k) := by decide +kernel
theorem hb128 : ∀ n, n < 128 → ∀ k, k < 7 → (hbit (nI n) (nI k) ↔ n / 2 ^ k % 2 = 1) := by decide +kernel
theorem bs_t7 {p : Nat → Prop} [DecidablePred p] {n : Nat} (hn : n < 7) (h : p n) : nI (bs p n) ||| ((1 : Int32) <<< (nI n &&& 31)) = nI (bs p (n + 1)) := by
  rw [or128 n hn _ (bs_lt p n), show bs p (n + 1) = bs p n + (if p n then 2 ^ n else 0) from rfl, if_pos h]
theorem bs_hbit7 {p : Nat → Prop} [DecidablePred p] {k : Nat} (h : k < 7) : hbit (nI (bs p 7)) (nI k) ↔ p k := (hb128 _ (bs_lt p 7) k h).trans (bs_bit p k 7 h)
theorem onat_inj {a b : Option Nat} (ha : ∀ l, a = some l → l < 6) (hb : ∀ l, b = some l → l < 6) : onat (-2) a = onat (-2) b ↔ a = b := by
  constructor
  · intro h
    cases a with
    | none =>
      cases b with
      | none => rfl
      | some m => exact absurd h.symm (nI_neg2 (a := m) (by have := hb m rfl; omega))
    | some l =>
      have := ha l rfl
      cases b with
      | none => exact absurd h (nI_neg2 (a := l) (by omega))
      | some m =>
        have := hb m rfl
        rw [(nI_eq (a := l) (b := m) (by omega) (by omega)).mp h]
  · intro h; rw [h]
section
variable {L : Nat} {xs : Nat → Int32} {A V : Nat → Nat → Int32} {K : Nat → Option Nat} {T : am_H} {D H C ru : Nat → Nat → Nat} {na : Nat → Nat} {rn : Nat → Nat → Nat} {rl : Nat → Nat → Nat → Nat}

theorem J_lo_in (J : JCd A D H C) (R : JCr A V ru na rn rl) (y i : Nat) (hy : y < 3) (hi : i < 7) (hw : ∀ l, ot i = some l → 1 ≤ D l y) (hD : ∀ l, l < 6 → D l y ≤ 360) (n : Int32) {v : Option Int32} {h' : am_H} (k1 : ∀ x : Int32, ¬ (∀ j, j < 7 → lives (mvD D (ot i) (ot j) y) H C ru na rn rl y = lives D H C ru na rn rl y) → am_fin [(z_J_loosePlaces, 11, [.ref 26, .int (nI y), .int (onat (-2) (lives D H C ru na rn rl y)), .int (n ||| ((1 : Int32) <<< (nI i &&& 31))), .int (pn (i + 1)), .int x], [])] (hp L xs A V K T) v h') (k2 : ∀ x : Int32, (∀ j, j < 7 → lives (mvD D (ot i) (ot j) y) H C ru na rn rl y = lives D H C ru na rn rl y) → am_fin [(z_J_loosePlaces, 11, [.ref 26, .int (nI y), .int (onat (-2) (lives D H C ru na rn rl y)), .int n, .int (pn (i + 1)), .int x], [])] (hp L xs A V K T) v h') : ∀ r j, j + r = 7 → (∀ m, m < j → lives (mvD D (ot i) (ot m) y) H C ru na rn rl y = lives D H C ru na rn rl y) → am_fin [(z_J_loosePlaces, 44, [.ref 26, .int (nI y), .int (onat (-2) (lives D H C ru na rn rl y)), .int n, .int (pn i), .int (pn j)], [])] (hp L xs A V K T) v h' := by
  intro r
  induction r with
  | zero =>
    intro j hj h
    refine sg_J_loosePlaces_44 (iteP ((pn_6 (by omega)).mpr (by omega)) ?_)
    rw [pn_2]
    exact k2 _ (fun m hm => h m (by omega))
  | succ r ih =>
    intro j hj h
    refine sg_J_loosePlaces_44 (iteN (mt (pn_6 (by omega)).mp (by omega)) ?_)
    by_cases e : j = i
    · refine iteP ((pn_eq (by omega) (by omega)).mpr e) ?_
      rw [pn_2]
      refine ih (j + 1) (by omega) (fun m hm => ?_)
      by_cases c : m < j
      · exact h m c
      · rw [show m = i by omega, mvD_self hw]
    · refine iteN (mt (pn_eq (by omega) (by omega)).mp e) (am_fin.call (J_livesIfMoved_c J R (ot i) (ot j) y hy (fun l hl => ⟨ot_lt hi hl, hw l hl⟩) (fun l hl => ot_lt (by omega) hl) hD) (sg_J_loosePlaces_67r ?_))
      have ij := onat_inj (a := lives (mvD D (ot i) (ot j) y) H C ru na rn rl y) (b := lives D H C ru na rn rl y) (fun l hl => lives_lt hl) (fun l hl => lives_lt hl)
      by_cases q : lives (mvD D (ot i) (ot j) y) H C ru na rn rl y = lives D H C ru na rn rl y
      · refine iteP (ij.mpr q) ?_
        rw [pn_2]
        refine ih (j + 1) (by omega) (fun m hm => ?_)
        by_cases c : m < j
        · exact h m c
        · rw [show m = j by omega]; exact q
      · refine iteN (mt ij.mp q) ?_
        rw [pn_1, ← pn_s]
        exact k1 _ (fun z => q (z j (by omega)))
theorem J_loosePlaces_c (J : JCd A D H C) (R : JCr A V ru na rn rl) (y : Nat) (hy : y < 3) (hD : ∀ l, l < 6 → D l y ≤ 360) : am_fin [(z_J_loosePlaces, 0, [.ref 26, .int (nI y), .null, .null, .null, .null], [])] (hp L xs A V K T) (some (nI (bs (lop D H C ru na rn rl y) 7))) (hp L xs A V K T) := by
  refine sg_J_loosePlaces_0 (am_fin.call (J_livesIn_c J R y hy) (sg_J_loosePlaces_5r ?_))
  refine am_iterU (U := Option Int32) (fun i u => ([(z_J_loosePlaces, 11, [.ref 26, .int (nI y), .int (onat (-2) (lives D H C ru na rn rl y)), .int (nI (bs (lop D H C ru na rn rl y) i)), .int (pn i), dl u], [])], hp L xs A V K T)) 7 (fun i u hi ih => ?_) (fun u => ?_) none
  · dsimp only at ih ⊢
    have l6 : ¬ (6 : Int32) ≤ pn i := mt (pn_6 (by omega)).mp (by omega)
    have go : (∀ l, ot i = some l → 1 ≤ D l y) → (i = 0 ∨ D (i - 1) y ≠ 0) → am_fin [(z_J_loosePlaces, 44, [.ref 26, .int (nI y), .int (onat (-2) (lives D H C ru na rn rl y)), .int (nI (bs (lop D H C ru na rn rl y) i)), .int (pn i), .int (-1)], [])] (hp L xs A V K T) (some (nI (bs (lop D H C ru na rn rl y) 7))) (hp L xs A V K T) := by
      intro hw h0
      refine J_lo_in J R y i hy hi hw hD _ (fun x q => ?_) (fun x q => ?_) 7 0 (by omega) (fun m hm => by omega)
      · have ih := ih (some x)
        rw [← bs_t7 hi (⟨h0, q⟩ : lop D H C ru na rn rl y i)] at ih
        exact ih
      · have ih := ih (some x)
        rw [← bs_f (p := lop D H C ru na rn rl y) (fun z => z.2 q)] at ih
        exact ih
    by_cases i0 : i = 0
    · subst i0
      have g := go (fun l h => by cases h) (Or.inl rfl)
      cases u
      · exact sg_J_loosePlaces_11 (iteN l6 (iteP rfl g))
      · exact sg_J_loosePlaces_11b (iteN l6 (iteP rfl g))
    · obtain ⟨l, rfl⟩ : ∃ l, i = l + 1 := ⟨i - 1, by omega⟩
      have hl : l < 6 := by omega
      obtain ⟨e0, -, -, b0, -⟩ := J l y hl hy
      have ix : nI l * 3 + nI y = nI (l * 3 + y) := by rw [l_3, nI_mul, nI_add]
      have ob : ¬ (nI (l * 3 + y) < 0 ∨ 18 ≤ (nI (l * 3 + y)).toNatClampNeg) := nI_inb (by omega) (by omega)
      have n1 : ¬ pn (l + 1) = -1 := by rw [pn_s]; exact nI_neg1 (by omega)
      have es : ot (l + 1) = some l := by unfold ot; rw [if_neg (by omega), Nat.add_sub_cancel]
      by_cases z : D l y = 0
      · have sk : ∀ x : Option Int32, am_fin [(z_J_loosePlaces, 11, [.ref 26, .int (nI y), .int (onat (-2) (lives D H C ru na rn rl y)), .int (nI (bs (lop D H C ru na rn rl y) (l + 1))), .int (pn (l + 1) + 1), dl x], [])] (hp L xs A V K T) (some (nI (bs (lop D H C ru na rn rl y) 7))) (hp L xs A V K T) := by
          intro x
          have ih := ih x
          rw [← bs_f (p := lop D H C ru na rn rl y) (n := l + 1) (fun q => q.1.elim (by omega) (fun w => w (by rw [Nat.add_sub_cancel]; exact z)))] at ih
          rw [pn_2]
          exact ih
        cases u
        · refine sg_J_loosePlaces_11 (iteN l6 (iteN n1 ?_))
          rw [show pn (l + 1) * 3 + nI y = nI (l * 3 + y) from by rw [pn_s, ix]]
          refine ⟨ob, iteP ?_ (sk none)⟩
          rw [nI_clamp (by omega), e0, z]; rfl
        · refine sg_J_loosePlaces_11b (iteN l6 (iteN n1 ?_))
          rw [show pn (l + 1) * 3 + nI y = nI (l * 3 + y) from by rw [pn_s, ix]]
          refine ⟨ob, iteP ?_ (sk (some _))⟩
          rw [nI_clamp (by omega), e0, z]; rfl
      · have g := go (fun m h => by rw [es] at h; cases h; omega) (Or.inr (by rw [Nat.add_sub_cancel]; exact z))
        cases u
        · refine sg_J_loosePlaces_11 (iteN l6 (iteN n1 ?_))
          rw [show pn (l + 1) * 3 + nI y = nI (l * 3 + y) from by rw [pn_s, ix]]
          refine ⟨ob, iteN ?_ g⟩
          rw [nI_clamp (by omega), e0, nI_z (by omega)]; exact z
        · refine sg_J_loosePlaces_11b (iteN l6 (iteN n1 ?_))
          rw [show pn (l + 1) * 3 + nI y = nI (l * 3 + y) from by rw [pn_s, ix]]
          refine ⟨ob, iteN ?_ g⟩
          rw [nI_clamp (by omega), e0, nI_z (by omega)]; exact z
  · dsimp only
    have l6 : (6 : Int32) ≤ pn 7 := (pn_6 (by omega)).mpr rfl
    cases u
    · exact sg_J_loosePlaces_11 (iteP l6 ⟨rfl, rfl⟩)
    · exact sg_J_loosePlaces_11b (iteP l6 ⟨rfl, rfl⟩)
theorem M_loosens_c (J : JMd A D H C) (R : JMr A ru na rn rl) (d i : Nat) (hd : d < 1080) (hi : i < 7) (hf : A 37 d = pn i) (hw : ∀ l, ot i = some l → 1 ≤ D l (d / 360)) (hD : ∀ l, l < 6 → D l (d / 360) ≤ 360) : am_fin [(z_M_loosens, 0, [.ref 36, .int (nI d), .int (onat (-2) (lives D H C ru na rn rl (d / 360))), .null], [])] (hp L xs A V K T) (some (b2 (loq D H C ru na rn rl (d / 360) i))) (hp L xs A V K T) := by
  refine sg_M_loosens_0 ?_
  have key : ∀ r j, j + r = 7 → (∀ m, m < j → lives (mvD D (ot i) (ot m) (d / 360)) H C ru na rn rl (d / 360) = lives D H C ru na rn rl (d / 360)) → am_fin [(z_M_loosens, 2, [.ref 36, .int (nI d), .int (onat (-2) (lives D H C ru na rn rl (d / 360))), .int (pn j)], [])] (hp L xs A V K T) (some (b2 (loq D H C ru na rn rl (d / 360) i))) (hp L xs A V K T) := by
    intro r
    induction r with
    | zero =>
      intro j hj h
      exact sg_M_loosens_2 (iteP ((pn_6 (by omega)).mpr (by omega)) ⟨by unfold b2; rw [if_neg (fun z => z (fun m hm => h m (by omega)))], rfl⟩)
    | succ r ih =>
      intro j hj h
      refine sg_M_loosens_2 (iteN (mt (pn_6 (by omega)).mp (by omega)) (am_fin.call (M_livesBy_c J R (ot i) (ot j) d hd hf (fun l hl => ⟨ot_lt hi hl, hw l hl⟩) (fun l hl => ot_lt (by omega) hl) hD) (sg_M_loosens_14r ?_)))
      have ij := onat_inj (a := lives (mvD D (ot i) (ot j) (d / 360)) H C ru na rn rl (d / 360)) (b := lives D H C ru na rn rl (d / 360)) (fun l hl => lives_lt hl) (fun l hl => lives_lt hl)
      by_cases q : lives (mvD D (ot i) (ot j) (d / 360)) H C ru na rn rl (d / 360) = lives D H C ru na rn rl (d / 360)
      · refine iteP (ij.mpr q) ?_
        rw [pn_2]
        refine ih (j + 1) (by omega) (fun m hm => ?_)
        by_cases c : m < j
        · exact h m c
        · rw [show m = j by omega]; exact q
      · exact iteN (mt ij.mp q) ⟨by unfold b2; rw [if_pos (fun z => q (z j (by omega)))], rfl⟩
  exact key 7 0 (by omega) (fun m hm => by omega)
end
