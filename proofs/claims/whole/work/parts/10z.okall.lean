theorem am_ck2_app {z : Nat} : ∀ (a b : am_L) (pc : Nat), am_ck2 z pc a = true → am_ck2 z (pc + 16 * a.length) b = true → am_ck2 z pc (a ++ b) = true
  | [], b, pc, _, h => h
  | x :: a, b, pc, h1, h2 => by
    obtain ⟨g1, g2⟩ := Bool.and_eq_true_iff.mp h1
    obtain ⟨g2, g3⟩ := Bool.and_eq_true_iff.mp g2
    have ih := am_ck2_app a b (pc + 16) g3 (by rw [show pc + 16 + 16 * a.length = pc + 16 * (x :: a).length by simp; omega]; exact h2)
    exact Bool.and_eq_true_iff.mpr ⟨g1, Bool.and_eq_true_iff.mpr ⟨g2, ih⟩⟩
theorem ok_law : am_ck2 am_law 0 rw_W_law = true := am_ck2_app _ _ _ ok_law_0 (am_ck2_app _ _ _ ok_law_1 (am_ck2_app _ _ _ ok_law_2 (am_ck2_app _ _ _ ok_law_3 (am_ck2_app _ _ _ ok_law_4 (am_ck2_app _ _ _ ok_law_5 (am_ck2_app _ _ _ ok_law_6 (am_ck2_app _ _ _ ok_law_7 (am_ck2_app _ _ _ ok_law_8 (am_ck2_app _ _ _ ok_law_9 (am_ck2_app _ _ _ ok_law_10 (am_ck2_app _ _ _ ok_law_11 (am_ck2_app _ _ _ ok_law_12 (am_ck2_app _ _ _ ok_law_13 (am_ck2_app _ _ _ ok_law_14 (am_ck2_app _ _ _ ok_law_15 (am_ck2_app _ _ _ ok_law_16 (am_ck2_app _ _ _ ok_law_17 (am_ck2_app _ _ _ ok_law_18 (ok_law_19)))))))))))))))))))
theorem ok_288 : ∀ k, k < 1 → am_ck2 (k + 288) 0 (am_pm (k + 288)).2 = true := fun k h => by
  have : k = 0 := by omega
  subst this
  exact ok_law
theorem am_OK : ∀ (z pc : Nat) (e : am_E), (am_pg z).2 pc = some e → am_chk am_pg z pc e = true := by
  intro z
  by_cases h0 : z < 11
  · have e : z - 0 + 0 = z := by omega
    exact am_ok_of (e ▸ ok_0 (z - 0) (by omega))
  by_cases h11 : z < 20
  · have e : z - 11 + 11 = z := by omega
    exact am_ok_of (e ▸ ok_11 (z - 11) (by omega))
  by_cases h20 : z < 28
  · have e : z - 20 + 20 = z := by omega
    exact am_ok_of (e ▸ ok_20 (z - 20) (by omega))
  by_cases h28 : z < 36
  · have e : z - 28 + 28 = z := by omega
    exact am_ok_of (e ▸ ok_28 (z - 28) (by omega))
  by_cases h36 : z < 47
  · have e : z - 36 + 36 = z := by omega
    exact am_ok_of (e ▸ ok_36 (z - 36) (by omega))
  by_cases h47 : z < 56
  · have e : z - 47 + 47 = z := by omega
    exact am_ok_of (e ▸ ok_47 (z - 47) (by omega))
  by_cases h56 : z < 83
  · have e : z - 56 + 56 = z := by omega
    exact am_ok_of (e ▸ ok_56 (z - 56) (by omega))
  by_cases h83 : z < 100
  · have e : z - 83 + 83 = z := by omega
    exact am_ok_of (e ▸ ok_83 (z - 83) (by omega))
  by_cases h100 : z < 108
  · have e : z - 100 + 100 = z := by omega
    exact am_ok_of (e ▸ ok_100 (z - 100) (by omega))
  by_cases h108 : z < 119
  · have e : z - 108 + 108 = z := by omega
    exact am_ok_of (e ▸ ok_108 (z - 108) (by omega))
  by_cases h119 : z < 131
  · have e : z - 119 + 119 = z := by omega
    exact am_ok_of (e ▸ ok_119 (z - 119) (by omega))
  by_cases h131 : z < 142
  · have e : z - 131 + 131 = z := by omega
    exact am_ok_of (e ▸ ok_131 (z - 131) (by omega))
  by_cases h142 : z < 149
  · have e : z - 142 + 142 = z := by omega
    exact am_ok_of (e ▸ ok_142 (z - 142) (by omega))
  by_cases h149 : z < 160
  · have e : z - 149 + 149 = z := by omega
    exact am_ok_of (e ▸ ok_149 (z - 149) (by omega))
  by_cases h160 : z < 171
  · have e : z - 160 + 160 = z := by omega
    exact am_ok_of (e ▸ ok_160 (z - 160) (by omega))
  by_cases h171 : z < 181
  · have e : z - 171 + 171 = z := by omega
    exact am_ok_of (e ▸ ok_171 (z - 171) (by omega))
  by_cases h181 : z < 190
  · have e : z - 181 + 181 = z := by omega
    exact am_ok_of (e ▸ ok_181 (z - 181) (by omega))
  by_cases h190 : z < 200
  · have e : z - 190 + 190 = z := by omega
    exact am_ok_of (e ▸ ok_190 (z - 190) (by omega))
  by_cases h200 : z < 207
  · have e : z - 200 + 200 = z := by omega
    exact am_ok_of (e ▸ ok_200 (z - 200) (by omega))
  by_cases h207 : z < 215
  · have e : z - 207 + 207 = z := by omega
    exact am_ok_of (e ▸ ok_207 (z - 207) (by omega))
  by_cases h215 : z < 227
  · have e : z - 215 + 215 = z := by omega
    exact am_ok_of (e ▸ ok_215 (z - 215) (by omega))
  by_cases h227 : z < 242
  · have e : z - 227 + 227 = z := by omega
    exact am_ok_of (e ▸ ok_227 (z - 227) (by omega))
  by_cases h242 : z < 255
  · have e : z - 242 + 242 = z := by omega
    exact am_ok_of (e ▸ ok_242 (z - 242) (by omega))
  by_cases h255 : z < 267
  · have e : z - 255 + 255 = z := by omega
    exact am_ok_of (e ▸ ok_255 (z - 255) (by omega))
  by_cases h267 : z < 284
  · have e : z - 267 + 267 = z := by omega
    exact am_ok_of (e ▸ ok_267 (z - 267) (by omega))
  by_cases h284 : z < 288
  · have e : z - 284 + 284 = z := by omega
    exact am_ok_of (e ▸ ok_284 (z - 284) (by omega))
  by_cases h288 : z < 289
  · have e : z - 288 + 288 = z := by omega
    exact am_ok_of (e ▸ ok_288 (z - 288) (by omega))
  · intro pc e he
    have h1 : am_pm z = (0, []) := by
      unfold am_pm
      have h2 : ∀ (l : List (List (Nat × am_L))) (i : Nat), l.length ≤ i → am_nth l i [] = [] := by
        intro l
        induction l with
        | nil => intro i _; cases i <;> rfl
        | cons x r ih =>
          intro i hi
          cases i with
          | zero => simp at hi
          | succ i => exact ih i (by simpa using hi)
      have h3 : ∀ (l : List (Nat × am_L)) (i : Nat), l.length ≤ i → am_nth l i (0, []) = (0, []) := by
        intro l
        induction l with
        | nil => intro i _; cases i <;> rfl
        | cons x r ih =>
          intro i hi
          cases i with
          | zero => simp at hi
          | succ i => exact ih i (by simpa using hi)
      by_cases hb : 19 ≤ z / 16
      · rw [h2 am_PL (z / 16) (by show 19 ≤ _; exact hb)]
        cases z % 16 <;> rfl
      · rw [show z / 16 = 18 by omega]
        exact h3 _ _ (by show 1 ≤ _; omega)
    have h4 : (am_pg z).2 pc = none := by
      show am_at (am_pm z).2 pc = none
      rw [h1]
      unfold am_at
      cases pc / 16 <;> cases pc % 16 <;> rfl
    rw [h4] at he
    cases he
