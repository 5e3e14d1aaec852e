/-! the rows are what stands in the code -/
def am_ck1 (z : Nat) : Nat → List (Option am_E) → Bool
  | _, [] => true
  | pc, none :: r => am_ck1 z (pc + 1) r
  | pc, some e :: r => am_chk am_pg z pc e && am_ck1 z (pc + 1) r
def am_ck2 (z : Nat) : Nat → am_L → Bool
  | _, [] => true
  | pc, b :: r => am_ck1 z pc b && (Nat.ble b.length 16 && am_ck2 z (pc + 16) r)
theorem am_ck1_ok {z : Nat} : ∀ (b : List (Option am_E)) (pc k : Nat) (e : am_E), am_ck1 z pc b = true → am_nth b k none = some e → am_chk am_pg z (pc + k) e = true ∧ k < b.length
  | [], pc, k, e, _, he => by cases k <;> cases he
  | none :: r, pc, 0, e, _, he => by cases he
  | none :: r, pc, k + 1, e, h, he => by
    have ih := am_ck1_ok r (pc + 1) k e h he
    exact ⟨by rw [show pc + (k + 1) = pc + 1 + k by omega]; exact ih.1, by simp; omega⟩
  | some x :: r, pc, 0, e, h, he => by
    cases he
    exact ⟨(Bool.and_eq_true_iff.mp h).1, by simp⟩
  | some x :: r, pc, k + 1, e, h, he => by
    have ih := am_ck1_ok r (pc + 1) k e (Bool.and_eq_true_iff.mp h).2 he
    exact ⟨by rw [show pc + (k + 1) = pc + 1 + k by omega]; exact ih.1, by simp; omega⟩
theorem am_ck2_ok {z : Nat} : ∀ (r : am_L) (pc i k : Nat) (e : am_E), am_ck2 z pc r = true → am_nth (am_nth r i []) k none = some e → am_chk am_pg z (pc + 16 * i + k) e = true
  | [], pc, i, k, e, _, he => by cases i <;> cases k <;> cases he
  | b :: r, pc, 0, k, e, h, he => (am_ck1_ok b pc k e (Bool.and_eq_true_iff.mp h).1 he).1
  | b :: r, pc, i + 1, k, e, h, he => by
    have ih := am_ck2_ok r (pc + 16) i k e (Bool.and_eq_true_iff.mp (Bool.and_eq_true_iff.mp h).2).2 he
    rw [show pc + 16 * (i + 1) + k = pc + 16 + 16 * i + k by omega]
    exact ih
theorem am_ok_of {z : Nat} (h : am_ck2 z 0 (am_pm z).2 = true) : ∀ (pc : Nat) (e : am_E), (am_pg z).2 pc = some e → am_chk am_pg z pc e = true := by
  intro pc e he
  have := am_ck2_ok (am_pm z).2 0 (pc / 16) (pc % 16) e h he
  rwa [show 0 + 16 * (pc / 16) + pc % 16 = pc by omega] at this
theorem ok_0 : ∀ k, k < 11 → am_ck2 (k + 0) 0 (am_pm (k + 0)).2 = true := by decide +kernel
theorem ok_11 : ∀ k, k < 9 → am_ck2 (k + 11) 0 (am_pm (k + 11)).2 = true := by decide +kernel
theorem ok_20 : ∀ k, k < 8 → am_ck2 (k + 20) 0 (am_pm (k + 20)).2 = true := by decide +kernel
theorem ok_28 : ∀ k, k < 8 → am_ck2 (k + 28) 0 (am_pm (k + 28)).2 = true := by decide +kernel
theorem ok_36 : ∀ k, k < 11 → am_ck2 (k + 36) 0 (am_pm (k + 36)).2 = true := by decide +kernel
theorem ok_47 : ∀ k, k < 9 → am_ck2 (k + 47) 0 (am_pm (k + 47)).2 = true := by decide +kernel
theorem ok_56 : ∀ k, k < 27 → am_ck2 (k + 56) 0 (am_pm (k + 56)).2 = true := by decide +kernel
theorem ok_83 : ∀ k, k < 17 → am_ck2 (k + 83) 0 (am_pm (k + 83)).2 = true := by decide +kernel
theorem ok_100 : ∀ k, k < 8 → am_ck2 (k + 100) 0 (am_pm (k + 100)).2 = true := by decide +kernel
theorem ok_108 : ∀ k, k < 11 → am_ck2 (k + 108) 0 (am_pm (k + 108)).2 = true := by decide +kernel
theorem ok_119 : ∀ k, k < 12 → am_ck2 (k + 119) 0 (am_pm (k + 119)).2 = true := by decide +kernel
theorem ok_131 : ∀ k, k < 11 → am_ck2 (k + 131) 0 (am_pm (k + 131)).2 = true := by decide +kernel
theorem ok_142 : ∀ k, k < 7 → am_ck2 (k + 142) 0 (am_pm (k + 142)).2 = true := by decide +kernel
theorem ok_149 : ∀ k, k < 11 → am_ck2 (k + 149) 0 (am_pm (k + 149)).2 = true := by decide +kernel
theorem ok_160 : ∀ k, k < 11 → am_ck2 (k + 160) 0 (am_pm (k + 160)).2 = true := by decide +kernel
theorem ok_171 : ∀ k, k < 10 → am_ck2 (k + 171) 0 (am_pm (k + 171)).2 = true := by decide +kernel
theorem ok_181 : ∀ k, k < 9 → am_ck2 (k + 181) 0 (am_pm (k + 181)).2 = true := by decide +kernel
theorem ok_190 : ∀ k, k < 10 → am_ck2 (k + 190) 0 (am_pm (k + 190)).2 = true := by decide +kernel
theorem ok_200 : ∀ k, k < 7 → am_ck2 (k + 200) 0 (am_pm (k + 200)).2 = true := by decide +kernel
theorem ok_207 : ∀ k, k < 8 → am_ck2 (k + 207) 0 (am_pm (k + 207)).2 = true := by decide +kernel
theorem ok_215 : ∀ k, k < 12 → am_ck2 (k + 215) 0 (am_pm (k + 215)).2 = true := by decide +kernel
theorem ok_227 : ∀ k, k < 15 → am_ck2 (k + 227) 0 (am_pm (k + 227)).2 = true := by decide +kernel
theorem ok_242 : ∀ k, k < 13 → am_ck2 (k + 242) 0 (am_pm (k + 242)).2 = true := by decide +kernel
theorem ok_255 : ∀ k, k < 12 → am_ck2 (k + 255) 0 (am_pm (k + 255)).2 = true := by decide +kernel
theorem ok_267 : ∀ k, k < 17 → am_ck2 (k + 267) 0 (am_pm (k + 267)).2 = true := by decide +kernel
theorem ok_284 : ∀ k, k < 4 → am_ck2 (k + 284) 0 (am_pm (k + 284)).2 = true := by decide +kernel
theorem ok_288 : ∀ k, k < 1 → am_ck2 (k + 288) 0 (am_pm (k + 288)).2 = true := by decide +kernel
theorem am_OK : ∀ (z pc : Nat) (e : am_E), (am_pg z).2 pc = some e → am_chk am_pg z pc e = true := by
  intro z
  by_cases h0 : z < 11
  · have e : z - 0 + 0 = z := by omega
    exact am_ok_of (e ▸ ok_0 (z - 0) (by omega))
  by_cases h11 : z < 20
  · have e : z - 11 + 11 = z := by omega
    exact am_ok_of (e ▸ ok_11 (z - 11) (by omega))
  by_cases h20 : z < 28
  · have e : z - 20 + 20 = z := by omega
    exact am_ok_of (e ▸ ok_20 (z - 20) (by omega))
  by_cases h28 : z < 36
  · have e : z - 28 + 28 = z := by omega
    exact am_ok_of (e ▸ ok_28 (z - 28) (by omega))
  by_cases h36 : z < 47
  · have e : z - 36 + 36 = z := by omega
    exact am_ok_of (e ▸ ok_36 (z - 36) (by omega))
  by_cases h47 : z < 56
  · have e : z - 47 + 47 = z := by omega
    exact am_ok_of (e ▸ ok_47 (z - 47) (by omega))
  by_cases h56 : z < 83
  · have e : z - 56 + 56 = z := by omega
    exact am_ok_of (e ▸ ok_56 (z - 56) (by omega))
  by_cases h83 : z < 100
  · have e : z - 83 + 83 = z := by omega
    exact am_ok_of (e ▸ ok_83 (z - 83) (by omega))
  by_cases h100 : z < 108
  · have e : z - 100 + 100 = z := by omega
    exact am_ok_of (e ▸ ok_100 (z - 100) (by omega))
  by_cases h108 : z < 119
  · have e : z - 108 + 108 = z := by omega
    exact am_ok_of (e ▸ ok_108 (z - 108) (by omega))
  by_cases h119 : z < 131
  · have e : z - 119 + 119 = z := by omega
    exact am_ok_of (e ▸ ok_119 (z - 119) (by omega))
  by_cases h131 : z < 142
  · have e : z - 131 + 131 = z := by omega
    exact am_ok_of (e ▸ ok_131 (z - 131) (by omega))
  by_cases h142 : z < 149
  · have e : z - 142 + 142 = z := by omega
    exact am_ok_of (e ▸ ok_142 (z - 142) (by omega))
  by_cases h149 : z < 160
  · have e : z - 149 + 149 = z := by omega
    exact am_ok_of (e ▸ ok_149 (z - 149) (by omega))
  by_cases h160 : z < 171
  · have e : z - 160 + 160 = z := by omega
    exact am_ok_of (e ▸ ok_160 (z - 160) (by omega))
  by_cases h171 : z < 181
  · have e : z - 171 + 171 = z := by omega
    exact am_ok_of (e ▸ ok_171 (z - 171) (by omega))
  by_cases h181 : z < 190
  · have e : z - 181 + 181 = z := by omega
    exact am_ok_of (e ▸ ok_181 (z - 181) (by omega))
  by_cases h190 : z < 200
  · have e : z - 190 + 190 = z := by omega
    exact am_ok_of (e ▸ ok_190 (z - 190) (by omega))
  by_cases h200 : z < 207
  · have e : z - 200 + 200 = z := by omega
    exact am_ok_of (e ▸ ok_200 (z - 200) (by omega))
  by_cases h207 : z < 215
  · have e : z - 207 + 207 = z := by omega
    exact am_ok_of (e ▸ ok_207 (z - 207) (by omega))
  by_cases h215 : z < 227
  · have e : z - 215 + 215 = z := by omega
    exact am_ok_of (e ▸ ok_215 (z - 215) (by omega))
  by_cases h227 : z < 242
  · have e : z - 227 + 227 = z := by omega
    exact am_ok_of (e ▸ ok_227 (z - 227) (by omega))
  by_cases h242 : z < 255
  · have e : z - 242 + 242 = z := by omega
    exact am_ok_of (e ▸ ok_242 (z - 242) (by omega))
  by_cases h255 : z < 267
  · have e : z - 255 + 255 = z := by omega
    exact am_ok_of (e ▸ ok_255 (z - 255) (by omega))
  by_cases h267 : z < 284
  · have e : z - 267 + 267 = z := by omega
    exact am_ok_of (e ▸ ok_267 (z - 267) (by omega))
  by_cases h284 : z < 288
  · have e : z - 284 + 284 = z := by omega
    exact am_ok_of (e ▸ ok_284 (z - 284) (by omega))
  by_cases h288 : z < 289
  · have e : z - 288 + 288 = z := by omega
    exact am_ok_of (e ▸ ok_288 (z - 288) (by omega))
  · intro pc e he
    have h1 : am_pm z = (0, []) := by
      unfold am_pm
      have h2 : ∀ (l : List (List (Nat × am_L))) (i : Nat), l.length ≤ i → am_nth l i [] = [] := by
        intro l
        induction l with
        | nil => intro i _; cases i <;> rfl
        | cons x r ih =>
          intro i hi
          cases i with
          | zero => simp at hi
          | succ i => exact ih i (by simpa using hi)
      have h3 : ∀ (l : List (Nat × am_L)) (i : Nat), l.length ≤ i → am_nth l i (0, []) = (0, []) := by
        intro l
        induction l with
        | nil => intro i _; cases i <;> rfl
        | cons x r ih =>
          intro i hi
          cases i with
          | zero => simp at hi
          | succ i => exact ih i (by simpa using hi)
      by_cases hb : 19 ≤ z / 16
      · rw [h2 am_PL (z / 16) (by show 19 ≤ _; exact hb)]
        cases z % 16 <;> rfl
      · rw [show z / 16 = 18 by omega]
        exact h3 _ _ (by show 1 ≤ _; omega)
    have h4 : (am_pg z).2 pc = none := by
      show am_at (am_pm z).2 pc = none
      rw [h1]
      unfold am_at
      cases pc / 16 <;> cases pc % 16 <;> rfl
    rw [h4] at he
    cases he
