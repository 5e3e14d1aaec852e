/-! the rows are what stands in the code -/
def am_ck1 (z : Nat) : Nat → List (Option am_E) → Bool
  | _, [] => true
  | pc, none :: r => am_ck1 z (pc + 1) r
  | pc, some e :: r => am_chk am_pg z pc e && am_ck1 z (pc + 1) r
def am_ck2 (z : Nat) : Nat → am_L → Bool
  | _, [] => true
  | pc, b :: r => am_ck1 z pc b && (Nat.ble b.length 16 && am_ck2 z (pc + 16) r)
theorem am_ck1_ok {z : Nat} : ∀ (b : List (Option am_E)) (pc k : Nat) (e : am_E), am_ck1 z pc b = true → am_nth b k none = some e → am_chk am_pg z (pc + k) e = true ∧ k < b.length
  | [], pc, k, e, _, he => by cases k <;> cases he
  | none :: r, pc, 0, e, _, he => by cases he
  | none :: r, pc, k + 1, e, h, he => by
    have ih := am_ck1_ok r (pc + 1) k e h he
    exact ⟨by rw [show pc + (k + 1) = pc + 1 + k by omega]; exact ih.1, by simp; omega⟩
  | some x :: r, pc, 0, e, h, he => by
    cases he
    exact ⟨(Bool.and_eq_true_iff.mp h).1, by simp⟩
  | some x :: r, pc, k + 1, e, h, he => by
    have ih := am_ck1_ok r (pc + 1) k e (Bool.and_eq_true_iff.mp h).2 he
    exact ⟨by rw [show pc + (k + 1) = pc + 1 + k by omega]; exact ih.1, by simp; omega⟩
theorem am_ck2_ok {z : Nat} : ∀ (r : am_L) (pc i k : Nat) (e : am_E), am_ck2 z pc r = true → am_nth (am_nth r i []) k none = some e → am_chk am_pg z (pc + 16 * i + k) e = true
  | [], pc, i, k, e, _, he => by cases i <;> cases k <;> cases he
  | b :: r, pc, 0, k, e, h, he => (am_ck1_ok b pc k e (Bool.and_eq_true_iff.mp h).1 he).1
  | b :: r, pc, i + 1, k, e, h, he => by
    have ih := am_ck2_ok r (pc + 16) i k e (Bool.and_eq_true_iff.mp (Bool.and_eq_true_iff.mp h).2).2 he
    rw [show pc + 16 * (i + 1) + k = pc + 16 + 16 * i + k by omega]
    exact ih
theorem am_ok_of {z : Nat} (h : am_ck2 z 0 (am_pm z).2 = true) : ∀ (pc : Nat) (e : am_E), (am_pg z).2 pc = some e → am_chk am_pg z pc e = true := by
  intro pc e he
  have := am_ck2_ok (am_pm z).2 0 (pc / 16) (pc % 16) e h he
  rwa [show 0 + 16 * (pc / 16) + pc % 16 = pc by omega] at this
theorem ok_0 : ∀ k, k < 11 → am_ck2 (k + 0) 0 (am_pm (k + 0)).2 = true := by decide +kernel
theorem ok_11 : ∀ k, k < 9 → am_ck2 (k + 11) 0 (am_pm (k + 11)).2 = true := by decide +kernel
theorem ok_20 : ∀ k, k < 8 → am_ck2 (k + 20) 0 (am_pm (k + 20)).2 = true := by decide +kernel
theorem ok_28 : ∀ k, k < 8 → am_ck2 (k + 28) 0 (am_pm (k + 28)).2 = true := by decide +kernel
theorem ok_36 : ∀ k, k < 11 → am_ck2 (k + 36) 0 (am_pm (k + 36)).2 = true := by decide +kernel
theorem ok_47 : ∀ k, k < 9 → am_ck2 (k + 47) 0 (am_pm (k + 47)).2 = true := by decide +kernel
theorem ok_56 : ∀ k, k < 27 → am_ck2 (k + 56) 0 (am_pm (k + 56)).2 = true := by decide +kernel
theorem ok_83 : ∀ k, k < 17 → am_ck2 (k + 83) 0 (am_pm (k + 83)).2 = true := by decide +kernel
theorem ok_100 : ∀ k, k < 8 → am_ck2 (k + 100) 0 (am_pm (k + 100)).2 = true := by decide +kernel
theorem ok_108 : ∀ k, k < 11 → am_ck2 (k + 108) 0 (am_pm (k + 108)).2 = true := by decide +kernel
theorem ok_119 : ∀ k, k < 12 → am_ck2 (k + 119) 0 (am_pm (k + 119)).2 = true := by decide +kernel
theorem ok_131 : ∀ k, k < 11 → am_ck2 (k + 131) 0 (am_pm (k + 131)).2 = true := by decide +kernel
theorem ok_142 : ∀ k, k < 7 → am_ck2 (k + 142) 0 (am_pm (k + 142)).2 = true := by decide +kernel
theorem ok_149 : ∀ k, k < 11 → am_ck2 (k + 149) 0 (am_pm (k + 149)).2 = true := by decide +kernel
theorem ok_160 : ∀ k, k < 11 → am_ck2 (k + 160) 0 (am_pm (k + 160)).2 = true := by decide +kernel
theorem ok_171 : ∀ k, k < 10 → am_ck2 (k + 171) 0 (am_pm (k + 171)).2 = true := by decide +kernel
theorem ok_181 : ∀ k, k < 9 → am_ck2 (k + 181) 0 (am_pm (k + 181)).2 = true := by decide +kernel
theorem ok_190 : ∀ k, k < 10 → am_ck2 (k + 190) 0 (am_pm (k + 190)).2 = true := by decide +kernel
theorem ok_200 : ∀ k, k < 7 → am_ck2 (k + 200) 0 (am_pm (k + 200)).2 = true := by decide +kernel
theorem ok_207 : ∀ k, k < 8 → am_ck2 (k + 207) 0 (am_pm (k + 207)).2 = true := by decide +kernel
theorem ok_215 : ∀ k, k < 12 → am_ck2 (k + 215) 0 (am_pm (k + 215)).2 = true := by decide +kernel
theorem ok_227 : ∀ k, k < 15 → am_ck2 (k + 227) 0 (am_pm (k + 227)).2 = true := by decide +kernel
theorem ok_242 : ∀ k, k < 13 → am_ck2 (k + 242) 0 (am_pm (k + 242)).2 = true := by decide +kernel
theorem ok_255 : ∀ k, k < 12 → am_ck2 (k + 255) 0 (am_pm (k + 255)).2 = true := by decide +kernel
theorem ok_267 : ∀ k, k < 17 → am_ck2 (k + 267) 0 (am_pm (k + 267)).2 = true := by decide +kernel
theorem ok_284 : ∀ k, k < 4 → am_ck2 (k + 284) 0 (am_pm (k + 284)).2 = true := by decide +kernel
