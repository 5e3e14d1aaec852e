theorem Rr_gen {A A' V V' : Nat → Nat → Int32} (R : Rr A V) (l : Nat) (e17 : A' 17 = A 17) (e41 : ∀ i, (i < 13 * l ∨ 13 * l + 13 ≤ i) → A' 41 i = A 41 i) (hl : l < 6)
    (same : ∀ l', l' < 6 → l' ≠ l → A' 11 l' = A 11 l' ∧ A' 12 l' = A 12 l' ∧ (∀ s, s < 3 → A' 13 (3 * l' + s) = A 13 (3 * l' + s)) ∧ A' 14 l' = A 14 l' ∧ A' 15 l' = A 15 l' ∧ A' 16 l' = A 16 l' ∧ b2 (hbit (V' 10 7) (nI l')) = b2 (hbit (V 10 7) (nI l')))
    (nv : ∃ n, n < 64 ∧ V' 10 7 = nI n)
    (new : RL (A' 11 l) (A' 12 l) (fun s => A' 13 (3 * l + s)) (A' 14 l) (b2 (hbit (V' 10 7) (nI l))) (A' 15 l) (A' 16 l) (fun j => A' 41 (13 * l + j))) : Rr A' V' := by
  refine ⟨fun l' hl' => ?_, RTy_congr R.2.1 e17 (fun j hjj => e41 j (by omega)), nv⟩
  by_cases h : l' = l
  · subst h
    exact new
  · obtain ⟨s1, s2, s3, s4, s5, s6, s7⟩ := same l' hl' h
    rw [s1, s2, s4, s5, s6, s7]
    exact RL_congr (R.1 l' hl') s3 (fun j hjj => e41 _ (by omega))
section
variable {L : Nat} {xs : Nat → Int32} {A V : Nat → Nat → Int32} {K : Nat → Option Nat} {T : am_H}
theorem pr_window (a1 a2 a3 : Int32) (R : RI A V K T) : PRQ z_L_window z_M_window [.ref 1, .int a1, .int a2, .int a3, .null] [.ref 36, .int a1, .int a2, .int a3, .null] L xs A V K T := by
  by_cases c1 : a1 < 0
  · refine ⟨(-1), A, V, K, T, A, V, sg_L_window_0 ?_, sg_M_window_0 ?_, R⟩
    · (try simp only [lgl, lgg]); (repeat first | refine iteP (by first | assumption) ?_ | refine iteN (by first | assumption) ?_); (constructor <;> first | rfl | trivial)
    · (try simp only [lgl, lgg]); (repeat first | refine iteP (by first | assumption) ?_ | refine iteN (by first | assumption) ?_); (constructor <;> first | rfl | trivial)
  by_cases c2 : (5 : Int32) < a1
  · refine ⟨(-1), A, V, K, T, A, V, sg_L_window_0 ?_, sg_M_window_0 ?_, R⟩
    · (try simp only [lgl, lgg]); (repeat first | refine iteP (by first | assumption) ?_ | refine iteN (by first | assumption) ?_); (constructor <;> first | rfl | trivial)
    · (try simp only [lgl, lgg]); (repeat first | refine iteP (by first | assumption) ?_ | refine iteN (by first | assumption) ?_); (constructor <;> first | rfl | trivial)
  by_cases c3 : a2 < 0
  · refine ⟨(-1), A, V, K, T, A, V, sg_L_window_0 ?_, sg_M_window_0 ?_, R⟩
    · (try simp only [lgl, lgg]); (repeat first | refine iteP (by first | assumption) ?_ | refine iteN (by first | assumption) ?_); (constructor <;> first | rfl | trivial)
    · (try simp only [lgl, lgg]); (repeat first | refine iteP (by first | assumption) ?_ | refine iteN (by first | assumption) ?_); (constructor <;> first | rfl | trivial)
  by_cases c4 : (360 : Int32) < a2
  · refine ⟨(-1), A, V, K, T, A, V, sg_L_window_0 ?_, sg_M_window_0 ?_, R⟩
    · (try simp only [lgl, lgg]); (repeat first | refine iteP (by first | assumption) ?_ | refine iteN (by first | assumption) ?_); (constructor <;> first | rfl | trivial)
    · (try simp only [lgl, lgg]); (repeat first | refine iteP (by first | assumption) ?_ | refine iteN (by first | assumption) ?_); (constructor <;> first | rfl | trivial)
  by_cases c5 : a3 < 0
  · refine ⟨(-1), A, V, K, T, A, V, sg_L_window_0 ?_, sg_M_window_0 ?_, R⟩
    · (try simp only [lgl, lgg]); (repeat first | refine iteP (by first | assumption) ?_ | refine iteN (by first | assumption) ?_); (constructor <;> first | rfl | trivial)
    · (try simp only [lgl, lgg]); (repeat first | refine iteP (by first | assumption) ?_ | refine iteN (by first | assumption) ?_); (constructor <;> first | rfl | trivial)
  by_cases c6 : a2 < a3
  · refine ⟨(-1), A, V, K, T, A, V, sg_L_window_0 ?_, sg_M_window_0 ?_, R⟩
    · (try simp only [lgl, lgg]); (repeat first | refine iteP (by first | assumption) ?_ | refine iteN (by first | assumption) ?_); (constructor <;> first | rfl | trivial)
    · (try simp only [lgl, lgg]); (repeat first | refine iteP (by first | assumption) ?_ | refine iteN (by first | assumption) ?_); (constructor <;> first | rfl | trivial)
  obtain ⟨l, hl, rfl⟩ := i32_nat (m := 5) (by omega) c1 c2
  obtain ⟨w, hw, rfl⟩ := i32_nat (m := 360) (by omega) c3 c4
  obtain ⟨m, hm, rfl⟩ := i32_nat (m := w) (by omega) c5 c6
  have hl6 : l < 6 := by omega
  have RR := R.2.2.1
  have hL := RR.1 l hl6
  have ib : ¬ (nI l < 0 ∨ 6 ≤ (nI l).toNatClampNeg) := nI_inb (by omega) hl6
  have ex : (13 : Int32) * nI l + 0 = nI (13 * l) := e13 l 0
  have ey : (13 : Int32) * nI l + 1 = nI (13 * l + 1) := e13 l 1
  have im : ¬ ((13 : Int32) * nI l + 0 < 0 ∨ 258 ≤ ((13 : Int32) * nI l + 0).toNatClampNeg) := by rw [ex]; exact nI_inb (by omega) (by omega)
  have in_ : ¬ ((13 : Int32) * nI l + 1 < 0 ∨ 258 ≤ ((13 : Int32) * nI l + 1).toNatClampNeg) := by rw [ey]; exact nI_inb (by omega) (by omega)
  refine ⟨A 11 l, upA (upA A 11 (upd (A 11) l (nI w))) 12 (upd (A 12) l (nI m)), V, K, T, upA (upA (upA A 11 (upd (A 11) l (nI w))) 12 (upd (A 12) l (nI m))) 41 (upd (upd (A 41) (13 * l) (nI w)) (13 * l + 1) (nI m)), V, sg_L_window_0 ?_, sg_M_window_0 ?_, ?_⟩
  · (try simp only [lgl, lgg]); (repeat first | refine iteP (by first | assumption) ?_ | refine iteN (by first | assumption) ?_)
    exact ⟨ib, ib, ib, by rw [nI_clamp (by omega)], by rw [nI_clamp (by omega)]; rfl⟩
  · (try simp only [lgl, lgg]); (repeat first | refine iteP (by first | assumption) ?_ | refine iteN (by first | assumption) ?_)
    refine ⟨im, im, in_, ?_, ?_⟩
    · rw [ex, nI_clamp (by omega)]
      exact congrArg some hL.1.symm
    · rw [ex, ey, nI_clamp (by omega), nI_clamp (by omega), upA_upA, upA_same]; rfl
  · refine RI_rules R (Rr_gen RR l rfl (fun i hi => ?_) hl6 (fun l' hl' hne => ⟨upd_no _ _ hne, upd_no _ _ hne, fun _ _ => rfl, rfl, rfl, rfl, rfl⟩) RR.2.2 ?_) rfl rfl rfl rfl rfl rfl rfl rfl rfl rfl rfl rfl rfl
    · show upd (upd (A 41) (13 * l) (nI w)) (13 * l + 1) (nI m) i = A 41 i
      rw [upd_no _ _ (by omega), upd_no _ _ (by omega)]
    · obtain ⟨h1, h2, h3, h4, h5, h6, h7, h8, h9, h10⟩ := hL
      have gj : ∀ j, 2 ≤ j → upd (upd (A 41) (13 * l) (nI w)) (13 * l + 1) (nI m) (13 * l + j) = A 41 (13 * l + j) := fun j hj => by rw [upd_no _ _ (by omega), upd_no _ _ (by omega)]
      show RL (upd (A 11) l (nI w) l) (upd (A 12) l (nI m) l) _ _ _ _ _ (fun j => upd (upd (A 41) (13 * l) (nI w)) (13 * l + 1) (nI m) (13 * l + j))
      rw [upd_at, upd_at]
      refine ⟨?_, upd_at _ _ _, fun s hs => ⟨(gj (2 + s) (by omega)).trans (h3 s hs).1, (h3 s hs).2⟩, (gj 5 (by omega)).trans h4, (gj 6 (by omega)).trans h5, (gj 7 (by omega)).trans h6, Rrow_congr h7 (fun j p1 p2 => gj j (by omega)), ⟨w, m, hm, hw, rfl, rfl⟩, h9, h10⟩
      show upd (upd (A 41) (13 * l) (nI w)) (13 * l + 1) (nI m) (13 * l + 0) = nI w
      rw [upd_no _ _ (by omega)]
      exact upd_at _ _ _
theorem pr_told (a1 a2 : Int32) (R : RI A V K T) : PRQ z_L_told z_M_told [.ref 1, .int a1, .int a2, .null, .null] [.ref 36, .int a1, .int a2] L xs A V K T := by
  by_cases c1 : a1 < 0
  · refine ⟨(-1), A, V, K, T, A, V, sg_L_told_0 ?_, sg_M_told_0 ?_, R⟩
    · (try simp only [lgl, lgg]); (repeat first | refine iteP (by first | assumption) ?_ | refine iteN (by first | assumption) ?_); (constructor <;> first | rfl | trivial)
    · (try simp only [lgl, lgg]); (repeat first | refine iteP (by first | assumption) ?_ | refine iteN (by first | assumption) ?_); (constructor <;> first | rfl | trivial)
  by_cases c2 : (5 : Int32) < a1
  · refine ⟨(-1), A, V, K, T, A, V, sg_L_told_0 ?_, sg_M_told_0 ?_, R⟩
    · (try simp only [lgl, lgg]); (repeat first | refine iteP (by first | assumption) ?_ | refine iteN (by first | assumption) ?_); (constructor <;> first | rfl | trivial)
    · (try simp only [lgl, lgg]); (repeat first | refine iteP (by first | assumption) ?_ | refine iteN (by first | assumption) ?_); (constructor <;> first | rfl | trivial)
  by_cases c3 : a2 < 0
  · refine ⟨(-1), A, V, K, T, A, V, sg_L_told_0 ?_, sg_M_told_0 ?_, R⟩
    · (try simp only [lgl, lgg]); (repeat first | refine iteP (by first | assumption) ?_ | refine iteN (by first | assumption) ?_); (constructor <;> first | rfl | trivial)
    · (try simp only [lgl, lgg]); (repeat first | refine iteP (by first | assumption) ?_ | refine iteN (by first | assumption) ?_); (constructor <;> first | rfl | trivial)
  by_cases c4 : (11 : Int32) < a2
  · refine ⟨(-1), A, V, K, T, A, V, sg_L_told_0 ?_, sg_M_told_0 ?_, R⟩
    · (try simp only [lgl, lgg]); (repeat first | refine iteP (by first | assumption) ?_ | refine iteN (by first | assumption) ?_); (constructor <;> first | rfl | trivial)
    · (try simp only [lgl, lgg]); (repeat first | refine iteP (by first | assumption) ?_ | refine iteN (by first | assumption) ?_); (constructor <;> first | rfl | trivial)
  obtain ⟨l, hl, rfl⟩ := i32_nat (m := 5) (by omega) c1 c2
  obtain ⟨w, hw, rfl⟩ := i32_nat (m := 11) (by omega) c3 c4
  have hl6 : l < 6 := by omega
  have hL := R.2.2.1.1 l hl6
  obtain ⟨h1, h2, h3, h4, h5, h6, ⟨n, k1, k2, k3, k4⟩, -⟩ := hL
  have ib : ¬ (nI l < 0 ∨ 6 ≤ (nI l).toNatClampNeg) := nI_inb (by omega) hl6
  have cl : (nI l).toNatClampNeg = l := nI_clamp (by omega)
  have im : ∀ j, j < 13 → ¬ ((13 : Int32) * nI l + nI j < 0 ∨ 258 ≤ ((13 : Int32) * nI l + nI j).toNatClampNeg) := fun j hj => by rw [e13]; exact nI_inb (by omega) (by omega)
  have cm : ∀ j, j < 13 → ((13 : Int32) * nI l + nI j).toNatClampNeg = 13 * l + j := fun j hj => by rw [e13]; exact nI_clamp (by omega)
  have hw12 : w = 0 ∨ w = 1 ∨ w = 2 ∨ w = 3 ∨ w = 4 ∨ w = 5 ∨ w = 6 ∨ w = 7 ∨ (8 ≤ w ∧ w ≤ 11) := by omega
  rcases hw12 with rfl | rfl | rfl | rfl | rfl | rfl | rfl | rfl | ⟨hw8, hw11⟩
  · skip
    refine ⟨A 11 l, A, V, K, T, A, V, sg_L_told_0 ?_, sg_M_told_0 ?_, R⟩
    · (try simp only [lgl, lgg]); (repeat first | refine iteP (by first | assumption | decide) ?_ | refine iteN (by first | assumption | decide) ?_)
      exact ⟨ib, by rw [cl], (by first | rfl | trivial)⟩
    · (try simp only [lgl, lgg]); (repeat first | refine iteP (by first | assumption | decide) ?_ | refine iteN (by first | assumption | decide) ?_)
      exact ⟨im 0 (by omega), by rw [cm 0 (by omega)]; exact congrArg some (h1).symm, (by first | rfl | trivial)⟩
  · skip
    refine ⟨A 12 l, A, V, K, T, A, V, sg_L_told_0 ?_, sg_M_told_0 ?_, R⟩
    · (try simp only [lgl, lgg]); (repeat first | refine iteP (by first | assumption | decide) ?_ | refine iteN (by first | assumption | decide) ?_)
      exact ⟨ib, by rw [cl], (by first | rfl | trivial)⟩
    · (try simp only [lgl, lgg]); (repeat first | refine iteP (by first | assumption | decide) ?_ | refine iteN (by first | assumption | decide) ?_)
      exact ⟨im 1 (by omega), by rw [cm 1 (by omega)]; exact congrArg some (h2).symm, (by first | rfl | trivial)⟩
  · skip
    have ec : nI l * 3 + (nI 2 - 2) = nI (3 * l + 0) := by rw [show nI l * 3 = nI (l * 3) from nI_mul l 3, show nI 2 - 2 = nI 0 from by decide, nI_add]; congr 1; omega
    refine ⟨A 13 (3 * l + 0), A, V, K, T, A, V, sg_L_told_0 ?_, sg_M_told_0 ?_, R⟩
    · (try simp only [lgl, lgg]); (repeat first | refine iteP (by first | assumption | decide) ?_ | refine iteN (by first | assumption | decide) ?_)
      exact ⟨by rw [ec]; exact nI_inb (by omega) (by omega), by rw [ec, nI_clamp (by omega)], (by first | rfl | trivial)⟩
    · (try simp only [lgl, lgg]); (repeat first | refine iteP (by first | assumption | decide) ?_ | refine iteN (by first | assumption | decide) ?_)
      exact ⟨im 2 (by omega), by rw [cm 2 (by omega)]; exact congrArg some ((h3 0 (by omega)).1).symm, (by first | rfl | trivial)⟩
  · skip
    have ec : nI l * 3 + (nI 3 - 2) = nI (3 * l + 1) := by rw [show nI l * 3 = nI (l * 3) from nI_mul l 3, show nI 3 - 2 = nI 1 from by decide, nI_add]; congr 1; omega
    refine ⟨A 13 (3 * l + 1), A, V, K, T, A, V, sg_L_told_0 ?_, sg_M_told_0 ?_, R⟩
    · (try simp only [lgl, lgg]); (repeat first | refine iteP (by first | assumption | decide) ?_ | refine iteN (by first | assumption | decide) ?_)
      exact ⟨by rw [ec]; exact nI_inb (by omega) (by omega), by rw [ec, nI_clamp (by omega)], (by first | rfl | trivial)⟩
    · (try simp only [lgl, lgg]); (repeat first | refine iteP (by first | assumption | decide) ?_ | refine iteN (by first | assumption | decide) ?_)
      exact ⟨im 3 (by omega), by rw [cm 3 (by omega)]; exact congrArg some ((h3 1 (by omega)).1).symm, (by first | rfl | trivial)⟩
  · skip
    have ec : nI l * 3 + (nI 4 - 2) = nI (3 * l + 2) := by rw [show nI l * 3 = nI (l * 3) from nI_mul l 3, show nI 4 - 2 = nI 2 from by decide, nI_add]; congr 1; omega
    refine ⟨A 13 (3 * l + 2), A, V, K, T, A, V, sg_L_told_0 ?_, sg_M_told_0 ?_, R⟩
    · (try simp only [lgl, lgg]); (repeat first | refine iteP (by first | assumption | decide) ?_ | refine iteN (by first | assumption | decide) ?_)
      exact ⟨by rw [ec]; exact nI_inb (by omega) (by omega), by rw [ec, nI_clamp (by omega)], (by first | rfl | trivial)⟩
    · (try simp only [lgl, lgg]); (repeat first | refine iteP (by first | assumption | decide) ?_ | refine iteN (by first | assumption | decide) ?_)
      exact ⟨im 4 (by omega), by rw [cm 4 (by omega)]; exact congrArg some ((h3 2 (by omega)).1).symm, (by first | rfl | trivial)⟩
  · skip
    refine ⟨A 14 l, A, V, K, T, A, V, sg_L_told_0 ?_, sg_M_told_0 ?_, R⟩
    · (try simp only [lgl, lgg]); (repeat first | refine iteP (by first | assumption | decide) ?_ | refine iteN (by first | assumption | decide) ?_)
      exact ⟨ib, by rw [cl], (by first | rfl | trivial)⟩
    · (try simp only [lgl, lgg]); (repeat first | refine iteP (by first | assumption | decide) ?_ | refine iteN (by first | assumption | decide) ?_)
      exact ⟨im 5 (by omega), by rw [cm 5 (by omega)]; exact congrArg some (h4).symm, (by first | rfl | trivial)⟩
  · by_cases hb : hbit (V 10 7) (nI l)
    · refine ⟨1, A, V, K, T, A, V, sg_L_told_0 ?_, sg_M_told_0 ?_, R⟩
      · (try simp only [lgl, lgg]); (repeat first | refine iteP (by first | assumption | decide) ?_ | refine iteN (by first | assumption | decide) ?_)
        constructor <;> first | rfl | trivial
      · (try simp only [lgl, lgg]); (repeat first | refine iteP (by first | assumption | decide) ?_ | refine iteN (by first | assumption | decide) ?_)
        exact ⟨im 6 (by omega), by rw [cm 6 (by omega)]; exact congrArg some ((show A 41 (13 * l + 6) = 1 by rw [show A 41 (13 * l + 6) = b2 (hbit (V 10 7) (nI l)) from h5]; unfold b2; rw [if_pos hb]).symm), (by first | rfl | trivial)⟩
    · refine ⟨0, A, V, K, T, A, V, sg_L_told_0 ?_, sg_M_told_0 ?_, R⟩
      · (try simp only [lgl, lgg]); (repeat first | refine iteP (by first | assumption | decide) ?_ | refine iteN (by first | assumption | decide) ?_)
        constructor <;> first | rfl | trivial
      · (try simp only [lgl, lgg]); (repeat first | refine iteP (by first | assumption | decide) ?_ | refine iteN (by first | assumption | decide) ?_)
        exact ⟨im 6 (by omega), by rw [cm 6 (by omega)]; exact congrArg some ((show A 41 (13 * l + 6) = 0 by rw [show A 41 (13 * l + 6) = b2 (hbit (V 10 7) (nI l)) from h5]; unfold b2; rw [if_neg hb]).symm), (by first | rfl | trivial)⟩
  · skip
    refine ⟨A 16 l &&& 7, A, V, K, T, A, V, sg_L_told_0 ?_, sg_M_told_0 ?_, R⟩
    · (try simp only [lgl, lgg]); (repeat first | refine iteP (by first | assumption | decide) ?_ | refine iteN (by first | assumption | decide) ?_)
      exact ⟨ib, by rw [cl], (by first | rfl | trivial)⟩
    · (try simp only [lgl, lgg]); (repeat first | refine iteP (by first | assumption | decide) ?_ | refine iteN (by first | assumption | decide) ?_)
      exact ⟨im 8 (by omega), by rw [show (13 : Int32) * nI l + 8 = (13 : Int32) * nI l + nI 8 from rfl, cm 8 (by omega)]; exact congrArg some (k2.trans k3.symm), (by first | rfl | trivial)⟩
  · have ek : nI w - 8 = nI (w - 8) := nI_sub (b := 8) (by omega)
    have e9 : (9 : Int32) + nI w - 8 = nI (w + 1) := by rw [show (9 : Int32) + nI w = nI (9 + w) from nI_add 9 w]; exact (nI_sub (b := 8) (by omega)).trans (congrArg nI (by omega))
    have w7 : (7 : Int32) ≤ nI w := (nI_leI (a := 7) (b := w) (by omega) (by omega)).mpr (by omega)
    have n0 : ¬ nI w = 0 := mt (nI_eq (a := w) (b := 0) (by omega) (by omega)).mp (by omega)
    have n1 : ¬ nI w = 1 := mt (nI_eq (a := w) (b := 1) (by omega) (by omega)).mp (by omega)
    have n2 : ¬ nI w = 2 := mt (nI_eq (a := w) (b := 2) (by omega) (by omega)).mp (by omega)
    have n3 : ¬ nI w = 3 := mt (nI_eq (a := w) (b := 3) (by omega) (by omega)).mp (by omega)
    have n4 : ¬ nI w = 4 := mt (nI_eq (a := w) (b := 4) (by omega) (by omega)).mp (by omega)
    have n5 : ¬ nI w = 5 := mt (nI_eq (a := w) (b := 5) (by omega) (by omega)).mp (by omega)
    have n6 : ¬ nI w = 6 := mt (nI_eq (a := w) (b := 6) (by omega) (by omega)).mp (by omega)
    have n7 : ¬ nI w = 7 := mt (nI_eq (a := w) (b := 7) (by omega) (by omega)).mp (by omega)
    by_cases hk : n ≤ w - 8
    · refine ⟨-2, A, V, K, T, A, V, sg_L_told_0 ?_, sg_M_told_0 ?_, R⟩
      · (try simp only [lgl, lgg]); (repeat first | refine iteP (by assumption) ?_ | refine iteN (by assumption) ?_)
        exact ⟨ib, iteP (by rw [cl, show A 16 l &&& 7 = nI n from k2, ek, nI_leI (by omega) (by omega)]; exact hk) (by constructor <;> first | rfl | trivial)⟩
      · (try simp only [lgl, lgg]); (repeat first | refine iteP (by assumption) ?_ | refine iteN (by assumption) ?_)
        exact ⟨im 8 (by omega), iteP (by rw [show (13 : Int32) * nI l + 8 = (13 : Int32) * nI l + nI 8 from rfl, cm 8 (by omega), show A 41 (13 * l + 8) = nI (n + 0) from k3, ek, nI_leI (by omega) (by omega)]; exact hk) (by constructor <;> first | rfl | trivial)⟩
    · have q := k4 (w - 8) (by omega)
      refine ⟨rlet (A 16 l) (w - 8), A, V, K, T, A, V, sg_L_told_0 ?_, sg_M_told_0 ?_, R⟩
      · (try simp only [lgl, lgg]); (repeat first | refine iteP (by assumption) ?_ | refine iteN (by assumption) ?_)
        refine ⟨ib, iteN (by rw [cl, show A 16 l &&& 7 = nI n from k2, ek, nI_leI (by omega) (by omega)]; exact hk) ⟨ib, ?_, (by first | rfl | trivial)⟩⟩
        rw [cl, ek]
      · (try simp only [lgl, lgg]); (repeat first | refine iteP (by assumption) ?_ | refine iteN (by assumption) ?_)
        refine ⟨im 8 (by omega), iteN (by rw [show (13 : Int32) * nI l + 8 = (13 : Int32) * nI l + nI 8 from rfl, cm 8 (by omega), show A 41 (13 * l + 8) = nI (n + 0) from k3, ek, nI_leI (by omega) (by omega)]; exact hk) ⟨by rw [e9]; exact im (w + 1) (by omega), ?_, (by first | rfl | trivial)⟩⟩
        rw [e9, cm (w + 1) (by omega)]
        have e : (fun j => A 41 (13 * l + j)) (8 + 1 + (w - 8)) = A 41 (13 * l + (w + 1)) := congrArg (fun j => A 41 (13 * l + j)) (show 8 + 1 + (w - 8) = w + 1 by omega)
        exact congrArg some ((e.symm.trans q.1).symm)
end
