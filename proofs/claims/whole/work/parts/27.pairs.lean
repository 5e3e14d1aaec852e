theorem upd_at (f : Nat → Int32) (i : Nat) (x : Int32) : upd f i x i = x := if_pos rfl
theorem upd_no (f : Nat → Int32) {i j : Nat} (x : Int32) (h : j ≠ i) : upd f i x j = f j := if_neg h
theorem Rr_one {A A' V : Nat → Nat → Int32} (R : Rr A V) (l : Nat) (j0 : Nat) (hj : j0 < 13) (x : Int32) (e17 : A' 17 = A 17) (e41 : A' 41 = upd (A 41) (13 * l + j0) x) (hl : l < 6)
    (same : ∀ l', l' < 6 → l' ≠ l → A' 11 l' = A 11 l' ∧ A' 12 l' = A 12 l' ∧ (∀ s, s < 3 → A' 13 (3 * l' + s) = A 13 (3 * l' + s)) ∧ A' 14 l' = A 14 l' ∧ A' 15 l' = A 15 l' ∧ A' 16 l' = A 16 l')
    (new : RL (A' 11 l) (A' 12 l) (fun s => A' 13 (3 * l + s)) (A' 14 l) (b2 (hbit (V 10 7) (nI l))) (A' 15 l) (A' 16 l) (fun j => if j = j0 then x else A 41 (13 * l + j))) : Rr A' V := by
  refine ⟨fun l' hl' => ?_, RTy_congr R.2.1 e17 (fun j hjj => by rw [e41, upd_no _ _ (by omega)]), R.2.2⟩
  by_cases h : l' = l
  · subst h
    refine RL_congr new (fun _ _ => rfl) (fun j hjj => ?_)
    show A' 41 (13 * l' + j) = _
    rw [e41]
    by_cases hj0 : j = j0
    · subst hj0; rw [upd_at, if_pos rfl]
    · rw [upd_no _ _ (by omega), if_neg hj0]
  · obtain ⟨s1, s2, s3, s4, s5, s6⟩ := same l' hl' h
    rw [s1, s2, s4, s5, s6]
    refine RL_congr (R.1 l' hl') s3 (fun j hjj => ?_)
    show A' 41 (13 * l' + j) = _
    rw [e41, upd_no _ _ (by omega)]
theorem RI_rules {A A' V : Nat → Nat → Int32} {K : Nat → Option Nat} {T : am_H} (R : RI A V K T) (h : Rr A' V) (e4 : A' 4 = A 4) (e6 : A' 6 = A 6) (e8 : A' 8 = A 8) (e9 : A' 9 = A 9) (e37 : A' 37 = A 37) (e38 : A' 38 = A 38) (e39 : A' 39 = A 39) (e40 : A' 40 = A 40) (e20 : A' 20 = A 20) (e42 : A' 42 = A 42) (e50 : A' 50 = A 50) (e51 : A' 51 = A 51) (e52 : A' 52 = A 52) : RI A' V K T := by
  obtain ⟨q1, q2, q3, q4, q5, q6⟩ := R
  refine ⟨?_, q2, h, ?_, ?_, ?_⟩
  · unfold Rd; rw [e4, e6, e8, e9, e37, e38, e39, e40]; exact q1
  · unfold Rt; rw [e20, e42]; exact q4
  · unfold Rz; rw [e4, e6, e8, e9]; exact q5
  · obtain ⟨c, al, B, pd, nt, h1, h2, h3, h4, h5, h6, h7⟩ := q6
    refine ⟨c, al, B, pd, nt, h1, h2, h3, h4, h5, h6, fun k hk => ?_⟩
    unfold Rk1; rw [e50, e51, e52]; exact h7 k hk
section
variable {L : Nat} {xs : Nat → Int32} {A V : Nat → Nat → Int32} {K : Nat → Option Nat} {T : am_H}
theorem e13 (l j : Nat) : (13 : Int32) * nI l + nI j = nI (13 * l + j) := by rw [show (13 : Int32) * nI l = nI (13 * l) from nI_mul 13 l, nI_add]
theorem pr_tax (a1 a2 : Int32) (R : RI A V K T) : PRQ z_L_tax z_M_tax [.ref 1, .int a1, .int a2, .null] [.ref 36, .int a1, .int a2, .null] L xs A V K T := by
  by_cases c1 : a1 < 0
  · refine ⟨(-1), A, V, K, T, A, V, sg_L_tax_0 ?_, sg_M_tax_0 ?_, R⟩
    · (try simp only [lgl, lgg]); (repeat first | refine iteP (by first | assumption) ?_ | refine iteN (by first | assumption) ?_); (constructor <;> first | rfl | trivial)
    · (try simp only [lgl, lgg]); (repeat first | refine iteP (by first | assumption) ?_ | refine iteN (by first | assumption) ?_); (constructor <;> first | rfl | trivial)
  by_cases c2 : (5 : Int32) < a1
  · refine ⟨(-1), A, V, K, T, A, V, sg_L_tax_0 ?_, sg_M_tax_0 ?_, R⟩
    · (try simp only [lgl, lgg]); (repeat first | refine iteP (by first | assumption) ?_ | refine iteN (by first | assumption) ?_); (constructor <;> first | rfl | trivial)
    · (try simp only [lgl, lgg]); (repeat first | refine iteP (by first | assumption) ?_ | refine iteN (by first | assumption) ?_); (constructor <;> first | rfl | trivial)
  by_cases c3 : a2 < 0
  · refine ⟨(-1), A, V, K, T, A, V, sg_L_tax_0 ?_, sg_M_tax_0 ?_, R⟩
    · (try simp only [lgl, lgg]); (repeat first | refine iteP (by first | assumption) ?_ | refine iteN (by first | assumption) ?_); (constructor <;> first | rfl | trivial)
    · (try simp only [lgl, lgg]); (repeat first | refine iteP (by first | assumption) ?_ | refine iteN (by first | assumption) ?_); (constructor <;> first | rfl | trivial)
  by_cases c4 : (60 : Int32) < a2
  · refine ⟨(-1), A, V, K, T, A, V, sg_L_tax_0 ?_, sg_M_tax_0 ?_, R⟩
    · (try simp only [lgl, lgg]); (repeat first | refine iteP (by first | assumption) ?_ | refine iteN (by first | assumption) ?_); (constructor <;> first | rfl | trivial)
    · (try simp only [lgl, lgg]); (repeat first | refine iteP (by first | assumption) ?_ | refine iteN (by first | assumption) ?_); (constructor <;> first | rfl | trivial)
  obtain ⟨l, hl, rfl⟩ := i32_nat (m := 5) (by omega) c1 c2
  obtain ⟨r, hr, rfl⟩ := i32_nat (m := 60) (by omega) c3 c4
  have hl6 : l < 6 := by omega
  have RR := R.2.2.1
  have hL := RR.1 l hl6
  have ib : ¬ (nI l < 0 ∨ 6 ≤ (nI l).toNatClampNeg) := nI_inb (by omega) hl6
  have ex : (13 : Int32) * nI l + 5 = nI (13 * l + 5) := e13 l 5
  have im : ¬ ((13 : Int32) * nI l + 5 < 0 ∨ 258 ≤ ((13 : Int32) * nI l + 5).toNatClampNeg) := by rw [ex]; exact nI_inb (by omega) (by omega)
  refine ⟨A 14 l, upA A 14 (upd (A 14) l (nI r)), V, K, T, upA (upA A 14 (upd (A 14) l (nI r))) 41 (upd (A 41) (13 * l + 5) (nI r)), V, sg_L_tax_0 ?_, sg_M_tax_0 ?_, ?_⟩
  · (try simp only [lgl, lgg]); (repeat first | refine iteP (by first | assumption) ?_ | refine iteN (by first | assumption) ?_)
    exact ⟨ib, ib, by rw [nI_clamp (by omega)], by rw [nI_clamp (by omega)]⟩
  · (try simp only [lgl, lgg]); (repeat first | refine iteP (by first | assumption) ?_ | refine iteN (by first | assumption) ?_)
    refine ⟨im, im, ?_, ?_⟩
    · rw [ex, nI_clamp (by omega)]
      exact congrArg some hL.2.2.2.1.symm
    · rw [ex, nI_clamp (by omega)]; rfl
  · refine RI_rules R (Rr_one RR l 5 (by omega) (nI r) rfl rfl hl6 (fun l' hl' hne => ⟨rfl, rfl, fun _ _ => rfl, upd_no _ _ hne, rfl, rfl⟩) ?_) rfl rfl rfl rfl rfl rfl rfl rfl rfl rfl rfl rfl rfl
    obtain ⟨h1, h2, h3, h4, h5, h6, h7, h8, h9, h10⟩ := hL
    show RL _ _ _ (upd (A 14) l (nI r) l) _ _ _ _
    rw [upd_at]
    exact ⟨h1, h2, (fun s hs => ⟨by show (if 2 + s = 5 then _ else _) = _; rw [if_neg (by omega)]; exact (h3 s hs).1, (h3 s hs).2⟩), rfl, h5, h6, Rrow_congr h7 (fun j p1 p2 => if_neg (by omega)), h8, ⟨r, hr, rfl⟩, h10⟩
theorem pr_entries (a1 a2 : Int32) (R : RI A V K T) : PRQ z_L_entries z_M_entries [.ref 1, .int a1, .int a2, .null] [.ref 36, .int a1, .int a2, .null] L xs A V K T := by
  by_cases c1 : a1 < 0
  · refine ⟨(-1), A, V, K, T, A, V, sg_L_entries_0 ?_, sg_M_entries_0 ?_, R⟩
    · (try simp only [lgl, lgg]); (repeat first | refine iteP (by first | assumption) ?_ | refine iteN (by first | assumption) ?_); (constructor <;> first | rfl | trivial)
    · (try simp only [lgl, lgg]); (repeat first | refine iteP (by first | assumption) ?_ | refine iteN (by first | assumption) ?_); (constructor <;> first | rfl | trivial)
  by_cases c2 : (5 : Int32) < a1
  · refine ⟨(-1), A, V, K, T, A, V, sg_L_entries_0 ?_, sg_M_entries_0 ?_, R⟩
    · (try simp only [lgl, lgg]); (repeat first | refine iteP (by first | assumption) ?_ | refine iteN (by first | assumption) ?_); (constructor <;> first | rfl | trivial)
    · (try simp only [lgl, lgg]); (repeat first | refine iteP (by first | assumption) ?_ | refine iteN (by first | assumption) ?_); (constructor <;> first | rfl | trivial)
  by_cases c3 : a2 < 0
  · refine ⟨(-1), A, V, K, T, A, V, sg_L_entries_0 ?_, sg_M_entries_0 ?_, R⟩
    · (try simp only [lgl, lgg]); (repeat first | refine iteP (by first | assumption) ?_ | refine iteN (by first | assumption) ?_); (constructor <;> first | rfl | trivial)
    · (try simp only [lgl, lgg]); (repeat first | refine iteP (by first | assumption) ?_ | refine iteN (by first | assumption) ?_); (constructor <;> first | rfl | trivial)
  by_cases c4 : (100 : Int32) < a2
  · refine ⟨(-1), A, V, K, T, A, V, sg_L_entries_0 ?_, sg_M_entries_0 ?_, R⟩
    · (try simp only [lgl, lgg]); (repeat first | refine iteP (by first | assumption) ?_ | refine iteN (by first | assumption) ?_); (constructor <;> first | rfl | trivial)
    · (try simp only [lgl, lgg]); (repeat first | refine iteP (by first | assumption) ?_ | refine iteN (by first | assumption) ?_); (constructor <;> first | rfl | trivial)
  obtain ⟨l, hl, rfl⟩ := i32_nat (m := 5) (by omega) c1 c2
  obtain ⟨r, hr, rfl⟩ := i32_nat (m := 100) (by omega) c3 c4
  have hl6 : l < 6 := by omega
  have RR := R.2.2.1
  have hL := RR.1 l hl6
  have ib : ¬ (nI l < 0 ∨ 6 ≤ (nI l).toNatClampNeg) := nI_inb (by omega) hl6
  have ex : (13 : Int32) * nI l + 7 = nI (13 * l + 7) := e13 l 7
  have im : ¬ ((13 : Int32) * nI l + 7 < 0 ∨ 258 ≤ ((13 : Int32) * nI l + 7).toNatClampNeg) := by rw [ex]; exact nI_inb (by omega) (by omega)
  refine ⟨A 15 l, upA A 15 (upd (A 15) l (nI r)), V, K, T, upA (upA A 15 (upd (A 15) l (nI r))) 41 (upd (A 41) (13 * l + 7) (nI r)), V, sg_L_entries_0 ?_, sg_M_entries_0 ?_, ?_⟩
  · (try simp only [lgl, lgg]); (repeat first | refine iteP (by first | assumption) ?_ | refine iteN (by first | assumption) ?_)
    exact ⟨ib, ib, by rw [nI_clamp (by omega)], by rw [nI_clamp (by omega)]⟩
  · (try simp only [lgl, lgg]); (repeat first | refine iteP (by first | assumption) ?_ | refine iteN (by first | assumption) ?_)
    refine ⟨im, im, ?_, ?_⟩
    · rw [ex, nI_clamp (by omega)]
      exact congrArg some hL.2.2.2.2.2.1.symm
    · rw [ex, nI_clamp (by omega)]; rfl
  · refine RI_rules R (Rr_one RR l 7 (by omega) (nI r) rfl rfl hl6 (fun l' hl' hne => ⟨rfl, rfl, fun _ _ => rfl, rfl, upd_no _ _ hne, rfl⟩) ?_) rfl rfl rfl rfl rfl rfl rfl rfl rfl rfl rfl rfl rfl
    obtain ⟨h1, h2, h3, h4, h5, h6, h7, h8, h9, h10⟩ := hL
    show RL _ _ _ _ _ (upd (A 15) l (nI r) l) _ _
    rw [upd_at]
    exact ⟨h1, h2, (fun s hs => ⟨by show (if 2 + s = 7 then _ else _) = _; rw [if_neg (by omega)]; exact (h3 s hs).1, (h3 s hs).2⟩), h4, h5, rfl, Rrow_congr h7 (fun j p1 p2 => if_neg (by omega)), h8, h9, r, hr, rfl⟩
theorem pr_rule (a1 a2 a3 : Int32) (R : RI A V K T) : PRQ z_L_rule z_M_rule [.ref 1, .int a1, .int a2, .int a3, .null] [.ref 36, .int a1, .int a2, .int a3, .null] L xs A V K T := by
  by_cases c1 : a1 < 0
  · refine ⟨(-1), A, V, K, T, A, V, sg_L_rule_0 ?_, sg_M_rule_0 ?_, R⟩
    · (try simp only [lgl, lgg]); (repeat first | refine iteP (by first | assumption) ?_ | refine iteN (by first | assumption) ?_); (constructor <;> first | rfl | trivial)
    · (try simp only [lgl, lgg]); (repeat first | refine iteP (by first | assumption) ?_ | refine iteN (by first | assumption) ?_); (constructor <;> first | rfl | trivial)
  by_cases c2 : (5 : Int32) < a1
  · refine ⟨(-1), A, V, K, T, A, V, sg_L_rule_0 ?_, sg_M_rule_0 ?_, R⟩
    · (try simp only [lgl, lgg]); (repeat first | refine iteP (by first | assumption) ?_ | refine iteN (by first | assumption) ?_); (constructor <;> first | rfl | trivial)
    · (try simp only [lgl, lgg]); (repeat first | refine iteP (by first | assumption) ?_ | refine iteN (by first | assumption) ?_); (constructor <;> first | rfl | trivial)
  by_cases c3 : a2 < 0
  · refine ⟨(-1), A, V, K, T, A, V, sg_L_rule_0 ?_, sg_M_rule_0 ?_, R⟩
    · (try simp only [lgl, lgg]); (repeat first | refine iteP (by first | assumption) ?_ | refine iteN (by first | assumption) ?_); (constructor <;> first | rfl | trivial)
    · (try simp only [lgl, lgg]); (repeat first | refine iteP (by first | assumption) ?_ | refine iteN (by first | assumption) ?_); (constructor <;> first | rfl | trivial)
  by_cases c4 : (2 : Int32) < a2
  · refine ⟨(-1), A, V, K, T, A, V, sg_L_rule_0 ?_, sg_M_rule_0 ?_, R⟩
    · (try simp only [lgl, lgg]); (repeat first | refine iteP (by first | assumption) ?_ | refine iteN (by first | assumption) ?_); (constructor <;> first | rfl | trivial)
    · (try simp only [lgl, lgg]); (repeat first | refine iteP (by first | assumption) ?_ | refine iteN (by first | assumption) ?_); (constructor <;> first | rfl | trivial)
  by_cases c5 : a3 < 0
  · refine ⟨(-1), A, V, K, T, A, V, sg_L_rule_0 ?_, sg_M_rule_0 ?_, R⟩
    · (try simp only [lgl, lgg]); (repeat first | refine iteP (by first | assumption) ?_ | refine iteN (by first | assumption) ?_); (constructor <;> first | rfl | trivial)
    · (try simp only [lgl, lgg]); (repeat first | refine iteP (by first | assumption) ?_ | refine iteN (by first | assumption) ?_); (constructor <;> first | rfl | trivial)
  by_cases c6 : (360 : Int32) < a3
  · refine ⟨(-1), A, V, K, T, A, V, sg_L_rule_0 ?_, sg_M_rule_0 ?_, R⟩
    · (try simp only [lgl, lgg]); (repeat first | refine iteP (by first | assumption) ?_ | refine iteN (by first | assumption) ?_); (constructor <;> first | rfl | trivial)
    · (try simp only [lgl, lgg]); (repeat first | refine iteP (by first | assumption) ?_ | refine iteN (by first | assumption) ?_); (constructor <;> first | rfl | trivial)
  obtain ⟨l, hl, rfl⟩ := i32_nat (m := 5) (by omega) c1 c2
  obtain ⟨s, hs, rfl⟩ := i32_nat (m := 2) (by omega) c3 c4
  obtain ⟨r, hr, rfl⟩ := i32_nat (m := 360) (by omega) c5 c6
  have hl6 : l < 6 := by omega
  have RR := R.2.2.1
  have hL := RR.1 l hl6
  have ec : nI l * 3 + nI s = nI (3 * l + s) := by rw [show nI l * 3 = nI (l * 3) from nI_mul l 3, nI_add]; congr 1; omega
  have ib : ¬ (nI l * 3 + nI s < 0 ∨ 18 ≤ (nI l * 3 + nI s).toNatClampNeg) := by rw [ec]; exact nI_inb (by omega) (by omega)
  have ex : (13 : Int32) * nI l + (2 + nI s) = nI (13 * l + (2 + s)) := by rw [show (2 : Int32) + nI s = nI (2 + s) from nI_add 2 s]; exact e13 l (2 + s)
  have im : ¬ ((13 : Int32) * nI l + (2 + nI s) < 0 ∨ 258 ≤ ((13 : Int32) * nI l + (2 + nI s)).toNatClampNeg) := by rw [ex]; exact nI_inb (by omega) (by omega)
  refine ⟨A 13 (3 * l + s), upA A 13 (upd (A 13) (3 * l + s) (nI r)), V, K, T, upA (upA A 13 (upd (A 13) (3 * l + s) (nI r))) 41 (upd (A 41) (13 * l + (2 + s)) (nI r)), V, sg_L_rule_0 ?_, sg_M_rule_0 ?_, ?_⟩
  · (try simp only [lgl, lgg]); (repeat first | refine iteP (by first | assumption) ?_ | refine iteN (by first | assumption) ?_)
    exact ⟨ib, ib, by rw [ec, nI_clamp (by omega)], by rw [ec, nI_clamp (by omega)]⟩
  · (try simp only [lgl, lgg]); (repeat first | refine iteP (by first | assumption) ?_ | refine iteN (by first | assumption) ?_)
    refine ⟨im, im, ?_, ?_⟩
    · rw [ex, nI_clamp (by omega)]
      exact congrArg some (hL.2.2.1 s (by omega)).1.symm
    · rw [ex, nI_clamp (by omega)]; rfl
  · refine RI_rules R (Rr_one RR l (2 + s) (by omega) (nI r) rfl rfl hl6 (fun l' hl' hne => ⟨rfl, rfl, fun s' hs' => upd_no _ _ (by omega), rfl, rfl, rfl⟩) ?_) rfl rfl rfl rfl rfl rfl rfl rfl rfl rfl rfl rfl rfl
    obtain ⟨h1, h2, h3, h4, h5, h6, h7, h8, h9, h10⟩ := hL
    refine ⟨?_, ?_, fun s' hs' => ?_, ?_, ?_, ?_, Rrow_congr h7 (fun j p1 p2 => if_neg (by omega)), h8, h9, h10⟩
    · show (if 0 = 2 + s then _ else _) = _
      rw [if_neg (by omega)]; exact h1
    · show (if 1 = 2 + s then _ else _) = _
      rw [if_neg (by omega)]; exact h2
    · show (if 2 + s' = 2 + s then nI r else A 41 (13 * l + (2 + s'))) = upd (A 13) (3 * l + s) (nI r) (3 * l + s') ∧ ∃ n, n ≤ 360 ∧ upd (A 13) (3 * l + s) (nI r) (3 * l + s') = nI n
      by_cases e : s' = s
      · subst e
        rw [if_pos rfl, upd_at]
        exact ⟨rfl, r, hr, rfl⟩
      · rw [if_neg (by omega), upd_no _ _ (by omega)]
        exact h3 s' hs'
    · show (if 5 = 2 + s then _ else _) = _
      rw [if_neg (by omega)]; exact h4
    · show (if 6 = 2 + s then _ else _) = _
      rw [if_neg (by omega)]; exact h5
    · show (if 7 = 2 + s then _ else _) = _
      rw [if_neg (by omega)]; exact h6
end
