section
variable {L : Nat} {xs : Nat → Int32} {A V : Nat → Nat → Int32} {K : Nat → Option Nat} {T : am_H}
theorem pr_erase (a1 a2 : Int32) (R : RI A V K T) : PRQ z_L_erase z_M_erase [.ref 1, .int a1, .int a2, .null, .null, .null] [.ref 36, .int a1, .int a2, .null, .null, .null] L xs A V K T := by
  by_cases c1 : a1 < 0
  · refine ⟨(-1), A, V, K, T, A, V, sg_L_erase_0 ?_, sg_M_erase_0 ?_, R⟩
    · (try simp only [lgl, lgg]); (repeat first | refine iteP (by first | assumption) ?_ | refine iteN (by first | assumption) ?_); (constructor <;> first | rfl | trivial)
    · (try simp only [lgl, lgg]); (repeat first | refine iteP (by first | assumption) ?_ | refine iteN (by first | assumption) ?_); (constructor <;> first | rfl | trivial)
  by_cases c2 : (5 : Int32) < a1
  · refine ⟨(-1), A, V, K, T, A, V, sg_L_erase_0 ?_, sg_M_erase_0 ?_, R⟩
    · (try simp only [lgl, lgg]); (repeat first | refine iteP (by first | assumption) ?_ | refine iteN (by first | assumption) ?_); (constructor <;> first | rfl | trivial)
    · (try simp only [lgl, lgg]); (repeat first | refine iteP (by first | assumption) ?_ | refine iteN (by first | assumption) ?_); (constructor <;> first | rfl | trivial)
  by_cases c3 : a2 < 1
  · refine ⟨(-1), A, V, K, T, A, V, sg_L_erase_0 ?_, sg_M_erase_0 ?_, R⟩
    · (try simp only [lgl, lgg]); (repeat first | refine iteP (by first | assumption) ?_ | refine iteN (by first | assumption) ?_); (constructor <;> first | rfl | trivial)
    · (try simp only [lgl, lgg]); (repeat first | refine iteP (by first | assumption) ?_ | refine iteN (by first | assumption) ?_); (constructor <;> first | rfl | trivial)
  by_cases c4 : (360 : Int32) < a2
  · refine ⟨(-1), A, V, K, T, A, V, sg_L_erase_0 ?_, sg_M_erase_0 ?_, R⟩
    · (try simp only [lgl, lgg]); (repeat first | refine iteP (by first | assumption) ?_ | refine iteN (by first | assumption) ?_); (constructor <;> first | rfl | trivial)
    · (try simp only [lgl, lgg]); (repeat first | refine iteP (by first | assumption) ?_ | refine iteN (by first | assumption) ?_); (constructor <;> first | rfl | trivial)
  have c0 : ¬ a2 < 0 := fun z => c3 (by
    have e0 : (0 : Int32).toInt = 0 := by decide
    have e1 : (1 : Int32).toInt = 1 := by decide
    rw [Int32.lt_iff_toInt_lt] at z ⊢
    omega)
  obtain ⟨l, hl, rfl⟩ := i32_nat (m := 5) (by omega) c1 c2
  obtain ⟨w, hw, rfl⟩ := i32_nat (m := 360) (by omega) c0 c4
  obtain ⟨r1, r2, r3, r4, r5, -⟩ := id R.1
  obtain ⟨v, F, g1, g2, i1, i2⟩ := erase_lp (L := L) (xs := xs) (A := A) (V := V) (K := K) (T := T) (nI l) (nI_neg1 (by omega)) w hw 1080 1080 0 0 (A 4) (by omega) (by omega) r5 (fun d hd => (R.2.2.2.2.1 d hd).1)
  have i1 := i1 none
  rw [upA_self] at i1
  have i2 := i2 (upA A 4 F) none
  have e : upA (upA A 4 F) 37 (A 4) = upA A 4 F := by
    have := upA_self (upA A 4 F) 37
    rw [show upA A 4 F 37 = A 4 from r1] at this
    exact this
  rw [e] at i2
  refine ⟨v, upA A 4 F, V, K, T, upA (upA A 4 F) 37 F, V, sg_L_erase_0 ?_, sg_M_erase_0 ?_, RI_places R g1 g2⟩
  · (try simp only [lgl, lgg]); (repeat first | refine iteP (by first | assumption) ?_ | refine iteN (by first | assumption) ?_)
    exact i1
  · (try simp only [lgl, lgg]); (repeat first | refine iteP (by first | assumption) ?_ | refine iteN (by first | assumption) ?_)
    exact i2
end
