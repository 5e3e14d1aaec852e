theorem upd_id (f : Nat → Int32) (i : Nat) : upd f i (f i) = f := by
  funext j
  unfold upd
  by_cases h : j = i
  · rw [if_pos h, h]
  · rw [if_neg h]
theorem xor64 : ∀ b, b < 64 → ∀ l, l < 6 → nI b ^^^ ((1 : Int32) <<< (nI l &&& 31)) = nI (b ^^^ 2 ^ l) ∧ b ^^^ 2 ^ l < 64 := by decide +kernel
theorem RI_homes {A V : Nat → Nat → Int32} {K : Nat → Option Nat} {T : am_H} {F : Nat → Int32} (R : RI A V K T) (hF : ∀ d, d < 1080 → ∃ b, b < 64 ∧ F d = nI b) (hz : ∀ d, 1080 ≤ d → F d = 0) : RI (upA (upA A 9 F) 38 F) V K T := by
  obtain ⟨⟨r1, r2, r3, r4, r5, r6, r7, r8⟩, q2, q3, q4, q5, q6⟩ := R
  exact ⟨⟨r1, rfl, r3, r4, r5, r6, r7, hF⟩, q2, q3, q4, fun d hd => ⟨(q5 d hd).1, (q5 d hd).2.1, (q5 d hd).2.2.1, hz d hd⟩, q6⟩
section
variable {L : Nat} {xs : Nat → Int32} {A V : Nat → Nat → Int32} {K : Nat → Option Nat} {T : am_H}
theorem home_lp (l : Nat) (hl : l < 6) (is a2 : Int32) (b : Nat) (hb : b < 1080) : ∀ (r d : Nat) (n : Int32) (f : Nat → Int32) (w : Option Int32), d + r = b + 1 → (∀ d, d < 1080 → ∃ b, b < 64 ∧ f d = nI b) → (∀ d, 1080 ≤ d → f d = 0) → ∃ (v : Int32) (F : Nat → Int32), (∀ d, d < 1080 → ∃ b, b < 64 ∧ F d = nI b) ∧ (∀ d, 1080 ≤ d → F d = 0) ∧ am_fin [(z_L_home, 23, [.ref 1, .int (nI l), .int a2, .int (nI b), .int is, .int n, .int (nI d)], [])] (hp L xs (upA A 9 f) V K T) (some v) (hp L xs (upA A 9 F) V K T) ∧ ∀ B : Nat → Nat → Int32, am_fin [(z_M_home, 23, [.ref 36, .int (nI l), .int a2, .int (nI b), .int is, .int n, .int (nI d), dl w], [])] (hp L xs (upA B 38 f) V K T) (some v) (hp L xs (upA B 38 F) V K T) := by
  intro r
  induction r with
  | zero =>
    intro d n f w hd p1 p2
    have q : nI b < nI d := (nI_ltI (by omega) (by omega)).mpr (by omega)
    refine ⟨n, f, p1, p2, sg_L_home_23 (iteP q ⟨rfl, rfl⟩), fun B => ?_⟩
    cases w
    · exact sg_M_home_23 (iteP q ⟨rfl, rfl⟩)
    · exact sg_M_home_23b (iteP q ⟨rfl, rfl⟩)
  | succ r ih =>
    intro d n f w hd p1 p2
    have hd' : d < 1080 := by omega
    have q : ¬ nI b < nI d := mt (nI_ltI (by omega) (by omega)).mp (by omega)
    have ib : ¬ (nI d < 0 ∨ 1080 ≤ (nI d).toNatClampNeg) := nI_inb (by omega) hd'
    have rc : upA A 9 f 9 (nI d).toNatClampNeg = f d := by rw [nI_clamp (by omega), upA_same]
    have rm : ∀ B : Nat → Nat → Int32, upA B 38 f 38 (nI d).toNatClampNeg = f d := fun B => by rw [nI_clamp (by omega), upA_same]
    have ec : ∀ z : Int32, upA (upA A 9 f) 9 (upd (upA A 9 f 9) (nI d).toNatClampNeg z) = upA A 9 (upd f d z) := fun z => by rw [nI_clamp (by omega), upA_upA, upA_same]
    have em : ∀ (B : Nat → Nat → Int32) (z : Int32), upA (upA B 38 f) 38 (upd (upA B 38 f 38) (nI d).toNatClampNeg z) = upA B 38 (upd f d z) := fun B z => by rw [nI_clamp (by omega), upA_upA, upA_same]
    have p1' : ∀ e, e < 1080 → ∃ b, b < 64 ∧ upd f d (f d ^^^ ((1 : Int32) <<< (nI l &&& 31))) e = nI b := by
      intro e he
      unfold upd
      split
      · obtain ⟨c, hc, e1⟩ := p1 d hd'
        obtain ⟨x1, x2⟩ := xor64 c hc l hl
        exact ⟨_, x2, by rw [e1]; exact x1⟩
      · exact p1 e he
    have p2' := upd_z (x := f d ^^^ ((1 : Int32) <<< (nI l &&& 31))) hd' p2
    by_cases hbt : hbit (f d) (nI l)
    · by_cases he : (1 : Int32) = is
      · skip
        obtain ⟨v, F, g1, g2, i1, i2⟩ := ih (d + 1) n f (some 1) (by omega) p1 p2
        rw [← nI_1] at i1
        refine ⟨v, F, g1, g2, sg_L_home_23 (iteN q ⟨ib, iteP (show hbit (upA A 9 f 9 (nI d).toNatClampNeg) (nI l) by rw [rc]; exact hbt) (iteP he i1)⟩), fun B => ?_⟩
        have i2 := i2 B
        rw [← nI_1] at i2
        cases w
        · exact sg_M_home_23 (iteN q ⟨ib, iteP (show hbit (upA B 38 f 38 (nI d).toNatClampNeg) (nI l) by rw [rm]; exact hbt) (iteP he (iteP he ⟨ib, ib, by rw [em, rm, upd_id, Int32.add_zero]; exact i2⟩))⟩)
        · exact sg_M_home_23b (iteN q ⟨ib, iteP (show hbit (upA B 38 f 38 (nI d).toNatClampNeg) (nI l) by rw [rm]; exact hbt) (iteP he (iteP he ⟨ib, ib, by rw [em, rm, upd_id, Int32.add_zero]; exact i2⟩))⟩)
      · skip
        obtain ⟨v, F, g1, g2, i1, i2⟩ := ih (d + 1) (n + 1) (upd f d (f d ^^^ ((1 : Int32) <<< (nI l &&& 31)))) (some 1) (by omega) p1' p2'
        rw [← nI_1] at i1
        refine ⟨v, F, g1, g2, sg_L_home_23 (iteN q ⟨ib, iteP (show hbit (upA A 9 f 9 (nI d).toNatClampNeg) (nI l) by rw [rc]; exact hbt) (iteN he ⟨ib, ib, by rw [ec, rc]; exact i1⟩)⟩), fun B => ?_⟩
        have i2 := i2 B
        rw [← nI_1] at i2
        cases w
        · exact sg_M_home_23 (iteN q ⟨ib, iteP (show hbit (upA B 38 f 38 (nI d).toNatClampNeg) (nI l) by rw [rm]; exact hbt) (iteN he (iteN he ⟨ib, ib, by rw [em, rm]; exact i2⟩))⟩)
        · exact sg_M_home_23b (iteN q ⟨ib, iteP (show hbit (upA B 38 f 38 (nI d).toNatClampNeg) (nI l) by rw [rm]; exact hbt) (iteN he (iteN he ⟨ib, ib, by rw [em, rm]; exact i2⟩))⟩)
    · by_cases he : (0 : Int32) = is
      · skip
        obtain ⟨v, F, g1, g2, i1, i2⟩ := ih (d + 1) n f (some 0) (by omega) p1 p2
        rw [← nI_1] at i1
        refine ⟨v, F, g1, g2, sg_L_home_23 (iteN q ⟨ib, iteN (show ¬ hbit (upA A 9 f 9 (nI d).toNatClampNeg) (nI l) by rw [rc]; exact hbt) (iteP he i1)⟩), fun B => ?_⟩
        have i2 := i2 B
        rw [← nI_1] at i2
        cases w
        · exact sg_M_home_23 (iteN q ⟨ib, iteN (show ¬ hbit (upA B 38 f 38 (nI d).toNatClampNeg) (nI l) by rw [rm]; exact hbt) (iteP he (iteP he ⟨ib, ib, by rw [em, rm, upd_id, Int32.add_zero]; exact i2⟩))⟩)
        · exact sg_M_home_23b (iteN q ⟨ib, iteN (show ¬ hbit (upA B 38 f 38 (nI d).toNatClampNeg) (nI l) by rw [rm]; exact hbt) (iteP he (iteP he ⟨ib, ib, by rw [em, rm, upd_id, Int32.add_zero]; exact i2⟩))⟩)
      · skip
        obtain ⟨v, F, g1, g2, i1, i2⟩ := ih (d + 1) (n + 1) (upd f d (f d ^^^ ((1 : Int32) <<< (nI l &&& 31)))) (some 0) (by omega) p1' p2'
        rw [← nI_1] at i1
        refine ⟨v, F, g1, g2, sg_L_home_23 (iteN q ⟨ib, iteN (show ¬ hbit (upA A 9 f 9 (nI d).toNatClampNeg) (nI l) by rw [rc]; exact hbt) (iteN he ⟨ib, ib, by rw [ec, rc]; exact i1⟩)⟩), fun B => ?_⟩
        have i2 := i2 B
        rw [← nI_1] at i2
        cases w
        · exact sg_M_home_23 (iteN q ⟨ib, iteN (show ¬ hbit (upA B 38 f 38 (nI d).toNatClampNeg) (nI l) by rw [rm]; exact hbt) (iteN he (iteN he ⟨ib, ib, by rw [em, rm]; exact i2⟩))⟩)
        · exact sg_M_home_23b (iteN q ⟨ib, iteN (show ¬ hbit (upA B 38 f 38 (nI d).toNatClampNeg) (nI l) by rw [rm]; exact hbt) (iteN he (iteN he ⟨ib, ib, by rw [em, rm]; exact i2⟩))⟩)
theorem pr_home (a1 a2 a3 a4 : Int32) (R : RI A V K T) : PRQ z_L_home z_M_home [.ref 1, .int a1, .int a2, .int a3, .int a4, .null, .null] [.ref 36, .int a1, .int a2, .int a3, .int a4, .null, .null, .null] L xs A V K T := by
  by_cases c1 : a1 < 0
  · refine ⟨(-1), A, V, K, T, A, V, sg_L_home_0 ?_, sg_M_home_0 ?_, R⟩
    · (try simp only [lgl, lgg]); (repeat first | refine iteP (by first | assumption) ?_ | refine iteN (by first | assumption) ?_); (constructor <;> first | rfl | trivial)
    · (try simp only [lgl, lgg]); (repeat first | refine iteP (by first | assumption) ?_ | refine iteN (by first | assumption) ?_); (constructor <;> first | rfl | trivial)
  by_cases c2 : (5 : Int32) < a1
  · refine ⟨(-1), A, V, K, T, A, V, sg_L_home_0 ?_, sg_M_home_0 ?_, R⟩
    · (try simp only [lgl, lgg]); (repeat first | refine iteP (by first | assumption) ?_ | refine iteN (by first | assumption) ?_); (constructor <;> first | rfl | trivial)
    · (try simp only [lgl, lgg]); (repeat first | refine iteP (by first | assumption) ?_ | refine iteN (by first | assumption) ?_); (constructor <;> first | rfl | trivial)
  by_cases c3 : a2 < 0
  · refine ⟨(-1), A, V, K, T, A, V, sg_L_home_0 ?_, sg_M_home_0 ?_, R⟩
    · (try simp only [lgl, lgg]); (repeat first | refine iteP (by first | assumption) ?_ | refine iteN (by first | assumption) ?_); (constructor <;> first | rfl | trivial)
    · (try simp only [lgl, lgg]); (repeat first | refine iteP (by first | assumption) ?_ | refine iteN (by first | assumption) ?_); (constructor <;> first | rfl | trivial)
  by_cases c4 : (1079 : Int32) < a2
  · refine ⟨(-1), A, V, K, T, A, V, sg_L_home_0 ?_, sg_M_home_0 ?_, R⟩
    · (try simp only [lgl, lgg]); (repeat first | refine iteP (by first | assumption) ?_ | refine iteN (by first | assumption) ?_); (constructor <;> first | rfl | trivial)
    · (try simp only [lgl, lgg]); (repeat first | refine iteP (by first | assumption) ?_ | refine iteN (by first | assumption) ?_); (constructor <;> first | rfl | trivial)
  by_cases c5 : a3 < 0
  · refine ⟨(-1), A, V, K, T, A, V, sg_L_home_0 ?_, sg_M_home_0 ?_, R⟩
    · (try simp only [lgl, lgg]); (repeat first | refine iteP (by first | assumption) ?_ | refine iteN (by first | assumption) ?_); (constructor <;> first | rfl | trivial)
    · (try simp only [lgl, lgg]); (repeat first | refine iteP (by first | assumption | exact i32_a (z := 0) (by assumption) (by assumption)) ?_ | refine iteN (by first | assumption | exact i32_b (z := 1079) (by assumption) (by assumption)) ?_); (constructor <;> first | rfl | trivial)
  by_cases c6 : (1079 : Int32) < a3
  · refine ⟨(-1), A, V, K, T, A, V, sg_L_home_0 ?_, sg_M_home_0 ?_, R⟩
    · (try simp only [lgl, lgg]); (repeat first | refine iteP (by first | assumption) ?_ | refine iteN (by first | assumption) ?_); (constructor <;> first | rfl | trivial)
    · (try simp only [lgl, lgg]); (repeat first | refine iteP (by first | assumption | exact i32_a (z := 0) (by assumption) (by assumption)) ?_ | refine iteN (by first | assumption | exact i32_b (z := 1079) (by assumption) (by assumption)) ?_); (constructor <;> first | rfl | trivial)
  by_cases c7 : a3 < a2
  · refine ⟨(-1), A, V, K, T, A, V, sg_L_home_0 ?_, sg_M_home_0 ?_, R⟩
    · (try simp only [lgl, lgg]); (repeat first | refine iteP (by first | assumption) ?_ | refine iteN (by first | assumption) ?_); (constructor <;> first | rfl | trivial)
    · (try simp only [lgl, lgg]); (repeat first | refine iteP (by first | assumption) ?_ | refine iteN (by first | assumption) ?_); (constructor <;> first | rfl | trivial)
  obtain ⟨l, hl, rfl⟩ := i32_nat (m := 5) (by omega) c1 c2
  obtain ⟨a, ha, rfl⟩ := i32_nat (m := 1079) (by omega) c3 c4
  obtain ⟨b, hb, rfl⟩ := i32_nat (m := 1079) (by omega) c5 c6
  have hab : a ≤ b := by rw [nI_ltI (by omega) (by omega)] at c7; omega
  obtain ⟨r1, r2, r3, r4, r5, r6, r7, r8⟩ := id R.1
  obtain ⟨v, F, g1, g2, i1, i2⟩ := home_lp (L := L) (xs := xs) (A := A) (V := V) (K := K) (T := T) l (by omega) a4 (nI a) b (by omega) (b + 1 - a) a 0 (A 9) none (by omega) r8 (fun d hd => (R.2.2.2.2.1 d hd).2.2.2)
  rw [upA_self] at i1
  have i2 := i2 (upA A 9 F)
  have e : upA (upA A 9 F) 38 (A 9) = upA A 9 F := by
    have := upA_self (upA A 9 F) 38
    rw [show upA A 9 F 38 = A 9 from r2] at this
    exact this
  rw [e] at i2
  refine ⟨v, upA A 9 F, V, K, T, upA (upA A 9 F) 38 F, V, sg_L_home_0 ?_, sg_M_home_0 ?_, RI_homes R g1 g2⟩
  · (try simp only [lgl, lgg]); (repeat first | refine iteP (by first | assumption) ?_ | refine iteN (by first | assumption) ?_)
    exact i1
  · (try simp only [lgl, lgg]); (repeat first | refine iteP (by first | assumption) ?_ | refine iteN (by first | assumption) ?_)
    exact i2
end
