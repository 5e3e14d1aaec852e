theorem upd_pl {f : Nat → Int32} {i : Nat} {x : Int32} (hx : pl x) (hf : ∀ d, d < 1080 → pl (f d)) : ∀ d, d < 1080 → pl (upd f i x d) := by
  intro d hd
  unfold upd
  split
  · exact hx
  · exact hf d hd
theorem upd_z {f : Nat → Int32} {i : Nat} {x : Int32} (hi : i < 1080) (hf : ∀ d, 1080 ≤ d → f d = 0) : ∀ d, 1080 ≤ d → upd f i x d = 0 := by
  intro d hd
  unfold upd
  rw [if_neg (by omega)]
  exact hf d hd
section
variable {L : Nat} {xs : Nat → Int32} {A V : Nat → Nat → Int32} {K : Nat → Option Nat} {T : am_H}
theorem trade_lp (x y a3 : Int32) (px : pl x) (py : pl y) (b : Nat) (hb : b < 1080) : ∀ (r d : Nat) (n : Int32) (f : Nat → Int32) (u w : Option Int32), d + r = b + 1 → (∀ d, d < 1080 → pl (f d)) → (∀ d, 1080 ≤ d → f d = 0) → ∃ (v : Int32) (F : Nat → Int32), (∀ d, d < 1080 → pl (F d)) ∧ (∀ d, 1080 ≤ d → F d = 0) ∧ am_fin [(z_L_trade, 25, [.ref 1, .int x, .int y, .int a3, .int (nI b), .int n, .int (nI d), dl u], [])] (hp L xs (upA A 4 f) V K T) (some v) (hp L xs (upA A 4 F) V K T) ∧ ∀ B : Nat → Nat → Int32, am_fin [(z_M_trade, 25, [.ref 36, .int x, .int y, .int a3, .int (nI b), .int n, .int (nI d), dl w], [])] (hp L xs (upA B 37 f) V K T) (some v) (hp L xs (upA B 37 F) V K T) := by
  intro r
  induction r with
  | zero =>
    intro d n f u w hd p1 p2
    have q : nI b < nI d := (nI_ltI (by omega) (by omega)).mpr (by omega)
    refine ⟨n, f, p1, p2, ?_, fun B => ?_⟩
    · cases u
      · exact sg_L_trade_25 (iteP q ⟨rfl, rfl⟩)
      · exact sg_L_trade_25b (iteP q ⟨rfl, rfl⟩)
    · cases w
      · exact sg_M_trade_25 (iteP q ⟨rfl, rfl⟩)
      · exact sg_M_trade_25b (iteP q ⟨rfl, rfl⟩)
  | succ r ih =>
    intro d n f u w hd p1 p2
    have hd' : d < 1080 := by omega
    have q : ¬ nI b < nI d := mt (nI_ltI (by omega) (by omega)).mp (by omega)
    have ib : ¬ (nI d < 0 ∨ 1080 ≤ (nI d).toNatClampNeg) := nI_inb (by omega) hd'
    have ec : ∀ z : Int32, upA (upA A 4 f) 4 (upd (upA A 4 f 4) (nI d).toNatClampNeg z) = upA A 4 (upd f d z) := fun z => by rw [nI_clamp (by omega), upA_upA, upA_same]
    have em : ∀ (B : Nat → Nat → Int32) (z : Int32), upA (upA B 37 f) 37 (upd (upA B 37 f 37) (nI d).toNatClampNeg z) = upA B 37 (upd f d z) := fun B z => by rw [nI_clamp (by omega), upA_upA, upA_same]
    have rm : ∀ B : Nat → Nat → Int32, upA B 37 f 37 (nI d).toNatClampNeg = f d := fun B => by rw [nI_clamp (by omega), upA_same]
    by_cases hx : f d = x
    · obtain ⟨v, F, g1, g2, i1, i2⟩ := ih (d + 1) (n + 1) (upd f d y) (some (f d)) (some (f d)) (by omega) (upd_pl py p1) (upd_z hd' p2)
      rw [← nI_1] at i1
      refine ⟨v, F, g1, g2, ?_, fun B => ?_⟩
      · cases u
        · exact sg_L_trade_25 (iteN q (am_fin.call (P_landOn_3_c d hd') (sg_L_trade_44r (iteP hx (iteP hx ⟨ib, by rw [ec]; exact i1⟩)))))
        · exact sg_L_trade_25b (iteN q (am_fin.call (P_landOn_3_c d hd') (sg_L_trade_44rb (iteP hx (iteP hx ⟨ib, by rw [ec]; exact i1⟩)))))
      · have i2 := i2 B
        rw [← nI_1] at i2
        cases w
        · exact sg_M_trade_25 (iteN q ⟨ib, iteP ((rm B).trans hx) (iteP ((rm B).trans hx) ⟨ib, by rw [em, rm]; exact i2⟩)⟩)
        · exact sg_M_trade_25b (iteN q ⟨ib, iteP ((rm B).trans hx) (iteP ((rm B).trans hx) ⟨ib, by rw [em, rm]; exact i2⟩)⟩)
    · by_cases hy : f d = y
      · obtain ⟨v, F, g1, g2, i1, i2⟩ := ih (d + 1) (n + 1) (upd f d x) (some (f d)) (some (f d)) (by omega) (upd_pl px p1) (upd_z hd' p2)
        rw [← nI_1] at i1
        refine ⟨v, F, g1, g2, ?_, fun B => ?_⟩
        · cases u
          · exact sg_L_trade_25 (iteN q (am_fin.call (P_landOn_3_c d hd') (sg_L_trade_44r (iteN hx (iteP hy (iteN hx ⟨ib, by rw [ec]; exact i1⟩))))))
          · exact sg_L_trade_25b (iteN q (am_fin.call (P_landOn_3_c d hd') (sg_L_trade_44rb (iteN hx (iteP hy (iteN hx ⟨ib, by rw [ec]; exact i1⟩))))))
        · have i2 := i2 B
          rw [← nI_1] at i2
          have hx' : ¬ upA B 37 f 37 (nI d).toNatClampNeg = x := by rw [rm]; exact hx
          cases w
          · exact sg_M_trade_25 (iteN q ⟨ib, iteN hx' (iteP ((rm B).trans hy) (iteN hx' ⟨ib, by rw [em, rm]; exact i2⟩))⟩)
          · exact sg_M_trade_25b (iteN q ⟨ib, iteN hx' (iteP ((rm B).trans hy) (iteN hx' ⟨ib, by rw [em, rm]; exact i2⟩))⟩)
      · obtain ⟨v, F, g1, g2, i1, i2⟩ := ih (d + 1) n f (some (f d)) (some (f d)) (by omega) p1 p2
        rw [← nI_1] at i1
        refine ⟨v, F, g1, g2, ?_, fun B => ?_⟩
        · cases u
          · exact sg_L_trade_25 (iteN q (am_fin.call (P_landOn_3_c d hd') (sg_L_trade_44r (iteN hx (iteN hy i1)))))
          · exact sg_L_trade_25b (iteN q (am_fin.call (P_landOn_3_c d hd') (sg_L_trade_44rb (iteN hx (iteN hy i1)))))
        · have i2 := i2 B
          rw [← nI_1] at i2
          have hx' : ¬ upA B 37 f 37 (nI d).toNatClampNeg = x := by rw [rm]; exact hx
          have hy' : ¬ upA B 37 f 37 (nI d).toNatClampNeg = y := by rw [rm]; exact hy
          cases w
          · exact sg_M_trade_25 (iteN q ⟨ib, iteN hx' (iteN hy' (by rw [rm]; exact i2))⟩)
          · exact sg_M_trade_25b (iteN q ⟨ib, iteN hx' (iteN hy' (by rw [rm]; exact i2))⟩)
theorem pl_land {x : Int32} (h1 : ¬ x < 0) (h2 : ¬ 5 < x) : pl x := by
  obtain ⟨n, hn, rfl⟩ := i32_nat (m := 5) (by omega) h1 h2
  exact Or.inr ⟨n, by omega, rfl⟩
theorem pr_trade (a1 a2 a3 a4 : Int32) (R : RI A V K T) : PRQ z_L_trade z_M_trade [.ref 1, .int a1, .int a2, .int a3, .int a4, .null, .null, .null] [.ref 36, .int a1, .int a2, .int a3, .int a4, .null, .null, .null] L xs A V K T := by
  by_cases c1 : a1 < 0
  · refine ⟨(-1), A, V, K, T, A, V, sg_L_trade_0 ?_, sg_M_trade_0 ?_, R⟩
    · (try simp only [lgl, lgg]); (repeat first | refine iteP (by first | assumption) ?_ | refine iteN (by first | assumption) ?_); (constructor <;> first | rfl | trivial)
    · (try simp only [lgl, lgg]); (repeat first | refine iteP (by first | assumption) ?_ | refine iteN (by first | assumption) ?_); (constructor <;> first | rfl | trivial)
  by_cases c2 : (5 : Int32) < a1
  · refine ⟨(-1), A, V, K, T, A, V, sg_L_trade_0 ?_, sg_M_trade_0 ?_, R⟩
    · (try simp only [lgl, lgg]); (repeat first | refine iteP (by first | assumption) ?_ | refine iteN (by first | assumption) ?_); (constructor <;> first | rfl | trivial)
    · (try simp only [lgl, lgg]); (repeat first | refine iteP (by first | assumption) ?_ | refine iteN (by first | assumption) ?_); (constructor <;> first | rfl | trivial)
  by_cases c3 : a2 < 0
  · refine ⟨(-1), A, V, K, T, A, V, sg_L_trade_0 ?_, sg_M_trade_0 ?_, R⟩
    · (try simp only [lgl, lgg]); (repeat first | refine iteP (by first | assumption) ?_ | refine iteN (by first | assumption) ?_); (constructor <;> first | rfl | trivial)
    · (try simp only [lgl, lgg]); (repeat first | refine iteP (by first | assumption) ?_ | refine iteN (by first | assumption) ?_); (constructor <;> first | rfl | trivial)
  by_cases c4 : (5 : Int32) < a2
  · refine ⟨(-1), A, V, K, T, A, V, sg_L_trade_0 ?_, sg_M_trade_0 ?_, R⟩
    · (try simp only [lgl, lgg]); (repeat first | refine iteP (by first | assumption) ?_ | refine iteN (by first | assumption) ?_); (constructor <;> first | rfl | trivial)
    · (try simp only [lgl, lgg]); (repeat first | refine iteP (by first | assumption) ?_ | refine iteN (by first | assumption) ?_); (constructor <;> first | rfl | trivial)
  by_cases c5 : a1 = a2
  · refine ⟨(-1), A, V, K, T, A, V, sg_L_trade_0 ?_, sg_M_trade_0 ?_, R⟩
    · (try simp only [lgl, lgg]); (repeat first | refine iteP (by first | assumption) ?_ | refine iteN (by first | assumption) ?_); (constructor <;> first | rfl | trivial)
    · (try simp only [lgl, lgg]); (repeat first | refine iteP (by first | assumption) ?_ | refine iteN (by first | assumption) ?_); (constructor <;> first | rfl | trivial)
  by_cases c6 : a3 < 0
  · refine ⟨(-1), A, V, K, T, A, V, sg_L_trade_0 ?_, sg_M_trade_0 ?_, R⟩
    · (try simp only [lgl, lgg]); (repeat first | refine iteP (by first | assumption) ?_ | refine iteN (by first | assumption) ?_); (constructor <;> first | rfl | trivial)
    · (try simp only [lgl, lgg]); (repeat first | refine iteP (by first | assumption) ?_ | refine iteN (by first | assumption) ?_); (constructor <;> first | rfl | trivial)
  by_cases c7 : (1079 : Int32) < a3
  · refine ⟨(-1), A, V, K, T, A, V, sg_L_trade_0 ?_, sg_M_trade_0 ?_, R⟩
    · (try simp only [lgl, lgg]); (repeat first | refine iteP (by first | assumption) ?_ | refine iteN (by first | assumption) ?_); (constructor <;> first | rfl | trivial)
    · (try simp only [lgl, lgg]); (repeat first | refine iteP (by first | assumption) ?_ | refine iteN (by first | assumption) ?_); (constructor <;> first | rfl | trivial)
  by_cases c8 : a4 < 0
  · refine ⟨(-1), A, V, K, T, A, V, sg_L_trade_0 ?_, sg_M_trade_0 ?_, R⟩
    · (try simp only [lgl, lgg]); (repeat first | refine iteP (by first | assumption) ?_ | refine iteN (by first | assumption) ?_); (constructor <;> first | rfl | trivial)
    · (try simp only [lgl, lgg]); (repeat first | refine iteP (by first | assumption | exact i32_a (z := 0) (by assumption) (by assumption)) ?_ | refine iteN (by first | assumption | exact i32_b (z := 1079) (by assumption) (by assumption)) ?_); (constructor <;> first | rfl | trivial)
  by_cases c9 : (1079 : Int32) < a4
  · refine ⟨(-1), A, V, K, T, A, V, sg_L_trade_0 ?_, sg_M_trade_0 ?_, R⟩
    · (try simp only [lgl, lgg]); (repeat first | refine iteP (by first | assumption) ?_ | refine iteN (by first | assumption) ?_); (constructor <;> first | rfl | trivial)
    · (try simp only [lgl, lgg]); (repeat first | refine iteP (by first | assumption | exact i32_a (z := 0) (by assumption) (by assumption)) ?_ | refine iteN (by first | assumption | exact i32_b (z := 1079) (by assumption) (by assumption)) ?_); (constructor <;> first | rfl | trivial)
  by_cases c10 : a4 < a3
  · refine ⟨(-1), A, V, K, T, A, V, sg_L_trade_0 ?_, sg_M_trade_0 ?_, R⟩
    · (try simp only [lgl, lgg]); (repeat first | refine iteP (by first | assumption) ?_ | refine iteN (by first | assumption) ?_); (constructor <;> first | rfl | trivial)
    · (try simp only [lgl, lgg]); (repeat first | refine iteP (by first | assumption) ?_ | refine iteN (by first | assumption) ?_); (constructor <;> first | rfl | trivial)
  obtain ⟨a, ha, rfl⟩ := i32_nat (m := 1079) (by omega) c6 c7
  obtain ⟨b, hb, rfl⟩ := i32_nat (m := 1079) (by omega) c8 c9
  have hab : a ≤ b := by rw [nI_ltI (by omega) (by omega)] at c10; omega
  obtain ⟨r1, r2, r3, r4, r5, -⟩ := id R.1
  obtain ⟨v, F, g1, g2, i1, i2⟩ := trade_lp (L := L) (xs := xs) (A := A) (V := V) (K := K) (T := T) a1 a2 (nI a) (pl_land c1 c2) (pl_land c3 c4) b (by omega) (b + 1 - a) a 0 (A 4) none none (by omega) r5 (fun d hd => (R.2.2.2.2.1 d hd).1)
  rw [upA_self] at i1
  have i2 := i2 (upA A 4 F)
  have e : upA (upA A 4 F) 37 (A 4) = upA A 4 F := by
    have := upA_self (upA A 4 F) 37
    rw [show upA A 4 F 37 = A 4 from r1] at this
    exact this
  rw [e] at i2
  refine ⟨v, upA A 4 F, V, K, T, upA (upA A 4 F) 37 F, V, sg_L_trade_0 ?_, sg_M_trade_0 ?_, RI_places R g1 g2⟩
  · (try simp only [lgl, lgg]); (repeat first | refine iteP (by first | assumption) ?_ | refine iteN (by first | assumption) ?_)
    exact i1
  · (try simp only [lgl, lgg]); (repeat first | refine iteP (by first | assumption) ?_ | refine iteN (by first | assumption) ?_)
    exact i2
theorem M_partner_lp : ∀ (r d : Nat), d + r = 1080 → am_fin [(z_M_partner, 2, [.ref 36, .int (nI d)], [])] (hp L xs (upA A 40 (fun i => if i < d then A 37 i else A 40 i)) V K T) (some (nI (cn (beg (A 37)) 0 1080))) (hp L xs (upA A 40 (fun i => if i < 1080 then A 37 i else A 40 i)) (upV V 36 5 1) K T) := by
  intro r
  induction r with
  | zero =>
    intro d hd
    have hd : d = 1080 := by omega
    subst hd
    exact sg_M_partner_2 (iteP (g1080 rfl) (am_fin.call M_allStays_c (sg_M_partner_36r ⟨rfl, rfl⟩)))
  | succ r ih =>
    intro d hd
    have hd' : d < 1080 := by omega
    have ib : ¬ (nI d < 0 ∨ 1080 ≤ (nI d).toNatClampNeg) := nI_inb (by omega) hd'
    have i1 := ih (d + 1) (by omega)
    rw [← nI_1] at i1
    refine sg_M_partner_2 (iteN (l1080 hd') ⟨ib, ib, ?_⟩)
    rw [nI_clamp (by omega), upA_upA, upA_same]
    have e : upd (fun i => if i < d then A 37 i else A 40 i) d (upA A 40 (fun i => if i < d then A 37 i else A 40 i) 37 d) = (fun i => if i < d + 1 then A 37 i else A 40 i) := by
      funext i
      show (if i = d then A 37 d else if i < d then A 37 i else A 40 i) = _
      by_cases h1 : i = d
      · subst h1; rw [if_pos rfl, if_pos (by omega)]
      · rw [if_neg h1]
        by_cases h2 : i < d
        · rw [if_pos h2, if_pos (by omega)]
        · rw [if_neg h2, if_neg (by omega)]
    rw [e]
    exact i1
theorem pr_partner (R : RI A V K T) : PRQ z_L_partner z_M_partner [.ref 1] [.ref 36, .null] L xs A V K T := by
  obtain ⟨⟨r1, r2, r3, r4, r5, r6, r7, r8⟩, q2, q3, q4, q5, q6⟩ := id R
  have ez : va_cpy (A 4) (A 8) (0 : Int32).toNatClampNeg (0 : Int32).toNatClampNeg (1080 : Int32).toNatClampNeg = A 4 := by
    funext k
    show (if 0 ≤ k ∧ k < 0 + 1080 then A 4 (0 + (k - 0)) else A 8 k) = A 4 k
    by_cases h : k < 1080
    · rw [if_pos (by omega)]; congr 1; omega
    · rw [if_neg (by omega), (q5 k (by omega)).1, (q5 k (by omega)).2.2.1]
  have em : (fun i => if i < 1080 then upA A 8 (A 4) 37 i else upA A 8 (A 4) 40 i) = A 4 := by
    funext i
    show (if i < 1080 then A 37 i else A 40 i) = A 4 i
    rw [r1, r4]
    by_cases h : i < 1080
    · rw [if_pos h]
    · rw [if_neg h, (q5 i (by omega)).1, (q5 i (by omega)).2.2.1]
  refine ⟨nI (cn (beg (A 4)) 0 1080), upA A 8 (A 4), upV V 2 5 1, K, T, upA (upA A 8 (A 4)) 40 (A 4), upV (upV V 2 5 1) 36 5 1, sg_L_partner_0 ?_, sg_M_partner_0 ?_, ?_⟩
  · rw [ez]
    exact am_fin.call P_stayCount_3_c (sg_L_partner_35r ⟨rfl, rfl⟩)
  · have h := M_partner_lp (L := L) (xs := xs) (A := upA A 8 (A 4)) (V := upV V 2 5 1) (K := K) (T := T) 1080 0 rfl
    rw [em, show upA A 8 (A 4) 37 = A 4 from r1] at h
    rw [show (fun i => if i < 0 then A 4 i else upA A 8 (A 4) 40 i) = upA A 8 (A 4) 40 from by funext i; rw [if_neg (by omega)], upA_self] at h
    exact h
  · exact ⟨⟨r1, r2, r3, rfl, r5, r6, r5, r8⟩, ⟨rfl, Or.inr rfl⟩, q3, q4, fun d hd => ⟨(q5 d hd).1, (q5 d hd).2.1, (q5 d hd).1, (q5 d hd).2.2.2⟩, q6⟩
end
