/-! WHAT HOLDS BETWEEN TWO CALLS: the class's cells and the reference's tell the same -/
abbrev pl (x : Int32) : Prop := x = -1 ∨ ∃ l, l < 6 ∧ x = nI l
/-- days -/
def Rd (A : Nat → Nat → Int32) : Prop := A 37 = A 4 ∧ A 38 = A 9 ∧ A 39 = A 6 ∧ A 40 = A 8 ∧ (∀ d, d < 1080 → pl (A 4 d)) ∧ (∀ d, d < 1080 → pl (A 6 d)) ∧ (∀ d, d < 1080 → pl (A 8 d)) ∧ ∀ d, d < 1080 → ∃ b, b < 64 ∧ A 9 d = nI b
/-- the partner -/
def Rp (V : Nat → Nat → Int32) : Prop := V 36 5 = V 2 5 ∧ (V 2 5 = 0 ∨ V 2 5 = 1)
abbrev rlen (r : Int32) : Int32 := r &&& 7
abbrev rlet (r : Int32) (k : Nat) : Int32 := (r >>> ((3 + 2 * nI k) &&& 31)) &&& 3
/-- a row of letters in one int, and where the reference has it: how many (plus o), the letters -/
def Rrow (r : Int32) (f : Nat → Int32) (at_ o : Nat) : Prop := ∃ n, n ≤ 4 ∧ rlen r = nI n ∧ f at_ = nI (n + o) ∧ ∀ k, k < n → f (at_ + 1 + k) = rlet r k ∧ ∃ c, c < 4 ∧ rlet r k = nI c
/-- rules of a land: the class's numbers, and the reference's row g of 13 -/
def RL (sp li : Int32) (ru : Nat → Int32) (ta na et od : Int32) (g : Nat → Int32) : Prop := g 0 = sp ∧ g 1 = li ∧ (∀ s, s < 3 → g (2 + s) = ru s ∧ ∃ n, n ≤ 360 ∧ ru s = nI n) ∧ g 5 = ta ∧ g 6 = na ∧ g 7 = et ∧ Rrow od g 8 0 ∧ (∃ w m, m ≤ w ∧ w ≤ 360 ∧ sp = nI w ∧ li = nI m) ∧ (∃ r, r ≤ 60 ∧ ta = nI r) ∧ ∃ e, e ≤ 100 ∧ et = nI e
/-- treaties -/
def RTy (A : Nat → Nat → Int32) : Prop := ∀ a b, a < b → b < 6 → A 17 (6 * a + b) = A 17 (6 * b + a) ∧ ((A 17 (6 * a + b) = -1 ∧ A 41 (78 + 5 * (6 * a + b)) = 0) ∨ Rrow (A 17 (6 * a + b)) (A 41) (78 + 5 * (6 * a + b)) 1)
/-- rules of the lands -/
def Rr (A V : Nat → Nat → Int32) : Prop := (∀ l, l < 6 → RL (A 11 l) (A 12 l) (fun s => A 13 (3 * l + s)) (A 14 l) (b2 (hbit (V 10 7) (nI l))) (A 15 l) (A 16 l) (fun j => A 41 (13 * l + j))) ∧ RTy A ∧ ∃ n, n < 64 ∧ V 10 7 = nI n
theorem Rrow_congr {r : Int32} {f g : Nat → Int32} {a o : Nat} (h : Rrow r f a o) (e : ∀ j, a ≤ j → j < a + 5 → g j = f j) : Rrow r g a o := by
  obtain ⟨n, h1, h2, h3, h4⟩ := h
  exact ⟨n, h1, h2, by rw [e a (by omega) (by omega)]; exact h3, fun k hk => ⟨by rw [e (a + 1 + k) (by omega) (by omega)]; exact (h4 k hk).1, (h4 k hk).2⟩⟩
theorem RL_congr {sp li ta na et od : Int32} {ru ru' g g' : Nat → Int32} (h : RL sp li ru ta na et od g) (e1 : ∀ s, s < 3 → ru' s = ru s) (e2 : ∀ j, j < 13 → g' j = g j) : RL sp li ru' ta na et od g' := by
  obtain ⟨h1, h2, h3, h4, h5, h6, h7, h8, h9, h10⟩ := h
  exact ⟨by rw [e2 0 (by omega)]; exact h1, by rw [e2 1 (by omega)]; exact h2, fun s hs => ⟨by rw [e2 _ (by omega), e1 s hs]; exact (h3 s hs).1, by rw [e1 s hs]; exact (h3 s hs).2⟩, by rw [e2 5 (by omega)]; exact h4, by rw [e2 6 (by omega)]; exact h5, by rw [e2 7 (by omega)]; exact h6, Rrow_congr h7 (fun j hj1 hj2 => e2 j (by omega)), h8, h9, h10⟩
theorem RTy_congr {A A' : Nat → Nat → Int32} (h : RTy A) (e1 : A' 17 = A 17) (e2 : ∀ j, 78 ≤ j → A' 41 j = A 41 j) : RTy A' := by
  intro a b hab hb
  obtain ⟨h1, h2⟩ := h a b hab hb
  rw [e1]
  refine ⟨h1, h2.elim (fun z => Or.inl ⟨z.1, by rw [e2 _ (by omega)]; exact z.2⟩) (fun z => Or.inr (Rrow_congr z (fun j hj _ => e2 j (by omega))))⟩
/-- the tape -/
def Rt (A V : Nat → Nat → Int32) : Prop := (∃ t, t ≤ 320 ∧ V 19 1 = nI t ∧ V 36 7 = nI t) ∧ ∀ k, k < 320 → ∃ b, b < 256 ∧ A 20 k = nI b ∧ A 42 k = (nI b).toInt8.toInt32
/-- a kept state: sixteen cells, as State's constructor makes them -/
def stc (o : Nat) (B : Nat → Nat → Int32) (pd nt : Int32) : am_H := [.inr (6, [.ref (o + 1), .ref (o + 3), .ref (o + 5), .ref (o + 7), .ref (o + 8), .int pd]), .inr (1, [.ref (o + 2)]), .inl (0, 1080, .inl (B 0)), .inr (1, [.ref (o + 4)]), .inl (0, 1080, .inl (B 1)), .inr (1, [.ref (o + 6)]), .inl (0, 1080, .inl (B 2)), .inl (0, 1080, .inl (B 3)), .inr (4, [.ref (o + 9), .ref (o + 10), .ref (o + 11), .ref (o + 12), .ref (o + 13), .ref (o + 14), .ref (o + 15), .int nt]), .inl (0, 6, .inl (B 4)), .inl (0, 6, .inl (B 5)), .inl (0, 18, .inl (B 6)), .inl (0, 6, .inl (B 7)), .inl (0, 6, .inl (B 8)), .inl (0, 6, .inl (B 9)), .inl (0, 36, .inl (B 10))]
def stT (B : Nat → Nat → Nat → Int32) (pd nt : Nat → Int32) : Nat → am_H
  | 0 => []
  | n + 1 => stT B pd nt n ++ stc (53 + 16 * n) (B n) (pd n) (nt n)
/-- what the class holds of a state: an A and a V as they were -/
def Rk1 (A : Nat → Nat → Int32) (k : Nat) (B : Nat → Nat → Int32) (pd nt : Int32) : Prop := ∃ (A0 V0 : Nat → Nat → Int32), Rd A0 ∧ Rp V0 ∧ Rr A0 V0 ∧ (∀ d, d < 1080 → B 0 d = A0 4 d ∧ B 1 d = A0 6 d ∧ B 2 d = A0 8 d ∧ B 3 d = A0 9 d) ∧ (∀ i, i < 6 → B 4 i = A0 11 i ∧ B 5 i = A0 12 i ∧ B 7 i = A0 14 i ∧ B 8 i = A0 15 i ∧ B 9 i = A0 16 i) ∧ (∀ i, i < 18 → B 6 i = A0 13 i) ∧ (∀ i, i < 36 → B 10 i = A0 17 i) ∧ pd = V0 2 5 ∧ nt = V0 10 7 ∧
  (∀ d, d < 1080 → A 50 (1080 * k + d) = ((A0 4 d + 1) ||| ((A0 6 d + 1) <<< (3 &&& 31 : Int32)) ||| ((A0 8 d + 1) <<< (6 &&& 31 : Int32)) ||| (A0 9 d <<< (9 &&& 31 : Int32)))) ∧ (∀ i, i < 258 → A 51 (258 * k + i) = A0 41 i) ∧ A 52 k = V0 2 5
def Rk (A V : Nat → Nat → Int32) (K : Nat → Option Nat) (T : am_H) : Prop := ∃ (c al : Nat) (B : Nat → Nat → Nat → Int32) (pd nt : Nat → Int32), c ≤ al ∧ al ≤ 8 ∧ V 1 2 = nI c ∧ V 36 23 = nI c ∧ (∀ k, k < 8 → K k = if k < al then some (53 + 16 * k) else none) ∧ T = stT B pd nt al ∧ ∀ k, k < c → Rk1 A k (B k) (pd k) (nt k)
/-- arrays are 0 behind their ends -/
def Rz (A : Nat → Nat → Int32) : Prop := (∀ d, 1080 ≤ d → A 4 d = 0 ∧ A 6 d = 0 ∧ A 8 d = 0 ∧ A 9 d = 0)
def RI (A V : Nat → Nat → Int32) (K : Nat → Option Nat) (T : am_H) : Prop := Rd A ∧ Rp V ∧ Rr A V ∧ Rt A V ∧ Rz A ∧ Rk A V K T
/-- both sides of a call: the same answer, and RI behind it -/
def PRQ (zc zr : Nat) (lc lr : List Value) (L : Nat) (xs : Nat → Int32) (A V : Nat → Nat → Int32) (K : Nat → Option Nat) (T : am_H) : Prop := ∃ (v : Int32) (A1 V1 : Nat → Nat → Int32) (K1 : Nat → Option Nat) (T1 : am_H) (A2 V2 : Nat → Nat → Int32), am_fin [(zc, 0, lc, [])] (hp L xs A V K T) (some v) (hp L xs A1 V1 K1 T1) ∧ am_fin [(zr, 0, lr, [])] (hp L xs A1 V1 K1 T1) (some v) (hp L xs A2 V2 K1 T1) ∧ RI A2 V2 K1 T1
section
variable {L : Nat} {xs : Nat → Int32} {A V : Nat → Nat → Int32} {K : Nat → Option Nat} {T : am_H}
theorem pr_at (a1 a2 : Int32) (R : RI A V K T) : PRQ z_L_at z_M_at [.ref 1, .int a1, .int a2, .null] [.ref 36, .int a1, .int a2, .null] L xs A V K T := by
  by_cases c1 : a1 < 0
  · refine ⟨(-1), A, V, K, T, A, V, sg_L_at_0 ?_, sg_M_at_0 ?_, R⟩
    · (try simp only [lgl, lgg]); (repeat first | refine iteP (by first | assumption) ?_ | refine iteN (by first | assumption) ?_); (constructor <;> first | rfl | trivial)
    · (try simp only [lgl, lgg]); (repeat first | refine iteP (by first | assumption) ?_ | refine iteN (by first | assumption) ?_); (constructor <;> first | rfl | trivial)
  by_cases c2 : (1079 : Int32) < a1
  · refine ⟨(-1), A, V, K, T, A, V, sg_L_at_0 ?_, sg_M_at_0 ?_, R⟩
    · (try simp only [lgl, lgg]); (repeat first | refine iteP (by first | assumption) ?_ | refine iteN (by first | assumption) ?_); (constructor <;> first | rfl | trivial)
    · (try simp only [lgl, lgg]); (repeat first | refine iteP (by first | assumption) ?_ | refine iteN (by first | assumption) ?_); (constructor <;> first | rfl | trivial)
  by_cases c3 : a2 < 0
  · refine ⟨(-1), A, V, K, T, A, V, sg_L_at_0 ?_, sg_M_at_0 ?_, R⟩
    · (try simp only [lgl, lgg]); (repeat first | refine iteP (by first | assumption) ?_ | refine iteN (by first | assumption) ?_); (constructor <;> first | rfl | trivial)
    · (try simp only [lgl, lgg]); (repeat first | refine iteP (by first | assumption) ?_ | refine iteN (by first | assumption) ?_); (constructor <;> first | rfl | trivial)
  by_cases c4 : (2 : Int32) < a2
  · refine ⟨(-1), A, V, K, T, A, V, sg_L_at_0 ?_, sg_M_at_0 ?_, R⟩
    · (try simp only [lgl, lgg]); (repeat first | refine iteP (by first | assumption) ?_ | refine iteN (by first | assumption) ?_); (constructor <;> first | rfl | trivial)
    · (try simp only [lgl, lgg]); (repeat first | refine iteP (by first | assumption) ?_ | refine iteN (by first | assumption) ?_); (constructor <;> first | rfl | trivial)
  obtain ⟨d, hd, rfl⟩ := i32_nat (m := 1079) (by omega) c1 c2
  obtain ⟨r1, r2, r3, -⟩ := R.1
  by_cases w2 : a2 = 2
  · have w0 : ¬ a2 = 0 := by rw [w2]; decide
    refine ⟨A 9 d, A, V, K, T, A, V, sg_L_at_0 ?_, sg_M_at_0 ?_, R⟩
    · (try simp only [lgl, lgg]); (repeat first | refine iteP (by first | assumption) ?_ | refine iteN (by first | assumption) ?_)
      exact ⟨nI_inb (by omega) (by omega), by rw [nI_clamp (by omega)], (by first | rfl | trivial)⟩
    · (try simp only [lgl, lgg]); (repeat first | refine iteP (by first | assumption) ?_ | refine iteN (by first | assumption) ?_)
      refine ⟨nI_inb (by omega) (by omega), ?_⟩
      (try simp only [lgl, lgg]); (repeat first | refine iteP (by first | assumption) ?_ | refine iteN (by first | assumption) ?_)
      exact ⟨nI_inb (by omega) (by omega), by rw [nI_clamp (by omega), r2], (by first | rfl | trivial)⟩
  · by_cases w0 : a2 = 0
    · by_cases hx : A 4 d = -1
      · refine ⟨(-2), A, V, K, T, A, V, sg_L_at_0 ?_, sg_M_at_0 ?_, R⟩
        · (try simp only [lgl, lgg]); (repeat first | refine iteP (by first | assumption) ?_ | refine iteN (by first | assumption) ?_)
          exact am_fin.call (P_landOn_3_c d (by omega)) (sg_L_at_48r (iteP hx ⟨(by first | rfl | trivial), (by first | rfl | trivial)⟩))
        · (try simp only [lgl, lgg]); (repeat first | refine iteP (by first | assumption) ?_ | refine iteN (by first | assumption) ?_)
          refine ⟨nI_inb (by omega) (by omega), ?_⟩
          (try simp only [lgl, lgg]); (repeat first | refine iteP (by first | assumption) ?_ | refine iteN (by first | assumption) ?_)
          exact iteP (by rw [nI_clamp (by omega), r1]; exact hx) ⟨(by first | rfl | trivial), (by first | rfl | trivial)⟩
      · refine ⟨A 4 d, A, V, K, T, A, V, sg_L_at_0 ?_, sg_M_at_0 ?_, R⟩
        · (try simp only [lgl, lgg]); (repeat first | refine iteP (by first | assumption) ?_ | refine iteN (by first | assumption) ?_)
          exact am_fin.call (P_landOn_3_c d (by omega)) (sg_L_at_48r (iteN hx ⟨(by first | rfl | trivial), (by first | rfl | trivial)⟩))
        · (try simp only [lgl, lgg]); (repeat first | refine iteP (by first | assumption) ?_ | refine iteN (by first | assumption) ?_)
          refine ⟨nI_inb (by omega) (by omega), ?_⟩
          (try simp only [lgl, lgg]); (repeat first | refine iteP (by first | assumption) ?_ | refine iteN (by first | assumption) ?_)
          exact iteN (by rw [nI_clamp (by omega), r1]; exact hx) ⟨by rw [nI_clamp (by omega), r1], (by first | rfl | trivial)⟩
    · by_cases hx : A 6 d = -1
      · refine ⟨(-2), A, V, K, T, A, V, sg_L_at_0 ?_, sg_M_at_0 ?_, R⟩
        · (try simp only [lgl, lgg]); (repeat first | refine iteP (by first | assumption) ?_ | refine iteN (by first | assumption) ?_)
          exact am_fin.call (P_landOn_5_c d (by omega)) (sg_L_at_62r (iteP hx ⟨(by first | rfl | trivial), (by first | rfl | trivial)⟩))
        · (try simp only [lgl, lgg]); (repeat first | refine iteP (by first | assumption) ?_ | refine iteN (by first | assumption) ?_)
          refine ⟨nI_inb (by omega) (by omega), ?_⟩
          (try simp only [lgl, lgg]); (repeat first | refine iteP (by first | assumption) ?_ | refine iteN (by first | assumption) ?_)
          exact iteP (by rw [nI_clamp (by omega), r3]; exact hx) ⟨(by first | rfl | trivial), (by first | rfl | trivial)⟩
      · refine ⟨A 6 d, A, V, K, T, A, V, sg_L_at_0 ?_, sg_M_at_0 ?_, R⟩
        · (try simp only [lgl, lgg]); (repeat first | refine iteP (by first | assumption) ?_ | refine iteN (by first | assumption) ?_)
          exact am_fin.call (P_landOn_5_c d (by omega)) (sg_L_at_62r (iteN hx ⟨(by first | rfl | trivial), (by first | rfl | trivial)⟩))
        · (try simp only [lgl, lgg]); (repeat first | refine iteP (by first | assumption) ?_ | refine iteN (by first | assumption) ?_)
          refine ⟨nI_inb (by omega) (by omega), ?_⟩
          (try simp only [lgl, lgg]); (repeat first | refine iteP (by first | assumption) ?_ | refine iteN (by first | assumption) ?_)
          exact iteN (by rw [nI_clamp (by omega), r3]; exact hx) ⟨by rw [nI_clamp (by omega), r3], (by first | rfl | trivial)⟩
theorem pr_month (a1 a2 : Int32) (R : RI A V K T) : PRQ z_L_month z_M_month [.ref 1, .int a1, .int a2, .null] [.ref 36, .int a1, .int a2] L xs A V K T := by
  by_cases c1 : a1 < 0
  · refine ⟨(-1), A, V, K, T, A, V, sg_L_month_0 ?_, sg_M_month_0 ?_, R⟩
    · (try simp only [lgl, lgg]); (repeat first | refine iteP (by first | assumption) ?_ | refine iteN (by first | assumption) ?_); (constructor <;> first | rfl | trivial)
    · (try simp only [lgl, lgg]); (repeat first | refine iteP (by first | assumption) ?_ | refine iteN (by first | assumption) ?_); (constructor <;> first | rfl | trivial)
  by_cases c2 : (5 : Int32) < a1
  · refine ⟨(-1), A, V, K, T, A, V, sg_L_month_0 ?_, sg_M_month_0 ?_, R⟩
    · (try simp only [lgl, lgg]); (repeat first | refine iteP (by first | assumption) ?_ | refine iteN (by first | assumption) ?_); (constructor <;> first | rfl | trivial)
    · (try simp only [lgl, lgg]); (repeat first | refine iteP (by first | assumption) ?_ | refine iteN (by first | assumption) ?_); (constructor <;> first | rfl | trivial)
  by_cases c3 : a2 < 0
  · refine ⟨(-1), A, V, K, T, A, V, sg_L_month_0 ?_, sg_M_month_0 ?_, R⟩
    · (try simp only [lgl, lgg]); (repeat first | refine iteP (by first | assumption) ?_ | refine iteN (by first | assumption) ?_); (constructor <;> first | rfl | trivial)
    · (try simp only [lgl, lgg]); (repeat first | refine iteP (by first | assumption) ?_ | refine iteN (by first | assumption) ?_); (constructor <;> first | rfl | trivial)
  by_cases c4 : (35 : Int32) < a2
  · refine ⟨(-1), A, V, K, T, A, V, sg_L_month_0 ?_, sg_M_month_0 ?_, R⟩
    · (try simp only [lgl, lgg]); (repeat first | refine iteP (by first | assumption) ?_ | refine iteN (by first | assumption) ?_); (constructor <;> first | rfl | trivial)
    · (try simp only [lgl, lgg]); (repeat first | refine iteP (by first | assumption) ?_ | refine iteN (by first | assumption) ?_); (constructor <;> first | rfl | trivial)
  obtain ⟨y, hy, rfl⟩ := i32_nat (m := 35) (by omega) c3 c4
  obtain ⟨r1, -⟩ := R.1
  refine ⟨nI (cn (fun d => A 4 d = a1) (30 * y) (30 * y + 29 + 1 - 30 * y)), A, V, K, T, A, V, sg_L_month_0 ?_, sg_M_month_0 ?_, R⟩
  · (try simp only [lgl, lgg]); (repeat first | refine iteP (by first | assumption) ?_ | refine iteN (by first | assumption) ?_)
    rw [show nI y * 30 = nI (30 * y) from by rw [Nat.mul_comm]; exact nI_mul y 30, show nI (30 * y) + 30 - 1 = nI (30 * y + 29) from by rw [show (30 : Int32) = nI 30 from rfl, nI_add, nI_m1 (by omega)]; rfl]
    exact am_fin.call (P_countOf_3_c a1 (30 * y) (30 * y + 29) (by omega) (by omega)) (sg_L_month_42r ⟨(by first | rfl | trivial), (by first | rfl | trivial)⟩)
  · (try simp only [lgl, lgg]); (repeat first | refine iteP (by first | assumption) ?_ | refine iteN (by first | assumption) ?_)
    rw [show (30 : Int32) * nI y = nI (30 * y) from nI_mul 30 y, show nI (30 * y) + 29 = nI (30 * y + 29) from nI_add _ 29]
    exact am_fin.call (M_between_c a1 (30 * y) (30 * y + 29) (by omega) (by omega)) (sg_M_month_35r ⟨by rw [r1], (by first | rfl | trivial)⟩)
end
