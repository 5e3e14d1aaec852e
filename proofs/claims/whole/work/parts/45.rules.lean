def ruA (A : Nat → Nat → Int32) (l s : Nat) : Nat := (A 13 (3 * l + s)).toNatClampNeg
def naV (V : Nat → Nat → Int32) (l : Nat) : Nat := if hbit (V 10 7) (nI l) then 1 else 0
def rnA (A : Nat → Nat → Int32) (a b : Nat) : Nat := (rlen (jrow A a b)).toNatClampNeg
def rlA (A : Nat → Nat → Int32) (a b k : Nat) : Nat := (rlet (jrow A a b) k).toNatClampNeg
theorem rlen_m1 : ∀ n, n ≤ 4 → ¬ rlen (-1) = nI n := by decide +kernel
section
variable {L : Nat} {xs : Nat → Int32} {A V : Nat → Nat → Int32} {K : Nat → Option Nat} {T : am_H}

theorem jr_row (R : Rr A V) (a b : Nat) (ha : a < 6) (hb : b < 6) (hab : a ≠ b) : ∃ n, n ≤ 4 ∧ rlen (jrow A a b) = nI n ∧ (∀ k, k < n → ∃ c, c < 4 ∧ rlet (jrow A a b) k = nI c) ∧ ((A 41 (78 + 5 * (6 * min a b + max a b)) = nI 0 ∧ A 41 (13 * a + 8) = nI n ∧ ∀ k, k < n → A 41 (13 * a + (9 + k)) = rlet (jrow A a b) k) ∨ (A 41 (78 + 5 * (6 * min a b + max a b)) = nI (n + 1) ∧ ∀ k, k < n → A 41 (78 + 5 * (6 * min a b + max a b) + 1 + k) = rlet (jrow A a b) k)) := by
  have T0 : A 17 (a * 6 + b) = A 17 (6 * min a b + max a b) ∧ ((A 17 (6 * min a b + max a b) = -1 ∧ A 41 (78 + 5 * (6 * min a b + max a b)) = 0) ∨ Rrow (A 17 (6 * min a b + max a b)) (A 41) (78 + 5 * (6 * min a b + max a b)) 1) := by
    by_cases c : a < b
    · have := R.2.1 a b c hb
      rw [show min a b = a by omega, show max a b = b by omega, Nat.mul_comm a 6]
      exact ⟨rfl, this.2⟩
    · have := R.2.1 b a (by omega) ha
      rw [show min a b = b by omega, show max a b = a by omega, Nat.mul_comm a 6]
      exact ⟨this.1.symm, this.2⟩
  obtain ⟨e, h⟩ := T0
  rcases h with ⟨h1, h2⟩ | ⟨n, h1, h2, h3, h4⟩
  · have ej : jrow A a b = A 16 a := by unfold jrow; rw [e, if_pos h1]
    obtain ⟨-, -, -, -, -, -, ⟨n, g1, g2, g3, g4⟩, -⟩ := R.1 a ha
    rw [ej]
    refine ⟨n, g1, g2, fun k hk => (g4 k hk).2, Or.inl ⟨h2, g3, fun k hk => ?_⟩⟩
    have := (g4 k hk).1
    rw [show 8 + 1 + k = 9 + k by omega] at this
    exact this
  · have ej : jrow A a b = A 17 (6 * min a b + max a b) := by
      unfold jrow
      rw [e, if_neg (fun z => rlen_m1 n h1 (by rw [← z]; exact h2))]
    rw [ej]
    exact ⟨n, h1, h2, fun k hk => (h4 k hk).2, Or.inr ⟨h3, fun k hk => (h4 k hk).1⟩⟩
theorem JCr_of (R : Rr A V) : JCr A V (ruA A) (naV V) (rnA A) (rlA A) := by
  refine ⟨fun l s hl hs => ?_, fun l hl => ?_, fun a b ha hb hab => ?_⟩
  · obtain ⟨-, -, h3, -⟩ := R.1 l hl
    obtain ⟨-, n, hn, e⟩ := h3 s hs
    have e : A 13 (3 * l + s) = nI n := e
    unfold ruA
    rw [Nat.mul_comm l 3, e, nI_clamp (by omega)]
    exact ⟨rfl, hn⟩
  · obtain ⟨n, hn, e⟩ := R.2.2
    unfold naV
    rw [e]
    refine ⟨(bit64 n hn l hl).trans ?_, ?_⟩
    · split <;> rfl
    · split <;> omega
  · obtain ⟨n, h1, h2, h3, -⟩ := jr_row R a b ha hb hab
    have en : rnA A a b = n := by unfold rnA; rw [h2, nI_clamp (by omega)]
    rw [en]
    refine ⟨h1, h2, fun k hk => ?_⟩
    obtain ⟨c, c1, c2⟩ := h3 k hk
    unfold rlA
    rw [c2, nI_clamp (by omega)]
    exact ⟨rfl, c1⟩
theorem JMr_of (R : Rr A V) : JMr A (ruA A) (naV V) (rnA A) (rlA A) := by
  refine ⟨fun l s hl hs => ?_, fun l hl => ?_, fun a b ha hb hab => ?_⟩
  · obtain ⟨-, -, h3, -⟩ := R.1 l hl
    obtain ⟨g, n, hn, e⟩ := h3 s hs
    have e : A 13 (3 * l + s) = nI n := e
    have g : A 41 (13 * l + (2 + s)) = A 13 (3 * l + s) := g
    unfold ruA
    rw [g, e, nI_clamp (by omega)]
    exact ⟨rfl, hn⟩
  · obtain ⟨-, -, -, -, h, -⟩ := R.1 l hl
    have h : A 41 (13 * l + 6) = b2 (hbit (V 10 7) (nI l)) := h
    rw [h]
    unfold naV b2
    split
    · exact ⟨rfl, by omega⟩
    · exact ⟨rfl, by omega⟩
  · obtain ⟨n, h1, h2, h3, h4⟩ := jr_row R a b ha hb hab
    have en : rnA A a b = n := by unfold rnA; rw [h2, nI_clamp (by omega)]
    have el : ∀ k, k < n → rlet (jrow A a b) k = nI (rlA A a b k) ∧ rlA A a b k < 4 := by
      intro k hk
      obtain ⟨c, c1, c2⟩ := h3 k hk
      unfold rlA
      rw [c2, nI_clamp (by omega)]
      exact ⟨rfl, c1⟩
    rw [en]
    refine ⟨h1, fun k hk => (el k hk).2, ?_⟩
    rcases h4 with ⟨z1, z2, z3⟩ | ⟨z1, z3⟩
    · exact Or.inl ⟨z1, z2, fun k hk => (z3 k hk).trans (el k hk).1⟩
    · exact Or.inr ⟨z1, fun k hk => (z3 k hk).trans (el k hk).1⟩
/-- both sides, once counted -/
theorem weighed (R : RI A V K T) : ∃ gc gh gd gm : Nat → Int32, JCd (upA (upA (upA A 29 gc) 28 gh) 27 gd) (nD (A 4)) (nH (A 9)) (nD (A 6)) ∧ JCr (upA (upA (upA A 29 gc) 28 gh) 27 gd) V (ruA A) (naV V) (rnA A) (rlA A) ∧ am_fin [(z_J_weigh, 0, [.ref 26, .ref 3], [])] (hp L xs A V K T) none (hp L xs (upA (upA (upA A 29 gc) 28 gh) 27 gd) V K T) ∧ JMd (upA (upA (upA (upA A 29 gc) 28 gh) 27 gd) 47 gm) (nD (A 4)) (nH (A 9)) (nD (A 6)) ∧ JMr (upA (upA (upA (upA A 29 gc) 28 gh) 27 gd) 47 gm) (ruA A) (naV V) (rnA A) (rlA A) ∧ am_fin [(z_M_laysCounts, 0, [.ref 36, .null, .null, .null], [])] (hp L xs (upA (upA (upA A 29 gc) 28 gh) 27 gd) V K T) none (hp L xs (upA (upA (upA (upA A 29 gc) 28 gh) 27 gd) 47 gm) V K T) ∧ RI (upA (upA (upA (upA A 29 gc) 28 gh) 27 gd) 47 gm) V K T := by
  obtain ⟨r1, r2, r3, r4, r5, r6, r7, r8⟩ := id R.1
  obtain ⟨gc, gh, gd, j1, j2⟩ := J_weigh_3_c (L := L) (xs := xs) (V := V) (K := K) (T := T) r5 r6 r8
  obtain ⟨gm, m1, m2⟩ := M_laysCounts_c (L := L) (xs := xs) (A := upA (upA (upA A 29 gc) 28 gh) 27 gd) (V := V) (K := K) (T := T)
  have m1 : JMd (upA (upA (upA (upA A 29 gc) 28 gh) 27 gd) 47 gm) (nD (A 37)) (nH (A 38)) (nD (A 39)) := m1
  rw [r1, r2, r3] at m1
  exact ⟨gc, gh, gd, gm, j1, JCr_of R.2.2.1, j2, m1, JMr_of R.2.2.1, m2, R⟩
end
