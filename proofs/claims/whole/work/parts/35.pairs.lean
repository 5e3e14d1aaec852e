theorem eo_in (f : Nat → Int32) (x : Int32) : ∀ n d, f d = x → d ≤ eo f x d n ∧ eo f x d n ≤ d + n ∧ ∀ i, d ≤ i → i ≤ eo f x d n → f i = x := by
  intro n
  induction n with
  | zero =>
    intro d hd
    refine ⟨Nat.le_refl _, Nat.le_refl _, fun i p1 p2 => ?_⟩
    have p2 : i ≤ d := p2
    rw [show i = d by omega]
    exact hd
  | succ n ih =>
    intro d hd
    unfold eo
    by_cases h : f (d + 1) = x
    · rw [if_pos h]
      obtain ⟨q1, q2, q3⟩ := ih (d + 1) h
      refine ⟨by omega, by omega, fun i p1 p2 => ?_⟩
      by_cases hi : i = d
      · rw [hi]; exact hd
      · exact q3 i (by omega) p2
    · rw [if_neg h]
      refine ⟨Nat.le_refl _, by omega, fun i p1 p2 => ?_⟩
      rw [show i = d by omega]
      exact hd
theorem en_in (f : Nat → Int32) (d : Nat) (hd : d < 1080) : d ≤ en f d ∧ en f d < 1080 ∧ ∀ i, d ≤ i → i ≤ en f d → f i = f d := by
  obtain ⟨q1, q2, q3⟩ := eo_in f (f d) (1079 - d) d rfl
  refine ⟨q1, ?_, q3⟩
  have q2 : en f d ≤ d + (1079 - d) := q2
  omega
section
variable {L : Nat} {xs : Nat → Int32} {A V : Nat → Nat → Int32} {K : Nat → Option Nat} {T : am_H}
theorem M_goes_lp (x : Int32) (a b : Nat) (hb : b < 1080) : ∀ (r n : Nat), a + n + r = b + 1 → am_fin [(z_M_goes, 3, [.ref 36, .int x, .int (nI a), .int (nI b), .int (nI (a + n))], [])] (hp L xs (upA A 37 (fl (A 37) a n x)) V K T) none (hp L xs (upA A 37 (fl (A 37) a (n + r) x)) V K T) := by
  intro r
  induction r with
  | zero =>
    intro n hn
    exact sg_M_goes_3 (iteP ((nI_ltI (by omega) (by omega)).mpr (by omega)) ⟨rfl, rfl⟩)
  | succ r ih =>
    intro n hn
    have i1 := ih (n + 1) (by omega)
    rw [show n + 1 + r = n + (r + 1) by omega, ← Nat.add_assoc a n 1, ← nI_1] at i1
    refine sg_M_goes_3 (iteN (mt (nI_ltI (by omega) (by omega)).mp (by omega)) ⟨nI_inb (by omega) (by omega), ?_⟩)
    rw [nI_clamp (by omega), upA_upA, upA_same, fl_s]
    exact i1
theorem M_goes_c (x : Int32) (a b : Nat) (hb : b < 1080) (hab : a ≤ b + 1) : am_fin [(z_M_goes, 0, [.ref 36, .int x, .int (nI a), .int (nI b), .null], [])] (hp L xs A V K T) none (hp L xs (upA A 37 (fl (A 37) a (b + 1 - a) x)) V K T) := by
  have h := M_goes_lp (L := L) (xs := xs) (A := A) (V := V) (K := K) (T := T) x a b hb (b + 1 - a) 0 (by omega)
  rw [fl_0, upA_self, Nat.zero_add] at h
  exact sg_M_goes_0 h
end
