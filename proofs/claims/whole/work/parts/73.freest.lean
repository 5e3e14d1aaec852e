def u313 (A : Nat → Nat → Int32) (g a s : Nat → Int32) : Nat → Nat → Int32 := upA (upA (upA A 31 g) 32 a) 33 s
theorem u313_31 (A : Nat → Nat → Int32) (g a s g' : Nat → Int32) : upA (u313 A g a s) 31 g' = u313 A g' a s := by
  unfold u313
  funext i
  unfold upA
  cases h1 : Nat.beq i 31
  · rfl
  · have e := Nat.eq_of_beq_eq_true h1
    have h2 : Nat.beq i 32 = false := by rw [e]; rfl
    have h3 : Nat.beq i 33 = false := by rw [e]; rfl
    rw [h2, h3]; rfl
theorem u313_2 (A : Nat → Nat → Int32) (g a s a' s' : Nat → Int32) : upA (upA (u313 A g a s) 32 a') 33 s' = u313 A g a' s' := by
  unfold u313
  rw [upA_swap (upA (upA A 31 g) 32 a) 33 32 s a' (by decide), upA_upA, upA_upA]
theorem u465 (B : Nat → Nat → Int32) (S L S' L' : Nat → Int32) : upA (upA (upA (upA B 46 S) 45 L) 46 S') 45 L' = upA (upA B 46 S') 45 L' := by
  rw [upA_swap (upA B 46 S) 45 46 L S' (by decide), upA_upA, upA_upA]
theorem frv_le {f : Nat → Int32} {x : Int32} {w m d e : Nat} (h : d ≤ e) : frv f x w m d e ≤ e - d := by
  unfold frv
  split
  · exact Nat.le_refl _
  · have := frg_le x w m (e - d) d f 0; omega
section
variable {L : Nat} {xs : Nat → Int32} {A V : Nat → Nat → Int32} {K : Nat → Option Nat} {T : am_H}
theorem fz_lp (R : Rr A V) (r37 : A 37 = A 4) (d n t : Nat) (hd : d < 1080) (hn : n ≤ 360) (ht : t < 2) : ∀ (r k : Nat) (b b' v5 : Int32) (g a s : Nat → Int32) (x y : Int32), k + r = 6 → (b = b' ∨ (k = 0 ∧ v5 = -1)) → ∃ (v : Int32) (g' a' s' : Nat → Int32) (x' y' : Int32), (∀ u : Option Int32, am_fin [(z_L_freest, 38, [.ref 1, .int (nI d), .int (nI n), .int (nI t), .int b, .int v5, .int (nI k), dl u], [])] (hp L xs (u313 A g a s) (upV (upV V 30 4 x) 30 5 y) K T) (some v) (hp L xs (u313 A g' a' s') (upV (upV V 30 4 x') 30 5 y') K T)) ∧ ∀ (B W : Nat → Nat → Int32) (S L1 : Nat → Int32), B 37 = A 4 → B 41 = A 41 → ∃ S' L1' : Nat → Int32, ∀ u : Option Int32, am_fin [(z_M_freest, 35, [.ref 36, .int (nI d), .int (nI n), .int (nI t), .int b', .int v5, .int (nI k), dl u], [])] (hp L xs (upA (upA B 46 S) 45 L1) W K T) (some v) (hp L xs (upA (upA B 46 S') 45 L1') W K T) := by
  intro r
  induction r with
  | zero =>
    intro k b b' v5 g a s x y hk hb
    have e : b = b' := hb.elim id (fun z => by omega)
    subst e
    have c : (6 : Int32) ≤ nI k := by rw [l_6, nI_leI (by omega) (by omega)]; omega
    by_cases t0 : t = 0
    · have z := (nI_z (n := t) (by omega)).mpr t0
      refine ⟨b, g, a, s, x, y, fun u => ?_, fun B W S L1 _ _ => ⟨S, L1, fun u => ?_⟩⟩
      · cases u
        · exact sg_L_freest_38 (iteP c (iteP z ⟨rfl, rfl⟩))
        · exact sg_L_freest_38b (iteP c (iteP z ⟨rfl, rfl⟩))
      · cases u
        · exact sg_M_freest_35 (iteP c (iteP z ⟨rfl, rfl⟩))
        · exact sg_M_freest_35b (iteP c (iteP z ⟨rfl, rfl⟩))
    · have z := mt (nI_z (n := t) (by omega)).mp t0
      refine ⟨v5, g, a, s, x, y, fun u => ?_, fun B W S L1 _ _ => ⟨S, L1, fun u => ?_⟩⟩
      · cases u
        · exact sg_L_freest_38 (iteP c (iteN z ⟨rfl, rfl⟩))
        · exact sg_L_freest_38b (iteP c (iteN z ⟨rfl, rfl⟩))
      · cases u
        · exact sg_M_freest_35 (iteP c (iteN z ⟨rfl, rfl⟩))
        · exact sg_M_freest_35b (iteP c (iteN z ⟨rfl, rfl⟩))
  | succ r ih =>
    intro k b b' v5 g a s x y hk hb
    obtain ⟨w1, w2, w3, w4, w5, w6⟩ := wm_A R k (by omega)
    obtain ⟨g1, q1, q2⟩ := O_read_3_c (L := L) (xs := xs) (A := u313 A g a s) (V := upV (upV V 30 4 x) 30 5 y) (K := K) (T := T) k (by omega)
    have ev : upV (upV (upV (upV V 30 4 x) 30 5 y) 30 4 (A 11 k)) 30 5 (A 12 k) = upV (upV V 30 4 (A 11 k)) 30 5 (A 12 k) := by
      rw [upV_swap (upV V 30 4 x) 30 5 4 y (A 11 k) (by decide), upV_upV, upV_upV]
    have q2 : am_fin [(z_O_read, 0, [.ref 30, .ref 3, .int (nI k), .null], [])] (hp L xs (u313 A g a s) (upV (upV V 30 4 x) 30 5 y) K T) none (hp L xs (upA (u313 A g a s) 31 g1) (upV (upV (upV (upV V 30 4 x) 30 5 y) 30 4 (A 11 k)) 30 5 (A 12 k)) K T) := q2
    rw [u313_31, ev] at q2
    have Q : QB (u313 A g1 a s) (upV (upV V 30 4 (A 11 k)) 30 5 (A 12 k)) (A 4) (nI k) (wA A k) (mA A k) := ⟨q1, w3, w4, w1, w2⟩
    obtain ⟨a1, s1, k1⟩ := O_fillUp_c (L := L) (xs := xs) (K := K) (T := T) Q d (min (d + n) 1080) hd (by omega) (by omega) (by omega)
    rw [u313_2] at k1
    have fl := frv_le (f := A 4) (x := nI k) (w := wA A k) (m := mA A k) (show d ≤ min (d + n) 1080 by omega)
    have c6 : ¬ (6 : Int32) ≤ nI k := by rw [l_6, nI_leI (by omega) (by omega)]; omega
    have mref : ∀ (B W : Nat → Nat → Int32) (S L1 : Nat → Int32), B 37 = A 4 → B 41 = A 41 → ∃ S' L1' : Nat → Int32, am_fin [(z_M_freeOf, 0, [.ref 36, .int (nI k), .int (nI d), .int (nI n), .null, .null, .null, .null, .null], [])] (hp L xs (upA (upA B 46 S) 45 L1) W K T) (some (nI (frv (A 4) (nI k) (wA A k) (mA A k) d (min (d + n) 1080)))) (hp L xs (upA (upA B 46 S') 45 L1') W K T) := by
      intro B W S L1 e37 e41
      obtain ⟨L2, S2, m1⟩ := M_freeOf_c (L := L) (xs := xs) (A := upA (upA B 46 S) 45 L1) (V := W) (K := K) (T := T) k (wA A k) (mA A k) d n (by omega) (by omega) w2 hd hn (by rw [show upA (upA B 46 S) 45 L1 41 = A 41 from e41]; exact w5) (by rw [show upA (upA B 46 S) 45 L1 41 = A 41 from e41]; exact w6)
      rw [show upA (upA B 46 S) 45 L1 37 = A 4 from e37, u465] at m1
      exact ⟨S2, L2, m1⟩
    generalize frv (A 4) (nI k) (wA A k) (mA A k) d (min (d + n) 1080) = F at *
    by_cases c : nI F ≤ v5
    · have e : b = b' := hb.elim id (fun z => by
        rw [z.2, Int32.le_iff_toInt_le, nI_toInt (by omega), show (-1 : Int32).toInt = -1 from by decide] at c
        omega)
      obtain ⟨v, g', a', s', x', y', i1, i2⟩ := ih (k + 1) b b' v5 g1 a1 s1 (A 11 k) (A 12 k) (by omega) (Or.inl e)
      refine ⟨v, g', a', s', x', y', fun u => ?_, fun B W S L1 e37 e41 => ?_⟩
      · have i1 := i1 (some (nI F))
        rw [← nI_1] at i1
        cases u
        · refine sg_L_freest_38 (iteN c6 (am_fin.call q2 (sg_L_freest_61r ?_)))
          rw [min1080 (by omega) (by omega)]
          exact am_fin.call k1 (sg_L_freest_78r (iteP c i1))
        · refine sg_L_freest_38b (iteN c6 (am_fin.call q2 (sg_L_freest_61rb ?_)))
          rw [min1080 (by omega) (by omega)]
          exact am_fin.call k1 (sg_L_freest_78rb (iteP c i1))
      · obtain ⟨S2, L2, m1⟩ := mref B W S L1 e37 e41
        obtain ⟨S', L1', i3⟩ := i2 B W S2 L2 e37 e41
        refine ⟨S', L1', fun u => ?_⟩
        have i3 := i3 (some (nI F))
        rw [← nI_1] at i3
        cases u
        · exact sg_M_freest_35 (iteN c6 (am_fin.call m1 (sg_M_freest_50r (iteN (Int32.not_lt.mpr c) i3))))
        · exact sg_M_freest_35b (iteN c6 (am_fin.call m1 (sg_M_freest_50rb (iteN (Int32.not_lt.mpr c) i3))))
    · obtain ⟨v, g', a', s', x', y', i1, i2⟩ := ih (k + 1) (nI k) (nI k) (nI F) g1 a1 s1 (A 11 k) (A 12 k) (by omega) (Or.inl rfl)
      refine ⟨v, g', a', s', x', y', fun u => ?_, fun B W S L1 e37 e41 => ?_⟩
      · have i1 := i1 (some (nI F))
        rw [← nI_1] at i1
        cases u
        · refine sg_L_freest_38 (iteN c6 (am_fin.call q2 (sg_L_freest_61r ?_)))
          rw [min1080 (by omega) (by omega)]
          exact am_fin.call k1 (sg_L_freest_78r (iteN c i1))
        · refine sg_L_freest_38b (iteN c6 (am_fin.call q2 (sg_L_freest_61rb ?_)))
          rw [min1080 (by omega) (by omega)]
          exact am_fin.call k1 (sg_L_freest_78rb (iteN c i1))
      · obtain ⟨S2, L2, m1⟩ := mref B W S L1 e37 e41
        obtain ⟨S', L1', i3⟩ := i2 B W S2 L2 e37 e41
        refine ⟨S', L1', fun u => ?_⟩
        have i3 := i3 (some (nI F))
        rw [← nI_1] at i3
        cases u
        · exact sg_M_freest_35 (iteN c6 (am_fin.call m1 (sg_M_freest_50r (iteP (Int32.not_le.mp c) i3))))
        · exact sg_M_freest_35b (iteN c6 (am_fin.call m1 (sg_M_freest_50rb (iteP (Int32.not_le.mp c) i3))))
theorem pr_freest (a1 a2 a3 : Int32) (R : RI A V K T) : PRQ z_L_freest z_M_freest [.ref 1, .int a1, .int a2, .int a3, .null, .null, .null, .null] [.ref 36, .int a1, .int a2, .int a3, .null, .null, .null, .null] L xs A V K T := by
  by_cases c1 : a1 < 0
  · refine ⟨(-1), A, V, K, T, A, V, sg_L_freest_0 ?_, sg_M_freest_0 ?_, R⟩
    · (try simp only [lgl, lgg]); (repeat first | refine iteP (by first | assumption) ?_ | refine iteN (by first | assumption) ?_); (constructor <;> first | rfl | trivial)
    · (try simp only [lgl, lgg]); (repeat first | refine iteP (by first | assumption) ?_ | refine iteN (by first | assumption) ?_); (constructor <;> first | rfl | trivial)
  by_cases c2 : (1079 : Int32) < a1
  · refine ⟨(-1), A, V, K, T, A, V, sg_L_freest_0 ?_, sg_M_freest_0 ?_, R⟩
    · (try simp only [lgl, lgg]); (repeat first | refine iteP (by first | assumption) ?_ | refine iteN (by first | assumption) ?_); (constructor <;> first | rfl | trivial)
    · (try simp only [lgl, lgg]); (repeat first | refine iteP (by first | assumption) ?_ | refine iteN (by first | assumption) ?_); (constructor <;> first | rfl | trivial)
  by_cases c3 : a2 < 1
  · refine ⟨(-1), A, V, K, T, A, V, sg_L_freest_0 ?_, sg_M_freest_0 ?_, R⟩
    · (try simp only [lgl, lgg]); (repeat first | refine iteP (by first | assumption) ?_ | refine iteN (by first | assumption) ?_); (constructor <;> first | rfl | trivial)
    · (try simp only [lgl, lgg]); (repeat first | refine iteP (by first | assumption) ?_ | refine iteN (by first | assumption) ?_); (constructor <;> first | rfl | trivial)
  by_cases c4 : (360 : Int32) < a2
  · refine ⟨(-1), A, V, K, T, A, V, sg_L_freest_0 ?_, sg_M_freest_0 ?_, R⟩
    · (try simp only [lgl, lgg]); (repeat first | refine iteP (by first | assumption) ?_ | refine iteN (by first | assumption) ?_); (constructor <;> first | rfl | trivial)
    · (try simp only [lgl, lgg]); (repeat first | refine iteP (by first | assumption) ?_ | refine iteN (by first | assumption) ?_); (constructor <;> first | rfl | trivial)
  by_cases c5 : a3 < 0
  · refine ⟨(-1), A, V, K, T, A, V, sg_L_freest_0 ?_, sg_M_freest_0 ?_, R⟩
    · (try simp only [lgl, lgg]); (repeat first | refine iteP (by first | assumption) ?_ | refine iteN (by first | assumption) ?_); (constructor <;> first | rfl | trivial)
    · (try simp only [lgl, lgg]); (repeat first | refine iteP (by first | assumption) ?_ | refine iteN (by first | assumption) ?_); (constructor <;> first | rfl | trivial)
  by_cases c6 : (1 : Int32) < a3
  · refine ⟨(-1), A, V, K, T, A, V, sg_L_freest_0 ?_, sg_M_freest_0 ?_, R⟩
    · (try simp only [lgl, lgg]); (repeat first | refine iteP (by first | assumption) ?_ | refine iteN (by first | assumption) ?_); (constructor <;> first | rfl | trivial)
    · (try simp only [lgl, lgg]); (repeat first | refine iteP (by first | assumption) ?_ | refine iteN (by first | assumption) ?_); (constructor <;> first | rfl | trivial)
  obtain ⟨d, hd, rfl⟩ := i32_nat (m := 1079) (by omega) c1 c2
  have z3 : ¬ a2 < 0 := fun z => c3 (Int32.lt_iff_toInt_lt.mpr (by rw [Int32.lt_iff_toInt_lt, Int32.toInt_zero] at z; rw [show (1 : Int32).toInt = 1 from by decide]; omega))
  obtain ⟨n, hn, rfl⟩ := i32_nat (m := 360) (by omega) z3 c4
  obtain ⟨t, ht, rfl⟩ := i32_nat (m := 1) (by omega) c5 c6
  obtain ⟨v, g', a', s', x', y', i1, i2⟩ := fz_lp (L := L) (xs := xs) (K := K) (T := T) R.2.2.1 R.1.1 d n t (by omega) hn (by omega) 6 0 0 (-1) (-1) (A 31) (A 32) (A 33) (V 30 4) (V 30 5) (by omega) (Or.inr ⟨rfl, rfl⟩)
  obtain ⟨S', L1', i3⟩ := i2 (u313 A g' a' s') (upV (upV V 30 4 x') 30 5 y') (A 46) (A 45) R.1.1 rfl
  have i1 := i1 none
  rw [show u313 A (A 31) (A 32) (A 33) = A from by unfold u313; rw [upA_self, upA_self, upA_self], upv2] at i1
  have i3 := i3 none
  rw [show upA (upA (u313 A g' a' s') 46 (A 46)) 45 (A 45) = u313 A g' a' s' from by rw [show A 46 = u313 A g' a' s' 46 from rfl, upA_self, show A 45 = u313 A g' a' s' 45 from rfl, upA_self]] at i3
  refine ⟨v, u313 A g' a' s', upV (upV V 30 4 x') 30 5 y', K, T, upA (upA (u313 A g' a' s') 46 S') 45 L1', upV (upV V 30 4 x') 30 5 y', sg_L_freest_0 ?_, sg_M_freest_0 ?_, R⟩
  · (try simp only [lgl, lgg]); (repeat first | refine iteP (by first | assumption) ?_ | refine iteN (by first | assumption) ?_)
    exact i1
  · (try simp only [lgl, lgg]); (repeat first | refine iteP (by first | assumption) ?_ | refine iteN (by first | assumption) ?_)
    exact i3
end
