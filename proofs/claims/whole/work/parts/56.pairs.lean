section
variable {L : Nat} {xs : Nat → Int32} {A V B W : Nat → Nat → Int32} {K K' : Nat → Option Nat} {T T' : am_H}
theorem L_ov_lp {f : Nat → Int32} {x : Int32} {w m : Nat} (Q : QB A V f x w m) (l a b t : Nat) (hb : b < 1080) (ht : t < 3) : ∀ r k, a + k + r = b + 1 → ∀ u : Option Int32, am_fin [(z_L_overstays, 55, [.ref 1, .int (nI l), .int (nI a), .int (nI b), .int (nI t), .int (nI (cn (ovq f x w m) a k)), .int (onat (-2) (srch (ovq f x w m) k a)), .int (nI (mxn (bey f x w m) a k)), .int (nI (a + k)), dl u], [])] (hp L xs A V K T) (some (ovr f x w m t a (k + r))) (hp L xs A V K T) := by
  intro r
  induction r with
  | zero =>
    intro k hk u
    have c : nI b < nI (a + k) := by rw [nI_ltI (by omega) (by omega)]; omega
    cases u
    all_goals first | refine sg_L_overstays_55 (iteP c ?_) | refine sg_L_overstays_55b (iteP c ?_)
    all_goals
      unfold ovr
      by_cases t0 : t = 0
      · rw [if_pos t0]; exact iteP ((nI_z (by omega)).mpr t0) ⟨rfl, rfl⟩
      · rw [if_neg t0]
        refine iteN (mt (nI_z (by omega)).mp t0) ?_
        by_cases t1 : t = 1
        · rw [if_pos t1]; exact iteP (by rw [t1]; rfl) ⟨rfl, rfl⟩
        · rw [if_neg t1]; exact iteN (by rw [l_1, nI_eq (by omega) (by omega)]; exact t1) ⟨rfl, rfl⟩
  | succ r ih =>
    intro k hk u
    have i1 := ih (k + 1) (by omega)
    rw [← Nat.add_assoc a k 1, ← nI_1, srch_snoc, show k + 1 + r = k + (r + 1) by omega, show mxn (bey f x w m) a (k + 1) = max (mxn (bey f x w m) a k) (bey f x w m (a + k)) from rfl] at i1
    have c : ¬ nI b < nI (a + k) := by rw [nI_ltI (by omega) (by omega)]; omega
    have bl := bey_le f x w m (a + k)
    have ml : mxn (bey f x w m) a k ≤ 1080 := by
      have : ∀ n, n ≤ k → mxn (bey f x w m) a n ≤ 1080 := by
        intro n
        induction n with
        | zero => intro _; exact Nat.zero_le _
        | succ n ihn =>
          intro hn
          have := ihn (by omega)
          have := bey_le f x w m (a + n)
          unfold mxn
          omega
      exact this k (Nat.le_refl k)
    have kb := O_beyond_c (L := L) (xs := xs) (K := K) (T := T) Q (a + k) (by omega)
    have mx : (if nI (mxn (bey f x w m) a k) < nI (bey f x w m (a + k)) then nI (bey f x w m (a + k)) else nI (mxn (bey f x w m) a k)) = nI (max (mxn (bey f x w m) a k) (bey f x w m (a + k))) := nI_max (by omega) (by omega)
    cases u
    all_goals first | refine sg_L_overstays_55 (iteN c (am_fin.call kb (sg_L_overstays_70r ?_))) | refine sg_L_overstays_55b (iteN c (am_fin.call kb (sg_L_overstays_70rb ?_)))
    all_goals
      have i1 := i1 (some (nI (bey f x w m (a + k))))
      by_cases oq : ovq f x w m (a + k)
      · rw [← cn_t (p := ovq f x w m) oq] at i1
        refine iteN (by rw [l_0, nI_leI (by omega) (by omega)]; unfold ovq at oq; omega) ?_
        rw [mx]
        cases hs : srch (ovq f x w m) k a with
        | none =>
          rw [hs] at i1
          dsimp only at i1
          rw [if_pos oq] at i1
          exact iteP rfl i1
        | some z =>
          rw [hs] at i1
          have := srch_in _ _ _ _ hs
          exact iteN (nI_neg2 (a := z) (by omega)) i1
      · rw [← cn_f (p := ovq f x w m) oq, show max (mxn (bey f x w m) a k) (bey f x w m (a + k)) = mxn (bey f x w m) a k by unfold ovq at oq; omega] at i1
        refine iteP (by rw [l_0, nI_leI (by omega) (by omega)]; unfold ovq at oq; omega) ?_
        cases hs : srch (ovq f x w m) k a with
        | none =>
          rw [hs] at i1
          dsimp only at i1
          rw [if_neg oq] at i1
          exact i1
        | some z =>
          rw [hs] at i1
          exact i1
theorem tight_lp {f : Nat → Int32} {x : Int32} {w0 m0 : Nat} (Q : QB A V f x w0 m0) (l w t : Nat) (hw : w ≤ 1080) (ht : t < 2) (g1 : ∀ d, d < 1080 → B 45 d = nI (wc f x w d)) : ∀ (r k : Nat) (mx fi : Int32), k + r = 1080 → ∃ v : Int32, (∀ u : Option Int32, am_fin [(z_L_tight, 54, [.ref 1, .int (nI l), .int (nI w), .int (nI t), .int mx, .int fi, .int (nI k), dl u], [])] (hp L xs A V K T) (some v) (hp L xs A V K T)) ∧ am_fin [(z_M_tight, 47, [.ref 36, .int (nI l), .int (nI w), .int (nI t), .int mx, .int fi, .int (nI k)], [])] (hp L xs B W K' T') (some v) (hp L xs B W K' T') := by
  intro r
  induction r with
  | zero =>
    intro k mx fi hk
    have g := g1080 (d := k) (by omega)
    by_cases t0 : t = 0
    · have z := (nI_z (n := t) (by omega)).mpr t0
      refine ⟨mx, fun u => ?_, sg_M_tight_47 (iteP g (iteP z ⟨rfl, rfl⟩))⟩
      cases u
      · exact sg_L_tight_54 (iteP g (iteP z ⟨rfl, rfl⟩))
      · exact sg_L_tight_54b (iteP g (iteP z ⟨rfl, rfl⟩))
    · have z := mt (nI_z (n := t) (by omega)).mp t0
      refine ⟨fi, fun u => ?_, sg_M_tight_47 (iteP g (iteN z ⟨rfl, rfl⟩))⟩
      cases u
      · exact sg_L_tight_54 (iteP g (iteN z ⟨rfl, rfl⟩))
      · exact sg_L_tight_54b (iteP g (iteN z ⟨rfl, rfl⟩))
  | succ r ih =>
    intro k mx fi hk
    have hk0 : k < 1080 := by omega
    have ib : ¬ (nI k < 0 ∨ 1080 ≤ (nI k).toNatClampNeg) := nI_inb (by omega) (by omega)
    have ck : (nI k).toNatClampNeg = k := nI_clamp (by omega)
    have kb := O_between_c (L := L) (xs := xs) (K := K) (T := T) Q (nI k - nI w + 1) (k + 1 - w) (k + 1) (winI (by omega) (by omega)) (by omega) (by omega)
    rw [nI_m1 (by omega), Nat.add_sub_cancel] at kb
    have kb : am_fin [(z_O_between, 0, [.ref 30, .int (nI k - nI w + 1), .int (nI k), .null], [])] (hp L xs A V K T) (some (nI (wc f x w k))) (hp L xs A V K T) := kb
    have e := g1 k hk0
    by_cases c : nI (wc f x w k) ≤ mx
    · obtain ⟨v, i1, i2⟩ := ih (k + 1) mx fi (by omega)
      rw [← nI_1] at i2
      refine ⟨v, fun u => ?_, sg_M_tight_47 (iteN (l1080 hk0) ⟨ib, iteN (by rw [ck, e]; exact Int32.not_lt.mpr c) i2⟩)⟩
      have i1 := i1 (some (nI (wc f x w k)))
      rw [← nI_1] at i1
      cases u
      · exact sg_L_tight_54 (iteN (l1080 hk0) (am_fin.call kb (sg_L_tight_77r (iteP c i1))))
      · exact sg_L_tight_54b (iteN (l1080 hk0) (am_fin.call kb (sg_L_tight_77rb (iteP c i1))))
    · obtain ⟨v, i1, i2⟩ := ih (k + 1) (nI (wc f x w k)) (nI k) (by omega)
      rw [← nI_1] at i2
      refine ⟨v, fun u => ?_, sg_M_tight_47 (iteN (l1080 hk0) ⟨ib, iteP (by rw [ck, e]; exact Int32.not_le.mp c) ⟨ib, by rw [ck, e]; exact i2⟩⟩)⟩
      have i1 := i1 (some (nI (wc f x w k)))
      rw [← nI_1] at i1
      cases u
      · exact sg_L_tight_54 (iteN (l1080 hk0) (am_fin.call kb (sg_L_tight_77r (iteN c i1))))
      · exact sg_L_tight_54b (iteN (l1080 hk0) (am_fin.call kb (sg_L_tight_77rb (iteN c i1))))
end
section
variable {L : Nat} {xs : Nat → Int32} {A V : Nat → Nat → Int32} {K : Nat → Option Nat} {T : am_H}
theorem pr_overstays (a1 a2 a3 a4 : Int32) (R : RI A V K T) : PRQ z_L_overstays z_M_overstays [.ref 1, .int a1, .int a2, .int a3, .int a4, .null, .null, .null, .null, .null] [.ref 36, .int a1, .int a2, .int a3, .int a4] L xs A V K T := by
  by_cases c1 : a1 < 0
  · refine ⟨(-1), A, V, K, T, A, V, sg_L_overstays_0 ?_, sg_M_overstays_0 ?_, R⟩
    · (try simp only [lgl, lgg]); (repeat first | refine iteP (by first | assumption) ?_ | refine iteN (by first | assumption) ?_); (constructor <;> first | rfl | trivial)
    · (try simp only [lgl, lgg]); (repeat first | refine iteP (by first | assumption) ?_ | refine iteN (by first | assumption) ?_); (constructor <;> first | rfl | trivial)
  by_cases c2 : (5 : Int32) < a1
  · refine ⟨(-1), A, V, K, T, A, V, sg_L_overstays_0 ?_, sg_M_overstays_0 ?_, R⟩
    · (try simp only [lgl, lgg]); (repeat first | refine iteP (by first | assumption) ?_ | refine iteN (by first | assumption) ?_); (constructor <;> first | rfl | trivial)
    · (try simp only [lgl, lgg]); (repeat first | refine iteP (by first | assumption) ?_ | refine iteN (by first | assumption) ?_); (constructor <;> first | rfl | trivial)
  by_cases c3 : a2 < 0
  · refine ⟨(-1), A, V, K, T, A, V, sg_L_overstays_0 ?_, sg_M_overstays_0 ?_, R⟩
    · (try simp only [lgl, lgg]); (repeat first | refine iteP (by first | assumption) ?_ | refine iteN (by first | assumption) ?_); (constructor <;> first | rfl | trivial)
    · (try simp only [lgl, lgg]); (repeat first | refine iteP (by first | assumption) ?_ | refine iteN (by first | assumption) ?_); (constructor <;> first | rfl | trivial)
  by_cases c4 : (1079 : Int32) < a2
  · refine ⟨(-1), A, V, K, T, A, V, sg_L_overstays_0 ?_, sg_M_overstays_0 ?_, R⟩
    · (try simp only [lgl, lgg]); (repeat first | refine iteP (by first | assumption) ?_ | refine iteN (by first | assumption) ?_); (constructor <;> first | rfl | trivial)
    · (try simp only [lgl, lgg]); (repeat first | refine iteP (by first | assumption) ?_ | refine iteN (by first | assumption) ?_); (constructor <;> first | rfl | trivial)
  by_cases c5 : a3 < 0
  · refine ⟨(-1), A, V, K, T, A, V, sg_L_overstays_0 ?_, sg_M_overstays_0 ?_, R⟩
    · (try simp only [lgl, lgg]); (repeat first | refine iteP (by first | assumption) ?_ | refine iteN (by first | assumption) ?_); (constructor <;> first | rfl | trivial)
    · (try simp only [lgl, lgg]); (repeat first | refine iteP (by first | assumption | (simp only [Int32.lt_iff_toInt_lt, Int32.le_iff_toInt_le, ← Int32.toInt_inj, Int32.reduceToInt] at *; omega)) ?_ | refine iteN (by first | assumption | (simp only [Int32.lt_iff_toInt_lt, Int32.le_iff_toInt_le, ← Int32.toInt_inj, Int32.reduceToInt] at *; omega)) ?_); (constructor <;> first | rfl | trivial)
  by_cases c6 : (1079 : Int32) < a3
  · refine ⟨(-1), A, V, K, T, A, V, sg_L_overstays_0 ?_, sg_M_overstays_0 ?_, R⟩
    · (try simp only [lgl, lgg]); (repeat first | refine iteP (by first | assumption) ?_ | refine iteN (by first | assumption) ?_); (constructor <;> first | rfl | trivial)
    · (try simp only [lgl, lgg]); (repeat first | refine iteP (by first | assumption | (simp only [Int32.lt_iff_toInt_lt, Int32.le_iff_toInt_le, ← Int32.toInt_inj, Int32.reduceToInt] at *; omega)) ?_ | refine iteN (by first | assumption | (simp only [Int32.lt_iff_toInt_lt, Int32.le_iff_toInt_le, ← Int32.toInt_inj, Int32.reduceToInt] at *; omega)) ?_); (constructor <;> first | rfl | trivial)
  by_cases c7 : a3 < a2
  · refine ⟨(-1), A, V, K, T, A, V, sg_L_overstays_0 ?_, sg_M_overstays_0 ?_, R⟩
    · (try simp only [lgl, lgg]); (repeat first | refine iteP (by first | assumption) ?_ | refine iteN (by first | assumption) ?_); (constructor <;> first | rfl | trivial)
    · (try simp only [lgl, lgg]); (repeat first | refine iteP (by first | assumption) ?_ | refine iteN (by first | assumption) ?_); (constructor <;> first | rfl | trivial)
  by_cases c8 : a4 < 0
  · refine ⟨(-1), A, V, K, T, A, V, sg_L_overstays_0 ?_, sg_M_overstays_0 ?_, R⟩
    · (try simp only [lgl, lgg]); (repeat first | refine iteP (by first | assumption) ?_ | refine iteN (by first | assumption) ?_); (constructor <;> first | rfl | trivial)
    · (try simp only [lgl, lgg]); (repeat first | refine iteP (by first | assumption) ?_ | refine iteN (by first | assumption) ?_); (constructor <;> first | rfl | trivial)
  by_cases c9 : (2 : Int32) < a4
  · refine ⟨(-1), A, V, K, T, A, V, sg_L_overstays_0 ?_, sg_M_overstays_0 ?_, R⟩
    · (try simp only [lgl, lgg]); (repeat first | refine iteP (by first | assumption) ?_ | refine iteN (by first | assumption) ?_); (constructor <;> first | rfl | trivial)
    · (try simp only [lgl, lgg]); (repeat first | refine iteP (by first | assumption) ?_ | refine iteN (by first | assumption) ?_); (constructor <;> first | rfl | trivial)
  obtain ⟨l, hl, rfl⟩ := i32_nat (m := 5) (by omega) c1 c2
  obtain ⟨a, ha, rfl⟩ := i32_nat (m := 1079) (by omega) c3 c4
  obtain ⟨b, hb, rfl⟩ := i32_nat (m := 1079) (by omega) c5 c6
  have hab : a ≤ b := by rw [nI_ltI (by omega) (by omega)] at c7; omega
  obtain ⟨t, ht, rfl⟩ := i32_nat (m := 2) (by omega) c8 c9
  obtain ⟨w, m, w1, w2, w3, w4, w5, w6⟩ := wm_of R.2.2.1 l (by omega)
  obtain ⟨g, q1, q2⟩ := O_read_3_c (L := L) (xs := xs) (A := A) (V := V) (K := K) (T := T) l (by omega)
  rw [w3, w4] at q2
  have Q : QB (upA A 31 g) (upV (upV V 30 4 (nI w)) 30 5 (nI m)) (A 4) (nI l) w m := ⟨q1, rfl, rfl, w1, w2⟩
  obtain ⟨g2, m2⟩ := M_overstayed_c (L := L) (xs := xs) (A := upA A 31 g) (V := upV (upV V 30 4 (nI w)) 30 5 (nI m)) (K := K) (T := T) l w m a b t (by omega) hab (by omega) (by omega) w2 (by omega) w5 w6
  have e37 : upA A 31 g 37 = A 4 := R.1.1
  rw [e37] at m2
  refine ⟨ovr (A 4) (nI l) w m t a (b + 1 - a), upA A 31 g, upV (upV V 30 4 (nI w)) 30 5 (nI m), K, T, upA (upA A 31 g) 45 g2, upV (upV V 30 4 (nI w)) 30 5 (nI m), sg_L_overstays_0 ?_, sg_M_overstays_0 ?_, R⟩
  · (try simp only [lgl, lgg]); (repeat first | refine iteP (by first | assumption) ?_ | refine iteN (by first | assumption) ?_)
    have lp := L_ov_lp (L := L) (xs := xs) (K := K) (T := T) Q l a b t (by omega) (by omega) (b + 1 - a) 0 (by omega) none
    rw [Nat.zero_add, Nat.add_zero] at lp
    exact am_fin.call q2 (sg_L_overstays_42r lp)
  · (try simp only [lgl, lgg]); (repeat first | refine iteP (by first | assumption) ?_ | refine iteN (by first | assumption) ?_)
    exact am_fin.call m2 (sg_M_overstays_37r ⟨rfl, rfl⟩)
theorem pr_tight (a1 a2 a3 : Int32) (R : RI A V K T) : PRQ z_L_tight z_M_tight [.ref 1, .int a1, .int a2, .int a3, .null, .null, .null, .null] [.ref 36, .int a1, .int a2, .int a3, .null, .null, .null] L xs A V K T := by
  by_cases c1 : a1 < 0
  · refine ⟨(-1), A, V, K, T, A, V, sg_L_tight_0 ?_, sg_M_tight_0 ?_, R⟩
    · (try simp only [lgl, lgg]); (repeat first | refine iteP (by first | assumption) ?_ | refine iteN (by first | assumption) ?_); (constructor <;> first | rfl | trivial)
    · (try simp only [lgl, lgg]); (repeat first | refine iteP (by first | assumption) ?_ | refine iteN (by first | assumption) ?_); (constructor <;> first | rfl | trivial)
  by_cases c2 : (5 : Int32) < a1
  · refine ⟨(-1), A, V, K, T, A, V, sg_L_tight_0 ?_, sg_M_tight_0 ?_, R⟩
    · (try simp only [lgl, lgg]); (repeat first | refine iteP (by first | assumption) ?_ | refine iteN (by first | assumption) ?_); (constructor <;> first | rfl | trivial)
    · (try simp only [lgl, lgg]); (repeat first | refine iteP (by first | assumption) ?_ | refine iteN (by first | assumption) ?_); (constructor <;> first | rfl | trivial)
  by_cases c3 : a2 < 1
  · refine ⟨(-1), A, V, K, T, A, V, sg_L_tight_0 ?_, sg_M_tight_0 ?_, R⟩
    · (try simp only [lgl, lgg]); (repeat first | refine iteP (by first | assumption) ?_ | refine iteN (by first | assumption) ?_); (constructor <;> first | rfl | trivial)
    · (try simp only [lgl, lgg]); (repeat first | refine iteP (by first | assumption) ?_ | refine iteN (by first | assumption) ?_); (constructor <;> first | rfl | trivial)
  by_cases c4 : (1080 : Int32) < a2
  · refine ⟨(-1), A, V, K, T, A, V, sg_L_tight_0 ?_, sg_M_tight_0 ?_, R⟩
    · (try simp only [lgl, lgg]); (repeat first | refine iteP (by first | assumption) ?_ | refine iteN (by first | assumption) ?_); (constructor <;> first | rfl | trivial)
    · (try simp only [lgl, lgg]); (repeat first | refine iteP (by first | assumption) ?_ | refine iteN (by first | assumption) ?_); (constructor <;> first | rfl | trivial)
  by_cases c5 : a3 < 0
  · refine ⟨(-1), A, V, K, T, A, V, sg_L_tight_0 ?_, sg_M_tight_0 ?_, R⟩
    · (try simp only [lgl, lgg]); (repeat first | refine iteP (by first | assumption) ?_ | refine iteN (by first | assumption) ?_); (constructor <;> first | rfl | trivial)
    · (try simp only [lgl, lgg]); (repeat first | refine iteP (by first | assumption) ?_ | refine iteN (by first | assumption) ?_); (constructor <;> first | rfl | trivial)
  by_cases c6 : (1 : Int32) < a3
  · refine ⟨(-1), A, V, K, T, A, V, sg_L_tight_0 ?_, sg_M_tight_0 ?_, R⟩
    · (try simp only [lgl, lgg]); (repeat first | refine iteP (by first | assumption) ?_ | refine iteN (by first | assumption) ?_); (constructor <;> first | rfl | trivial)
    · (try simp only [lgl, lgg]); (repeat first | refine iteP (by first | assumption) ?_ | refine iteN (by first | assumption) ?_); (constructor <;> first | rfl | trivial)
  obtain ⟨l, hl, rfl⟩ := i32_nat (m := 5) (by omega) c1 c2
  have c0 : ¬ a2 < 0 := fun z => c3 (Int32.lt_iff_toInt_lt.mpr (by rw [Int32.lt_iff_toInt_lt, Int32.toInt_zero] at z; rw [show (1 : Int32).toInt = 1 from by decide]; omega))
  obtain ⟨s, hs, rfl⟩ := i32_nat (m := 1080) (by omega) c0 c4
  obtain ⟨t, ht, rfl⟩ := i32_nat (m := 1) (by omega) c5 c6
  obtain ⟨w, m, w1, w2, w3, w4, w5, w6⟩ := wm_of R.2.2.1 l (by omega)
  obtain ⟨g, q1, q2⟩ := O_read_3_c (L := L) (xs := xs) (A := A) (V := V) (K := K) (T := T) l (by omega)
  rw [w3, w4] at q2
  have Q : QB (upA A 31 g) (upV (upV V 30 4 (nI w)) 30 5 (nI m)) (A 4) (nI l) w m := ⟨q1, rfl, rfl, w1, w2⟩
  obtain ⟨g2, m1, m2⟩ := M_laysLast_c (L := L) (xs := xs) (A := upA A 31 g) (V := upV (upV V 30 4 (nI w)) 30 5 (nI m)) (K := K) (T := T) (nI l) s hs
  have e37 : upA A 31 g 37 = A 4 := R.1.1
  rw [e37] at m1
  obtain ⟨v, i1, i2⟩ := tight_lp (L := L) (xs := xs) (K := K) (T := T) (B := upA (upA A 31 g) 45 g2) (W := upV (upV V 30 4 (nI w)) 30 5 (nI m)) (K' := K) (T' := T) Q l s t hs (by omega) m1 1080 0 0 (-2) (by omega)
  refine ⟨v, upA A 31 g, upV (upV V 30 4 (nI w)) 30 5 (nI m), K, T, upA (upA A 31 g) 45 g2, upV (upV V 30 4 (nI w)) 30 5 (nI m), sg_L_tight_0 ?_, sg_M_tight_0 ?_, R⟩
  · (try simp only [lgl, lgg]); (repeat first | refine iteP (by first | assumption) ?_ | refine iteN (by first | assumption) ?_)
    exact am_fin.call q2 (sg_L_tight_44r (i1 none))
  · (try simp only [lgl, lgg]); (repeat first | refine iteP (by first | assumption) ?_ | refine iteN (by first | assumption) ?_)
    exact am_fin.call m2 (sg_M_tight_37r i2)
end
