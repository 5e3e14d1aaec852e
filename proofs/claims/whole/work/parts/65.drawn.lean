theorem remI {a m : Nat} (ha : a < 2 ^ 31) (hm : m < 2 ^ 31) : nI a - nI a / nI m * nI m = nI (a % m) := by
  have e : nI a / nI m = nI (a / m) := (Int32.ofNat_div ha hm).symm
  have h := Nat.div_add_mod a m
  rw [Nat.mul_comm] at h
  rw [e, nI_mul, nI_sub (by omega)]
  congr 1
  omega
theorem divI {a m : Nat} (ha : a < 2 ^ 31) (hm : m < 2 ^ 31) : nI a / nI m = nI (a / m) := (Int32.ofNat_div ha hm).symm
theorem pn_m1 (j : Nat) : nI j - 1 = pn j := by rw [← pn_1, Int32.add_sub_cancel]
theorem pn_pl {j : Nat} (h : j < 7) : pl (pn j) := by
  by_cases c : j = 0
  · rw [c]; exact Or.inl rfl
  · obtain ⟨i, rfl⟩ : ∃ i, j = i + 1 := ⟨j - 1, by omega⟩
    rw [pn_s]; exact Or.inr ⟨i, by omega, rfl⟩
def dnx (n : Nat) : Nat := (25173 * n + 13849) % 65536
theorem dnx_lt (n : Nat) : dnx n < 65536 := Nat.mod_lt _ (by omega)
theorem dnx_c {n : Nat} (hn : n < 65536) : (25173 * nI n + 13849) &&& 65535 = nI (dnx n) := by
  rw [show (25173 : Int32) = nI 25173 from rfl, show (13849 : Int32) = nI 13849 from rfl, nI_mul, nI_add]
  exact pk_andN (n := 25173 * n + 13849) (by omega) (m := 65535) 16 (by decide)
theorem dnx_m {n : Nat} (hn : n < 65536) : 25173 * nI n + 13849 - (25173 * nI n + 13849) / 65536 * 65536 = nI (dnx n) := by
  rw [show (25173 : Int32) = nI 25173 from rfl, show (13849 : Int32) = nI 13849 from rfl, show (65536 : Int32) = nI 65536 from rfl, nI_mul, nI_add]
  exact remI (by omega) (by omega)
theorem and16 (x : Int32) : ∃ n, n < 65536 ∧ x &&& 65535 = nI n := pk_andE x (m := 65535) 16 (by decide)
/-- the day behind a drawn stay -/
def dend (n m t : Nat) : Nat := min (t + dnx (dnx n) / 4 % m + 1) 1080
theorem fl_fl (f : Nat → Int32) (a n : Nat) (x : Int32) (h : n = 0) : fl f a n x = f := by rw [h]; exact fl_0 f a x
section
variable {L : Nat} {xs : Nat → Int32} {A V : Nat → Nat → Int32} {K : Nat → Option Nat} {T : am_H}
theorem M_dr_in (x y z w : Int32) (e a : Nat) (he : e ≤ 1080) (f : Nat → Int32) {v : Option Int32} {h' : am_H} (kx : Int32) (nx : am_fin [(z_M_drawn, 65, [.ref 36, .int x, .int y, .int z, .int (nI e), .int (kx + 1), .int w, .int (nI e)], [])] (hp L xs (upA A 37 (fl f a (e - a) w)) V K T) v h') : ∀ r k, a + k + r = e → am_fin [(z_M_drawn, 107, [.ref 36, .int x, .int y, .int z, .int (nI (a + k)), .int kx, .int w, .int (nI e)], [])] (hp L xs (upA A 37 (fl f a k w)) V K T) v h' := by
  intro r
  induction r with
  | zero =>
    intro k hk
    rw [show a + k = e by omega, show k = e - a by omega]
    exact sg_M_drawn_107 (iteP (Int32.le_refl _) nx)
  | succ r ih =>
    intro k hk
    have i1 := ih (k + 1) (by omega)
    rw [← Nat.add_assoc, ← nI_1, ← fl_s] at i1
    refine sg_M_drawn_107 (iteN (by rw [nI_leI (by omega) (by omega)]; omega) ⟨nI_inb (by omega) (by omega), ?_⟩)
    rw [nI_clamp (by omega), upA_same, upA_upA]
    exact i1
theorem dr_lp (sd : Int32) (N m : Nat) (hN : N ≤ 100) (hm : 1 ≤ m) (hm2 : m ≤ 360) : ∀ (r k n t : Nat) (f : Nat → Int32), k + r = N → n < 65536 → t ≤ 1080 → (∀ d, d < 1080 → pl (f d)) → (∀ d, 1080 ≤ d → f d = 0) → ∃ (v : Int32) (F : Nat → Int32), (∀ d, d < 1080 → pl (F d)) ∧ (∀ d, 1080 ≤ d → F d = 0) ∧ (∀ u : Option (Int32 × Int32), am_fin [(z_L_drawn, 51, .ref 1 :: .int sd :: .int (nI N) :: .int (nI m) :: .int (nI n) :: .int (nI t) :: .int (nI k) :: d2 u, [])] (hp L xs (upA A 4 f) V K T) (some v) (hp L xs (upA A 4 F) V K T)) ∧ ∀ (B W : Nat → Nat → Int32), ∃ y : Int32, ∀ u : Option (Int32 × Int32), am_fin [(z_M_drawn, 65, .ref 36 :: .int sd :: .int (nI N) :: .int (nI m) :: .int (nI t) :: .int (nI k) :: d2 u, [])] (hp L xs (upA B 37 f) (upV W 36 13 (nI n)) K T) (some v) (hp L xs (upA B 37 F) (upV W 36 13 y) K T) := by
  intro r
  induction r with
  | zero =>
    intro k n t f hk hn ht pf zf
    have c : nI N ≤ nI k := by rw [nI_leI (by omega) (by omega)]; omega
    refine ⟨nI t, f, pf, zf, fun u => ?_, fun B W => ⟨nI n, fun u => ?_⟩⟩
    · cases u
      · exact sg_L_drawn_51 (iteP c ⟨rfl, rfl⟩)
      · exact sg_L_drawn_51b (iteP c ⟨rfl, rfl⟩)
    · cases u
      · exact sg_M_drawn_65 (iteP c ⟨rfl, rfl⟩)
      · exact sg_M_drawn_65b (iteP c ⟨rfl, rfl⟩)
  | succ r ih =>
    intro k n t f hk hn ht pf zf
    have c : ¬ nI N ≤ nI k := by rw [nI_leI (by omega) (by omega)]; omega
    by_cases q : t = 1080
    · have g := g1080 q
      refine ⟨nI t, f, pf, zf, fun u => ?_, fun B W => ⟨nI n, fun u => ?_⟩⟩
      · cases u
        · exact sg_L_drawn_51 (iteN c (iteP g ⟨rfl, rfl⟩))
        · exact sg_L_drawn_51b (iteN c (iteP g ⟨rfl, rfl⟩))
      · cases u
        · exact sg_M_drawn_65 (iteN c (iteP g ⟨rfl, rfl⟩))
        · exact sg_M_drawn_65b (iteN c (iteP g ⟨rfl, rfl⟩))
    have g := l1080 (d := t) (by omega)
    have m0 : ¬ nI m = 0 := mt (nI_z (by omega)).mp (by omega)
    have n1 := dnx_lt n
    have n2 := dnx_lt (dnx n)
    have h1 := dnx_c hn
    have h2 := dnx_c n1
    have h3 : nI (dnx n) / 4 = nI (dnx n / 4) := by rw [l_4]; exact divI (by omega) (by omega)
    have h4 : nI (dnx (dnx n)) / 4 = nI (dnx (dnx n) / 4) := by rw [l_4]; exact divI (by omega) (by omega)
    have h5 : nI (dnx n / 4) - nI (dnx n / 4) / 7 * 7 - 1 = pn (dnx n / 4 % 7) := by rw [l_7, remI (by omega) (by omega), pn_m1]
    have md : dnx (dnx n) / 4 % m < m := Nat.mod_lt _ (by omega)
    have h6 : nI (dnx (dnx n) / 4) - nI (dnx (dnx n) / 4) / nI m * nI m = nI (dnx (dnx n) / 4 % m) := remI (by omega) (by omega)
    have h7 : nI t + nI (dnx (dnx n) / 4 % m) + 1 = nI (t + dnx (dnx n) / 4 % m + 1) := by rw [nI_add, nI_1]
    have p7 : dnx n / 4 % 7 < 7 := Nat.mod_lt _ (by omega)
    have eb : dend n m t = min (t + dnx (dnx n) / 4 % m + 1) 1080 := rfl
    have h8 : (if (1080 : Int32) < nI (t + dnx (dnx n) / 4 % m + 1) then (1080 : Int32) else nI (t + dnx (dnx n) / 4 % m + 1)) = nI (dend n m t) := by
      rw [l_1080]
      by_cases z : 1080 < t + dnx (dnx n) / 4 % m + 1
      · rw [if_pos (by rw [nI_ltI (by omega) (by omega)]; exact z)]; congr 1; omega
      · rw [if_neg (by rw [nI_ltI (by omega) (by omega)]; exact z)]; congr 1; omega
    have h9 : nI (dend n m t) - 1 = nI (dend n m t - 1) := nI_m1 (by omega)
    have kp := P_put_3_c (L := L) (xs := xs) (A := upA A 4 f) (V := V) (K := K) (T := T) (pn (dnx n / 4 % 7)) t (dend n m t - 1) (by omega) (by omega)
    rw [upA_upA, show upA A 4 f 4 = f from rfl, show dend n m t - 1 + 1 - t = dend n m t - t by omega] at kp
    obtain ⟨v, F, pF, zF, i1, i2⟩ := ih (k + 1) (dnx (dnx n)) (dend n m t) (fl f t (dend n m t - t) (pn (dnx n / 4 % 7))) (by omega) n2 (by omega) (fl_pl (pn_pl p7) pf) (fun d hd => fl_z (by omega) hd (zf d hd))
    refine ⟨v, F, pF, zF, fun u => ?_, fun B W => ?_⟩
    · have i1 := i1 (some (pn (dnx n / 4 % 7), nI (dend n m t)))
      rw [← nI_1] at i1
      cases u
      all_goals first | refine sg_L_drawn_51 (iteN c (iteN g ⟨m0, ?_⟩)) | refine sg_L_drawn_51b (iteN c (iteN g ⟨m0, ?_⟩))
      all_goals
        rw [h1, h2, h3, h4, h5, h6, h7, h8, h9]
        exact am_fin.call kp (sg_L_drawn_127r i1)
    · obtain ⟨y, i2⟩ := i2 B W
      refine ⟨y, fun u => ?_⟩
      have i2 := i2 (some (pn (dnx n / 4 % 7), nI (dend n m t)))
      rw [← nI_1] at i2
      have mi := M_dr_in (L := L) (xs := xs) (A := B) (V := upV W 36 13 (nI (dnx (dnx n)))) (K := K) (T := T) sd (nI N) (nI m) (pn (dnx n / 4 % 7)) (dend n m t) t (by omega) f (nI k) i2 (dend n m t - t) 0 (by omega)
      rw [fl_0, Nat.add_zero] at mi
      cases u
      all_goals first | refine sg_M_drawn_65 (iteN c (iteN g ⟨m0, ?_⟩)) | refine sg_M_drawn_65b (iteN c (iteN g ⟨m0, ?_⟩))
      all_goals
        simp only [upV_same, upV_upV]
        rw [dnx_m hn, dnx_m n1, h3, h4, h5, h6, h7]
        by_cases z : t + dnx (dnx n) / 4 % m + 1 ≤ 1080
        · refine iteP (by rw [l_1080, nI_leI (by omega) (by omega)]; exact z) ?_
          rw [show dend n m t = t + dnx (dnx n) / 4 % m + 1 by omega] at mi
          exact mi
        · refine iteN (by rw [l_1080, nI_leI (by omega) (by omega)]; exact z) ?_
          rw [show dend n m t = 1080 by omega] at mi
          exact mi
theorem M_dr_z (x y z : Int32) (f : Nat → Int32) {v : Option Int32} {h' : am_H} (nx : am_fin [(z_M_drawn, 65, [.ref 36, .int x, .int y, .int z, .int 0, .int 0, .null, .null], [])] (hp L xs (upA A 37 (fl f 0 1080 (-1))) V K T) v h') : ∀ r k, k + r = 1080 → am_fin [(z_M_drawn, 37, [.ref 36, .int x, .int y, .int z, .int (nI k), .null, .null, .null], [])] (hp L xs (upA A 37 (fl f 0 k (-1))) V K T) v h' := by
  intro r
  induction r with
  | zero =>
    intro k hk
    rw [show k = 1080 by omega]
    exact sg_M_drawn_37 (iteP (Int32.le_refl _) nx)
  | succ r ih =>
    intro k hk
    have i1 := ih (k + 1) (by omega)
    rw [← nI_1, ← fl_s, Nat.zero_add] at i1
    refine sg_M_drawn_37 (iteN (l1080 (by omega)) ⟨nI_inb (by omega) (by omega), ?_⟩)
    rw [nI_clamp (by omega), upA_same, upA_upA]
    exact i1
theorem pr_drawn (a1 a2 a3 : Int32) (R : RI A V K T) : PRQ z_L_drawn z_M_drawn [.ref 1, .int a1, .int a2, .int a3, .null, .null, .null, .null, .null] [.ref 36, .int a1, .int a2, .int a3, .null, .null, .null, .null] L xs A V K T := by
  by_cases c1 : a2 < 1
  · refine ⟨(-1), A, V, K, T, A, V, sg_L_drawn_0 ?_, sg_M_drawn_0 ?_, R⟩
    · (try simp only [lgl, lgg]); (repeat first | refine iteP (by first | assumption) ?_ | refine iteN (by first | assumption) ?_); (constructor <;> first | rfl | trivial)
    · (try simp only [lgl, lgg]); (repeat first | refine iteP (by first | assumption) ?_ | refine iteN (by first | assumption) ?_); (constructor <;> first | rfl | trivial)
  by_cases c2 : (100 : Int32) < a2
  · refine ⟨(-1), A, V, K, T, A, V, sg_L_drawn_0 ?_, sg_M_drawn_0 ?_, R⟩
    · (try simp only [lgl, lgg]); (repeat first | refine iteP (by first | assumption) ?_ | refine iteN (by first | assumption) ?_); (constructor <;> first | rfl | trivial)
    · (try simp only [lgl, lgg]); (repeat first | refine iteP (by first | assumption) ?_ | refine iteN (by first | assumption) ?_); (constructor <;> first | rfl | trivial)
  by_cases c3 : a3 < 1
  · refine ⟨(-1), A, V, K, T, A, V, sg_L_drawn_0 ?_, sg_M_drawn_0 ?_, R⟩
    · (try simp only [lgl, lgg]); (repeat first | refine iteP (by first | assumption) ?_ | refine iteN (by first | assumption) ?_); (constructor <;> first | rfl | trivial)
    · (try simp only [lgl, lgg]); (repeat first | refine iteP (by first | assumption) ?_ | refine iteN (by first | assumption) ?_); (constructor <;> first | rfl | trivial)
  by_cases c4 : (360 : Int32) < a3
  · refine ⟨(-1), A, V, K, T, A, V, sg_L_drawn_0 ?_, sg_M_drawn_0 ?_, R⟩
    · (try simp only [lgl, lgg]); (repeat first | refine iteP (by first | assumption) ?_ | refine iteN (by first | assumption) ?_); (constructor <;> first | rfl | trivial)
    · (try simp only [lgl, lgg]); (repeat first | refine iteP (by first | assumption) ?_ | refine iteN (by first | assumption) ?_); (constructor <;> first | rfl | trivial)
  have z1 : ¬ a2 < 0 := fun z => c1 (Int32.lt_iff_toInt_lt.mpr (by rw [Int32.lt_iff_toInt_lt, Int32.toInt_zero] at z; rw [show (1 : Int32).toInt = 1 from by decide]; omega))
  have z3 : ¬ a3 < 0 := fun z => c3 (Int32.lt_iff_toInt_lt.mpr (by rw [Int32.lt_iff_toInt_lt, Int32.toInt_zero] at z; rw [show (1 : Int32).toInt = 1 from by decide]; omega))
  obtain ⟨N, hN, rfl⟩ := i32_nat (m := 100) (by omega) z1 c2
  obtain ⟨m, hm, rfl⟩ := i32_nat (m := 360) (by omega) z3 c4
  have hN1 : 1 ≤ N := by rw [l_1, nI_ltI (by omega) (by omega)] at c1; omega
  have hm1 : 1 ≤ m := by rw [l_1, nI_ltI (by omega) (by omega)] at c3; omega
  obtain ⟨n, hn, en⟩ := and16 a1
  obtain ⟨r1, r2, r3, r4, r5, r6, r7, r8⟩ := id R.1
  have hz := fun d hd => (R.2.2.2.2.1 d hd).1
  have kp := P_put_3_c (L := L) (xs := xs) (A := A) (V := V) (K := K) (T := T) (-1) 0 1079 (by omega) (by omega)
  have kp : am_fin [(z_P_put, 0, [.ref 3, .int (-1), .int 0, .int 1079, .null, .null], [])] (hp L xs A V K T) (some (nI (cn (fun d => ¬ A 4 d = -1) 0 1080))) (hp L xs (upA A 4 (fl (A 4) 0 1080 (-1))) V K T) := kp
  obtain ⟨v, F, pF, zF, i1, i2⟩ := dr_lp (L := L) (xs := xs) (A := A) (V := V) (K := K) (T := T) a1 N m hN hm1 hm N 0 n 0 (fl (A 4) 0 1080 (-1)) (by omega) hn (by omega) (fl_pl (Or.inl rfl) r5) (fun d hd => fl_z (by omega) hd (hz d hd))
  obtain ⟨y, i2⟩ := i2 (upA A 4 F) V
  have mz := M_dr_z (L := L) (xs := xs) (A := upA A 4 F) (V := upV V 36 13 (nI n)) (K := K) (T := T) a1 (nI N) (nI m) (A 4) (i2 none) 1080 0 (by omega)
  rw [fl_0, show upA (upA A 4 F) 37 (A 4) = upA A 4 F from by rw [show A 4 = upA A 4 F 37 from r1.symm]; exact upA_self _ _] at mz
  refine ⟨v, upA A 4 F, V, K, T, upA (upA A 4 F) 37 F, upV V 36 13 y, sg_L_drawn_0 ?_, sg_M_drawn_0 ?_, RI_places R pF zF⟩
  · (try simp only [lgl, lgg]); (repeat first | refine iteP (by first | assumption) ?_ | refine iteN (by first | assumption) ?_)
    refine am_fin.call kp (sg_L_drawn_38r ?_)
    rw [en]
    exact i1 none
  · (try simp only [lgl, lgg]); (repeat first | refine iteP (by first | assumption) ?_ | refine iteN (by first | assumption) ?_)
    rw [en]
    exact mz
end
