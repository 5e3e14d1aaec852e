theorem Rrow_of {q n : Nat} {f' g : Nat → Int32} {at_ o : Nat} (hn : n ≤ 4) (q1 : q % 8 = n) (q2 : q < 2 ^ (3 + 2 * n)) (hf : ∀ j, j < n → f' j = nI (q / 2 ^ (3 + 2 * j) % 4)) (e : g at_ = nI (n + o)) (h : ∀ j, j < n → g (at_ + 1 + j) = f' j) : Rrow (nI q) g at_ o := by
  obtain ⟨r1, r2⟩ := rw3 n (by omega) q q2 q1
  refine ⟨n, hn, r1, e, fun k hk => ⟨by rw [h k hk, hf k hk, r2 k hk], q / 2 ^ (3 + 2 * k) % 4, Nat.mod_lt _ (by omega), r2 k hk⟩⟩
theorem q_lt {q n : Nat} (hn : n ≤ 4) (q2 : q < 2 ^ (3 + 2 * n)) : q < 2048 := Nat.lt_of_lt_of_le q2 (Nat.le_trans (Nat.pow_le_pow_right (by omega) (by omega : 3 + 2 * n ≤ 11)) (by decide))
theorem RI_tape0 {A V : Nat → Nat → Int32} {K : Nat → Option Nat} {T : am_H} (R : RI A V K T) : RI A (upV (upV V 19 1 0) 36 7 0) K T := ⟨R.1, R.2.1, R.2.2.1, ⟨⟨0, by omega, rfl, rfl⟩, R.2.2.2.1.2⟩, R.2.2.2.2⟩
section
variable {L : Nat} {xs : Nat → Int32} {A V : Nat → Nat → Int32} {K : Nat → Option Nat} {T : am_H}
theorem M_od_lp (l n : Nat) (hl : l < 6) (hn : n ≤ 4) (g : Nat → Int32) : ∀ r k, k + r = n → am_fin [(z_M_order, 47, [.ref 36, .int (nI l), .int (nI n), .int (nI k)], [])] (hp L xs (upA A 41 (sld (A 44) g 0 (13 * l + 9) k)) V K T) (some 1) (hp L xs (upA A 41 (sld (A 44) g 0 (13 * l + 9) n)) V K T) := by
  intro r
  induction r with
  | zero =>
    intro k hk
    rw [show k = n by omega]
    exact sg_M_order_47 (iteP (Int32.le_refl _) ⟨rfl, rfl⟩)
  | succ r ih =>
    intro k hk
    have i1 := ih (k + 1) (by omega)
    rw [← nI_1, ← sld_s, Nat.zero_add] at i1
    have ex : (13 : Int32) * nI l + (9 + nI k) = nI (13 * l + 9 + k) := by rw [show (13 : Int32) * nI l = nI (13 * l) from nI_mul 13 l, l_9, nI_add, nI_add, Nat.add_assoc]
    refine sg_M_order_47 (iteN (by rw [nI_leI (by omega) (by omega)]; omega) ⟨nI_inb (by omega) (by omega), by rw [ex]; exact nI_inb (by omega) (by omega), ?_⟩)
    rw [ex, nI_clamp (by omega), nI_clamp (by omega), upA_upA, upA_same]
    exact i1
theorem pr_order (a1 a2 : Int32) (R : RI A V K T) : PRQ z_L_order z_M_order [.ref 1, .int a1, .int a2, .null] [.ref 36, .int a1, .int a2, .null] L xs A V K T := by
  by_cases c1 : a1 < 0
  · refine ⟨0, A, V, K, T, A, V, sg_L_order_0 ?_, sg_M_order_0 ?_, R⟩
    · (try simp only [lgl, lgg]); (repeat first | refine iteP (by first | assumption) ?_ | refine iteN (by first | assumption) ?_); (constructor <;> first | rfl | trivial)
    · (try simp only [lgl, lgg]); (repeat first | refine iteP (by first | assumption) ?_ | refine iteN (by first | assumption) ?_); (constructor <;> first | rfl | trivial)
  by_cases c2 : (5 : Int32) < a1
  · refine ⟨0, A, V, K, T, A, V, sg_L_order_0 ?_, sg_M_order_0 ?_, R⟩
    · (try simp only [lgl, lgg]); (repeat first | refine iteP (by first | assumption) ?_ | refine iteN (by first | assumption) ?_); (constructor <;> first | rfl | trivial)
    · (try simp only [lgl, lgg]); (repeat first | refine iteP (by first | assumption) ?_ | refine iteN (by first | assumption) ?_); (constructor <;> first | rfl | trivial)
  by_cases c3 : a2 < 0
  · refine ⟨0, A, V, K, T, A, V, sg_L_order_0 ?_, sg_M_order_0 ?_, R⟩
    · (try simp only [lgl, lgg]); (repeat first | refine iteP (by first | assumption) ?_ | refine iteN (by first | assumption) ?_); (constructor <;> first | rfl | trivial)
    · (try simp only [lgl, lgg]); (repeat first | refine iteP (by first | assumption) ?_ | refine iteN (by first | assumption) ?_); (constructor <;> first | rfl | trivial)
  by_cases c4 : (4 : Int32) < a2
  · refine ⟨0, A, V, K, T, A, V, sg_L_order_0 ?_, sg_M_order_0 ?_, R⟩
    · (try simp only [lgl, lgg]); (repeat first | refine iteP (by first | assumption) ?_ | refine iteN (by first | assumption) ?_); (constructor <;> first | rfl | trivial)
    · (try simp only [lgl, lgg]); (repeat first | refine iteP (by first | assumption) ?_ | refine iteN (by first | assumption) ?_); (constructor <;> first | rfl | trivial)
  obtain ⟨l, hl, rfl⟩ := i32_nat (m := 5) (by omega) c1 c2
  obtain ⟨n, hn, rfl⟩ := i32_nat (m := 4) (by omega) c3 c4
  obtain ⟨⟨t, ht, t1, t2⟩, ok⟩ := R.2.2.2.1
  have ok : okt (A 20) (A 42) := ok
  by_cases c5 : t < n
  · have k1 : V 19 1 < nI n := by rw [t1, nI_ltI (by omega) (by omega)]; exact c5
    have k2 : V 36 7 < nI n := by rw [t2, nI_ltI (by omega) (by omega)]; exact c5
    refine ⟨0, A, V, K, T, A, V, sg_L_order_0 ?_, sg_M_order_0 ?_, R⟩
    · (try simp only [lgl, lgg]); (repeat first | refine iteP (by first | assumption) ?_ | refine iteN (by first | assumption) ?_); (constructor <;> first | rfl | trivial)
    · (try simp only [lgl, lgg]); (repeat first | refine iteP (by first | assumption) ?_ | refine iteN (by first | assumption) ?_); (constructor <;> first | rfl | trivial)
  have k1 : ¬ V 19 1 < nI n := by rw [t1, nI_ltI (by omega) (by omega)]; exact c5
  have k2 : ¬ V 36 7 < nI n := by rw [t2, nI_ltI (by omega) (by omega)]; exact c5
  have ib : ¬ (nI l < 0 ∨ 6 ≤ (nI l).toNatClampNeg) := nI_inb (by omega) (by omega)
  obtain ⟨w, f', j1, j2, j3⟩ := tr_lp (L := L) (xs := xs) (V := V) (K := K) (T := T) (A 42) ok n hn n 0 0 0 (A 44) (by omega) rfl (by decide) (fun j hj => absurd hj (by omega))
  cases w with
  | none =>
    have j3 := j3 A (upV (upV V 19 1 0) 36 7 0) rfl
    rw [upA_self] at j3
    refine ⟨0, A, upV V 19 1 0, K, T, upA A 44 f', upV (upV V 19 1 0) 36 7 0, sg_L_order_0 ?_, sg_M_order_0 ?_, RI_tape0 R⟩
    · (try simp only [lgl, lgg]); (repeat first | refine iteP (by first | assumption) ?_ | refine iteN (by first | assumption) ?_)
      exact am_fin.call (sg_T_takeRow_0 (j2 none)) (sg_L_order_25r (iteP rfl ⟨(by first | rfl | trivial), (by first | rfl | trivial)⟩))
    · (try simp only [lgl, lgg]); (repeat first | refine iteP (by first | assumption) ?_ | refine iteN (by first | assumption) ?_)
      exact am_fin.call (sg_M_readsLetters_0 j3) (sg_M_order_32r (iteP rfl ⟨(by first | rfl | trivial), (by first | rfl | trivial)⟩))
  | some q =>
    obtain ⟨q1, q2, q3⟩ := j1 q rfl
    have ql := q_lt hn q2
    have j3 := j3 (upA A 16 (upd (A 16) l (nI q))) (upV (upV V 19 1 0) 36 7 0) rfl
    have es : upA (upA A 16 (upd (A 16) l (nI q))) 44 (A 44) = upA A 16 (upd (A 16) l (nI q)) := upA_self (upA A 16 (upd (A 16) l (nI q))) 44
    rw [es] at j3
    have e8 : (13 : Int32) * nI l + 8 = nI (13 * l + 8) := e13 l 8
    have lp := M_od_lp (L := L) (xs := xs) (A := upA (upA A 16 (upd (A 16) l (nI q))) 44 f') (V := upV (upV V 19 1 0) 36 7 0) (K := K) (T := T) l n (by omega) hn (upd (A 41) (13 * l + 8) (nI n)) n 0 (by omega)
    rw [sld_0] at lp
    have lp : am_fin [(z_M_order, 47, [.ref 36, .int (nI l), .int (nI n), .int (nI 0)], [])] (hp L xs (upA (upA (upA A 16 (upd (A 16) l (nI q))) 44 f') 41 (upd (A 41) (13 * l + 8) (nI n))) (upV (upV V 19 1 0) 36 7 0) K T) (some 1) (hp L xs (upA (upA (upA A 16 (upd (A 16) l (nI q))) 44 f') 41 (sld f' (upd (A 41) (13 * l + 8) (nI n)) 0 (13 * l + 9) n)) (upV (upV V 19 1 0) 36 7 0) K T) := lp
    refine ⟨1, upA A 16 (upd (A 16) l (nI q)), upV V 19 1 0, K, T, upA (upA (upA A 16 (upd (A 16) l (nI q))) 44 f') 41 (sld f' (upd (A 41) (13 * l + 8) (nI n)) 0 (13 * l + 9) n), upV (upV V 19 1 0) 36 7 0, sg_L_order_0 ?_, sg_M_order_0 ?_, ?_⟩
    · (try simp only [lgl, lgg]); (repeat first | refine iteP (by first | assumption) ?_ | refine iteN (by first | assumption) ?_)
      refine am_fin.call (sg_T_takeRow_0 (j2 none)) (sg_L_order_25r (iteN (nI_neg1 (a := q) (by omega)) ⟨ib, (by first | rfl | trivial), ?_⟩))
      rw [nI_clamp (by omega)]
      rfl
    · (try simp only [lgl, lgg]); (repeat first | refine iteP (by first | assumption) ?_ | refine iteN (by first | assumption) ?_)
      refine am_fin.call (sg_M_readsLetters_0 j3) (sg_M_order_32r (iteN (show ¬ (1 : Int32) = 0 by decide) ⟨by rw [e8]; exact nI_inb (by omega) (by omega), ?_⟩))
      rw [e8, nI_clamp (by omega)]
      exact lp
    · have go : ∀ i, ¬ (13 * l + 8 ≤ i ∧ i < 13 * l + 9 + n) → sld f' (upd (A 41) (13 * l + 8) (nI n)) 0 (13 * l + 9) n i = A 41 i := by
        intro i hi
        unfold sld
        rw [if_neg (by omega), upd_no _ _ (by omega)]
      have RR := R.2.2.1
      refine RI_rules (RI_tape0 R) (Rr_gen (RI_tape0 R).2.2.1 l rfl (fun i hi => go i (by omega)) (by omega) (fun l' hl' hne => ⟨rfl, rfl, fun _ _ => rfl, rfl, rfl, upd_no _ _ hne, rfl⟩) RR.2.2 ?_) rfl rfl rfl rfl rfl rfl rfl rfl rfl rfl rfl rfl rfl
      obtain ⟨h1, h2, h3, h4, h5, h6, h7, h8, h9, h10⟩ := RR.1 l (by omega)
      have gj : ∀ j, j < 8 → sld f' (upd (A 41) (13 * l + 8) (nI n)) 0 (13 * l + 9) n (13 * l + j) = A 41 (13 * l + j) := fun j hj => go _ (by omega)
      show RL (A 11 l) (A 12 l) (fun s => A 13 (3 * l + s)) (A 14 l) (b2 (hbit (V 10 7) (nI l))) (A 15 l) (upd (A 16) l (nI q) l) (fun j => sld f' (upd (A 41) (13 * l + 8) (nI n)) 0 (13 * l + 9) n (13 * l + j))
      rw [upd_at]
      refine ⟨(gj 0 (by omega)).trans h1, (gj 1 (by omega)).trans h2, fun s hs => ⟨(gj (2 + s) (by omega)).trans (h3 s hs).1, (h3 s hs).2⟩, (gj 5 (by omega)).trans h4, (gj 6 (by omega)).trans h5, (gj 7 (by omega)).trans h6, Rrow_of hn q1 q2 q3 ?_ (fun j hj => ?_), h8, h9, h10⟩
      · show sld f' (upd (A 41) (13 * l + 8) (nI n)) 0 (13 * l + 9) n (13 * l + 8) = nI (n + 0)
        unfold sld
        rw [if_neg (by omega), upd_at]
        rfl
      · show sld f' (upd (A 41) (13 * l + 8) (nI n)) 0 (13 * l + 9) n (13 * l + (8 + 1 + j)) = f' j
        unfold sld
        rw [if_pos (by omega)]
        congr 1
        omega
theorem M_ty_lp1 (a b n : Nat) (hab : a < b) (hb : b < 6) (hn : n ≤ 4) (g : Nat → Int32) : ∀ r k, k + r = n → am_fin [(z_M_treaty, 54, [.ref 36, .int (nI a), .int (nI b), .int (nI n), .int (nI k)], [])] (hp L xs (upA A 41 (sld (A 44) g 0 (78 + 5 * (6 * a + b) + 1) k)) V K T) (some 1) (hp L xs (upA A 41 (sld (A 44) g 0 (78 + 5 * (6 * a + b) + 1) n)) V K T) := by
  intro r
  induction r with
  | zero =>
    intro k hk
    rw [show k = n by omega]
    exact sg_M_treaty_54 (iteP (Int32.le_refl _) ⟨rfl, rfl⟩)
  | succ r ih =>
    intro k hk
    have i1 := ih (k + 1) (by omega)
    rw [← nI_1, ← sld_s, Nat.zero_add] at i1
    have ex : (78 : Int32) + 5 * (6 * nI a + nI b) + 1 + nI k = nI (78 + 5 * (6 * a + b) + 1 + k) := by rw [l_78, l_5, l_6, nI_mul, nI_add, nI_mul, nI_add, nI_1, nI_add]
    refine sg_M_treaty_54 (iteN (by rw [nI_leI (by omega) (by omega)]; omega) (iteN (by rw [nI_leI (by omega) (by omega)]; omega) (iteP (by rw [nI_leI (by omega) (by omega)]; omega) ⟨nI_inb (by omega) (by omega), by rw [ex]; exact nI_inb (by omega) (by omega), ?_⟩)))
    rw [ex, nI_clamp (by omega), nI_clamp (by omega), upA_upA, upA_same]
    exact i1
theorem pr_ty1 (a b n : Nat) (hab : a < b) (hb : b < 6) (hn : n ≤ 4) (R : RI A V K T) (t : Nat) (ht : t ≤ 320) (t1 : V 19 1 = nI t) (t2 : V 36 7 = nI t) (htn : n ≤ t) : PRQ z_L_treaty z_M_treaty [.ref 1, .int (nI a), .int (nI b), .int (nI n), .null] [.ref 36, .int (nI a), .int (nI b), .int (nI n), .null] L xs A V K T := by
  have c1 : ¬ nI a < 0 := nI_lt0 (by omega)
  have c2 : ¬ (5 : Int32) < nI a := by rw [l_5, nI_ltI (by omega) (by omega)]; omega
  have c3 : ¬ nI b < 0 := nI_lt0 (by omega)
  have c4 : ¬ (5 : Int32) < nI b := by rw [l_5, nI_ltI (by omega) (by omega)]; omega
  have c5 : ¬ nI a = nI b := by rw [nI_eq (by omega) (by omega)]; omega
  have c6 : ¬ nI n < 0 := nI_lt0 (by omega)
  have c7 : ¬ (4 : Int32) < nI n := by rw [l_4, nI_ltI (by omega) (by omega)]; omega
  have k1 : ¬ V 19 1 < nI n := by rw [t1, nI_ltI (by omega) (by omega)]; omega
  have k2 : ¬ V 36 7 < nI n := by rw [t2, nI_ltI (by omega) (by omega)]; omega
  have ok : okt (A 20) (A 42) := R.2.2.2.1.2
  obtain ⟨w, f', j1, j2, j3⟩ := tr_lp (L := L) (xs := xs) (V := V) (K := K) (T := T) (A 42) ok n hn n 0 0 0 (A 44) (by omega) rfl (by decide) (fun j hj => absurd hj (by omega))
  cases w with
  | none =>
    have j3 := j3 A (upV (upV V 19 1 0) 36 7 0) rfl
    rw [upA_self] at j3
    refine ⟨0, A, upV V 19 1 0, K, T, upA A 44 f', upV (upV V 19 1 0) 36 7 0, sg_L_treaty_0 ?_, sg_M_treaty_0 ?_, RI_tape0 R⟩
    · (try simp only [lgl, lgg]); (repeat first | refine iteP (by first | assumption) ?_ | refine iteN (by first | assumption) ?_)
      exact am_fin.call (sg_T_takeRow_0 (j2 none)) (sg_L_treaty_26r (iteP rfl ⟨(by first | rfl | trivial), (by first | rfl | trivial)⟩))
    · (try simp only [lgl, lgg]); (repeat first | refine iteP (by first | assumption) ?_ | refine iteN (by first | assumption) ?_)
      exact am_fin.call (sg_M_readsLetters_0 j3) (sg_M_treaty_33r (iteP rfl ⟨(by first | rfl | trivial), (by first | rfl | trivial)⟩))
  | some q =>
    obtain ⟨q1, q2, q3⟩ := j1 q rfl
    have ql := q_lt hn q2
    have x1 : nI a * 6 + nI b = nI (a * 6 + b) := by rw [l_6, nI_mul, nI_add]
    have x2 : nI b * 6 + nI a = nI (b * 6 + a) := by rw [l_6, nI_mul, nI_add]
    have ex : (78 : Int32) + 5 * (6 * nI a + nI b) = nI (78 + 5 * (6 * a + b)) := by rw [l_78, l_5, l_6, nI_mul, nI_add, nI_mul, nI_add]
    have j3 := j3 (upA A 17 (upd (upd (A 17) (a * 6 + b) (nI q)) (b * 6 + a) (nI q))) (upV (upV V 19 1 0) 36 7 0) rfl
    rw [show upA (upA A 17 (upd (upd (A 17) (a * 6 + b) (nI q)) (b * 6 + a) (nI q))) 44 (A 44) = upA A 17 (upd (upd (A 17) (a * 6 + b) (nI q)) (b * 6 + a) (nI q)) from upA_self (upA A 17 (upd (upd (A 17) (a * 6 + b) (nI q)) (b * 6 + a) (nI q))) 44] at j3
    have lp := M_ty_lp1 (L := L) (xs := xs) (A := upA (upA A 17 (upd (upd (A 17) (a * 6 + b) (nI q)) (b * 6 + a) (nI q))) 44 f') (V := upV (upV V 19 1 0) 36 7 0) (K := K) (T := T) a b n hab hb hn (upd (A 41) (78 + 5 * (6 * a + b)) (nI (n + 1))) n 0 (by omega)
    rw [sld_0] at lp
    have lp : am_fin [(z_M_treaty, 54, [.ref 36, .int (nI a), .int (nI b), .int (nI n), .int (nI 0)], [])] (hp L xs (upA (upA (upA A 17 (upd (upd (A 17) (a * 6 + b) (nI q)) (b * 6 + a) (nI q))) 44 f') 41 (upd (A 41) (78 + 5 * (6 * a + b)) (nI (n + 1)))) (upV (upV V 19 1 0) 36 7 0) K T) (some 1) (hp L xs (upA (upA (upA A 17 (upd (upd (A 17) (a * 6 + b) (nI q)) (b * 6 + a) (nI q))) 44 f') 41 (sld f' (upd (A 41) (78 + 5 * (6 * a + b)) (nI (n + 1))) 0 (78 + 5 * (6 * a + b) + 1) n)) (upV (upV V 19 1 0) 36 7 0) K T) := lp
    refine ⟨1, upA A 17 (upd (upd (A 17) (a * 6 + b) (nI q)) (b * 6 + a) (nI q)), upV V 19 1 0, K, T, upA (upA (upA A 17 (upd (upd (A 17) (a * 6 + b) (nI q)) (b * 6 + a) (nI q))) 44 f') 41 (sld f' (upd (A 41) (78 + 5 * (6 * a + b)) (nI (n + 1))) 0 (78 + 5 * (6 * a + b) + 1) n), upV (upV V 19 1 0) 36 7 0, sg_L_treaty_0 ?_, sg_M_treaty_0 ?_, ?_⟩
    · (try simp only [lgl, lgg]); (repeat first | refine iteP (by first | assumption) ?_ | refine iteN (by first | assumption) ?_)
      refine am_fin.call (sg_T_takeRow_0 (j2 none)) (sg_L_treaty_26r (iteN (nI_neg1 (a := q) (by omega)) ?_))
      rw [x1, x2]
      refine ⟨nI_inb (by omega) (by omega), nI_inb (by omega) (by omega), (by first | rfl | trivial), ?_⟩
      rw [nI_clamp (by omega), nI_clamp (by omega), upA_upA, upA_same]
      rfl
    · (try simp only [lgl, lgg]); (repeat first | refine iteP (by first | assumption) ?_ | refine iteN (by first | assumption) ?_)
      refine am_fin.call (sg_M_readsLetters_0 j3) (sg_M_treaty_33r (iteN (show ¬ (1 : Int32) = 0 by decide) (iteN (by rw [nI_leI (by omega) (by omega)]; omega) (iteP (by rw [nI_leI (by omega) (by omega)]; omega) ⟨by rw [ex]; exact nI_inb (by omega) (by omega), ?_⟩))))
      rw [ex, nI_clamp (by omega), nI_1]
      exact lp
    · have go : ∀ i, ¬ (78 + 5 * (6 * a + b) ≤ i ∧ i < 78 + 5 * (6 * a + b) + 5) → sld f' (upd (A 41) (78 + 5 * (6 * a + b)) (nI (n + 1))) 0 (78 + 5 * (6 * a + b) + 1) n i = A 41 i := by
        intro i hi
        unfold sld
        rw [if_neg (by omega), upd_no _ _ (by omega)]
      have R1 : RI (upA A 44 f') (upV (upV V 19 1 0) 36 7 0) K T := RI_tape0 R
      refine RI_ty R1 (a := a) (b := b) (f := upd (upd (A 17) (a * 6 + b) (nI q)) (b * 6 + a) (nI q)) (g := sld f' (upd (A 41) (78 + 5 * (6 * a + b)) (nI (n + 1))) 0 (78 + 5 * (6 * a + b) + 1) n) (p := nI q) hab hb (fun k h1 h2 => ?_) ?_ ?_ go (Or.inr (Rrow_of hn q1 q2 q3 ?_ (fun j hj => ?_)))
      · rw [upd_no _ _ (by omega), upd_no _ _ (by omega)]; rfl
      · by_cases e : 6 * a + b = b * 6 + a
        · rw [e, upd_at]
        · rw [upd_no _ _ e, show 6 * a + b = a * 6 + b by omega, upd_at]
      · by_cases e : 6 * b + a = b * 6 + a
        · rw [e, upd_at]
        · rw [upd_no _ _ e, show 6 * b + a = a * 6 + b by omega, upd_at]
      · unfold sld
        rw [if_neg (by omega), upd_at]
      · unfold sld
        rw [if_pos (by omega)]
        congr 1
        omega
theorem M_ty_lp2 (a b n : Nat) (hab : b < a) (hb : a < 6) (hn : n ≤ 4) (g : Nat → Int32) : ∀ r k, k + r = n → am_fin [(z_M_treaty, 54, [.ref 36, .int (nI a), .int (nI b), .int (nI n), .int (nI k)], [])] (hp L xs (upA A 41 (sld (A 44) g 0 (78 + 5 * (6 * b + a) + 1) k)) V K T) (some 1) (hp L xs (upA A 41 (sld (A 44) g 0 (78 + 5 * (6 * b + a) + 1) n)) V K T) := by
  intro r
  induction r with
  | zero =>
    intro k hk
    rw [show k = n by omega]
    exact sg_M_treaty_54 (iteP (Int32.le_refl _) ⟨rfl, rfl⟩)
  | succ r ih =>
    intro k hk
    have i1 := ih (k + 1) (by omega)
    rw [← nI_1, ← sld_s, Nat.zero_add] at i1
    have ex : (78 : Int32) + 5 * (6 * nI b + nI a) + 1 + nI k = nI (78 + 5 * (6 * b + a) + 1 + k) := by rw [l_78, l_5, l_6, nI_mul, nI_add, nI_mul, nI_add, nI_1, nI_add]
    refine sg_M_treaty_54 (iteN (by rw [nI_leI (by omega) (by omega)]; omega) (iteP (by rw [nI_leI (by omega) (by omega)]; omega) (iteN (by rw [nI_leI (by omega) (by omega)]; omega) ⟨nI_inb (by omega) (by omega), by rw [ex]; exact nI_inb (by omega) (by omega), ?_⟩)))
    rw [ex, nI_clamp (by omega), nI_clamp (by omega), upA_upA, upA_same]
    exact i1
theorem pr_ty2 (a b n : Nat) (hab : b < a) (hb : a < 6) (hn : n ≤ 4) (R : RI A V K T) (t : Nat) (ht : t ≤ 320) (t1 : V 19 1 = nI t) (t2 : V 36 7 = nI t) (htn : n ≤ t) : PRQ z_L_treaty z_M_treaty [.ref 1, .int (nI a), .int (nI b), .int (nI n), .null] [.ref 36, .int (nI a), .int (nI b), .int (nI n), .null] L xs A V K T := by
  have c1 : ¬ nI a < 0 := nI_lt0 (by omega)
  have c2 : ¬ (5 : Int32) < nI a := by rw [l_5, nI_ltI (by omega) (by omega)]; omega
  have c3 : ¬ nI b < 0 := nI_lt0 (by omega)
  have c4 : ¬ (5 : Int32) < nI b := by rw [l_5, nI_ltI (by omega) (by omega)]; omega
  have c5 : ¬ nI a = nI b := by rw [nI_eq (by omega) (by omega)]; omega
  have c6 : ¬ nI n < 0 := nI_lt0 (by omega)
  have c7 : ¬ (4 : Int32) < nI n := by rw [l_4, nI_ltI (by omega) (by omega)]; omega
  have k1 : ¬ V 19 1 < nI n := by rw [t1, nI_ltI (by omega) (by omega)]; omega
  have k2 : ¬ V 36 7 < nI n := by rw [t2, nI_ltI (by omega) (by omega)]; omega
  have ok : okt (A 20) (A 42) := R.2.2.2.1.2
  obtain ⟨w, f', j1, j2, j3⟩ := tr_lp (L := L) (xs := xs) (V := V) (K := K) (T := T) (A 42) ok n hn n 0 0 0 (A 44) (by omega) rfl (by decide) (fun j hj => absurd hj (by omega))
  cases w with
  | none =>
    have j3 := j3 A (upV (upV V 19 1 0) 36 7 0) rfl
    rw [upA_self] at j3
    refine ⟨0, A, upV V 19 1 0, K, T, upA A 44 f', upV (upV V 19 1 0) 36 7 0, sg_L_treaty_0 ?_, sg_M_treaty_0 ?_, RI_tape0 R⟩
    · (try simp only [lgl, lgg]); (repeat first | refine iteP (by first | assumption) ?_ | refine iteN (by first | assumption) ?_)
      exact am_fin.call (sg_T_takeRow_0 (j2 none)) (sg_L_treaty_26r (iteP rfl ⟨(by first | rfl | trivial), (by first | rfl | trivial)⟩))
    · (try simp only [lgl, lgg]); (repeat first | refine iteP (by first | assumption) ?_ | refine iteN (by first | assumption) ?_)
      exact am_fin.call (sg_M_readsLetters_0 j3) (sg_M_treaty_33r (iteP rfl ⟨(by first | rfl | trivial), (by first | rfl | trivial)⟩))
  | some q =>
    obtain ⟨q1, q2, q3⟩ := j1 q rfl
    have ql := q_lt hn q2
    have x1 : nI a * 6 + nI b = nI (a * 6 + b) := by rw [l_6, nI_mul, nI_add]
    have x2 : nI b * 6 + nI a = nI (b * 6 + a) := by rw [l_6, nI_mul, nI_add]
    have ex : (78 : Int32) + 5 * (6 * nI b + nI a) = nI (78 + 5 * (6 * b + a)) := by rw [l_78, l_5, l_6, nI_mul, nI_add, nI_mul, nI_add]
    have j3 := j3 (upA A 17 (upd (upd (A 17) (a * 6 + b) (nI q)) (b * 6 + a) (nI q))) (upV (upV V 19 1 0) 36 7 0) rfl
    rw [show upA (upA A 17 (upd (upd (A 17) (a * 6 + b) (nI q)) (b * 6 + a) (nI q))) 44 (A 44) = upA A 17 (upd (upd (A 17) (a * 6 + b) (nI q)) (b * 6 + a) (nI q)) from upA_self (upA A 17 (upd (upd (A 17) (a * 6 + b) (nI q)) (b * 6 + a) (nI q))) 44] at j3
    have lp := M_ty_lp2 (L := L) (xs := xs) (A := upA (upA A 17 (upd (upd (A 17) (a * 6 + b) (nI q)) (b * 6 + a) (nI q))) 44 f') (V := upV (upV V 19 1 0) 36 7 0) (K := K) (T := T) a b n hab hb hn (upd (A 41) (78 + 5 * (6 * b + a)) (nI (n + 1))) n 0 (by omega)
    rw [sld_0] at lp
    have lp : am_fin [(z_M_treaty, 54, [.ref 36, .int (nI a), .int (nI b), .int (nI n), .int (nI 0)], [])] (hp L xs (upA (upA (upA A 17 (upd (upd (A 17) (a * 6 + b) (nI q)) (b * 6 + a) (nI q))) 44 f') 41 (upd (A 41) (78 + 5 * (6 * b + a)) (nI (n + 1)))) (upV (upV V 19 1 0) 36 7 0) K T) (some 1) (hp L xs (upA (upA (upA A 17 (upd (upd (A 17) (a * 6 + b) (nI q)) (b * 6 + a) (nI q))) 44 f') 41 (sld f' (upd (A 41) (78 + 5 * (6 * b + a)) (nI (n + 1))) 0 (78 + 5 * (6 * b + a) + 1) n)) (upV (upV V 19 1 0) 36 7 0) K T) := lp
    refine ⟨1, upA A 17 (upd (upd (A 17) (a * 6 + b) (nI q)) (b * 6 + a) (nI q)), upV V 19 1 0, K, T, upA (upA (upA A 17 (upd (upd (A 17) (a * 6 + b) (nI q)) (b * 6 + a) (nI q))) 44 f') 41 (sld f' (upd (A 41) (78 + 5 * (6 * b + a)) (nI (n + 1))) 0 (78 + 5 * (6 * b + a) + 1) n), upV (upV V 19 1 0) 36 7 0, sg_L_treaty_0 ?_, sg_M_treaty_0 ?_, ?_⟩
    · (try simp only [lgl, lgg]); (repeat first | refine iteP (by first | assumption) ?_ | refine iteN (by first | assumption) ?_)
      refine am_fin.call (sg_T_takeRow_0 (j2 none)) (sg_L_treaty_26r (iteN (nI_neg1 (a := q) (by omega)) ?_))
      rw [x1, x2]
      refine ⟨nI_inb (by omega) (by omega), nI_inb (by omega) (by omega), (by first | rfl | trivial), ?_⟩
      rw [nI_clamp (by omega), nI_clamp (by omega), upA_upA, upA_same]
      rfl
    · (try simp only [lgl, lgg]); (repeat first | refine iteP (by first | assumption) ?_ | refine iteN (by first | assumption) ?_)
      refine am_fin.call (sg_M_readsLetters_0 j3) (sg_M_treaty_33r (iteN (show ¬ (1 : Int32) = 0 by decide) (iteP (by rw [nI_leI (by omega) (by omega)]; omega) (iteN (by rw [nI_leI (by omega) (by omega)]; omega) ⟨by rw [ex]; exact nI_inb (by omega) (by omega), ?_⟩))))
      rw [ex, nI_clamp (by omega), nI_1]
      exact lp
    · have go : ∀ i, ¬ (78 + 5 * (6 * b + a) ≤ i ∧ i < 78 + 5 * (6 * b + a) + 5) → sld f' (upd (A 41) (78 + 5 * (6 * b + a)) (nI (n + 1))) 0 (78 + 5 * (6 * b + a) + 1) n i = A 41 i := by
        intro i hi
        unfold sld
        rw [if_neg (by omega), upd_no _ _ (by omega)]
      have R1 : RI (upA A 44 f') (upV (upV V 19 1 0) 36 7 0) K T := RI_tape0 R
      refine RI_ty R1 (a := b) (b := a) (f := upd (upd (A 17) (a * 6 + b) (nI q)) (b * 6 + a) (nI q)) (g := sld f' (upd (A 41) (78 + 5 * (6 * b + a)) (nI (n + 1))) 0 (78 + 5 * (6 * b + a) + 1) n) (p := nI q) hab hb (fun k h1 h2 => ?_) ?_ ?_ go (Or.inr (Rrow_of hn q1 q2 q3 ?_ (fun j hj => ?_)))
      · rw [upd_no _ _ (by omega), upd_no _ _ (by omega)]; rfl
      · by_cases e : 6 * b + a = b * 6 + a
        · rw [e, upd_at]
        · rw [upd_no _ _ e, show 6 * b + a = a * 6 + b by omega, upd_at]
      · by_cases e : 6 * a + b = b * 6 + a
        · rw [e, upd_at]
        · rw [upd_no _ _ e, show 6 * a + b = a * 6 + b by omega, upd_at]
      · unfold sld
        rw [if_neg (by omega), upd_at]
      · unfold sld
        rw [if_pos (by omega)]
        congr 1
        omega
theorem pr_treaty (a1 a2 a3 : Int32) (R : RI A V K T) : PRQ z_L_treaty z_M_treaty [.ref 1, .int a1, .int a2, .int a3, .null] [.ref 36, .int a1, .int a2, .int a3, .null] L xs A V K T := by
  by_cases c1 : a1 < 0
  · refine ⟨0, A, V, K, T, A, V, sg_L_treaty_0 ?_, sg_M_treaty_0 ?_, R⟩
    · (try simp only [lgl, lgg]); (repeat first | refine iteP (by first | assumption) ?_ | refine iteN (by first | assumption) ?_); (constructor <;> first | rfl | trivial)
    · (try simp only [lgl, lgg]); (repeat first | refine iteP (by first | assumption) ?_ | refine iteN (by first | assumption) ?_); (constructor <;> first | rfl | trivial)
  by_cases c2 : (5 : Int32) < a1
  · refine ⟨0, A, V, K, T, A, V, sg_L_treaty_0 ?_, sg_M_treaty_0 ?_, R⟩
    · (try simp only [lgl, lgg]); (repeat first | refine iteP (by first | assumption) ?_ | refine iteN (by first | assumption) ?_); (constructor <;> first | rfl | trivial)
    · (try simp only [lgl, lgg]); (repeat first | refine iteP (by first | assumption) ?_ | refine iteN (by first | assumption) ?_); (constructor <;> first | rfl | trivial)
  by_cases c3 : a2 < 0
  · refine ⟨0, A, V, K, T, A, V, sg_L_treaty_0 ?_, sg_M_treaty_0 ?_, R⟩
    · (try simp only [lgl, lgg]); (repeat first | refine iteP (by first | assumption) ?_ | refine iteN (by first | assumption) ?_); (constructor <;> first | rfl | trivial)
    · (try simp only [lgl, lgg]); (repeat first | refine iteP (by first | assumption) ?_ | refine iteN (by first | assumption) ?_); (constructor <;> first | rfl | trivial)
  by_cases c4 : (5 : Int32) < a2
  · refine ⟨0, A, V, K, T, A, V, sg_L_treaty_0 ?_, sg_M_treaty_0 ?_, R⟩
    · (try simp only [lgl, lgg]); (repeat first | refine iteP (by first | assumption) ?_ | refine iteN (by first | assumption) ?_); (constructor <;> first | rfl | trivial)
    · (try simp only [lgl, lgg]); (repeat first | refine iteP (by first | assumption) ?_ | refine iteN (by first | assumption) ?_); (constructor <;> first | rfl | trivial)
  by_cases c5 : a1 = a2
  · refine ⟨0, A, V, K, T, A, V, sg_L_treaty_0 ?_, sg_M_treaty_0 ?_, R⟩
    · (try simp only [lgl, lgg]); (repeat first | refine iteP (by first | assumption) ?_ | refine iteN (by first | assumption) ?_); (constructor <;> first | rfl | trivial)
    · (try simp only [lgl, lgg]); (repeat first | refine iteP (by first | assumption) ?_ | refine iteN (by first | assumption) ?_); (constructor <;> first | rfl | trivial)
  by_cases c6 : a3 < 0
  · refine ⟨0, A, V, K, T, A, V, sg_L_treaty_0 ?_, sg_M_treaty_0 ?_, R⟩
    · (try simp only [lgl, lgg]); (repeat first | refine iteP (by first | assumption) ?_ | refine iteN (by first | assumption) ?_); (constructor <;> first | rfl | trivial)
    · (try simp only [lgl, lgg]); (repeat first | refine iteP (by first | assumption) ?_ | refine iteN (by first | assumption) ?_); (constructor <;> first | rfl | trivial)
  by_cases c7 : (4 : Int32) < a3
  · refine ⟨0, A, V, K, T, A, V, sg_L_treaty_0 ?_, sg_M_treaty_0 ?_, R⟩
    · (try simp only [lgl, lgg]); (repeat first | refine iteP (by first | assumption) ?_ | refine iteN (by first | assumption) ?_); (constructor <;> first | rfl | trivial)
    · (try simp only [lgl, lgg]); (repeat first | refine iteP (by first | assumption) ?_ | refine iteN (by first | assumption) ?_); (constructor <;> first | rfl | trivial)
  obtain ⟨a, ha, rfl⟩ := i32_nat (m := 5) (by omega) c1 c2
  obtain ⟨b, hb, rfl⟩ := i32_nat (m := 5) (by omega) c3 c4
  obtain ⟨n, hn, rfl⟩ := i32_nat (m := 4) (by omega) c6 c7
  obtain ⟨⟨t, ht, t1, t2⟩, ok⟩ := R.2.2.2.1
  by_cases c8 : t < n
  · have k1 : V 19 1 < nI n := by rw [t1, nI_ltI (by omega) (by omega)]; exact c8
    have k2 : V 36 7 < nI n := by rw [t2, nI_ltI (by omega) (by omega)]; exact c8
    refine ⟨0, A, V, K, T, A, V, sg_L_treaty_0 ?_, sg_M_treaty_0 ?_, R⟩
    · (try simp only [lgl, lgg]); (repeat first | refine iteP (by first | assumption) ?_ | refine iteN (by first | assumption) ?_); (constructor <;> first | rfl | trivial)
    · (try simp only [lgl, lgg]); (repeat first | refine iteP (by first | assumption) ?_ | refine iteN (by first | assumption) ?_); (constructor <;> first | rfl | trivial)
  have hne : a ≠ b := fun e => c5 (by rw [e])
  by_cases d : a < b
  · exact pr_ty1 a b n d (by omega) hn R t ht t1 t2 (by omega)
  · exact pr_ty2 a b n (by omega) (by omega) hn R t ht t1 t2 (by omega)
end
