theorem lgA (x y : Int64) : (lg_cmp x y < 0) ↔ x.toInt < y.toInt := by
  rw [← Int64.lt_iff_toInt_lt]
  unfold lg_cmp
  split
  · rename_i h1
    refine ⟨fun h => absurd h (by decide), fun h => absurd h1 (lg_lt_not h)⟩
  · rename_i h1
    split
    · rename_i h2
      refine ⟨fun h => absurd h (by decide), fun h => absurd h (by rw [h2]; exact Int64.lt_irrefl)⟩
    · rename_i h2
      refine ⟨fun _ => ?_, fun _ => by decide⟩
      rw [gt_iff_lt, Int64.lt_iff_toInt_lt] at h1
      rw [Int64.lt_iff_toInt_lt]
      rw [← Int64.toInt_inj] at h2
      omega
theorem lgB (x y : Int64) : (0 < lg_cmp x y) ↔ y.toInt < x.toInt := by
  rw [← Int64.lt_iff_toInt_lt]
  unfold lg_cmp
  split
  · rename_i h1
    exact ⟨fun _ => h1, fun _ => by decide⟩
  · rename_i h1
    refine ⟨fun h => ?_, fun h => absurd h h1⟩
    split at h
    · exact absurd h (by decide)
    · exact absurd h (by decide)
theorem i64_add (x y : Int32) : (x.toInt64 + y.toInt64).toInt = x.toInt + y.toInt := by
  rw [Int64.toInt_add, Int32.toInt_toInt64, Int32.toInt_toInt64]
  have h1 := x.toInt_lt
  have h2 := x.le_toInt
  have h3 := y.toInt_lt
  have h4 := y.le_toInt
  exact Int.bmod_eq_of_le (by omega) (by omega)
theorem i64_lit (n : Nat) (h : n < 2 ^ 31) : (nI n).toInt64.toInt = (n : Int) := by rw [Int32.toInt_toInt64, nI_toInt h]
theorem nI_neg_toInt {a : Nat} (h : a < 100000) : (-nI a).toInt = -(a : Int) := by
  rw [Int32.toInt_neg, nI_toInt (by omega)]
  exact Int.bmod_eq_of_le (by omega) (by omega)
theorem nI_sub_toInt {a b : Nat} (ha : a < 100000) (hb : b < 100000) : (nI a - nI b).toInt = (a : Int) - (b : Int) := by
  rw [Int32.toInt_sub, nI_toInt (by omega), nI_toInt (by omega)]
  exact Int.bmod_eq_of_le (n := (a : Int) - (b : Int)) (by omega) (by omega)
/-- days moved: from a on, n of them, to t on -/
def sld (f g : Nat → Int32) (a t n : Nat) : Nat → Int32 := fun i => if t ≤ i ∧ i < t + n then f (a + (i - t)) else g i
theorem sld_0 (f g : Nat → Int32) (a t : Nat) : sld f g a t 0 = g := by funext i; unfold sld; rw [if_neg (by omega)]
theorem sld_s (f g : Nat → Int32) (a t n : Nat) : upd (sld f g a t n) (t + n) (f (a + n)) = sld f g a t (n + 1) := by
  funext i
  unfold upd sld
  by_cases e : i = t + n
  · rw [if_pos e, if_pos (by omega), show a + (i - t) = a + n by omega]
  · rw [if_neg e]
    by_cases c : t ≤ i ∧ i < t + n
    · rw [if_pos c, if_pos (by omega)]
    · rw [if_neg c, if_neg (by omega)]
section
variable {L : Nat} {xs : Nat → Int32} {A V : Nat → Nat → Int32} {K : Nat → Option Nat} {T : am_H}
theorem P_becomeLike_c : am_fin [(z_P_becomeLike, 0, [.ref 3, .ref 34, .null, .null], [])] (hp L xs A V K T) (some (nI (cn (fun d => ¬ A 4 d = A 35 d) 0 1080))) (hp L xs (upA A 4 (fun i => if i < 1080 then A 35 i else A 4 i)) V K T) := by
  have lp : am_fin [(z_P_becomeLike, 4, [.ref 3, .ref 34, .int (nI (cn (fun d => ¬ A 4 d = A 35 d) 0 0)), .int (nI 0)], [])] (hp L xs (upA A 4 (fun i => if i < 0 then A 35 i else A 4 i)) V K T) (some (nI (cn (fun d => ¬ A 4 d = A 35 d) 0 1080))) (hp L xs (upA A 4 (fun i => if i < 1080 then A 35 i else A 4 i)) V K T) := by
    refine am_iter (fun k => ([(z_P_becomeLike, 4, [.ref 3, .ref 34, .int (nI (cn (fun d => ¬ A 4 d = A 35 d) 0 k)), .int (nI k)], [])], hp L xs (upA A 4 (fun i => if i < k then A 35 i else A 4 i)) V K T)) 1080 (fun k hk ih => ?_) ?_
    · dsimp only at ih ⊢
      have ib : ¬ (nI k < 0 ∨ 1080 ≤ (nI k).toNatClampNeg) := nI_inb (by omega) (by omega)
      have ck : (nI k).toNatClampNeg = k := nI_clamp (by omega)
      have e4 : upA A 4 (fun i => if i < k then A 35 i else A 4 i) 4 k = A 4 k := by
        show (if k < k then A 35 k else A 4 k) = A 4 k
        rw [if_neg (by omega)]
      have e35 : upA A 4 (fun i => if i < k then A 35 i else A 4 i) 35 = A 35 := rfl
      refine sg_P_becomeLike_3_34_4 (iteN (l1080 hk) ⟨ib, ib, ?_⟩)
      rw [ck, e4, e35]
      rw [ck] at ib
      rw [cn_s] at ih
      by_cases c : A 4 k = A 35 k
      · rw [if_neg (fun z => z c), Nat.add_zero, ← nI_1, ← cp_s] at ih
        rw [show A 35 k = (fun i => if i < k then A 35 i else A 4 i) k by show _ = (if k < k then A 35 k else A 4 k); rw [if_neg (by omega)]; exact c.symm, upd_id] at ih
        exact iteP c ih
      · rw [if_pos c, ← nI_1, ← nI_1, ← cp_s] at ih
        refine iteN c ⟨ib, ib, ?_⟩
        rw [upA_same, upA_upA]
        exact ih
    · dsimp only
      exact sg_P_becomeLike_3_34_4 (iteP (g1080 rfl) ⟨rfl, rfl⟩)
  rw [cp_0, upA_self] at lp
  exact sg_P_becomeLike_3_34_0 lp
theorem M_sl_lp1 (x : Int32) (f : Nat → Int32) (a b : Nat) (hb : b < 1080) {v : Option Int32} {h' : am_H} (cont : am_fin [(z_M_slide, 70, [.ref 36, .int (nI a), .int (nI b), .int x, .int (nI a), .null], [])] (hp L xs (upA A 37 (fl f a (b + 1 - a) (-1))) V K T) v h') : ∀ r k, a + k + r = b + 1 → am_fin [(z_M_slide, 47, [.ref 36, .int (nI a), .int (nI b), .int x, .int (nI (a + k)), .null], [])] (hp L xs (upA A 37 (fl f a k (-1))) V K T) v h' := by
  intro r
  induction r with
  | zero =>
    intro k hk
    rw [show k = b + 1 - a by omega]
    exact sg_M_slide_47 (iteP (by rw [nI_ltI (by omega) (by omega)]; omega) cont)
  | succ r ih =>
    intro k hk
    have i1 := ih (k + 1) (by omega)
    rw [← Nat.add_assoc, ← nI_1, ← fl_s] at i1
    refine sg_M_slide_47 (iteN (by rw [nI_ltI (by omega) (by omega)]; omega) ⟨nI_inb (by omega) (by omega), ?_⟩)
    rw [nI_clamp (by omega), upA_same, upA_upA]
    exact i1
theorem M_sl_lp2 (x : Int32) (f g : Nat → Int32) (a b t : Nat) (hb : b < 1080) (ht : t + (b + 1 - a) ≤ 1080) (ex : nI a + x = nI t) (e46 : ∀ d, d < 1080 → A 46 d = f d) {v : Option Int32} {h' : am_H} (cont : am_fin [(z_M_slide, 104, [.ref 36, .int (nI a), .int (nI b), .int x, .int 0, .int 0], [])] (hp L xs (upA A 37 (sld f g a t (b + 1 - a))) V K T) v h') : ∀ r k, a + k + r = b + 1 → am_fin [(z_M_slide, 70, [.ref 36, .int (nI a), .int (nI b), .int x, .int (nI (a + k)), .null], [])] (hp L xs (upA A 37 (sld f g a t k)) V K T) v h' := by
  intro r
  induction r with
  | zero =>
    intro k hk
    rw [show k = b + 1 - a by omega]
    exact sg_M_slide_70 (iteP (by rw [nI_ltI (by omega) (by omega)]; omega) cont)
  | succ r ih =>
    intro k hk
    have i1 := ih (k + 1) (by omega)
    rw [← Nat.add_assoc, ← nI_1, ← sld_s] at i1
    have e : nI (a + k) + x = nI (t + k) := by
      rw [← nI_add, ← nI_add, ← ex, Int32.add_assoc, Int32.add_comm (nI k) x, ← Int32.add_assoc]
    refine sg_M_slide_70 (iteN (by rw [nI_ltI (by omega) (by omega)]; omega) ⟨nI_inb (by omega) (by omega), by rw [e]; exact nI_inb (by omega) (by omega), ?_⟩)
    rw [e, nI_clamp (by omega), nI_clamp (by omega), upA_same, upA_upA, show upA A 37 (sld f g a t k) 46 = A 46 from rfl, e46 (a + k) (by omega)]
    exact i1
theorem M_sl_lp3 (x y z : Int32) : am_fin [(z_M_slide, 104, [.ref 36, .int x, .int y, .int z, .int 0, .int 0], [])] (hp L xs A V K T) (some (nI (cn (fun d => ¬ A 37 d = A 46 d) 0 1080))) (hp L xs A V K T) := by
  refine am_iter (fun k => ([(z_M_slide, 104, [.ref 36, .int x, .int y, .int z, .int (nI (cn (fun d => ¬ A 37 d = A 46 d) 0 k)), .int (nI k)], [])], hp L xs A V K T)) 1080 (fun k hk ih => ?_) ?_
  · dsimp only at ih ⊢
    refine sg_M_slide_104 (iteN (l1080 hk) ⟨nI_inb (by omega) (by omega), nI_inb (by omega) (by omega), ?_⟩)
    rw [cn_s] at ih
    by_cases c : A 37 k = A 46 k
    · rw [if_neg (fun z => z c)] at ih
      refine iteP (by rw [nI_clamp (by omega)]; exact c) ?_
      rw [Int32.add_zero, nI_1]; exact ih
    · rw [if_pos c] at ih
      refine iteN (by rw [nI_clamp (by omega)]; exact c) ?_
      rw [nI_1, nI_1]; exact ih
  · dsimp only
    exact sg_M_slide_104 (iteP (g1080 rfl) ⟨rfl, rfl⟩)
theorem pr_slide (a1 a2 a3 : Int32) (R : RI A V K T) : PRQ z_L_slide z_M_slide [.ref 1, .int a1, .int a2, .int a3] [.ref 36, .int a1, .int a2, .int a3, .null, .null] L xs A V K T := by
  by_cases c1 : a1 < 0
  · refine ⟨(-1), A, V, K, T, A, V, sg_L_slide_0 ?_, sg_M_slide_0 ?_, R⟩
    · (try simp only [lgl, lgg]); (repeat first | refine iteP (by first | assumption) ?_ | refine iteN (by first | assumption) ?_); (constructor <;> first | rfl | trivial)
    · (try simp only [lgl, lgg]); (repeat first | refine iteP (by first | assumption) ?_ | refine iteN (by first | assumption) ?_); (constructor <;> first | rfl | trivial)
  by_cases c2 : (1079 : Int32) < a1
  · refine ⟨(-1), A, V, K, T, A, V, sg_L_slide_0 ?_, sg_M_slide_0 ?_, R⟩
    · (try simp only [lgl, lgg]); (repeat first | refine iteP (by first | assumption) ?_ | refine iteN (by first | assumption) ?_); (constructor <;> first | rfl | trivial)
    · (try simp only [lgl, lgg]); (repeat first | refine iteP (by first | assumption) ?_ | refine iteN (by first | assumption) ?_); (constructor <;> first | rfl | trivial)
  by_cases c3 : a2 < 0
  · refine ⟨(-1), A, V, K, T, A, V, sg_L_slide_0 ?_, sg_M_slide_0 ?_, R⟩
    · (try simp only [lgl, lgg]); (repeat first | refine iteP (by first | assumption) ?_ | refine iteN (by first | assumption) ?_); (constructor <;> first | rfl | trivial)
    · (try simp only [lgl, lgg]); (repeat first | refine iteP (by first | assumption | (simp only [Int32.lt_iff_toInt_lt, Int32.le_iff_toInt_le, ← Int32.toInt_inj, Int32.reduceToInt] at *; omega)) ?_ | refine iteN (by first | assumption | (simp only [Int32.lt_iff_toInt_lt, Int32.le_iff_toInt_le, ← Int32.toInt_inj, Int32.reduceToInt] at *; omega)) ?_); (constructor <;> first | rfl | trivial)
  by_cases c4 : (1079 : Int32) < a2
  · refine ⟨(-1), A, V, K, T, A, V, sg_L_slide_0 ?_, sg_M_slide_0 ?_, R⟩
    · (try simp only [lgl, lgg]); (repeat first | refine iteP (by first | assumption) ?_ | refine iteN (by first | assumption) ?_); (constructor <;> first | rfl | trivial)
    · (try simp only [lgl, lgg]); (repeat first | refine iteP (by first | assumption | (simp only [Int32.lt_iff_toInt_lt, Int32.le_iff_toInt_le, ← Int32.toInt_inj, Int32.reduceToInt] at *; omega)) ?_ | refine iteN (by first | assumption | (simp only [Int32.lt_iff_toInt_lt, Int32.le_iff_toInt_le, ← Int32.toInt_inj, Int32.reduceToInt] at *; omega)) ?_); (constructor <;> first | rfl | trivial)
  by_cases c5 : a2 < a1
  · refine ⟨(-1), A, V, K, T, A, V, sg_L_slide_0 ?_, sg_M_slide_0 ?_, R⟩
    · (try simp only [lgl, lgg]); (repeat first | refine iteP (by first | assumption) ?_ | refine iteN (by first | assumption) ?_); (constructor <;> first | rfl | trivial)
    · (try simp only [lgl, lgg]); (repeat first | refine iteP (by first | assumption) ?_ | refine iteN (by first | assumption) ?_); (constructor <;> first | rfl | trivial)
  obtain ⟨a, ha, rfl⟩ := i32_nat (m := 1079) (by omega) c1 c2
  obtain ⟨b, hb, rfl⟩ := i32_nat (m := 1079) (by omega) c3 c4
  have hab : a ≤ b := by rw [nI_ltI (by omega) (by omega)] at c5; omega
  have y1 := a3.toInt_lt
  have y2 := a3.le_toInt
  have d1 : (nI a).toInt64.toInt = (a : Int) := i64_lit a (by omega)
  have s1 : (nI a).toInt64.toInt + a3.toInt64.toInt = (a : Int) + a3.toInt := by rw [d1, Int32.toInt_toInt64]
  have p1 : (lg_cmp ((nI a).toInt64 + a3.toInt64) ((0 : Int32).toInt64) < 0) ↔ (a : Int) + a3.toInt < 0 := by rw [lgA, i64_add, nI_toInt (by omega)]; exact Iff.rfl
  have p2 : (0 < lg_cmp ((nI a).toInt64 + a3.toInt64) ((1079 : Int32).toInt64)) ↔ 1079 < (a : Int) + a3.toInt := by rw [lgB, i64_add, nI_toInt (by omega)]; exact Iff.rfl
  have p3 : (lg_cmp ((nI b).toInt64 + a3.toInt64) ((0 : Int32).toInt64) < 0) ↔ (b : Int) + a3.toInt < 0 := by rw [lgA, i64_add, nI_toInt (by omega)]; exact Iff.rfl
  have p4 : (0 < lg_cmp ((nI b).toInt64 + a3.toInt64) ((1079 : Int32).toInt64)) ↔ 1079 < (b : Int) + a3.toInt := by rw [lgB, i64_add, nI_toInt (by omega)]; exact Iff.rfl
  have k1 : (a3 < -nI a) ↔ (a : Int) + a3.toInt < 0 := by rw [Int32.lt_iff_toInt_lt, nI_neg_toInt (by omega)]; omega
  have k2 : ((1079 : Int32) - nI b < a3) ↔ 1079 < (b : Int) + a3.toInt := by rw [l_1079, Int32.lt_iff_toInt_lt, nI_sub_toInt (by omega) (by omega)]; omega
  have g1 : ¬ (lg_cmp (nI a).toInt64 (0 : Int32).toInt64 < 0) := by rw [lgl]; exact c1
  have g2 : ¬ (0 < lg_cmp (nI a).toInt64 (1079 : Int32).toInt64) := by rw [lgg]; exact c2
  have g3 : ¬ (lg_cmp (nI b).toInt64 (nI a).toInt64 < 0) := by rw [lgl]; exact c5
  have g4 : ¬ (0 < lg_cmp (nI b).toInt64 (1079 : Int32).toInt64) := by rw [lgg]; exact c4
  by_cases c6 : (a : Int) + a3.toInt < 0
  · exact ⟨-1, A, V, K, T, A, V, sg_L_slide_0 (iteN c1 (iteN c2 (iteN c3 (iteN c4 (iteN c5 (iteP (k1.mpr c6) ⟨rfl, rfl⟩)))))), sg_M_slide_0 (iteN g1 (iteN g2 (iteN g3 (iteN g4 (iteP (p1.mpr c6) ⟨rfl, rfl⟩))))), R⟩
  by_cases c7 : 1079 < (b : Int) + a3.toInt
  · refine ⟨-1, A, V, K, T, A, V, sg_L_slide_0 (iteN c1 (iteN c2 (iteN c3 (iteN c4 (iteN c5 (iteN (mt k1.mp c6) (iteP (k2.mpr c7) ⟨rfl, rfl⟩))))))), sg_M_slide_0 (iteN g1 (iteN g2 (iteN g3 (iteN g4 (iteN (mt p1.mp c6) ?_))))), R⟩
    by_cases c8 : 1079 < (a : Int) + a3.toInt
    · exact iteP (p2.mpr c8) ⟨rfl, rfl⟩
    · exact iteN (mt p2.mp c8) (iteN (mt p3.mp (by omega)) (iteP (p4.mpr c7) ⟨rfl, rfl⟩))
  obtain ⟨t, ht⟩ : ∃ t : Nat, (t : Int) = (a : Int) + a3.toInt := ⟨((a : Int) + a3.toInt).toNat, by omega⟩
  have et : nI a + a3 = nI t := by
    apply Int32.toInt_inj.mp
    rw [Int32.toInt_add, nI_toInt (by omega), nI_toInt (by omega), ht]
    exact Int.bmod_eq_of_le (by omega) (by omega)
  have en : nI b - nI a + 1 = nI (b + 1 - a) := by rw [nI_sub hab, nI_1]; congr 1; omega
  obtain ⟨r1, r2, r3, r4, r5, r6, r7, r8⟩ := id R.1
  have pF := cpy4 (A 4) (A 35)
  have hz := fun d hd => (R.2.2.2.2.1 d hd).1
  generalize hF0 : va_cpy (A 4) (A 35) (0 : Int32).toNatClampNeg (0 : Int32).toNatClampNeg (1080 : Int32).toNatClampNeg = F0 at pF
  have q1 := P_put_34_c (L := L) (xs := xs) (A := upA A 35 F0) (V := V) (K := K) (T := T) (-1) a b (by omega) (by omega)
  rw [upA_upA, show upA A 35 F0 35 = F0 from rfl] at q1
  have q2 := P_becomeLike_c (L := L) (xs := xs) (A := upA A 35 (va_cpy (A 4) (fl F0 a (b + 1 - a) (-1)) a t (b + 1 - a))) (V := V) (K := K) (T := T)
  have eG : ∀ d, d < 1080 → va_cpy (A 4) (fl F0 a (b + 1 - a) (-1)) a t (b + 1 - a) d = sld (A 4) (fl (A 4) a (b + 1 - a) (-1)) a t (b + 1 - a) d := by
    intro d hd
    show (if t ≤ d ∧ d < t + (b + 1 - a) then A 4 (a + (d - t)) else fl F0 a (b + 1 - a) (-1) d) = (if t ≤ d ∧ d < t + (b + 1 - a) then A 4 (a + (d - t)) else fl (A 4) a (b + 1 - a) (-1) d)
    by_cases c : t ≤ d ∧ d < t + (b + 1 - a)
    · rw [if_pos c, if_pos c]
    · rw [if_neg c, if_neg c]; unfold fl; rw [pF d hd]
  have eH : (fun i => if i < 1080 then upA A 35 (va_cpy (A 4) (fl F0 a (b + 1 - a) (-1)) a t (b + 1 - a)) 35 i else upA A 35 (va_cpy (A 4) (fl F0 a (b + 1 - a) (-1)) a t (b + 1 - a)) 4 i) = sld (A 4) (fl (A 4) a (b + 1 - a) (-1)) a t (b + 1 - a) := by
    funext i
    show (if i < 1080 then va_cpy (A 4) (fl F0 a (b + 1 - a) (-1)) a t (b + 1 - a) i else A 4 i) = _
    by_cases c : i < 1080
    · rw [if_pos c]; exact eG i c
    · rw [if_neg c]; unfold sld fl; rw [if_neg (by omega), if_neg (by omega)]
  rw [eH] at q2
  have ev : cn (fun d => ¬ A 4 d = va_cpy (A 4) (fl F0 a (b + 1 - a) (-1)) a t (b + 1 - a) d) 0 1080 = cn (fun d => ¬ sld (A 4) (fl (A 4) a (b + 1 - a) (-1)) a t (b + 1 - a) d = A 4 d) 0 1080 := cn_congr (fun i h1 h2 => by rw [eG i (by omega)]; exact ⟨fun z y => z y.symm, fun z y => z y.symm⟩)
  have q2 : am_fin [(z_P_becomeLike, 0, [.ref 3, .ref 34, .null, .null], [])] (hp L xs (upA A 35 (va_cpy (A 4) (fl F0 a (b + 1 - a) (-1)) a t (b + 1 - a))) V K T) (some (nI (cn (fun d => ¬ A 4 d = va_cpy (A 4) (fl F0 a (b + 1 - a) (-1)) a t (b + 1 - a) d) 0 1080))) (hp L xs (upA (upA A 35 (va_cpy (A 4) (fl F0 a (b + 1 - a) (-1)) a t (b + 1 - a))) 4 (sld (A 4) (fl (A 4) a (b + 1 - a) (-1)) a t (b + 1 - a))) V K T) := q2
  rw [ev] at q2
  generalize hA1 : upA (upA A 35 (va_cpy (A 4) (fl F0 a (b + 1 - a) (-1)) a t (b + 1 - a))) 4 (sld (A 4) (fl (A 4) a (b + 1 - a) (-1)) a t (b + 1 - a)) = A1 at q2
  have e37 : A1 37 = A 4 := by rw [← hA1]; exact r1
  have m1 := M_laysAside_c (L := L) (xs := xs) (A := A1) (V := V) (K := K) (T := T)
  rw [e37] at m1
  generalize hB : upA A1 46 (fun i => if i < 1080 then A 4 i else A1 46 i) = B at m1
  have b46 : ∀ d, d < 1080 → B 46 d = A 4 d := by
    intro d hd
    rw [← hB]
    show (if d < 1080 then A 4 d else A1 46 d) = A 4 d
    rw [if_pos hd]
  have b37 : B 37 = A 4 := by rw [← hB]; exact e37
  have m4 := M_sl_lp3 (L := L) (xs := xs) (A := upA B 37 (sld (A 4) (fl (A 4) a (b + 1 - a) (-1)) a t (b + 1 - a))) (V := V) (K := K) (T := T) (nI a) (nI b) a3
  have ew : cn (fun d => ¬ sld (A 4) (fl (A 4) a (b + 1 - a) (-1)) a t (b + 1 - a) d = B 46 d) 0 1080 = cn (fun d => ¬ sld (A 4) (fl (A 4) a (b + 1 - a) (-1)) a t (b + 1 - a) d = A 4 d) 0 1080 := cn_congr (fun i h1 h2 => by rw [b46 i (by omega)])
  have m4 : am_fin [(z_M_slide, 104, [.ref 36, .int (nI a), .int (nI b), .int a3, .int 0, .int 0], [])] (hp L xs (upA B 37 (sld (A 4) (fl (A 4) a (b + 1 - a) (-1)) a t (b + 1 - a))) V K T) (some (nI (cn (fun d => ¬ sld (A 4) (fl (A 4) a (b + 1 - a) (-1)) a t (b + 1 - a) d = B 46 d) 0 1080))) (hp L xs (upA B 37 (sld (A 4) (fl (A 4) a (b + 1 - a) (-1)) a t (b + 1 - a))) V K T) := m4
  rw [ew] at m4
  have m3 := M_sl_lp2 (L := L) (xs := xs) (A := B) (V := V) (K := K) (T := T) a3 (A 4) (fl (A 4) a (b + 1 - a) (-1)) a b t (by omega) (by omega) et b46 m4 (b + 1 - a) 0 (by omega)
  rw [sld_0, Nat.add_zero] at m3
  have m2 := M_sl_lp1 (L := L) (xs := xs) (A := B) (V := V) (K := K) (T := T) a3 (A 4) a b (by omega) m3 (b + 1 - a) 0 (by omega)
  rw [fl_0, Nat.add_zero, ← b37, upA_self, b37] at m2
  refine ⟨nI (cn (fun d => ¬ sld (A 4) (fl (A 4) a (b + 1 - a) (-1)) a t (b + 1 - a) d = A 4 d) 0 1080), A1, V, K, T, upA B 37 (sld (A 4) (fl (A 4) a (b + 1 - a) (-1)) a t (b + 1 - a)), V, sg_L_slide_0 ?_, sg_M_slide_0 ?_, ?_⟩
  · refine iteN c1 (iteN c2 (iteN c3 (iteN c4 (iteN c5 (iteN (mt k1.mp c6) (iteN (mt k2.mp c7) ?_))))))
    rw [hF0]
    refine am_fin.call q1 (sg_L_slide_48r ?_)
    rw [et, en]
    refine ⟨?_, ?_⟩
    · rw [nI_clamp (by omega), nI_clamp (by omega), nI_clamp (by omega)]
      intro z
      rcases z with z | z | z | z | z
      · exact nI_lt0 (by omega) z
      · exact nI_lt0 (by omega) z
      · exact nI_lt0 (by omega) z
      · omega
      · omega
    · rw [nI_clamp (by omega), nI_clamp (by omega), nI_clamp (by omega), upA_upA]
      exact am_fin.call q2 (sg_L_slide_92r ⟨rfl, rfl⟩)
  · refine iteN g1 (iteN g2 (iteN g3 (iteN g4 (iteN (mt p1.mp c6) (iteN (mt p2.mp (by omega)) (iteN (mt p3.mp (by omega)) (iteN (mt p4.mp c7) (am_fin.call m1 (sg_M_slide_44r ?_)))))))))
    exact m2
  · rw [← hB, ← hA1]
    refine ⟨⟨rfl, r2, r3, r4, fun d hd => ?_, r6, r7, r8⟩, R.2.1, R.2.2.1, R.2.2.2.1, fun d hd => ⟨?_, (R.2.2.2.2.1 d hd).2⟩, R.2.2.2.2.2⟩
    · show pl (sld (A 4) (fl (A 4) a (b + 1 - a) (-1)) a t (b + 1 - a) d)
      unfold sld
      by_cases c : t ≤ d ∧ d < t + (b + 1 - a)
      · rw [if_pos c]; exact r5 _ (by omega)
      · rw [if_neg c]; exact fl_pl (Or.inl rfl) r5 d hd
    · show sld (A 4) (fl (A 4) a (b + 1 - a) (-1)) a t (b + 1 - a) d = 0
      unfold sld fl
      rw [if_neg (by omega), if_neg (by omega)]
      exact hz d hd
end
