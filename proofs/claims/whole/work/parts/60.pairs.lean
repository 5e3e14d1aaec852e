theorem upA_swap (A : Nat → Nat → Int32) (a b : Nat) (f g : Nat → Int32) (h : a ≠ b) : upA (upA A a f) b g = upA (upA A b g) a f := by
  funext i
  unfold upA
  cases h1 : Nat.beq i b with
  | false => cases h2 : Nat.beq i a <;> rfl
  | true =>
    cases h2 : Nat.beq i a with
    | false => rfl
    | true => exact absurd ((Nat.eq_of_beq_eq_true h2).symm.trans (Nat.eq_of_beq_eq_true h1)) h
theorem fl_congr {F f : Nat → Int32} {a b : Nat} {x : Int32} (e : ∀ d, d < 1080 → (d < a ∨ b < d) → F d = f d) : ∀ d, d < 1080 → fl F a (b + 1 - a) x d = fl f a (b + 1 - a) x d := by
  intro d hd
  unfold fl
  by_cases c : a ≤ d ∧ d < a + (b + 1 - a)
  · rw [if_pos c, if_pos c]
  · rw [if_neg c, if_neg c]; exact e d hd (by omega)
theorem owa_le (D H C ru : Nat → Nat → Nat) (na : Nat → Nat) (rn : Nat → Nat → Nat) (rl : Nat → Nat → Nat → Nat) {tx : Nat → Nat} (ht : ∀ l, l < 6 → tx l ≤ 60) {f h : Nat → Int32} (hf : ∀ d, d < 1080 → pl (f d)) : ∀ n, n ≤ 3 → owa D H C ru na rn rl tx f h n ≤ 21600 * n
  | 0, _ => Nat.le_refl _
  | n + 1, hn => by
    have h1 := owa_le D H C ru na rn rl ht hf (h := h) n (by omega)
    have h2 := owv_le D H C ru na rn rl ht hf (h := h) n (by omega)
    show owa D H C ru na rn rl tx f h n + owv D H C ru na rn rl tx f h n ≤ 21600 * (n + 1)
    omega
section
variable {L : Nat} {xs : Nat → Int32} {X B V W : Nat → Nat → Int32} {K : Nat → Option Nat} {T : am_H} {ru : Nat → Nat → Nat} {na : Nat → Nat} {rn : Nat → Nat → Nat} {rl : Nat → Nat → Nat → Nat} {tx : Nat → Nat} {f h cc : Nat → Int32}
theorem L_ch_st (hX : ∀ l y, l < 6 → y < 3 → X 29 (l * 3 + y) = nI (nD cc l y) ∧ X 28 (l * 3 + y) = nI (nH h l y)) (e9 : X 9 = h) (JR : JCr X V ru na rn rl) (JT : JCt X tx) (a b k : Nat) (hab : a ≤ b) (hb : b < 1080) (hk : k < 6) (F g : Nat → Int32) (eF : ∀ d, d < 1080 → (d < a ∨ b < d) → F d = f d) (pF : ∀ d, d < 1080 → pl (F d)) : ∃ F' g' : Nat → Int32, (∀ d, d < 1080 → (d < a ∨ b < d) → F' d = f d) ∧ (∀ d, d < 1080 → pl (F' d)) ∧ ∀ (u : Option Int32) (v4 v5 t : Int32) {v : Option Int32} {h' : am_H}, am_fin [(z_L_cheapest, 83, [.ref 1, .int (nI a), .int (nI b), .int t, .int v4, .int v5, .int (nI k), dl u], [.int (nI (owa (nD (fl f a (b + 1 - a) (nI k))) (nH h) (nD cc) ru na rn rl tx (fl f a (b + 1 - a) (nI k)) h 3))])] (hp L xs (upA (upA X 35 F') 27 g') V K T) v h' → am_fin [(z_L_cheapest, 49, [.ref 1, .int (nI a), .int (nI b), .int t, .int v4, .int v5, .int (nI k), dl u], [])] (hp L xs (upA (upA X 35 F) 27 g) V K T) v h' := by
  have k1 := P_put_34_c (L := L) (xs := xs) (A := upA (upA X 35 F) 27 g) (V := V) (K := K) (T := T) (nI k) a b hb (by omega)
  have es : upA (upA (upA X 35 F) 27 g) 35 (fl (upA (upA X 35 F) 27 g 35) a (b + 1 - a) (nI k)) = upA (upA X 35 (fl F a (b + 1 - a) (nI k))) 27 g := by
    rw [upA_swap (upA X 35 F) 27 35 g _ (by decide), upA_upA]; rfl
  rw [es] at k1
  have pF' : ∀ d, d < 1080 → pl (fl F a (b + 1 - a) (nI k) d) := fl_pl (Or.inr ⟨k, hk, rfl⟩) pF
  have eF' := fl_congr (x := nI k) eF
  obtain ⟨gd, d1, d2⟩ := J_countInto_27_34_c (L := L) (xs := xs) (A := upA (upA X 35 (fl F a (b + 1 - a) (nI k))) 27 g) (V := V) (K := K) (T := T) pF'
  rw [upA_upA] at d2
  have J0 : JCd (upA (upA X 35 (fl F a (b + 1 - a) (nI k))) 27 gd) (nD (fl F a (b + 1 - a) (nI k))) (nH h) (nD cc) := by
    intro l y hl hy
    refine ⟨d1 l y hl hy, (hX l y hl hy).2, (hX l y hl hy).1, ?_, ?_, ?_⟩
    · have := nD_le (fl F a (b + 1 - a) (nI k)) l y; omega
    · have := cn_le (fun d => hbit (h d) (nI l)) (360 * y) 360; unfold nH; omega
    · have := nD_le cc l y; omega
  have J : JCd (upA (upA X 35 (fl F a (b + 1 - a) (nI k))) 27 gd) (nD (fl f a (b + 1 - a) (nI k))) (nH h) (nD cc) := JCd_congr J0 (fun l y hl hy => nD_congr eF' l y hy)
  have k3 := L_owedAsIf_c (L := L) (xs := xs) (K := K) (T := T) J (V := V) (ru := ru) (na := na) (rn := rn) (rl := rl) (tx := tx) JR JT pF'
  have k3 : am_fin [(z_L_owedAsIf, 0, [.ref 1, .null, .null], [])] (hp L xs (upA (upA X 35 (fl F a (b + 1 - a) (nI k))) 27 gd) V K T) (some (nI (owa (nD (fl f a (b + 1 - a) (nI k))) (nH h) (nD cc) ru na rn rl tx (fl F a (b + 1 - a) (nI k)) (X 9) 3))) (hp L xs (upA (upA X 35 (fl F a (b + 1 - a) (nI k))) 27 gd) V K T) := k3
  rw [e9, owa_congr eF' 3 (Nat.le_refl _)] at k3
  refine ⟨fl F a (b + 1 - a) (nI k), gd, fun d hd ho => ?_, pF', fun u v4 v5 t {v h'} hc => ?_⟩
  · unfold fl; rw [if_neg (by omega)]; exact eF d hd ho
  · have c : ¬ (6 : Int32) ≤ nI k := by rw [l_6, nI_leI (by omega) (by omega)]; omega
    have kw : am_fin [(z_J_weighPlaces, 0, [.ref 26, .ref 34], [])] (hp L xs (upA (upA X 35 (fl F a (b + 1 - a) (nI k))) 27 g) V K T) none (hp L xs (upA (upA X 35 (fl F a (b + 1 - a) (nI k))) 27 gd) V K T) := sg_J_weighPlaces_34_0 (am_fin.call d2 (sg_J_weighPlaces_34_8r ⟨rfl, rfl⟩))
    cases u
    · exact sg_L_cheapest_49 (iteN c (am_fin.call k1 (sg_L_cheapest_67r (am_fin.call kw (sg_L_cheapest_79r (am_fin.call k3 hc))))))
    · exact sg_L_cheapest_49b (iteN c (am_fin.call k1 (sg_L_cheapest_67rb (am_fin.call kw (sg_L_cheapest_79rb (am_fin.call k3 hc))))))
theorem M_ch_st (e46 : ∀ d, d < 1080 → B 46 d = f d) (e38 : B 38 = h) (e39 : B 39 = cc) (JR : JMr B ru na rn rl) (JT : JMt B tx) (pf : ∀ d, d < 1080 → pl (f d)) (a b k : Nat) (hab : a ≤ b) (hb : b < 1080) (hk : k < 6) (g : Nat → Int32) : ∃ g' : Nat → Int32, ∀ (u : Option Int32) (v4 v5 t : Int32) {v : Option Int32} {h' : am_H}, am_fin [(z_M_cheapest, 58, [.ref 36, .int (nI a), .int (nI b), .int t, .int v4, .int v5, .int (nI k), .int (nI (owa (nD (fl f a (b + 1 - a) (nI k))) (nH h) (nD cc) ru na rn rl tx (fl f a (b + 1 - a) (nI k)) h 3))], [])] (hp L xs (upA (upA B 37 f) 47 g') W K T) v h' → am_fin [(z_M_cheapest, 33, [.ref 36, .int (nI a), .int (nI b), .int t, .int v4, .int v5, .int (nI k), dl u], [])] (hp L xs (upA (upA B 37 f) 47 g) W K T) v h' := by
  have k1 := M_goes_c (L := L) (xs := xs) (A := upA (upA B 37 f) 47 g) (V := W) (K := K) (T := T) (nI k) a b hb (by omega)
  have es : upA (upA (upA B 37 f) 47 g) 37 (fl (upA (upA B 37 f) 47 g 37) a (b + 1 - a) (nI k)) = upA (upA B 37 (fl f a (b + 1 - a) (nI k))) 47 g := by
    rw [upA_swap (upA B 37 f) 47 37 g _ (by decide), upA_upA]; rfl
  rw [es] at k1
  have pF' : ∀ d, d < 1080 → pl (fl f a (b + 1 - a) (nI k) d) := fl_pl (Or.inr ⟨k, hk, rfl⟩) pf
  obtain ⟨gm, k2⟩ := M_owesAll_c (L := L) (xs := xs) (A := upA (upA B 37 (fl f a (b + 1 - a) (nI k))) 47 g) (V := W) (K := K) (T := T) (ru := ru) (na := na) (rn := rn) (rl := rl) (tx := tx) JR JT pF'
  rw [upA_upA] at k2
  have k2 : am_fin [(z_M_owesAll, 0, [.ref 36, .null, .null], [])] (hp L xs (upA (upA B 37 (fl f a (b + 1 - a) (nI k))) 47 g) W K T) (some (nI (owa (nD (fl f a (b + 1 - a) (nI k))) (nH (B 38)) (nD (B 39)) ru na rn rl tx (fl f a (b + 1 - a) (nI k)) (B 38) 3))) (hp L xs (upA (upA B 37 (fl f a (b + 1 - a) (nI k))) 47 gm) W K T) := k2
  rw [e38, e39] at k2
  have k3 := M_takesAside_c (L := L) (xs := xs) (A := upA (upA B 37 (fl f a (b + 1 - a) (nI k))) 47 gm) (V := W) (K := K) (T := T)
  have ef : (fun i => if i < 1080 then upA (upA B 37 (fl f a (b + 1 - a) (nI k))) 47 gm 46 i else upA (upA B 37 (fl f a (b + 1 - a) (nI k))) 47 gm 37 i) = f := by
    funext i
    show (if i < 1080 then B 46 i else fl f a (b + 1 - a) (nI k) i) = f i
    by_cases c : i < 1080
    · rw [if_pos c]; exact e46 i c
    · rw [if_neg c]; unfold fl; rw [if_neg (by omega)]
  rw [ef, upA_swap (upA B 37 (fl f a (b + 1 - a) (nI k))) 47 37 gm f (by decide), upA_upA] at k3
  refine ⟨gm, fun u v4 v5 t {v h'} hc => ?_⟩
  have c : ¬ (6 : Int32) ≤ nI k := by rw [l_6, nI_leI (by omega) (by omega)]; omega
  cases u
  · exact sg_M_cheapest_33 (iteN c (am_fin.call k1 (sg_M_cheapest_48r (am_fin.call k2 (sg_M_cheapest_52r (am_fin.call k3 hc))))))
  · exact sg_M_cheapest_33b (iteN c (am_fin.call k1 (sg_M_cheapest_48rb (am_fin.call k2 (sg_M_cheapest_52rb (am_fin.call k3 hc))))))
def okB (f h cc : Nat → Int32) (ru : Nat → Nat → Nat) (na : Nat → Nat) (rn : Nat → Nat → Nat) (rl : Nat → Nat → Nat → Nat) (tx : Nat → Nat) (B : Nat → Nat → Int32) : Prop := (∀ d, d < 1080 → B 46 d = f d) ∧ B 38 = h ∧ B 39 = cc ∧ JMr B ru na rn rl ∧ JMt B tx
theorem ch_lp (hX : ∀ l y, l < 6 → y < 3 → X 29 (l * 3 + y) = nI (nD cc l y) ∧ X 28 (l * 3 + y) = nI (nH h l y)) (e9 : X 9 = h) (JR : JCr X V ru na rn rl) (JT : JCt X tx) (pf : ∀ d, d < 1080 → pl (f d)) (a b t : Nat) (hab : a ≤ b) (hb : b < 1080) (ht : t < 2) : ∀ (r k p s : Nat) (F g : Nat → Int32), k + r = 6 → p < 6 → s ≤ 64800 → (∀ d, d < 1080 → (d < a ∨ b < d) → F d = f d) → (∀ d, d < 1080 → pl (F d)) → ∃ (v : Int32) (F' g' : Nat → Int32), (∀ u : Option Int32, am_fin [(z_L_cheapest, 49, [.ref 1, .int (nI a), .int (nI b), .int (nI t), .int (nI p), .int (nI s), .int (nI k), dl u], [])] (hp L xs (upA (upA X 35 F) 27 g) V K T) (some v) (hp L xs (upA (upA X 35 F') 27 g') V K T)) ∧ ∀ (B W : Nat → Nat → Int32) (gm : Nat → Int32), okB f h cc ru na rn rl tx B → ∃ gm' : Nat → Int32, ∀ u : Option Int32, am_fin [(z_M_cheapest, 33, [.ref 36, .int (nI a), .int (nI b), .int (nI t), .int (nI p), .int (nI s), .int (nI k), dl u], [])] (hp L xs (upA (upA B 37 f) 47 gm) W K T) (some v) (hp L xs (upA (upA B 37 f) 47 gm') W K T) := by
  intro r
  induction r with
  | zero =>
    intro k p s F g hk hp hs eF pF
    have c : (6 : Int32) ≤ nI k := by rw [l_6, nI_leI (by omega) (by omega)]; omega
    by_cases t0 : t = 0
    · have z := (nI_z (n := t) (by omega)).mpr t0
      refine ⟨nI p, F, g, fun u => ?_, fun B W gm _ => ⟨gm, fun u => ?_⟩⟩
      · cases u
        · exact sg_L_cheapest_49 (iteP c (iteP z ⟨rfl, rfl⟩))
        · exact sg_L_cheapest_49b (iteP c (iteP z ⟨rfl, rfl⟩))
      · cases u
        · exact sg_M_cheapest_33 (iteP c (iteP z ⟨rfl, rfl⟩))
        · exact sg_M_cheapest_33b (iteP c (iteP z ⟨rfl, rfl⟩))
    · have z := mt (nI_z (n := t) (by omega)).mp t0
      refine ⟨nI s, F, g, fun u => ?_, fun B W gm _ => ⟨gm, fun u => ?_⟩⟩
      · cases u
        · exact sg_L_cheapest_49 (iteP c (iteN z ⟨rfl, rfl⟩))
        · exact sg_L_cheapest_49b (iteP c (iteN z ⟨rfl, rfl⟩))
      · cases u
        · exact sg_M_cheapest_33 (iteP c (iteN z ⟨rfl, rfl⟩))
        · exact sg_M_cheapest_33b (iteP c (iteN z ⟨rfl, rfl⟩))
  | succ r ih =>
    intro k p s F g hk hp hs eF pF
    obtain ⟨F1, g1, q1, q2, q3⟩ := L_ch_st (L := L) (xs := xs) (K := K) (T := T) hX e9 JR JT a b k hab hb (by omega) F g eF pF
    have sl : (owa (nD (fl f a (b + 1 - a) (nI k))) (nH h) (nD cc) ru na rn rl tx (fl f a (b + 1 - a) (nI k)) h 3) ≤ 64800 := owa_le _ _ _ _ _ _ _ (fun l hl => (JT l hl).2) (fl_pl (Or.inr ⟨k, by omega, rfl⟩) pf) 3 (Nat.le_refl _)
    by_cases c : s ≤ (owa (nD (fl f a (b + 1 - a) (nI k))) (nH h) (nD cc) ru na rn rl tx (fl f a (b + 1 - a) (nI k)) h 3)
    · obtain ⟨v, F', g', i1, i2⟩ := ih (k + 1) p s F1 g1 (by omega) hp hs q1 q2
      rw [← nI_1] at i1
      refine ⟨v, F', g', fun u => q3 u _ _ _ ?_, fun B W gm ok => ?_⟩
      · cases u
        · exact sg_L_cheapest_83r (iteN (nI_neg1 (by omega)) (iteP (by rw [nI_leI (by omega) (by omega)]; exact c) (i1 (some _))))
        · exact sg_L_cheapest_83rb (iteN (nI_neg1 (by omega)) (iteP (by rw [nI_leI (by omega) (by omega)]; exact c) (i1 (some _))))
      · obtain ⟨gm1, q4⟩ := M_ch_st (L := L) (xs := xs) (W := W) (K := K) (T := T) ok.1 ok.2.1 ok.2.2.1 ok.2.2.2.1 ok.2.2.2.2 pf a b k hab hb (by omega) gm
        obtain ⟨gm', i3⟩ := i2 B W gm1 ok
        rw [← nI_1] at i3
        exact ⟨gm', fun u => q4 u _ _ _ (sg_M_cheapest_58r (iteN (nI_neg1 (by omega)) (iteN (by rw [nI_ltI (by omega) (by omega)]; omega) (i3 (some _)))))⟩
    · obtain ⟨v, F', g', i1, i2⟩ := ih (k + 1) k (owa (nD (fl f a (b + 1 - a) (nI k))) (nH h) (nD cc) ru na rn rl tx (fl f a (b + 1 - a) (nI k)) h 3) F1 g1 (by omega) (by omega) sl q1 q2
      rw [← nI_1] at i1
      refine ⟨v, F', g', fun u => q3 u _ _ _ ?_, fun B W gm ok => ?_⟩
      · cases u
        · exact sg_L_cheapest_83r (iteN (nI_neg1 (by omega)) (iteN (by rw [nI_leI (by omega) (by omega)]; exact c) (i1 (some _))))
        · exact sg_L_cheapest_83rb (iteN (nI_neg1 (by omega)) (iteN (by rw [nI_leI (by omega) (by omega)]; exact c) (i1 (some _))))
      · obtain ⟨gm1, q4⟩ := M_ch_st (L := L) (xs := xs) (W := W) (K := K) (T := T) ok.1 ok.2.1 ok.2.2.1 ok.2.2.2.1 ok.2.2.2.2 pf a b k hab hb (by omega) gm
        obtain ⟨gm', i3⟩ := i2 B W gm1 ok
        rw [← nI_1] at i3
        exact ⟨gm', fun u => q4 u _ _ _ (sg_M_cheapest_58r (iteN (nI_neg1 (by omega)) (iteP (by rw [nI_ltI (by omega) (by omega)]; omega) (i3 (some _)))))⟩
end
section
variable {L : Nat} {xs : Nat → Int32} {A V : Nat → Nat → Int32} {K : Nat → Option Nat} {T : am_H}
theorem pr_cheapest (a1 a2 a3 : Int32) (R : RI A V K T) : PRQ z_L_cheapest z_M_cheapest [.ref 1, .int a1, .int a2, .int a3, .null, .null, .null, .null] [.ref 36, .int a1, .int a2, .int a3, .null, .null, .null, .null] L xs A V K T := by
  by_cases c1 : a1 < 0
  · refine ⟨(-1), A, V, K, T, A, V, sg_L_cheapest_0 ?_, sg_M_cheapest_0 ?_, R⟩
    · (try simp only [lgl, lgg]); (repeat first | refine iteP (by first | assumption) ?_ | refine iteN (by first | assumption) ?_); (constructor <;> first | rfl | trivial)
    · (try simp only [lgl, lgg]); (repeat first | refine iteP (by first | assumption) ?_ | refine iteN (by first | assumption) ?_); (constructor <;> first | rfl | trivial)
  by_cases c2 : (1079 : Int32) < a1
  · refine ⟨(-1), A, V, K, T, A, V, sg_L_cheapest_0 ?_, sg_M_cheapest_0 ?_, R⟩
    · (try simp only [lgl, lgg]); (repeat first | refine iteP (by first | assumption) ?_ | refine iteN (by first | assumption) ?_); (constructor <;> first | rfl | trivial)
    · (try simp only [lgl, lgg]); (repeat first | refine iteP (by first | assumption) ?_ | refine iteN (by first | assumption) ?_); (constructor <;> first | rfl | trivial)
  by_cases c3 : a2 < 0
  · refine ⟨(-1), A, V, K, T, A, V, sg_L_cheapest_0 ?_, sg_M_cheapest_0 ?_, R⟩
    · (try simp only [lgl, lgg]); (repeat first | refine iteP (by first | assumption) ?_ | refine iteN (by first | assumption) ?_); (constructor <;> first | rfl | trivial)
    · (try simp only [lgl, lgg]); (repeat first | refine iteP (by first | assumption | (simp only [Int32.lt_iff_toInt_lt, Int32.le_iff_toInt_le, ← Int32.toInt_inj, Int32.reduceToInt] at *; omega)) ?_ | refine iteN (by first | assumption | (simp only [Int32.lt_iff_toInt_lt, Int32.le_iff_toInt_le, ← Int32.toInt_inj, Int32.reduceToInt] at *; omega)) ?_); (constructor <;> first | rfl | trivial)
  by_cases c4 : (1079 : Int32) < a2
  · refine ⟨(-1), A, V, K, T, A, V, sg_L_cheapest_0 ?_, sg_M_cheapest_0 ?_, R⟩
    · (try simp only [lgl, lgg]); (repeat first | refine iteP (by first | assumption) ?_ | refine iteN (by first | assumption) ?_); (constructor <;> first | rfl | trivial)
    · (try simp only [lgl, lgg]); (repeat first | refine iteP (by first | assumption | (simp only [Int32.lt_iff_toInt_lt, Int32.le_iff_toInt_le, ← Int32.toInt_inj, Int32.reduceToInt] at *; omega)) ?_ | refine iteN (by first | assumption | (simp only [Int32.lt_iff_toInt_lt, Int32.le_iff_toInt_le, ← Int32.toInt_inj, Int32.reduceToInt] at *; omega)) ?_); (constructor <;> first | rfl | trivial)
  by_cases c5 : a2 < a1
  · refine ⟨(-1), A, V, K, T, A, V, sg_L_cheapest_0 ?_, sg_M_cheapest_0 ?_, R⟩
    · (try simp only [lgl, lgg]); (repeat first | refine iteP (by first | assumption) ?_ | refine iteN (by first | assumption) ?_); (constructor <;> first | rfl | trivial)
    · (try simp only [lgl, lgg]); (repeat first | refine iteP (by first | assumption) ?_ | refine iteN (by first | assumption) ?_); (constructor <;> first | rfl | trivial)
  by_cases c6 : a3 < 0
  · refine ⟨(-1), A, V, K, T, A, V, sg_L_cheapest_0 ?_, sg_M_cheapest_0 ?_, R⟩
    · (try simp only [lgl, lgg]); (repeat first | refine iteP (by first | assumption) ?_ | refine iteN (by first | assumption) ?_); (constructor <;> first | rfl | trivial)
    · (try simp only [lgl, lgg]); (repeat first | refine iteP (by first | assumption) ?_ | refine iteN (by first | assumption) ?_); (constructor <;> first | rfl | trivial)
  by_cases c7 : (1 : Int32) < a3
  · refine ⟨(-1), A, V, K, T, A, V, sg_L_cheapest_0 ?_, sg_M_cheapest_0 ?_, R⟩
    · (try simp only [lgl, lgg]); (repeat first | refine iteP (by first | assumption) ?_ | refine iteN (by first | assumption) ?_); (constructor <;> first | rfl | trivial)
    · (try simp only [lgl, lgg]); (repeat first | refine iteP (by first | assumption) ?_ | refine iteN (by first | assumption) ?_); (constructor <;> first | rfl | trivial)
  obtain ⟨a, ha, rfl⟩ := i32_nat (m := 1079) (by omega) c1 c2
  obtain ⟨b, hb, rfl⟩ := i32_nat (m := 1079) (by omega) c3 c4
  have hab : a ≤ b := by rw [nI_ltI (by omega) (by omega)] at c5; omega
  obtain ⟨t, ht, rfl⟩ := i32_nat (m := 1) (by omega) c6 c7
  obtain ⟨r1, r2, r3, r4, r5, r6, r7, r8⟩ := id R.1
  have pF := cpy4 (A 4) (A 35)
  generalize hF0 : va_cpy (A 4) (A 35) (0 : Int32).toNatClampNeg (0 : Int32).toNatClampNeg (1080 : Int32).toNatClampNeg = F0 at pF
  have pl0 : ∀ d, d < 1080 → pl (F0 d) := fun d hd => by rw [pF d hd]; exact r5 d hd
  obtain ⟨gc, gh, h1, h2⟩ := J_weighHomes_c (L := L) (xs := xs) (A := upA A 35 F0) (V := V) (K := K) (T := T) r6 r8
  generalize hX0 : upA (upA (upA A 35 F0) 29 gc) 28 gh = X at h2
  have x9 : X 9 = A 9 := by rw [← hX0]; rfl
  have x35 : X 35 = F0 := by rw [← hX0]; rfl
  have hX : ∀ l y, l < 6 → y < 3 → X 29 (l * 3 + y) = nI (nD (A 6) l y) ∧ X 28 (l * 3 + y) = nI (nH (A 9) l y) := by rw [← hX0]; exact h1
  have JR : JCr X V (ruA A) (naV V) (rnA A) (rlA A) := by rw [← hX0]; exact JCr_of R.2.2.1
  have JT : JCt X (txA A) := by rw [← hX0]; exact JCt_of R.2.2.1
  have eF : ∀ d, d < 1080 → (d < a ∨ b < d) → X 35 d = A 4 d := fun d hd _ => by rw [x35]; exact pF d hd
  have pX : ∀ d, d < 1080 → pl (X 35 d) := by rw [x35]; exact pl0
  obtain ⟨F1, g1, q1, q2, q3⟩ := L_ch_st (L := L) (xs := xs) (K := K) (T := T) hX x9 JR JT a b 0 hab (by omega) (by omega) (X 35) (X 27) eF pX
  have sl : (owa (nD (fl (A 4) a (b + 1 - a) (nI 0))) (nH (A 9)) (nD (A 6)) (ruA A) (naV V) (rnA A) (rlA A) (txA A) (fl (A 4) a (b + 1 - a) (nI 0)) (A 9) 3) ≤ 64800 := owa_le _ _ _ _ _ _ _ (fun l hl => (JT l hl).2) (fl_pl (Or.inr ⟨0, by omega, rfl⟩) r5) 3 (Nat.le_refl _)
  obtain ⟨v, F', g', i1, i2⟩ := ch_lp (L := L) (xs := xs) (K := K) (T := T) (X := X) (V := V) (f := A 4) hX x9 JR JT r5 a b t hab (by omega) (by omega) 5 1 0 (owa (nD (fl (A 4) a (b + 1 - a) (nI 0))) (nH (A 9)) (nD (A 6)) (ruA A) (naV V) (rnA A) (rlA A) (txA A) (fl (A 4) a (b + 1 - a) (nI 0)) (A 9) 3) F1 g1 (by omega) (by omega) sl q1 q2
  have e37 : upA (upA X 35 F') 27 g' 37 = A 4 := by rw [← hX0]; exact r1
  have m1 := M_laysAside_c (L := L) (xs := xs) (A := upA (upA X 35 F') 27 g') (V := V) (K := K) (T := T)
  rw [e37] at m1
  generalize hB : upA (upA (upA X 35 F') 27 g') 46 (fun i => if i < 1080 then A 4 i else upA (upA X 35 F') 27 g' 46 i) = B at m1
  have b46 : ∀ d, d < 1080 → B 46 d = A 4 d := by
    intro d hd
    rw [← hB]
    show (if d < 1080 then A 4 d else upA (upA X 35 F') 27 g' 46 d) = A 4 d
    rw [if_pos hd]
  have b37 : B 37 = A 4 := by rw [← hB]; exact e37
  have okb : okB (A 4) (A 9) (A 6) (ruA A) (naV V) (rnA A) (rlA A) (txA A) B := ⟨b46, by rw [← hB, ← hX0]; exact r2, by rw [← hB, ← hX0]; exact r3, by rw [← hB, ← hX0]; exact JMr_of R.2.2.1, by rw [← hB, ← hX0]; exact JMt_of R.2.2.1⟩
  obtain ⟨gm1, q4⟩ := M_ch_st (L := L) (xs := xs) (W := V) (K := K) (T := T) (f := A 4) okb.1 okb.2.1 okb.2.2.1 okb.2.2.2.1 okb.2.2.2.2 r5 a b 0 hab (by omega) (by omega) (B 47)
  obtain ⟨gm', i3⟩ := i2 B V gm1 okb
  have l0 := q3 none 0 (-1) (nI t) (sg_L_cheapest_83r (iteP rfl (i1 (some _))))
  rw [upA_self, upA_self] at l0
  have l1 := q4 none (-1) 0 (nI t) (sg_M_cheapest_58r (iteP rfl (i3 (some _))))
  rw [show upA (upA B 37 (A 4)) 47 (B 47) = B from by rw [← b37, upA_self, upA_self]] at l1
  refine ⟨v, upA (upA X 35 F') 27 g', V, K, T, upA (upA B 37 (A 4)) 47 gm', V, sg_L_cheapest_0 ?_, sg_M_cheapest_0 ?_, ?_⟩
  · (try simp only [lgl, lgg]); (repeat first | refine iteP (by first | assumption) ?_ | refine iteN (by first | assumption) ?_)
    rw [hF0]
    exact am_fin.call h2 (sg_L_cheapest_40r l0)
  · (try simp only [lgl, lgg]); (repeat first | refine iteP (by first | assumption) ?_ | refine iteN (by first | assumption) ?_)
    exact am_fin.call m1 (sg_M_cheapest_30r l1)
  · rw [← hB, ← hX0]
    exact ⟨⟨rfl, R.1.2⟩, R.2⟩
end
