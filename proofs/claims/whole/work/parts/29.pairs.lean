theorem hb64 : ∀ n, n < 64 → ∀ l, l < 6 → ∀ k, k < 6 → (hbit (nI (n ^^^ 2 ^ l)) (nI k) ↔ (if k = l then ¬ hbit (nI n) (nI k) else hbit (nI n) (nI k))) := by decide +kernel
theorem RI_rulesV {A A' V V' : Nat → Nat → Int32} {K : Nat → Option Nat} {T : am_H} (R : RI A V K T) (h : Rr A' V') (e4 : A' 4 = A 4) (e6 : A' 6 = A 6) (e8 : A' 8 = A 8) (e9 : A' 9 = A 9) (e37 : A' 37 = A 37) (e38 : A' 38 = A 38) (e39 : A' 39 = A 39) (e40 : A' 40 = A 40) (e20 : A' 20 = A 20) (e42 : A' 42 = A 42) (e50 : A' 50 = A 50) (e51 : A' 51 = A 51) (e52 : A' 52 = A 52)
    (v1 : V' 36 5 = V 36 5) (v2 : V' 2 5 = V 2 5) (v3 : V' 19 1 = V 19 1) (v4 : V' 36 7 = V 36 7) (v5 : V' 1 2 = V 1 2) (v6 : V' 36 23 = V 36 23) : RI A' V' K T := by
  obtain ⟨q1, q2, q3, q4, q5, q6⟩ := R
  refine ⟨?_, ?_, h, ?_, ?_, ?_⟩
  · unfold Rd; rw [e4, e6, e8, e9, e37, e38, e39, e40]; exact q1
  · unfold Rp; rw [v1, v2]; exact q2
  · unfold Rt; rw [e20, e42, v3, v4]; exact q4
  · unfold Rz; rw [e4, e6, e8, e9]; exact q5
  · obtain ⟨c, al, B, pd, nt, h1, h2, h3, h4, h5, h6, h7⟩ := q6
    refine ⟨c, al, B, pd, nt, h1, h2, v5.trans h3, v6.trans h4, h5, h6, fun k hk => ?_⟩
    unfold Rk1; rw [e50, e51, e52]; exact h7 k hk
theorem b2_congr {p q : Prop} [Decidable p] [Decidable q] (h : p ↔ q) : b2 p = b2 q := by
  unfold b2
  by_cases hp : p
  · rw [if_pos hp, if_pos (h.mp hp)]
  · rw [if_neg hp, if_neg (fun z => hp (h.mpr z))]
section
variable {L : Nat} {xs : Nat → Int32} {A V : Nat → Nat → Int32} {K : Nat → Option Nat} {T : am_H}
theorem RI_nation (R : RI A V K T) (l : Nat) (hl : l < 6) (x : Int32) (hx : x = b2 (¬ hbit (V 10 7) (nI l))) : RI (upA A 41 (upd (A 41) (13 * l + 6) x)) (upV V 10 7 ((V 10 7) ^^^ ((1 : Int32) <<< (nI l &&& 31)))) K T := by
  have RR := R.2.2.1
  obtain ⟨n, hn, en⟩ := RR.2.2
  obtain ⟨x1, x2⟩ := xor64 n hn l hl
  have ev : upV V 10 7 ((V 10 7) ^^^ ((1 : Int32) <<< (nI l &&& 31))) 10 7 = nI (n ^^^ 2 ^ l) := by rw [upV_same, en]; exact x1
  refine RI_rulesV R (Rr_gen RR l rfl (fun i hi => upd_no _ _ (by omega)) hl (fun l' hl' hne => ⟨rfl, rfl, fun _ _ => rfl, rfl, rfl, rfl, ?_⟩) ⟨_, x2, ev⟩ ?_) rfl rfl rfl rfl rfl rfl rfl rfl rfl rfl rfl rfl rfl rfl rfl rfl rfl rfl rfl
  · refine b2_congr ?_
    rw [ev, en]
    have := hb64 n hn l hl l' hl'
    rw [if_neg hne] at this
    exact this
  · obtain ⟨h1, h2, h3, h4, h5, h6, h7, h8, h9, h10⟩ := RR.1 l hl
    have gj : ∀ j, j ≠ 6 → upd (A 41) (13 * l + 6) x (13 * l + j) = A 41 (13 * l + j) := fun j hj => upd_no _ _ (by omega)
    show RL _ _ _ _ _ _ _ (fun j => upd (A 41) (13 * l + 6) x (13 * l + j))
    refine ⟨(gj 0 (by omega)).trans h1, (gj 1 (by omega)).trans h2, fun s hs => ⟨(gj (2 + s) (by omega)).trans (h3 s hs).1, (h3 s hs).2⟩, (gj 5 (by omega)).trans h4, ?_, (gj 7 (by omega)).trans h6, Rrow_congr h7 (fun j p1 p2 => gj j (by omega)), h8, h9, h10⟩
    show upd (A 41) (13 * l + 6) x (13 * l + 6) = _
    rw [upd_at, hx]
    refine b2_congr ?_
    rw [ev, en]
    have := hb64 n hn l hl l hl
    rw [if_pos rfl] at this
    exact this.symm
theorem pr_nation (a1 a2 : Int32) (ha : a2 = 0 ∨ a2 = 1) (R : RI A V K T) : PRQ z_L_nation z_M_nation [.ref 1, .int a1, .int a2] [.ref 36, .int a1, .int a2] L xs A V K T := by
  by_cases c1 : a1 < 0
  · refine ⟨0, A, V, K, T, A, V, sg_L_nation_0 ?_, sg_M_nation_0 ?_, R⟩
    · (try simp only [lgl, lgg]); (repeat first | refine iteP (by first | assumption) ?_ | refine iteN (by first | assumption) ?_); (constructor <;> first | rfl | trivial)
    · (try simp only [lgl, lgg]); (repeat first | refine iteP (by first | assumption) ?_ | refine iteN (by first | assumption) ?_); (constructor <;> first | rfl | trivial)
  by_cases c2 : (5 : Int32) < a1
  · refine ⟨0, A, V, K, T, A, V, sg_L_nation_0 ?_, sg_M_nation_0 ?_, R⟩
    · (try simp only [lgl, lgg]); (repeat first | refine iteP (by first | assumption) ?_ | refine iteN (by first | assumption) ?_); (constructor <;> first | rfl | trivial)
    · (try simp only [lgl, lgg]); (repeat first | refine iteP (by first | assumption) ?_ | refine iteN (by first | assumption) ?_); (constructor <;> first | rfl | trivial)
  obtain ⟨l, hl, rfl⟩ := i32_nat (m := 5) (by omega) c1 c2
  have hl6 : l < 6 := by omega
  have h5 : A 41 (13 * l + 6) = b2 (hbit (V 10 7) (nI l)) := (R.2.2.1.1 l hl6).2.2.2.2.1
  have ex : (13 : Int32) * nI l + 6 = nI (13 * l + 6) := e13 l 6
  have im : ¬ ((13 : Int32) * nI l + 6 < 0 ∨ 258 ≤ ((13 : Int32) * nI l + 6).toNatClampNeg) := by rw [ex]; exact nI_inb (by omega) (by omega)
  have cm : ((13 : Int32) * nI l + 6).toNatClampNeg = 13 * l + 6 := by rw [ex]; exact nI_clamp (by omega)
  by_cases hb : hbit (V 10 7) (nI l)
  · have g6 : A 41 ((13 : Int32) * nI l + 6).toNatClampNeg = 1 := by rw [cm, h5]; unfold b2; rw [if_pos hb]
    have g0 : ¬ A 41 ((13 : Int32) * nI l + 6).toNatClampNeg = 0 := by rw [g6]; decide
    rcases ha with rfl | rfl
    · refine ⟨1, A, upV V 10 7 ((V 10 7) ^^^ ((1 : Int32) <<< (nI l &&& 31))), K, T, upA A 41 (upd (A 41) (13 * l + 6) 0), upV V 10 7 ((V 10 7) ^^^ ((1 : Int32) <<< (nI l &&& 31))), sg_L_nation_0 ?_, sg_M_nation_0 ?_, RI_nation R l hl6 0 (by unfold b2; rw [if_neg (fun z => z hb)])⟩
      · exact iteN c1 (iteN c2 (iteP hb (iteN (by decide) ⟨rfl, rfl⟩)))
      · exact iteN (mt (lgl _ _).mp c1) (iteN (mt (lgg _ _).mp c2) ⟨im, iteP rfl (iteN g0 (iteP rfl ⟨im, rfl, by rw [cm]⟩))⟩)
    · refine ⟨0, A, V, K, T, A, V, sg_L_nation_0 ?_, sg_M_nation_0 ?_, R⟩
      · exact iteN c1 (iteN c2 (iteP hb (iteP rfl ⟨rfl, rfl⟩)))
      · exact iteN (mt (lgl _ _).mp c1) (iteN (mt (lgg _ _).mp c2) ⟨im, iteN (by decide) (iteP g6 ⟨rfl, rfl⟩)⟩)
  · have g6 : A 41 ((13 : Int32) * nI l + 6).toNatClampNeg = 0 := by rw [cm, h5]; unfold b2; rw [if_neg hb]
    have g0 : ¬ A 41 ((13 : Int32) * nI l + 6).toNatClampNeg = 1 := by rw [g6]; decide
    rcases ha with rfl | rfl
    · refine ⟨0, A, V, K, T, A, V, sg_L_nation_0 ?_, sg_M_nation_0 ?_, R⟩
      · exact iteN c1 (iteN c2 (iteN hb (iteP rfl ⟨rfl, rfl⟩)))
      · exact iteN (mt (lgl _ _).mp c1) (iteN (mt (lgg _ _).mp c2) ⟨im, iteP rfl (iteP g6 ⟨rfl, rfl⟩)⟩)
    · refine ⟨1, A, upV V 10 7 ((V 10 7) ^^^ ((1 : Int32) <<< (nI l &&& 31))), K, T, upA A 41 (upd (A 41) (13 * l + 6) 1), upV V 10 7 ((V 10 7) ^^^ ((1 : Int32) <<< (nI l &&& 31))), sg_L_nation_0 ?_, sg_M_nation_0 ?_, RI_nation R l hl6 1 (by unfold b2; rw [if_pos hb])⟩
      · exact iteN c1 (iteN c2 (iteN hb (iteN (by decide) ⟨rfl, rfl⟩)))
      · exact iteN (mt (lgl _ _).mp c1) (iteN (mt (lgg _ _).mp c2) ⟨im, iteN (by decide) (iteN g0 (iteN (by decide) ⟨im, rfl, by rw [cm]⟩))⟩)
end
