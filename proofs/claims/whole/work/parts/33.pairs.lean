theorem ty_alt {A : Nat → Nat → Int32} (h : RTy A) {a b : Nat} (hab : a < b) (hb : b < 6) : (A 17 (6 * a + b) = -1 ∧ A 41 (78 + 5 * (6 * a + b)) = 0) ∨ (¬ A 17 (6 * a + b) = -1 ∧ ¬ A 41 (78 + 5 * (6 * a + b)) = 0) := by
  rcases (h a b hab hb).2 with p | ⟨n, h1, h2, h3, -⟩
  · exact Or.inl p
  · refine Or.inr ⟨fun z => ?_, fun z => ?_⟩
    · have h7 : (-1 : Int32) &&& 7 = nI 7 := by decide
      have h2 : A 17 (6 * a + b) &&& 7 = nI n := h2
      rw [z, h7] at h2
      have := (nI_eq (a := 7) (b := n) (by omega) (by omega)).mp h2
      omega
    · have := (nI_eq (a := n + 1) (b := 0) (by omega) (by omega)).mp (h3.symm.trans z)
      omega
theorem RI_ty {A V : Nat → Nat → Int32} {K : Nat → Option Nat} {T : am_H} (R : RI A V K T) {a b : Nat} (hab : a < b) (hb : b < 6) {f g : Nat → Int32} {p : Int32} (hf : ∀ k, k ≠ 6 * a + b → k ≠ 6 * b + a → f k = A 17 k) (e1 : f (6 * a + b) = p) (e2 : f (6 * b + a) = p) (hg : ∀ k, ¬ (78 + 5 * (6 * a + b) ≤ k ∧ k < 78 + 5 * (6 * a + b) + 5) → g k = A 41 k) (hn : (p = -1 ∧ g (78 + 5 * (6 * a + b)) = 0) ∨ Rrow p g (78 + 5 * (6 * a + b)) 1) : RI (upA (upA A 17 f) 41 g) V K T := by
  obtain ⟨k1, k2, k3⟩ := R.2.2.1
  have t : RTy (upA (upA A 17 f) 41 g) := by
    intro a' b' hab' hb'
    show f (6 * a' + b') = f (6 * b' + a') ∧ ((f (6 * a' + b') = -1 ∧ g (78 + 5 * (6 * a' + b')) = 0) ∨ Rrow (f (6 * a' + b')) g (78 + 5 * (6 * a' + b')) 1)
    by_cases he : a' = a ∧ b' = b
    · obtain ⟨rfl, rfl⟩ := he
      rw [e1, e2]
      exact ⟨rfl, hn⟩
    · rw [hf (6 * a' + b') (by omega) (by omega), hf (6 * b' + a') (by omega) (by omega)]
      have g3 : ∀ j, 78 + 5 * (6 * a' + b') ≤ j → j < 78 + 5 * (6 * a' + b') + 5 → g j = A 41 j := fun j p1 p2 => hg j (by omega)
      refine ⟨(k2 a' b' hab' hb').1, ?_⟩
      rcases (k2 a' b' hab' hb').2 with ⟨p1, p2⟩ | q
      · exact Or.inl ⟨p1, (g3 _ (by omega) (by omega)).trans p2⟩
      · exact Or.inr (Rrow_congr q g3)
  exact RI_rulesV R ⟨fun l hl => RL_congr (k1 l hl) (fun s hs => rfl) (fun j hj => hg (13 * l + j) (by omega)), t, k3⟩ rfl rfl rfl rfl rfl rfl rfl rfl rfl rfl rfl rfl rfl rfl rfl rfl rfl rfl rfl
section
variable {L : Nat} {xs : Nat → Int32} {A V : Nat → Nat → Int32} {K : Nat → Option Nat} {T : am_H}
theorem pr_without (a1 a2 : Int32) (R : RI A V K T) : PRQ z_L_without z_M_without [.ref 1, .int a1, .int a2] [.ref 36, .int a1, .int a2] L xs A V K T := by
  by_cases c1 : a1 < 0
  · refine ⟨0, A, V, K, T, A, V, sg_L_without_0 ?_, sg_M_without_0 ?_, R⟩
    · (try simp only [lgl, lgg]); (repeat first | refine iteP (by first | assumption) ?_ | refine iteN (by first | assumption) ?_); (constructor <;> first | rfl | trivial)
    · (try simp only [lgl, lgg]); (repeat first | refine iteP (by first | assumption) ?_ | refine iteN (by first | assumption) ?_); (constructor <;> first | rfl | trivial)
  by_cases c2 : (5 : Int32) < a1
  · refine ⟨0, A, V, K, T, A, V, sg_L_without_0 ?_, sg_M_without_0 ?_, R⟩
    · (try simp only [lgl, lgg]); (repeat first | refine iteP (by first | assumption) ?_ | refine iteN (by first | assumption) ?_); (constructor <;> first | rfl | trivial)
    · (try simp only [lgl, lgg]); (repeat first | refine iteP (by first | assumption) ?_ | refine iteN (by first | assumption) ?_); (constructor <;> first | rfl | trivial)
  by_cases c3 : a2 < 0
  · refine ⟨0, A, V, K, T, A, V, sg_L_without_0 ?_, sg_M_without_0 ?_, R⟩
    · (try simp only [lgl, lgg]); (repeat first | refine iteP (by first | assumption) ?_ | refine iteN (by first | assumption) ?_); (constructor <;> first | rfl | trivial)
    · (try simp only [lgl, lgg]); (repeat first | refine iteP (by first | assumption) ?_ | refine iteN (by first | assumption) ?_); (constructor <;> first | rfl | trivial)
  by_cases c4 : (5 : Int32) < a2
  · refine ⟨0, A, V, K, T, A, V, sg_L_without_0 ?_, sg_M_without_0 ?_, R⟩
    · (try simp only [lgl, lgg]); (repeat first | refine iteP (by first | assumption) ?_ | refine iteN (by first | assumption) ?_); (constructor <;> first | rfl | trivial)
    · (try simp only [lgl, lgg]); (repeat first | refine iteP (by first | assumption) ?_ | refine iteN (by first | assumption) ?_); (constructor <;> first | rfl | trivial)
  by_cases c5 : a1 = a2
  · refine ⟨0, A, V, K, T, A, V, sg_L_without_0 ?_, sg_M_without_0 ?_, R⟩
    · (try simp only [lgl, lgg]); (repeat first | refine iteP (by first | assumption) ?_ | refine iteN (by first | assumption) ?_); (constructor <;> first | rfl | trivial)
    · (try simp only [lgl, lgg]); (repeat first | refine iteP (by first | assumption) ?_ | refine iteN (by first | assumption) ?_); (constructor <;> first | rfl | trivial)
  obtain ⟨a, ha, rfl⟩ := i32_nat (m := 5) (by omega) c1 c2
  obtain ⟨b, hb, rfl⟩ := i32_nat (m := 5) (by omega) c3 c4
  have hne : a ≠ b := fun z => c5 (by rw [z])
  have ei : nI a * 6 + nI b = nI (6 * a + b) := by rw [show nI a * 6 = nI (a * 6) from nI_mul a 6, nI_add, Nat.mul_comm]
  have ej : nI b * 6 + nI a = nI (6 * b + a) := by rw [show nI b * 6 = nI (b * 6) from nI_mul b 6, nI_add, Nat.mul_comm]
  have ci : (nI a * 6 + nI b).toNatClampNeg = 6 * a + b := by rw [ei]; exact nI_clamp (by omega)
  have cj : (nI b * 6 + nI a).toNatClampNeg = 6 * b + a := by rw [ej]; exact nI_clamp (by omega)
  have ib : ¬ (nI a * 6 + nI b < 0 ∨ 36 ≤ (nI a * 6 + nI b).toNatClampNeg) := by rw [ei]; exact nI_inb (by omega) (by omega)
  have ib' : ¬ (nI b * 6 + nI a < 0 ∨ 36 ≤ (nI b * 6 + nI a).toNatClampNeg) := by rw [ej]; exact nI_inb (by omega) (by omega)
  have fi : upd (upd (A 17) (6 * a + b) (-1)) (6 * b + a) (-1) (6 * a + b) = -1 := by unfold upd; rw [if_neg (by omega), if_pos rfl]
  have fj : upd (upd (A 17) (6 * a + b) (-1)) (6 * b + a) (-1) (6 * b + a) = -1 := by unfold upd; rw [if_pos rfl]
  have ffx : ∀ k, k ≠ 6 * a + b → k ≠ 6 * b + a → upd (upd (A 17) (6 * a + b) (-1)) (6 * b + a) (-1) k = A 17 k := by
    intro k n1 n2
    unfold upd
    rw [if_neg n2, if_neg n1]
  by_cases hab : a < b
  · have o1 : ¬ nI b ≤ nI a := mt (nI_leI (by omega) (by omega)).mp (by omega)
    have o2 : nI a ≤ nI b := (nI_leI (by omega) (by omega)).mpr (by omega)
    have k : 78 + 5 * (6 * nI a + nI b) = nI (78 + 5 * (6 * a + b)) := by rw [show (6 : Int32) * nI a = nI (6 * a) from nI_mul 6 a, nI_add, show (5 : Int32) * nI (6 * a + b) = nI (5 * (6 * a + b)) from nI_mul 5 _]; exact nI_add 78 _
    have im : ¬ (78 + 5 * (6 * nI a + nI b) < 0 ∨ 258 ≤ (78 + 5 * (6 * nI a + nI b)).toNatClampNeg) := by rw [k]; exact nI_inb (by omega) (by omega)
    have cm : (78 + 5 * (6 * nI a + nI b)).toNatClampNeg = 78 + 5 * (6 * a + b) := by rw [k]; exact nI_clamp (by omega)
    have sy := (R.2.2.1.2.1 a b (by omega) (by omega)).1
    rcases ty_alt R.2.2.1.2.1 (a := a) (b := b) (by omega) (by omega) with ⟨g1, g2⟩ | ⟨g1, g2⟩
    · refine ⟨0, A, V, K, T, A, V, sg_L_without_0 ?_, sg_M_without_0 ?_, R⟩
      · (try simp only [lgl, lgg]); (repeat first | refine iteP (by first | assumption) ?_ | refine iteN (by first | assumption) ?_)
        exact ⟨ib, iteP (by rw [ci]; exact g1) ⟨(by first | rfl | trivial), (by first | rfl | trivial)⟩⟩
      · (try simp only [lgl, lgg]); (repeat first | refine iteP (by first | assumption) ?_ | refine iteN (by first | assumption) ?_)
        exact ⟨im, iteP (by rw [cm]; exact g2) ⟨(by first | rfl | trivial), (by first | rfl | trivial)⟩⟩
    · refine ⟨1, upA A 17 (upd (upd (A 17) (6 * a + b) (-1)) (6 * b + a) (-1)), V, K, T, upA (upA A 17 (upd (upd (A 17) (6 * a + b) (-1)) (6 * b + a) (-1))) 41 (upd (upA A 17 (upd (upd (A 17) (6 * a + b) (-1)) (6 * b + a) (-1)) 41) (78 + 5 * (6 * a + b)) 0), V, sg_L_without_0 ?_, sg_M_without_0 ?_, RI_ty R (a := a) (b := b) (p := -1) (by omega) (by omega) (fun k n1 n2 => ffx k n1 n2) fi fj (fun k hk => upd_no _ _ (by omega)) (Or.inl ⟨rfl, by unfold upd; rw [if_pos rfl]⟩)⟩
      · (try simp only [lgl, lgg]); (repeat first | refine iteP (by first | assumption) ?_ | refine iteN (by first | assumption) ?_)
        exact ⟨ib, iteN (by rw [ci]; exact g1) ⟨ib, ib', (by first | rfl | trivial), by rw [ci, cj, upA_upA, upA_same]⟩⟩
      · (try simp only [lgl, lgg]); (repeat first | refine iteP (by first | assumption) ?_ | refine iteN (by first | assumption) ?_)
        refine ⟨im, iteN (by rw [cm]; exact g2) ?_⟩
        (try simp only [lgl, lgg]); (repeat first | refine iteP (by first | assumption) ?_ | refine iteN (by first | assumption) ?_)
        exact ⟨im, (by first | rfl | trivial), by rw [cm]⟩
  · have o1 : nI b ≤ nI a := (nI_leI (by omega) (by omega)).mpr (by omega)
    have o2 : ¬ nI a ≤ nI b := mt (nI_leI (by omega) (by omega)).mp (by omega)
    have k : 78 + 5 * (6 * nI b + nI a) = nI (78 + 5 * (6 * b + a)) := by rw [show (6 : Int32) * nI b = nI (6 * b) from nI_mul 6 b, nI_add, show (5 : Int32) * nI (6 * b + a) = nI (5 * (6 * b + a)) from nI_mul 5 _]; exact nI_add 78 _
    have im : ¬ (78 + 5 * (6 * nI b + nI a) < 0 ∨ 258 ≤ (78 + 5 * (6 * nI b + nI a)).toNatClampNeg) := by rw [k]; exact nI_inb (by omega) (by omega)
    have cm : (78 + 5 * (6 * nI b + nI a)).toNatClampNeg = 78 + 5 * (6 * b + a) := by rw [k]; exact nI_clamp (by omega)
    have sy := (R.2.2.1.2.1 b a (by omega) (by omega)).1
    rcases ty_alt R.2.2.1.2.1 (a := b) (b := a) (by omega) (by omega) with ⟨g1, g2⟩ | ⟨g1, g2⟩
    · refine ⟨0, A, V, K, T, A, V, sg_L_without_0 ?_, sg_M_without_0 ?_, R⟩
      · (try simp only [lgl, lgg]); (repeat first | refine iteP (by first | assumption) ?_ | refine iteN (by first | assumption) ?_)
        exact ⟨ib, iteP (by rw [ci]; exact (sy.symm.trans g1)) ⟨(by first | rfl | trivial), (by first | rfl | trivial)⟩⟩
      · (try simp only [lgl, lgg]); (repeat first | refine iteP (by first | assumption) ?_ | refine iteN (by first | assumption) ?_)
        exact ⟨im, iteP (by rw [cm]; exact g2) ⟨(by first | rfl | trivial), (by first | rfl | trivial)⟩⟩
    · refine ⟨1, upA A 17 (upd (upd (A 17) (6 * a + b) (-1)) (6 * b + a) (-1)), V, K, T, upA (upA A 17 (upd (upd (A 17) (6 * a + b) (-1)) (6 * b + a) (-1))) 41 (upd (upA A 17 (upd (upd (A 17) (6 * a + b) (-1)) (6 * b + a) (-1)) 41) (78 + 5 * (6 * b + a)) 0), V, sg_L_without_0 ?_, sg_M_without_0 ?_, RI_ty R (a := b) (b := a) (p := -1) (by omega) (by omega) (fun k n1 n2 => ffx k n2 n1) fj fi (fun k hk => upd_no _ _ (by omega)) (Or.inl ⟨rfl, by unfold upd; rw [if_pos rfl]⟩)⟩
      · (try simp only [lgl, lgg]); (repeat first | refine iteP (by first | assumption) ?_ | refine iteN (by first | assumption) ?_)
        exact ⟨ib, iteN (by rw [ci]; exact (fun z => g1 (sy.trans z))) ⟨ib, ib', (by first | rfl | trivial), by rw [ci, cj, upA_upA, upA_same]⟩⟩
      · (try simp only [lgl, lgg]); (repeat first | refine iteP (by first | assumption) ?_ | refine iteN (by first | assumption) ?_)
        refine ⟨im, iteN (by rw [cm]; exact g2) ?_⟩
        (try simp only [lgl, lgg]); (repeat first | refine iteP (by first | assumption) ?_ | refine iteN (by first | assumption) ?_)
        exact ⟨im, (by first | rfl | trivial), by rw [cm]⟩
end
