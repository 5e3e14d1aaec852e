def sgn (b : Nat → Nat) (n p : Nat) : Int32 := if p < n then nI (b p) else -1
section
variable {L : Nat} {xs : Nat → Int32} {A V : Nat → Nat → Int32} {K : Nat → Option Nat} {T : am_H}
theorem D_rd_lp (b : Nat → Nat) (ok : oc20 A b) (n : Nat) (hn : n ≤ 320) (st F : Int32) (least s : Nat) (hl : least < 100000) : ∀ r k p v, k + r = 4 → p = s + k → p ≤ n → v < 10 ^ k → am_fin [(z_D_readDay, 10, [.ref 21, .int (nI least), .int (nI s), .int (nI v), .int (nI k)], [])] (hp L xs A (rv V (nI n) st (nI p) F) K T) (some (nI (rdp b n r p v).2)) (hp L xs A (rv V (nI n) st (nI (rdp b n r p v).1) (nf F (dFv b n least s (rdp b n r p v).1 (rdp b n r p v).2))) K T) := by
  intro r
  induction r with
  | zero =>
    intro k p v hk hs hpn hv
    have : k = 4 := by omega
    subst this
    exact D_rd_end b ok n hn st F least s p v 4 (by omega) hpn hs (by omega) hl (Or.inl rfl)
  | succ r ih =>
    intro k p v hk hs hpn hv
    have hv4 : v < 10000 := Nat.lt_of_lt_of_le hv (Nat.le_trans (Nat.pow_le_pow_right (by omega) (by omega : k ≤ 4)) (by decide))
    by_cases d : dgt b n p
    · rw [rdp_t d]
      obtain ⟨o1, o2⟩ := ok p (by omega)
      have i1 := ih (k + 1) (p + 1) (v * 10 + (b p - 48)) (by omega) (by omega) (by omega) (by rw [Nat.pow_succ]; omega)
      rw [← nI_1, ← nI_1] at i1
      have c4 : ¬ (4 : Int32) ≤ nI k := by rw [l_4, nI_leI (by omega) (by omega)]; omega
      have cn : ¬ nI n ≤ nI p := by rw [nI_leI (by omega) (by omega)]; omega
      have ib : ¬ (nI p < 0 ∨ 320 ≤ p) := fun z => z.elim (nI_lt0 (by omega)) (by omega)
      have c48 : ¬ nI (b p) < 48 := by rw [show (48 : Int32) = nI 48 from rfl, nI_ltI (by omega) (by omega)]; omega
      have c57 : ¬ (57 : Int32) < nI (b p) := by rw [show (57 : Int32) = nI 57 from rfl, nI_ltI (by omega) (by omega)]; omega
      have ev : nI v * 10 + nI (b p) - 48 = nI (v * 10 + (b p - 48)) := by rw [l_10, show (48 : Int32) = nI 48 from rfl, nI_mul, nI_add, nI_sub (by omega)]; congr 1; omega
      have ck : (nI p).toNatClampNeg = p := nI_clamp (by omega)
      refine sg_D_readDay_10 ?_
      simp only [rv4, rv6, rv7, rvu6, rvu7, ck, o1]
      (repeat first | refine iteP (by assumption) ?_ | refine iteN (by assumption) ?_ | refine And.intro (by assumption) ?_)
      rw [ev]
      exact i1
    · rw [rdp_f d]
      exact D_rd_end b ok n hn st F least s p v k (by omega) hpn hs (by omega) hl (Or.inr d)
theorem D_readDay_c (b : Nat → Nat) (ok : oc20 A b) (n : Nat) (hn : n ≤ 320) (st F : Int32) (least p : Nat) (hl : least < 100000) (hpn : p ≤ n) : am_fin [(z_D_readDay, 0, [.ref 21, .int (nI least), .null, .null, .null], [])] (hp L xs A (rv V (nI n) st (nI p) F) K T) (some (nI (rdp b n 4 p 0).2)) (hp L xs A (rv V (nI n) st (nI (rdp b n 4 p 0).1) (nf F (dFv b n least p (rdp b n 4 p 0).1 (rdp b n 4 p 0).2))) K T) := by
  refine sg_D_readDay_0 ?_
  rw [rv6]
  exact D_rd_lp b ok n hn st F least p hl 4 0 p 0 (by omega) (by omega) hpn (by decide)
theorem M_see_lp (b : Nat → Nat) (ok : oc42 A b) (n : Nat) (hn : n ≤ 320) (F z : Int32) : ∀ r p, p + r = n → am_fin [(z_M_see, 0, [.ref 36], [])] (hp L xs A (mv V (nI n) (nI p) F z) K T) (some (sgn b n (sk b n r p))) (hp L xs A (mv V (nI n) (nI (sk b n r p)) F z) K T) := by
  intro r
  induction r with
  | zero =>
    intro p hp
    have c : nI n ≤ nI p := by rw [nI_leI (by omega) (by omega)]; omega
    refine sg_M_see_0 ?_
    rw [mv8, mv9]
    refine iteP c (iteP c ⟨?_, rfl⟩)
    unfold sk sgn
    rw [if_neg (by omega)]
  | succ r ih =>
    intro p hp
    have i1 := ih (p + 1) (by omega)
    rw [← nI_1] at i1
    obtain ⟨o1, o2⟩ := ok p (by omega)
    have c : ¬ nI n ≤ nI p := by rw [nI_leI (by omega) (by omega)]; omega
    have ib : ¬ (nI p < 0 ∨ 320 ≤ p) := fun z => z.elim (nI_lt0 (by omega)) (by omega)
    refine sg_M_see_0 ?_
    rw [mv8, mv9, nI_clamp (by omega), o1, mvu8]
    refine iteN c ⟨ib, ?_⟩
    by_cases d : b p = 32
    · rw [show sk b n (r + 1) p = sk b n r (p + 1) by show (if p < n ∧ b p = 32 then _ else _) = _; rw [if_pos ⟨by omega, d⟩]]
      exact iteP ((by8b (b p) o2).1.mpr d) i1
    · rw [show sk b n (r + 1) p = p by show (if p < n ∧ b p = 32 then _ else _) = _; rw [if_neg (fun z => d z.2)]]
      refine iteN (mt (by8b (b p) o2).1.mp d) (iteN c ⟨ib, ?_, rfl⟩)
      unfold sgn
      rw [if_pos (by omega), sc8 (b p) o2]
theorem M_see_c (b : Nat → Nat) (ok : oc42 A b) (n : Nat) (hn : n ≤ 320) (F z : Int32) (p : Nat) (hpn : p ≤ n) : am_fin [(z_M_see, 0, [.ref 36], [])] (hp L xs A (mv V (nI n) (nI p) F z) K T) (some (sgn b n (skp b n p))) (hp L xs A (mv V (nI n) (nI (skp b n p)) F z) K T) := M_see_lp b ok n hn F z (n - p) p (by omega)
theorem M_rd_end (b : Nat → Nat) (ok : oc42 A b) (n : Nat) (hn : n ≤ 320) (least s p v k : Nat) (w : Int32) (hk : k ≤ 4) (hk0 : 1 ≤ k) (hpn : p ≤ n) (hs : p = s + k) (hv : v < 100000) (hl : least < 100000) (he : k = 4 ∨ ¬ dgt b n p) : am_fin [(z_M_readsDay, 32, [.ref 36, .int (nI least), .int w, .int (nI s)], [])] (hp L xs A (mv V (nI n) (nI p) 0 (nI v)) K T) (some (b2 (dFv b n least s p v = 0))) (hp L xs A (mv V (nI n) (nI p) (dFv b n least s p v) (nI v)) K T) := by
  have cn : (nI n ≤ nI p) ↔ n ≤ p := nI_leI (by omega) (by omega)
  have cl : (nI v < nI least) ↔ v < least := nI_ltI (by omega) (by omega)
  have cr : ((1079 : Int32) < nI v) ↔ 1079 < v := by rw [l_1079, nI_ltI (by omega) (by omega)]
  have es : nI p - nI s = nI k := by rw [nI_sub (by omega)]; congr 1; omega
  have c4 : (nI k = 4) ↔ k = 4 := by rw [l_4, nI_eq (by omega) (by omega)]
  have ck : (nI p).toNatClampNeg = p := nI_clamp (by omega)
  have h5 : ¬ p = s := by omega
  have F0 : (0 : Int32) = 0 := rfl
  refine sg_M_readsDay_32 ?_
  simp only [lgl, lgg, mv8, mv9, mv10, mv11, mvu8, mvu10, mvu11, ck, cn, cl, cr, es, c4]
  by_cases dg : dgt b n p
  · have h4 : k = 4 := by
      rcases he with h | h
      · exact h
      · exact absurd dg h
    obtain ⟨o1, o2⟩ := ok p (by omega)
    have ib : ¬ (nI p < 0 ∨ 320 ≤ p) := fun z => z.elim (nI_lt0 (by omega)) (by omega)
    have h1 : ¬ n ≤ p := by omega
    have h6 : ¬ A 42 p < 48 := by rw [o1]; exact mt (by8b (b p) o2).2.2.1.mp (by omega)
    have h7 : ¬ (57 : Int32) < A 42 p := by rw [o1]; exact mt (by8b (b p) o2).2.2.2.1.mp (by omega)
    have e : dFv b n least s p v = (-1000) * 1 - nI p := by unfold dFv; rw [if_pos (Or.inr dg)]
    have eb : b2 (dFv b n least s p v = 0) = 0 := b2_z.mpr (by rw [e]; exact f1_ne (by omega))
    rw [eb, e]
    (repeat first | refine iteP (by assumption) ?_ | refine iteN (by assumption) ?_ | refine And.intro (by assumption) ?_)
    first | (constructor <;> first | rfl | trivial) | (rw [if_pos F0]; (constructor <;> first | rfl | trivial))
  · have no : ¬ (p = s ∨ dgt b n p) := fun z => z.elim h5 dg
    -- where the digits end
    have rest : ∀ (P : Prop), (n ≤ p → P) → (¬ n ≤ p → A 42 p < 48 → P) → (¬ n ≤ p → ¬ A 42 p < 48 → (57 : Int32) < A 42 p → P) → P := by
      intro P k1 k2 k3
      by_cases h1 : n ≤ p
      · exact k1 h1
      · obtain ⟨o1, o2⟩ := ok p (by omega)
        by_cases h6 : A 42 p < 48
        · exact k2 h1 h6
        · refine k3 h1 h6 ?_
          rw [o1] at h6 ⊢
          have h6 := mt (by8b (b p) o2).2.2.1.mpr h6
          refine (by8b (b p) o2).2.2.2.1.mpr ?_
          have : ¬ (p < n ∧ 48 ≤ b p ∧ b p ≤ 57) := dg
          omega
    by_cases g : 1080 ≤ v ∨ v < least
    · have e : dFv b n least s p v = (-1000) * 2 - nI s := by unfold dFv; rw [if_neg no, if_pos g]
      have eb : b2 (dFv b n least s p v = 0) = 0 := b2_z.mpr (by rw [e]; exact f2_ne (by omega))
      rw [eb, e]
      by_cases g1 : v < least
      · refine rest _ (fun h1 => ?_) (fun h1 h6 => ?_) (fun h1 h6 h7 => ?_)
        all_goals first | (have ib : ¬ (nI p < 0 ∨ 320 ≤ p) := fun z => z.elim (nI_lt0 (by omega)) (by omega)) | skip
        all_goals (repeat first | refine iteP (by assumption) ?_ | refine iteN (by assumption) ?_ | refine And.intro (by assumption) ?_)
        all_goals first | (constructor <;> first | rfl | trivial) | (rw [if_pos F0]; (constructor <;> first | rfl | trivial))
      · have g2 : 1079 < v := by omega
        refine rest _ (fun h1 => ?_) (fun h1 h6 => ?_) (fun h1 h6 h7 => ?_)
        all_goals first | (have ib : ¬ (nI p < 0 ∨ 320 ≤ p) := fun z => z.elim (nI_lt0 (by omega)) (by omega)) | skip
        all_goals (repeat first | refine iteP (by assumption) ?_ | refine iteN (by assumption) ?_ | refine And.intro (by assumption) ?_)
        all_goals first | (constructor <;> first | rfl | trivial) | (rw [if_pos F0]; (constructor <;> first | rfl | trivial))
    · have e : dFv b n least s p v = 0 := by unfold dFv; rw [if_neg no, if_neg g]
      have eb : b2 (dFv b n least s p v = 0) = 1 := by unfold b2; rw [if_pos e]
      have g1 : ¬ v < least := by omega
      have g2 : ¬ 1079 < v := by omega
      rw [eb, e]
      refine rest _ (fun h1 => ?_) (fun h1 h6 => ?_) (fun h1 h6 h7 => ?_)
      all_goals first | (have ib : ¬ (nI p < 0 ∨ 320 ≤ p) := fun z => z.elim (nI_lt0 (by omega)) (by omega)) | skip
      all_goals (repeat first | refine iteP (by assumption) ?_ | refine iteN (by assumption) ?_ | refine And.intro (by assumption) ?_)
      all_goals (constructor <;> first | rfl | trivial)
theorem M_rd_lp (b : Nat → Nat) (ok : oc42 A b) (n : Nat) (hn : n ≤ 320) (least s : Nat) (w : Int32) (hl : least < 100000) : ∀ r k p v, k + r = 4 → p = s + k → p ≤ n → v < 10 ^ k → (k = 0 → dgt b n p) → am_fin [(z_M_readsDay, 32, [.ref 36, .int (nI least), .int w, .int (nI s)], [])] (hp L xs A (mv V (nI n) (nI p) 0 (nI v)) K T) (some (b2 (dFv b n least s (rdp b n r p v).1 (rdp b n r p v).2 = 0))) (hp L xs A (mv V (nI n) (nI (rdp b n r p v).1) (dFv b n least s (rdp b n r p v).1 (rdp b n r p v).2) (nI (rdp b n r p v).2)) K T) := by
  intro r
  induction r with
  | zero =>
    intro k p v hk hs hpn hv h0
    have : k = 4 := by omega
    subst this
    exact M_rd_end b ok n hn least s p v 4 w (by omega) (by omega) hpn hs (by omega) hl (Or.inl rfl)
  | succ r ih =>
    intro k p v hk hs hpn hv h0
    have hv4 : v < 10000 := Nat.lt_of_lt_of_le hv (Nat.le_trans (Nat.pow_le_pow_right (by omega) (by omega : k ≤ 4)) (by decide))
    by_cases d : dgt b n p
    · rw [rdp_t d]
      obtain ⟨o1, o2⟩ := ok p (by omega)
      have i1 := ih (k + 1) (p + 1) (v * 10 + (b p - 48)) (by omega) (by omega) (by omega) (by rw [Nat.pow_succ]; omega) (by omega)
      rw [← nI_1] at i1
      have cn : ¬ nI n ≤ nI p := by rw [nI_leI (by omega) (by omega)]; omega
      have ib : ¬ (nI p < 0 ∨ 320 ≤ p) := fun z => z.elim (nI_lt0 (by omega)) (by omega)
      have h6 : ¬ nI (b p) < 48 := by rw [show (48 : Int32) = nI 48 from rfl, nI_ltI (by omega) (by omega)]; omega
      have h7 : ¬ (57 : Int32) < nI (b p) := by rw [show (57 : Int32) = nI 57 from rfl, nI_ltI (by omega) (by omega)]; omega
      have es : nI p - nI s = nI k := by rw [nI_sub (by omega)]; congr 1; omega
      have c4 : ¬ nI k = 4 := by rw [l_4, nI_eq (by omega) (by omega)]; omega
      have ev : 10 * nI v + nI (b p) - 48 = nI (v * 10 + (b p - 48)) := by rw [l_10, show (48 : Int32) = nI 48 from rfl, nI_mul, nI_add, nI_sub (by omega)]; congr 1; omega
      have ck : (nI p).toNatClampNeg = p := nI_clamp (by omega)
      have o3 : A 42 p = nI (b p) := by rw [o1]; exact (by8b (b p) o2).2.2.2.2 (by omega)
      refine sg_M_readsDay_32 ?_
      simp only [lgl, lgg, mv8, mv9, mv10, mv11, mvu8, mvu10, mvu11, ck, es, o3]
      (repeat first | refine iteP (by assumption) ?_ | refine iteN (by assumption) ?_ | refine And.intro (by assumption) ?_)
      rw [ev]
      exact i1
    · rw [rdp_f d]
      exact M_rd_end b ok n hn least s p v k w (by omega) (by
        by_cases z : k = 0
        · exact absurd (h0 z) d
        · omega) hpn hs (by omega) hl (Or.inr d)
theorem M_readsDay_c (b : Nat → Nat) (ok : oc42 A b) (n : Nat) (hn : n ≤ 320) (least p : Nat) (z : Int32) (hl : least < 100000) (hpn : p ≤ n) : ∃ z' : Int32, (dFv b n least (skp b n p) (rdp b n 4 (skp b n p) 0).1 (rdp b n 4 (skp b n p) 0).2 = 0 → z' = nI (rdp b n 4 (skp b n p) 0).2) ∧ am_fin [(z_M_readsDay, 0, [.ref 36, .int (nI least), .null, .null], [])] (hp L xs A (mv V (nI n) (nI p) 0 z) K T) (some (b2 (dFv b n least (skp b n p) (rdp b n 4 (skp b n p) 0).1 (rdp b n 4 (skp b n p) 0).2 = 0))) (hp L xs A (mv V (nI n) (nI (rdp b n 4 (skp b n p) 0).1) (dFv b n least (skp b n p) (rdp b n 4 (skp b n p) 0).1 (rdp b n 4 (skp b n p) 0).2) z') K T) := by
  have ks := M_see_c (L := L) (xs := xs) (A := A) (V := V) (K := K) (T := T) b ok n hn 0 z p hpn
  obtain ⟨s1, s2⟩ := skp_in b hpn
  generalize skp b n p = s at *
  by_cases d : dgt b n s
  · refine ⟨_, fun _ => rfl, sg_M_readsDay_0 (am_fin.call ks (sg_M_readsDay_4r ?_))⟩
    have h6 : ¬ sgn b n s < 48 := by unfold sgn; rw [if_pos d.1, show (48 : Int32) = nI 48 from rfl, nI_ltI (by omega) (by omega)]; omega
    have h7 : ¬ (57 : Int32) < sgn b n s := by unfold sgn; rw [if_pos d.1, show (57 : Int32) = nI 57 from rfl, nI_ltI (by omega) (by omega)]; omega
    simp only [lgl, lgg, mv8, mv9, mv10, mv11, mvu8, mvu10, mvu11]
    refine iteN h6 (iteN h7 ?_)
    exact M_rd_lp b ok n hn least s (sgn b n s) hl 4 0 s 0 (by omega) (by omega) s2 (by decide) (fun _ => d)
  · rw [rdp_f d]
    have e : dFv b n least s s 0 = (-1000) * 1 - nI s := by unfold dFv; rw [if_pos (Or.inl rfl)]
    have ne : ¬ dFv b n least s s 0 = 0 := by rw [e]; exact f1_ne (by omega)
    refine ⟨z, fun h => absurd h ne, sg_M_readsDay_0 (am_fin.call ks (sg_M_readsDay_4r ?_))⟩
    rw [show b2 (dFv b n least (s, 0).1 (s, 0).1 (s, 0).2 = 0) = 0 from b2_z.mpr ne]
    dsimp only
    rw [e]
    have F0 : (0 : Int32) = 0 := rfl
    simp only [lgl, lgg, mv8, mv9, mv10, mv11, mvu8, mvu10, mvu11]
    by_cases h6 : sgn b n s < 48
    · refine iteP h6 ?_
      first | (constructor <;> first | rfl | trivial) | exact iteP F0 ⟨by first | rfl | trivial, by first | rfl | trivial⟩
    · have h7 : (57 : Int32) < sgn b n s := by
        unfold sgn at h6 ⊢
        by_cases q : s < n
        · obtain ⟨o1, o2⟩ := ok s (by omega)
          rw [if_pos q, show (48 : Int32) = nI 48 from rfl, nI_ltI (by omega) (by omega)] at h6
          rw [if_pos q, show (57 : Int32) = nI 57 from rfl, nI_ltI (by omega) (by omega)]
          have : ¬ (s < n ∧ 48 ≤ b s ∧ b s ≤ 57) := d
          omega
        · rw [if_neg q] at h6
          exact absurd (by decide) h6
      refine iteN h6 (iteP h7 ?_)
      first | (constructor <;> first | rfl | trivial) | exact iteP F0 ⟨by first | rfl | trivial, by first | rfl | trivial⟩
end
