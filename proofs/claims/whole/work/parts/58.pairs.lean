/-- days in a year, were one there from its day j on -/
abbrev ldc (f : Nat → Int32) (l y j : Nat) : Nat := cn (fun d => f d = nI l) (360 * y) j + (360 - j)
def lts (f : Nat → Int32) (D H ru : Nat → Nat → Nat) (l y : Nat) : Nat → Option Nat
  | 0 => none
  | j + 1 => if clm (setD D l y (ldc f l y j)) H ru y l then some (360 * y + j) else lts f D H ru l y j
theorem lt_end (y : Nat) (hy : y < 3) : nI (360 * y + 0) + (-1) < nI (360 * y) := by
  rcases (by omega : y = 0 ∨ y = 1 ∨ y = 2) with rfl | rfl | rfl <;> decide
section
variable {L : Nat} {xs : Nat → Int32} {A V : Nat → Nat → Int32} {K : Nat → Option Nat} {T : am_H} {D H C ru : Nat → Nat → Nat} {na : Nat → Nat} {rn : Nat → Nat → Nat} {rl : Nat → Nat → Nat → Nat}

theorem L_lt_lp {f : Nat → Int32} {l w m : Nat} (Q : QB A V f (nI l) w m) (J : JCd A D H C) (R : JCr A V ru na rn rl) (y : Nat) (hl : l < 6) (hy : y < 3) : ∀ r : Nat, r ≤ 360 → ∀ x : Int32, ∃ x' : Int32, ∀ u : Option Int32, am_fin [(z_L_latest, 50, [.ref 1, .int (nI l), .int (nI y), .int (nI (360 * y + r) + (-1)), dl u], [])] (hp L xs (upA A 27 (upd (A 27) (l * 3 + y) x)) V K T) (some (onat (-2) (lts f D H ru l y r))) (hp L xs (upA A 27 (upd (A 27) (l * 3 + y) x')) V K T) := by
  have ey : nI y * 360 = nI (360 * y) := by rw [l_360, nI_mul, Nat.mul_comm]
  have el : nI (360 * y) + 360 - 1 = nI (360 * y + 359) := by rw [l_360, nI_add, nI_m1 (by omega)]; rfl
  intro r
  induction r with
  | zero =>
    intro _ x
    refine ⟨x, fun u => ?_⟩
    have c : nI (360 * y + 0) + (-1) < nI y * 360 := by rw [ey]; exact lt_end y hy
    cases u
    · exact sg_L_latest_50 (iteP c ⟨rfl, rfl⟩)
    · exact sg_L_latest_50b (iteP c ⟨rfl, rfl⟩)
  | succ r ih =>
    intro hr x
    have e3 : nI (360 * y + (r + 1)) + (-1) = nI (360 * y + r) := by rw [nI_am1 (by omega)]; congr 1
    have cl := cn_le (fun d => f d = nI l) (360 * y) r
    have c : ¬ nI (360 * y + r) < nI y * 360 := by rw [ey, nI_ltI (by omega) (by omega)]; omega
    have Q1 : QB (upA A 27 (upd (A 27) (l * 3 + y) x)) V f (nI l) w m := Q
    have kb := O_between_c (L := L) (xs := xs) (K := K) (T := T) Q1 (nI (360 * y)) (360 * y) (360 * y + r) (if_neg (nI_lt0 (by omega))) (by omega) (by omega)
    rw [Nat.add_sub_cancel_left] at kb
    have J1 := JCd_set J l y (ldc f l y r) (by unfold ldc; omega) hy
    have R1 : JCr (upA A 27 (upd (A 27) (l * 3 + y) (nI (ldc f l y r)))) V ru na rn rl := R
    have jc := J_isClaiming_c (L := L) (xs := xs) (K := K) (T := T) J1 R1 l y hl hy
    have ix : nI l * 3 + nI y = nI (l * 3 + y) := by rw [l_3, nI_mul, nI_add]
    have ib : ¬ (nI l * 3 + nI y < 0 ∨ 18 ≤ (nI l * 3 + nI y).toNatClampNeg) := by rw [ix]; exact nI_inb (by omega) (by omega)
    have ev : nI (cn (fun d => f d = nI l) (360 * y) r) + (nI y * 360 + 360 - 1) - nI (360 * y + r) + 1 = nI (ldc f l y r) := by
      rw [ey, el, nI_add, nI_sub (by omega), nI_1]; congr 1; unfold ldc; omega
    have e : lts f D H ru l y (r + 1) = if clm (setD D l y (ldc f l y r)) H ru y l then some (360 * y + r) else lts f D H ru l y r := rfl
    rw [e3]
    by_cases q : clm (setD D l y (ldc f l y r)) H ru y l
    · rw [e, if_pos q]
      refine ⟨nI (ldc f l y r), fun u => ?_⟩
      have nz : ¬ b2 (clm (setD D l y (ldc f l y r)) H ru y l) = 0 := mt b2_z.mp (fun z => z q)
      cases u
      all_goals first | refine sg_L_latest_50 (iteN c ?_) | refine sg_L_latest_50b (iteN c ?_)
      all_goals
        rw [ey]
        first | refine am_fin.call kb (sg_L_latest_72r ⟨ib, ?_⟩) | refine am_fin.call kb (sg_L_latest_72rb ⟨ib, ?_⟩)
        rw [ev, ix, nI_clamp (by omega), upA_upA, upA_same, upd_upd]
        exact am_fin.call jc (sg_L_latest_107r (iteN nz ⟨rfl, rfl⟩))
    · rw [e, if_neg q]
      obtain ⟨x', i1⟩ := ih (by omega) (nI (ldc f l y r))
      refine ⟨x', fun u => ?_⟩
      have i1 := i1 (some (nI (ldc f l y r)))
      cases u
      all_goals first | refine sg_L_latest_50 (iteN c ?_) | refine sg_L_latest_50b (iteN c ?_)
      all_goals
        rw [ey]
        first | refine am_fin.call kb (sg_L_latest_72r ⟨ib, ?_⟩) | refine am_fin.call kb (sg_L_latest_72rb ⟨ib, ?_⟩)
        rw [ev, ix, nI_clamp (by omega), upA_upA, upA_same, upd_upd]
        exact am_fin.call jc (sg_L_latest_107r (iteP (b2_z.mpr q) i1))
theorem M_lt_lp (J : JMd A D H C) (R : JMr A ru na rn rl) (l y : Nat) (hl : l < 6) (hy : y < 3) : ∀ r : Nat, r ≤ 360 → ∃ x' : Int32, am_fin [(z_M_latest, 32, [.ref 36, .int (nI l), .int (nI y), .int (nI (360 * y + r) + (-1))], [])] (hp L xs (upA A 47 (upd (A 47) (18 * 0 + 3 * l + y) (nI (ldc (A 37) l y r)))) V K T) (some (onat (-2) (lts (A 37) D H ru l y r))) (hp L xs (upA A 47 (upd (A 47) (18 * 0 + 3 * l + y) x')) V K T) := by
  have ey : (360 : Int32) * nI y = nI (360 * y) := by rw [l_360, nI_mul]
  intro r
  induction r with
  | zero =>
    intro _
    exact ⟨_, sg_M_latest_32 (iteP (by rw [ey]; exact lt_end y hy) ⟨rfl, rfl⟩)⟩
  | succ r ih =>
    intro hr
    have e3 : nI (360 * y + (r + 1)) + (-1) = nI (360 * y + r) := by rw [nI_am1 (by omega)]; congr 1
    have cl := cn_le (fun d => A 37 d = nI l) (360 * y) r
    have c : ¬ nI (360 * y + r) < 360 * nI y := by rw [ey, nI_ltI (by omega) (by omega)]; omega
    have ib : ¬ (nI (360 * y + r) < 0 ∨ 1080 ≤ (nI (360 * y + r)).toNatClampNeg) := nI_inb (by omega) (by omega)
    have ck : (nI (360 * y + r)).toNatClampNeg = 360 * y + r := nI_clamp (by omega)
    have J1 := JMd_set J l y (ldc (A 37) l y r) (by unfold ldc; omega) hl hy
    have R1 : JMr (upA A 47 (upd (A 47) (18 * 0 + 3 * l + y) (nI (ldc (A 37) l y r)))) ru na rn rl := R
    have jc := M_isClaimed_c (L := L) (xs := xs) (V := V) (K := K) (T := T) J1 R1 l y hl hy
    have ix : (18 : Int32) * 0 + 3 * nI l + nI y = nI (18 * 0 + 3 * l + y) := by rw [l_18, l_0, l_3, nI_mul, nI_mul, nI_add, nI_add]
    have e : lts (A 37) D H ru l y (r + 1) = if clm (setD D l y (ldc (A 37) l y r)) H ru y l then some (360 * y + r) else lts (A 37) D H ru l y r := rfl
    -- the count once the day is told
    have st : ∀ {v : Option Int32} {h' : am_H}, am_fin [(z_M_isClaimed, 0, [.ref 36, .int (nI l), .int (nI y)], []), (z_M_latest, 64, [.ref 36, .int (nI l), .int (nI y), .int (nI (360 * y + r))], [])] (hp L xs (upA A 47 (upd (A 47) (18 * 0 + 3 * l + y) (nI (ldc (A 37) l y r)))) V K T) v h' → am_fin [(z_M_latest, 32, [.ref 36, .int (nI l), .int (nI y), .int (nI (360 * y + r))], [])] (hp L xs (upA A 47 (upd (A 47) (18 * 0 + 3 * l + y) (nI (ldc (A 37) l y (r + 1))))) V K T) v h' := by
      intro v h' h
      by_cases d : A 37 (360 * y + r) = nI l
      · have ed : ldc (A 37) l y (r + 1) = ldc (A 37) l y r := by
          have := cn_T (p := fun d => A 37 d = nI l) (a := 360 * y) (n := r) d
          show cn (fun d => A 37 d = nI l) (360 * y) (r + 1) + (360 - (r + 1)) = cn (fun d => A 37 d = nI l) (360 * y) r + (360 - r)
          omega
        rw [ed]
        exact sg_M_latest_32 (iteN c ⟨ib, iteP (by rw [ck]; exact d) h⟩)
      · have ed : ldc (A 37) l y (r + 1) + 1 = ldc (A 37) l y r := by
          have := cn_F (p := fun d => A 37 d = nI l) (a := 360 * y) (n := r) d
          show cn (fun d => A 37 d = nI l) (360 * y) (r + 1) + (360 - (r + 1)) + 1 = cn (fun d => A 37 d = nI l) (360 * y) r + (360 - r)
          omega
        refine sg_M_latest_32 (iteN c ⟨ib, iteN (by rw [ck]; exact d) (iteN (nI_neg1 (by omega)) ?_)⟩)
        rw [ix]
        refine ⟨nI_inb (by omega) (by omega), nI_inb (by omega) (by omega), ?_⟩
        rw [nI_clamp (by omega), upA_upA, upA_same, upd_upd, updat, nI_1, ed]
        exact h
    rw [e3]
    by_cases q : clm (setD D l y (ldc (A 37) l y r)) H ru y l
    · rw [e, if_pos q]
      exact ⟨nI (ldc (A 37) l y r), st (am_fin.call jc (sg_M_latest_64r (iteN (mt b2_z.mp (fun z => z q)) ⟨rfl, rfl⟩)))⟩
    · rw [e, if_neg q]
      obtain ⟨x', i1⟩ := ih (by omega)
      exact ⟨x', st (am_fin.call jc (sg_M_latest_64r (iteP (b2_z.mpr q) i1)))⟩
end
def wA (A : Nat → Nat → Int32) (l : Nat) : Nat := (A 11 l).toNatClampNeg
def mA (A : Nat → Nat → Int32) (l : Nat) : Nat := (A 12 l).toNatClampNeg
/-- overstays in all -/
def ova (f : Nat → Int32) (w m : Nat → Nat) : Nat → Nat
  | 0 => 0
  | n + 1 => ova f w m n + cn (ovq f (nI n) (w n) (m n)) 0 1080
theorem ova_congr {f g : Nat → Int32} {w m : Nat → Nat} (h : ∀ d, d < 1080 → f d = g d) : ∀ n, ova f w m n = ova g w m n
  | 0 => rfl
  | n + 1 => by
    show ova f w m n + _ = ova g w m n + _
    rw [ova_congr h n, cn_congr (p := ovq f (nI n) (w n) (m n)) (q := ovq g (nI n) (w n) (m n)) (fun i h1 h2 => ?_)]
    have e : wc f (nI n) (w n) i = wc g (nI n) (w n) i := by
      unfold wc
      exact cn_congr (fun j h3 h4 => by rw [h j (by omega)])
    unfold ovq bey
    rw [e, h i (by omega)]
theorem wm_A {A V : Nat → Nat → Int32} (R : Rr A V) (l : Nat) (hl : l < 6) : mA A l ≤ wA A l ∧ wA A l ≤ 360 ∧ A 11 l = nI (wA A l) ∧ A 12 l = nI (mA A l) ∧ A 41 (13 * l) = nI (wA A l) ∧ A 41 (13 * l + 1) = nI (mA A l) := by
  obtain ⟨w, m, h1, h2, h3, h4, h5, h6⟩ := wm_of R l hl
  have ew : wA A l = w := by unfold wA; rw [h3, nI_clamp (by omega)]
  have em : mA A l = m := by unfold mA; rw [h4, nI_clamp (by omega)]
  rw [ew, em]
  exact ⟨h1, h2, h3, h4, h5, h6⟩
section
variable {L : Nat} {xs : Nat → Int32} {A V : Nat → Nat → Int32} {K : Nat → Option Nat} {T : am_H}
theorem L_oia_3_lp (R : Rr A V) : ∀ r k, k + r = 6 → ∀ (g : Nat → Int32) (a b : Int32), ∃ (g' : Nat → Int32) (a' b' : Int32), am_fin [(z_L_overstaysInAll, 4, [.ref 1, .ref 3, .int (nI (ova (A 4) (wA A) (mA A) k)), .int (nI k)], [])] (hp L xs (upA A 31 g) (upV (upV V 30 4 a) 30 5 b) K T) (some (nI (ova (A 4) (wA A) (mA A) 6))) (hp L xs (upA A 31 g') (upV (upV V 30 4 a') 30 5 b') K T) := by
  intro r
  induction r with
  | zero =>
    intro k hk g a b
    rw [show k = 6 by omega]
    exact ⟨g, a, b, sg_L_overstaysInAll_3_4 (iteP (by decide) ⟨rfl, rfl⟩)⟩
  | succ r ih =>
    intro k hk g a b
    obtain ⟨h1, h2, h3, h4, h5, h6⟩ := wm_A R k (by omega)
    obtain ⟨g1, q1, q2⟩ := O_read_3_c (L := L) (xs := xs) (A := upA A 31 g) (V := upV (upV V 30 4 a) 30 5 b) (K := K) (T := T) k (by omega)
    have q2 : am_fin [(z_O_read, 0, [.ref 30, .ref 3, .int (nI k), .null], [])] (hp L xs (upA A 31 g) (upV (upV V 30 4 a) 30 5 b) K T) none (hp L xs (upA A 31 g1) (upV (upV V 30 4 (A 11 k)) 30 5 (A 12 k)) K T) := by
      have ev : upV (upV (upV (upV V 30 4 a) 30 5 b) 30 4 (A 11 k)) 30 5 (A 12 k) = upV (upV V 30 4 (A 11 k)) 30 5 (A 12 k) := by
        funext i j
        unfold upV
        cases (Nat.beq i 30 && Nat.beq j 5) <;> cases (Nat.beq i 30 && Nat.beq j 4) <;> rfl
      rw [upA_upA] at q2
      rw [← ev]
      exact q2
    have Q : QB (upA A 31 g1) (upV (upV V 30 4 (A 11 k)) 30 5 (A 12 k)) (A 4) (nI k) (wA A k) (mA A k) := ⟨q1, h3, h4, h1, h2⟩
    obtain ⟨g', a', b', i1⟩ := ih (k + 1) (by omega) g1 (A 11 k) (A 12 k)
    rw [← nI_1, show ova (A 4) (wA A) (mA A) (k + 1) = ova (A 4) (wA A) (mA A) k + cn (ovq (A 4) (nI k) (wA A k) (mA A k)) 0 1080 from rfl, ← nI_add] at i1
    exact ⟨g', a', b', sg_L_overstaysInAll_3_4 (iteN (by rw [l_6, nI_leI (by omega) (by omega)]; omega) (am_fin.call q2 (sg_L_overstaysInAll_3_19r (am_fin.call (O_overstayDays_c Q) (sg_L_overstaysInAll_3_27r i1)))))⟩
theorem L_overstaysInAll_3_c (R : Rr A V) : ∃ (g' : Nat → Int32) (a' b' : Int32), am_fin [(z_L_overstaysInAll, 0, [.ref 1, .ref 3, .null, .null], [])] (hp L xs A V K T) (some (nI (ova (A 4) (wA A) (mA A) 6))) (hp L xs (upA A 31 g') (upV (upV V 30 4 a') 30 5 b') K T) := by
  obtain ⟨g', a', b', h⟩ := L_oia_3_lp (L := L) (xs := xs) (K := K) (T := T) R 6 0 (by omega) (A 31) (V 30 4) (V 30 5)
  rw [upA_self, upV_self, upV_self] at h
  exact ⟨g', a', b', sg_L_overstaysInAll_3_0 h⟩
theorem L_oia_34_lp (R : Rr A V) : ∀ r k, k + r = 6 → ∀ (g : Nat → Int32) (a b : Int32), ∃ (g' : Nat → Int32) (a' b' : Int32), am_fin [(z_L_overstaysInAll, 4, [.ref 1, .ref 34, .int (nI (ova (A 35) (wA A) (mA A) k)), .int (nI k)], [])] (hp L xs (upA A 31 g) (upV (upV V 30 4 a) 30 5 b) K T) (some (nI (ova (A 35) (wA A) (mA A) 6))) (hp L xs (upA A 31 g') (upV (upV V 30 4 a') 30 5 b') K T) := by
  intro r
  induction r with
  | zero =>
    intro k hk g a b
    rw [show k = 6 by omega]
    exact ⟨g, a, b, sg_L_overstaysInAll_34_4 (iteP (by decide) ⟨rfl, rfl⟩)⟩
  | succ r ih =>
    intro k hk g a b
    obtain ⟨h1, h2, h3, h4, h5, h6⟩ := wm_A R k (by omega)
    obtain ⟨g1, q1, q2⟩ := O_read_34_c (L := L) (xs := xs) (A := upA A 31 g) (V := upV (upV V 30 4 a) 30 5 b) (K := K) (T := T) k (by omega)
    have q2 : am_fin [(z_O_read, 0, [.ref 30, .ref 34, .int (nI k), .null], [])] (hp L xs (upA A 31 g) (upV (upV V 30 4 a) 30 5 b) K T) none (hp L xs (upA A 31 g1) (upV (upV V 30 4 (A 11 k)) 30 5 (A 12 k)) K T) := by
      have ev : upV (upV (upV (upV V 30 4 a) 30 5 b) 30 4 (A 11 k)) 30 5 (A 12 k) = upV (upV V 30 4 (A 11 k)) 30 5 (A 12 k) := by
        funext i j
        unfold upV
        cases (Nat.beq i 30 && Nat.beq j 5) <;> cases (Nat.beq i 30 && Nat.beq j 4) <;> rfl
      rw [upA_upA] at q2
      rw [← ev]
      exact q2
    have Q : QB (upA A 31 g1) (upV (upV V 30 4 (A 11 k)) 30 5 (A 12 k)) (A 35) (nI k) (wA A k) (mA A k) := ⟨q1, h3, h4, h1, h2⟩
    obtain ⟨g', a', b', i1⟩ := ih (k + 1) (by omega) g1 (A 11 k) (A 12 k)
    rw [← nI_1, show ova (A 35) (wA A) (mA A) (k + 1) = ova (A 35) (wA A) (mA A) k + cn (ovq (A 35) (nI k) (wA A k) (mA A k)) 0 1080 from rfl, ← nI_add] at i1
    exact ⟨g', a', b', sg_L_overstaysInAll_34_4 (iteN (by rw [l_6, nI_leI (by omega) (by omega)]; omega) (am_fin.call q2 (sg_L_overstaysInAll_34_19r (am_fin.call (O_overstayDays_c Q) (sg_L_overstaysInAll_34_27r i1)))))⟩
theorem L_overstaysInAll_34_c (R : Rr A V) : ∃ (g' : Nat → Int32) (a' b' : Int32), am_fin [(z_L_overstaysInAll, 0, [.ref 1, .ref 34, .null, .null], [])] (hp L xs A V K T) (some (nI (ova (A 35) (wA A) (mA A) 6))) (hp L xs (upA A 31 g') (upV (upV V 30 4 a') 30 5 b') K T) := by
  obtain ⟨g', a', b', h⟩ := L_oia_34_lp (L := L) (xs := xs) (K := K) (T := T) R 6 0 (by omega) (A 31) (V 30 4) (V 30 5)
  rw [upA_self, upV_self, upV_self] at h
  exact ⟨g', a', b', sg_L_overstaysInAll_34_0 h⟩
theorem M_ao_lp (w m : Nat → Nat) (hR : ∀ l, l < 6 → m l ≤ w l ∧ w l ≤ 360 ∧ A 41 (13 * l) = nI (w l) ∧ A 41 (13 * l + 1) = nI (m l)) : ∀ r k, k + r = 6 → ∀ g : Nat → Int32, ∃ g' : Nat → Int32, am_fin [(z_M_allOverstays, 4, [.ref 36, .int (nI (ova (A 37) w m k)), .int (nI k)], [])] (hp L xs (upA A 45 g) V K T) (some (nI (ova (A 37) w m 6))) (hp L xs (upA A 45 g') V K T) := by
  intro r
  induction r with
  | zero =>
    intro k hk g
    rw [show k = 6 by omega]
    exact ⟨g, sg_M_allOverstays_4 (iteP (by decide) ⟨rfl, rfl⟩)⟩
  | succ r ih =>
    intro k hk g
    obtain ⟨h1, h2, h3, h4⟩ := hR k (by omega)
    obtain ⟨g1, q⟩ := M_overstayed_c (L := L) (xs := xs) (A := upA A 45 g) (V := V) (K := K) (T := T) k (w k) (m k) 0 1079 0 (by omega) (by omega) (by omega) (by omega) h2 (by omega) h3 h4
    rw [upA_upA] at q
    have q : am_fin [(z_M_overstayed, 0, [.ref 36, .int (nI k), .int (nI 0), .int (nI 1079), .int (nI 0), .null, .null, .null, .null], [])] (hp L xs (upA A 45 g) V K T) (some (nI (cn (ovq (A 37) (nI k) (w k) (m k)) 0 1080))) (hp L xs (upA A 45 g1) V K T) := q
    obtain ⟨g', i1⟩ := ih (k + 1) (by omega) g1
    rw [← nI_1, show ova (A 37) w m (k + 1) = ova (A 37) w m k + cn (ovq (A 37) (nI k) (w k) (m k)) 0 1080 from rfl, ← nI_add] at i1
    exact ⟨g', sg_M_allOverstays_4 (iteN (by rw [l_6, nI_leI (by omega) (by omega)]; omega) (am_fin.call q (sg_M_allOverstays_21r i1)))⟩
theorem M_allOverstays_c (w m : Nat → Nat) (hR : ∀ l, l < 6 → m l ≤ w l ∧ w l ≤ 360 ∧ A 41 (13 * l) = nI (w l) ∧ A 41 (13 * l + 1) = nI (m l)) : ∃ g' : Nat → Int32, am_fin [(z_M_allOverstays, 0, [.ref 36, .null, .null], [])] (hp L xs A V K T) (some (nI (ova (A 37) w m 6))) (hp L xs (upA A 45 g') V K T) := by
  obtain ⟨g', h⟩ := M_ao_lp (L := L) (xs := xs) (V := V) (K := K) (T := T) w m hR 6 0 (by omega) (A 45)
  rw [upA_self] at h
  exact ⟨g', sg_M_allOverstays_0 h⟩
theorem pr_latest (a1 a2 : Int32) (R : RI A V K T) : PRQ z_L_latest z_M_latest [.ref 1, .int a1, .int a2, .null, .null] [.ref 36, .int a1, .int a2, .null] L xs A V K T := by
  by_cases c1 : a1 < 0
  · refine ⟨(-1), A, V, K, T, A, V, sg_L_latest_0 ?_, sg_M_latest_0 ?_, R⟩
    · (try simp only [lgl, lgg]); (repeat first | refine iteP (by first | assumption) ?_ | refine iteN (by first | assumption) ?_); (constructor <;> first | rfl | trivial)
    · (try simp only [lgl, lgg]); (repeat first | refine iteP (by first | assumption) ?_ | refine iteN (by first | assumption) ?_); (constructor <;> first | rfl | trivial)
  by_cases c2 : (5 : Int32) < a1
  · refine ⟨(-1), A, V, K, T, A, V, sg_L_latest_0 ?_, sg_M_latest_0 ?_, R⟩
    · (try simp only [lgl, lgg]); (repeat first | refine iteP (by first | assumption) ?_ | refine iteN (by first | assumption) ?_); (constructor <;> first | rfl | trivial)
    · (try simp only [lgl, lgg]); (repeat first | refine iteP (by first | assumption) ?_ | refine iteN (by first | assumption) ?_); (constructor <;> first | rfl | trivial)
  by_cases c3 : a2 < 0
  · refine ⟨(-1), A, V, K, T, A, V, sg_L_latest_0 ?_, sg_M_latest_0 ?_, R⟩
    · (try simp only [lgl, lgg]); (repeat first | refine iteP (by first | assumption) ?_ | refine iteN (by first | assumption) ?_); (constructor <;> first | rfl | trivial)
    · (try simp only [lgl, lgg]); (repeat first | refine iteP (by first | assumption) ?_ | refine iteN (by first | assumption) ?_); (constructor <;> first | rfl | trivial)
  by_cases c4 : (2 : Int32) < a2
  · refine ⟨(-1), A, V, K, T, A, V, sg_L_latest_0 ?_, sg_M_latest_0 ?_, R⟩
    · (try simp only [lgl, lgg]); (repeat first | refine iteP (by first | assumption) ?_ | refine iteN (by first | assumption) ?_); (constructor <;> first | rfl | trivial)
    · (try simp only [lgl, lgg]); (repeat first | refine iteP (by first | assumption) ?_ | refine iteN (by first | assumption) ?_); (constructor <;> first | rfl | trivial)
  obtain ⟨l, hl, rfl⟩ := i32_nat (m := 5) (by omega) c1 c2
  obtain ⟨y, hy, rfl⟩ := i32_nat (m := 2) (by omega) c3 c4
  obtain ⟨r1, r2, r3, r4, r5, r6, r7, r8⟩ := id R.1
  obtain ⟨gc, gh, gd, j1, j2⟩ := J_weigh_3_c (L := L) (xs := xs) (V := V) (K := K) (T := T) r5 r6 r8
  obtain ⟨w, m, w1, w2, w3, w4, w5, w6⟩ := wm_of R.2.2.1 l (by omega)
  obtain ⟨g, q1, q2⟩ := O_read_3_c (L := L) (xs := xs) (A := upA (upA (upA A 29 gc) 28 gh) 27 gd) (V := V) (K := K) (T := T) l (by omega)
  have Q : QB (upA (upA (upA (upA A 29 gc) 28 gh) 27 gd) 31 g) (upV (upV V 30 4 (A 11 l)) 30 5 (A 12 l)) (A 4) (nI l) w m := ⟨q1, w3, w4, w1, w2⟩
  have J2 : JCd (upA (upA (upA (upA A 29 gc) 28 gh) 27 gd) 31 g) (nD (A 4)) (nH (A 9)) (nD (A 6)) := j1
  have JR : JCr (upA (upA (upA (upA A 29 gc) 28 gh) 27 gd) 31 g) (upV (upV V 30 4 (A 11 l)) 30 5 (A 12 l)) (ruA A) (naV V) (rnA A) (rlA A) := JCr_of R.2.2.1
  obtain ⟨x', lp⟩ := L_lt_lp (L := L) (xs := xs) (K := K) (T := T) Q J2 JR y (by omega) (by omega) 360 (Nat.le_refl _) (gd (l * 3 + y))
  rw [show upd (upA (upA (upA (upA A 29 gc) 28 gh) 27 gd) 31 g 27) (l * 3 + y) (gd (l * 3 + y)) = upA (upA (upA (upA A 29 gc) 28 gh) 27 gd) 31 g 27 from upd_id gd (l * 3 + y), upA_self] at lp
  have e0 : nI y * 360 + 360 - 1 = nI (360 * y + 360) + (-1) := by rw [l_360, nI_mul, nI_add, nI_m1 (by omega), nI_am1 (by omega), Nat.mul_comm]
  have e1 : (360 : Int32) * nI y + 360 - 1 = nI (360 * y + 360) + (-1) := by rw [l_360, nI_mul, nI_add, nI_m1 (by omega), nI_am1 (by omega)]
  generalize hA1 : upA (upA (upA (upA (upA A 29 gc) 28 gh) 27 gd) 31 g) 27 (upd (upA (upA (upA (upA A 29 gc) 28 gh) 27 gd) 31 g 27) (l * 3 + y) x') = A1 at lp
  have e37 : A1 37 = A 4 := by rw [← hA1]; exact r1
  obtain ⟨gm, m1, m2⟩ := M_laysCounts_c (L := L) (xs := xs) (A := A1) (V := upV (upV V 30 4 (A 11 l)) 30 5 (A 12 l)) (K := K) (T := T)
  rw [e37, show A1 38 = A 9 by rw [← hA1]; exact r2, show A1 39 = A 6 by rw [← hA1]; exact r3] at m1
  have MR : JMr (upA A1 47 gm) (ruA A) (naV V) (rnA A) (rlA A) := by rw [← hA1]; exact JMr_of R.2.2.1
  obtain ⟨x2, ml⟩ := M_lt_lp (L := L) (xs := xs) (V := upV (upV V 30 4 (A 11 l)) 30 5 (A 12 l)) (K := K) (T := T) m1 MR l y (by omega) (by omega) 360 (Nat.le_refl _)
  have e37' : upA A1 47 gm 37 = A 4 := e37
  have ed : nI (ldc (A 4) l y 360) = gm (18 * 0 + 3 * l + y) := by rw [show gm (18 * 0 + 3 * l + y) = _ from (m1 l y (by omega) (by omega)).1]; show nI (nD (A 4) l y + 0) = _; rw [Nat.add_zero]
  rw [e37', ed, show upd (upA A1 47 gm 47) (18 * 0 + 3 * l + y) (gm (18 * 0 + 3 * l + y)) = upA A1 47 gm 47 from upd_id gm (18 * 0 + 3 * l + y), upA_self] at ml
  refine ⟨onat (-2) (lts (A 4) (nD (A 4)) (nH (A 9)) (ruA A) l y 360), A1, upV (upV V 30 4 (A 11 l)) 30 5 (A 12 l), K, T, upA (upA A1 47 gm) 47 (upd (upA A1 47 gm 47) (18 * 0 + 3 * l + y) x2), upV (upV V 30 4 (A 11 l)) 30 5 (A 12 l), sg_L_latest_0 ?_, sg_M_latest_0 ?_, ?_⟩
  · (try simp only [lgl, lgg]); (repeat first | refine iteP (by first | assumption) ?_ | refine iteN (by first | assumption) ?_)
    refine am_fin.call j2 (sg_L_latest_30r (am_fin.call q2 (sg_L_latest_45r ?_)))
    rw [e0]
    exact lp none
  · (try simp only [lgl, lgg]); (repeat first | refine iteP (by first | assumption) ?_ | refine iteN (by first | assumption) ?_)
    refine am_fin.call m2 (sg_M_latest_20r ?_)
    rw [e1]
    exact ml
  · rw [← hA1]; exact R
theorem cn_not (p : Nat → Prop) [DecidablePred p] (a : Nat) : ∀ n, cn p a n + cn (fun i => ¬ p i) a n = n
  | 0 => rfl
  | n + 1 => by
    have ih := cn_not p a n
    by_cases c : p (a + n)
    · have h1 := cn_T (p := p) (a := a) (n := n) c
      have h2 := cn_F (p := fun i => ¬ p i) (a := a) (n := n) (fun z => z c)
      omega
    · have h1 := cn_F (p := p) (a := a) (n := n) c
      have h2 := cn_T (p := fun i => ¬ p i) (a := a) (n := n) c
      omega
theorem bs64 : ∀ n, n < 64 → bs (fun k => n / 2 ^ k % 2 = 1) 6 = n := by decide +kernel
theorem sh0 : ∀ k, k < 6 → (0 : Int32) <<< (nI k &&& 31) = 0 := by decide +kernel
theorem M_c0_lp (w : Int32) : am_fin [(z_M_count, 42, [.ref 36, .int w, .int 0, .int 0], [])] (hp L xs A V K T) (some (nI (cn (fun d => ¬ A 37 d = -1) 0 1080))) (hp L xs A V K T) := by
  refine am_iter (fun k => ([(z_M_count, 42, [.ref 36, .int w, .int (nI (cn (fun d => ¬ A 37 d = -1) 0 k)), .int (nI k)], [])], hp L xs A V K T)) 1080 (fun k hk ih => ?_) ?_
  · dsimp only at ih ⊢
    refine sg_M_count_42 (iteN (l1080 hk) ⟨nI_inb (by omega) (by omega), ?_⟩)
    rw [cn_s] at ih
    by_cases c : A 37 k = -1
    · rw [if_neg (fun z => z c)] at ih
      refine iteP (by rw [nI_clamp (by omega)]; exact c) ?_
      rw [Int32.add_zero, nI_1]; exact ih
    · rw [if_pos c] at ih
      refine iteN (by rw [nI_clamp (by omega)]; exact c) ?_
      rw [nI_1, nI_1]; exact ih
  · dsimp only
    exact sg_M_count_42 (iteP (g1080 rfl) ⟨rfl, rfl⟩)
theorem M_c1_lp (w : Int32) (n : Nat) (hn : n < 64) (hb : ∀ l, l < 6 → A 41 (13 * l + 6) = b2 (hbit (nI n) (nI l))) : am_fin [(z_M_count, 77, [.ref 36, .int w, .int 0, .int 0], [])] (hp L xs A V K T) (some (nI n)) (hp L xs A V K T) := by
  refine am_iter (fun k => ([(z_M_count, 77, [.ref 36, .int w, .int (nI (bs (fun k => n / 2 ^ k % 2 = 1) k)), .int (nI k)], [])], hp L xs A V K T)) 6 (fun k hk ih => ?_) ?_
  · dsimp only at ih ⊢
    have ex : (13 : Int32) * nI k + 6 = nI (13 * k + 6) := e13 k 6
    refine sg_M_count_77 (iteN (by rw [l_6, nI_leI (by omega) (by omega)]; omega) ⟨by rw [ex]; exact nI_inb (by omega) (by omega), ?_⟩)
    rw [ex, nI_clamp (by omega), hb k hk, nI_1]
    by_cases c : n / 2 ^ k % 2 = 1
    · rw [← bs_t (p := fun k => n / 2 ^ k % 2 = 1) hk c] at ih
      rw [show b2 (hbit (nI n) (nI k)) = 1 by unfold b2; rw [if_pos ((hb64a n hn k hk).mpr c)]]
      exact ih
    · rw [← bs_f (p := fun k => n / 2 ^ k % 2 = 1) c] at ih
      rw [show b2 (hbit (nI n) (nI k)) = 0 by unfold b2; rw [if_neg (mt (hb64a n hn k hk).mp c)], sh0 k hk, or0]
      exact ih
  · dsimp only
    refine sg_M_count_77 (iteP (by decide) ⟨?_, rfl⟩)
    rw [bs64 n hn]
theorem pr_count (a1 : Int32) (R : RI A V K T) : PRQ z_L_count z_M_count [.ref 1, .int a1] [.ref 36, .int a1, .null, .null] L xs A V K T := by
  obtain ⟨r1, r2, r3, r4, r5, r6, r7, r8⟩ := id R.1
  by_cases c0 : a1 = 0
  · have h : cn (fun d => A 4 d = -1) 0 1080 + cn (fun d => ¬ A 4 d = -1) 0 1080 = 1080 := cn_not (fun d => A 4 d = -1) 0 1080
    have kc := P_countOf_3_c (L := L) (xs := xs) (A := A) (V := V) (K := K) (T := T) (-1) 0 1079 (by omega) (by omega)
    have km := M_c0_lp (L := L) (xs := xs) (A := A) (V := V) (K := K) (T := T) a1
    rw [r1] at km
    have kc : am_fin [(z_P_countOf, 0, [.ref 3, .int (-1), .int 0, .int 1079, .null, .null], [])] (hp L xs A V K T) (some (nI (cn (fun d => A 4 d = -1) 0 1080))) (hp L xs A V K T) := kc
    refine ⟨nI (cn (fun d => ¬ A 4 d = -1) 0 1080), A, V, K, T, A, V, sg_L_count_0 (iteP c0 (am_fin.call kc (sg_L_count_58r ⟨?_, rfl⟩))), sg_M_count_0 (iteP c0 km), R⟩
    rw [l_1080, nI_sub (by omega), show 1080 - cn (fun d => A 4 d = -1) 0 1080 = cn (fun d => ¬ A 4 d = -1) 0 1080 by omega]
  by_cases c1 : a1 = 1
  · obtain ⟨n, hn, en⟩ := R.2.2.1.2.2
    have km := M_c1_lp (L := L) (xs := xs) (A := A) (V := V) (K := K) (T := T) a1 n hn (fun l hl => by rw [← en]; exact (R.2.2.1.1 l hl).2.2.2.2.1)
    exact ⟨nI n, A, V, K, T, A, V, sg_L_count_0 (iteN c0 (iteP c1 ⟨by rw [en], rfl⟩)), sg_M_count_0 (iteN c0 (iteP c1 km)), R⟩
  by_cases c2 : a1 = 2
  · obtain ⟨g, a, b, k1⟩ := L_overstaysInAll_3_c (L := L) (xs := xs) (K := K) (T := T) R.2.2.1
    obtain ⟨g2, k2⟩ := M_allOverstays_c (L := L) (xs := xs) (A := upA A 31 g) (V := upV (upV V 30 4 a) 30 5 b) (K := K) (T := T) (wA A) (mA A) (fun l hl => by
      obtain ⟨h1, h2, h3, h4, h5, h6⟩ := wm_A R.2.2.1 l hl
      exact ⟨h1, h2, h5, h6⟩)
    have e37 : upA A 31 g 37 = A 4 := r1
    rw [e37] at k2
    exact ⟨nI (ova (A 4) (wA A) (mA A) 6), upA A 31 g, upV (upV V 30 4 a) 30 5 b, K, T, upA (upA A 31 g) 45 g2, upV (upV V 30 4 a) 30 5 b, sg_L_count_0 (iteN c0 (iteN c1 (iteP c2 (am_fin.call k1 (sg_L_count_82r ⟨rfl, rfl⟩))))), sg_M_count_0 (iteN c0 (iteN c1 (iteP c2 (am_fin.call k2 (sg_M_count_107r ⟨rfl, rfl⟩))))), R⟩
  by_cases c3 : a1 = 3
  · have k2 := M_allStays_c (L := L) (xs := xs) (A := A) (V := V) (K := K) (T := T)
    rw [r1] at k2
    exact ⟨nI (cn (beg (A 4)) 0 1080), A, V, K, T, A, V, sg_L_count_0 (iteN c0 (iteN c1 (iteN c2 (iteP c3 (am_fin.call P_stayCount_3_c (sg_L_count_93r ⟨rfl, rfl⟩)))))), sg_M_count_0 (iteN c0 (iteN c1 (iteN c2 (iteP c3 (am_fin.call k2 (sg_M_count_112r ⟨rfl, rfl⟩)))))), R⟩
  by_cases c4 : a1 = 4
  · obtain ⟨t, ht, t1, t2⟩ := R.2.2.2.1.1
    exact ⟨nI t, A, V, K, T, A, V, sg_L_count_0 (iteN c0 (iteN c1 (iteN c2 (iteN c3 (iteP c4 ⟨by rw [t1], rfl⟩))))), sg_M_count_0 (iteN c0 (iteN c1 (iteN c2 (iteN c3 (iteP c4 ⟨by rw [t2], rfl⟩))))), R⟩
  by_cases c5 : a1 = 5
  · obtain ⟨c, al, B, pd, nt, h1, h2, h3, h4, -⟩ := R.2.2.2.2.2
    exact ⟨nI c, A, V, K, T, A, V, sg_L_count_0 (iteN c0 (iteN c1 (iteN c2 (iteN c3 (iteN c4 (iteP c5 ⟨by rw [h3], rfl⟩)))))), sg_M_count_0 (iteN c0 (iteN c1 (iteN c2 (iteN c3 (iteN c4 (iteP c5 ⟨by rw [h4], rfl⟩)))))), R⟩
  exact ⟨-1, A, V, K, T, A, V, sg_L_count_0 (iteN c0 (iteN c1 (iteN c2 (iteN c3 (iteN c4 (iteN c5 ⟨rfl, rfl⟩)))))), sg_M_count_0 (iteN c0 (iteN c1 (iteN c2 (iteN c3 (iteN c4 (iteN c5 ⟨rfl, rfl⟩)))))), R⟩
end
