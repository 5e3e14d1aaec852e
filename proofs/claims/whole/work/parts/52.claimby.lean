/-- as if one were there on day k, too -/
def thD (f : Nat → Int32) (l k : Nat) (D : Nat → Nat → Nat) : Nat → Nat → Nat := if f k = nI l then D else setD D l (k / 360) (D l (k / 360) + 1)
def cbs (f : Nat → Int32) (H ru : Nat → Nat → Nat) (l : Nat) : Nat → Nat → (Nat → Nat → Nat) → Option Nat
  | 0, _, _ => none
  | r + 1, k, D => if clm (thD f l k D) H ru (k / 360) l then some k else cbs f H ru l r (k + 1) (thD f l k D)
theorem thD_le {f : Nat → Int32} {l k m : Nat} {D : Nat → Nat → Nat} (h : ∀ y, D l y ≤ m) : ∀ y, thD f l k D l y ≤ m + 1 := by
  intro y
  have h1 := h y
  have h2 := h (k / 360)
  unfold thD
  split
  · omega
  · exact setD_b (by omega) (by omega)
section
variable {L : Nat} {xs : Nat → Int32} {A V : Nat → Nat → Int32} {K : Nat → Option Nat} {T : am_H} {D H C ru : Nat → Nat → Nat} {na : Nat → Nat} {rn : Nat → Nat → Nat} {rl : Nat → Nat → Nat → Nat}

theorem L_cb_lp (R : JCr A V ru na rn rl) (l d : Nat) (hl : l < 6) : ∀ (r k m : Nat) (D : Nat → Nat → Nat) (g : Nat → Int32), k + r = 1080 → m ≤ 360 + k → JCd (upA A 27 g) D H C → (∀ y, D l y ≤ m) → ∃ g' : Nat → Int32, ∀ u : Option Int32, am_fin [(z_L_claimBy, 32, [.ref 1, .int (nI l), .int (nI d), .int (nI k), dl u], [])] (hp L xs (upA A 27 g) V K T) (some (onat (-2) (cbs (A 4) H ru l r k D))) (hp L xs (upA A 27 g') V K T) := by
  intro r
  induction r with
  | zero =>
    intro k m D g hk hm J hD
    refine ⟨g, fun u => ?_⟩
    cases u
    · exact sg_L_claimBy_32 (iteP (g1080 (by omega)) ⟨rfl, rfl⟩)
    · exact sg_L_claimBy_32b (iteP (g1080 (by omega)) ⟨rfl, rfl⟩)
  | succ r ih =>
    intro k m D g hk hm J hD
    have hk0 : k < 1080 := by omega
    have hy : k / 360 < 3 := by omega
    have ey : nI k / 360 = nI (k / 360) := by rw [l_360, nI_divI (by omega) (by omega) (by omega)]
    have ix : nI l * 3 + nI (k / 360) = nI (l * 3 + k / 360) := by rw [l_3, nI_mul, nI_add]
    have st : ∃ g1 : Nat → Int32, JCd (upA A 27 g1) (thD (A 4) l k D) H C ∧ ∀ {v : Option Int32} {h' : am_H} (x : Value), am_fin [(z_J_isClaiming, 0, [.ref 26, .int (nI l), .int (nI (k / 360))], []), (z_L_claimBy, 88, [.ref 1, .int (nI l), .int (nI d), .int (nI k), .int (nI (k / 360))], [])] (hp L xs (upA A 27 g1) V K T) v h' → am_fin [(z_L_claimBy, 56, [.ref 1, .int (nI l), .int (nI d), .int (nI k), .int (nI (k / 360))], [.int (A 4 k)])] (hp L xs (upA A 27 g) V K T) v h' := by
      unfold thD
      by_cases c : A 4 k = nI l
      · rw [if_pos c]
        exact ⟨g, J, fun x h => sg_L_claimBy_56r (iteP c h)⟩
      · rw [if_neg c]
        have b0 := hD (k / 360)
        have J2 := JCd_inc J l (k / 360) hl hy (by omega)
        rw [upA_upA, upA_same] at J2
        refine ⟨_, J2, fun x h => sg_L_claimBy_56r (iteN c ?_)⟩
        rw [ix]
        refine ⟨nI_inb (by omega) (by omega), nI_inb (by omega) (by omega), ?_⟩
        rw [nI_clamp (by omega), upA_upA, upA_same]
        exact h
    obtain ⟨g1, J1, s1⟩ := st
    have R1 : JCr (upA A 27 g1) V ru na rn rl := R
    have jc := J_isClaiming_c (L := L) (xs := xs) (K := K) (T := T) J1 R1 l (k / 360) hl hy
    have ld := P_landOn_3_c (L := L) (xs := xs) (A := upA A 27 g) (V := V) (K := K) (T := T) k hk0
    have e : cbs (A 4) H ru l (r + 1) k D = if clm (thD (A 4) l k D) H ru (k / 360) l then some k else cbs (A 4) H ru l r (k + 1) (thD (A 4) l k D) := rfl
    by_cases q : clm (thD (A 4) l k D) H ru (k / 360) l
    · rw [e, if_pos q]
      refine ⟨g1, fun u => ?_⟩
      have go := s1 (v := some (onat (-2) (some k))) (h' := hp L xs (upA A 27 g1) V K T) .null (am_fin.call jc (sg_L_claimBy_88r (iteN (mt b2_z.mp (fun z => z q)) ⟨rfl, rfl⟩)))
      cases u
      · exact sg_L_claimBy_32 (iteN (l1080 hk0) (by rw [ey]; exact am_fin.call ld go))
      · exact sg_L_claimBy_32b (iteN (l1080 hk0) (by rw [ey]; exact am_fin.call ld go))
    · rw [e, if_neg q]
      obtain ⟨g', i1⟩ := ih (k + 1) (m + 1) (thD (A 4) l k D) g1 (by omega) (by omega) J1 (thD_le hD)
      rw [← nI_1] at i1
      refine ⟨g', fun u => ?_⟩
      have go := s1 (v := some (onat (-2) (cbs (A 4) H ru l r (k + 1) (thD (A 4) l k D)))) (h' := hp L xs (upA A 27 g') V K T) .null (am_fin.call jc (sg_L_claimBy_88r (iteP (b2_z.mpr q) (i1 (some _)))))
      cases u
      · exact sg_L_claimBy_32 (iteN (l1080 hk0) (by rw [ey]; exact am_fin.call ld go))
      · exact sg_L_claimBy_32b (iteN (l1080 hk0) (by rw [ey]; exact am_fin.call ld go))
theorem M_cb_lp (R : JMr A ru na rn rl) (l d : Nat) (hl : l < 6) : ∀ (r k m : Nat) (D : Nat → Nat → Nat) (g : Nat → Int32), k + r = 1080 → m ≤ 360 + k → JMd (upA A 47 g) D H C → (∀ y, D l y ≤ m) → ∃ g' : Nat → Int32, am_fin [(z_M_claimBy, 22, [.ref 36, .int (nI l), .int (nI d), .int (nI k)], [])] (hp L xs (upA A 47 g) V K T) (some (onat (-2) (cbs (A 37) H ru l r k D))) (hp L xs (upA A 47 g') V K T) := by
  intro r
  induction r with
  | zero =>
    intro k m D g hk hm J hD
    exact ⟨g, sg_M_claimBy_22 (iteP (g1080 (by omega)) ⟨rfl, rfl⟩)⟩
  | succ r ih =>
    intro k m D g hk hm J hD
    have hk0 : k < 1080 := by omega
    have hy : k / 360 < 3 := by omega
    have ib : ¬ (nI k < 0 ∨ 1080 ≤ (nI k).toNatClampNeg) := nI_inb (by omega) hk0
    have ck := nI_clamp (n := k) (by omega)
    have ey : nI k / 360 = nI (k / 360) := by rw [l_360, nI_divI (by omega) (by omega) (by omega)]
    have ix : (18 : Int32) * 0 + 3 * nI l + nI (k / 360) = nI (18 * 0 + 3 * l + k / 360) := by rw [l_18, l_0, l_3, nI_mul, nI_mul, nI_add, nI_add]
    have st : ∃ g1 : Nat → Int32, JMd (upA A 47 g1) (thD (A 37) l k D) H C ∧ ∀ {v : Option Int32} {h' : am_H}, am_fin [(z_M_isClaimed, 0, [.ref 36, .int (nI l), .int (nI (k / 360))], []), (z_M_claimBy, 58, [.ref 36, .int (nI l), .int (nI d), .int (nI k)], [])] (hp L xs (upA A 47 g1) V K T) v h' → am_fin [(z_M_claimBy, 22, [.ref 36, .int (nI l), .int (nI d), .int (nI k)], [])] (hp L xs (upA A 47 g) V K T) v h' := by
      unfold thD
      by_cases c : A 37 k = nI l
      · rw [if_pos c]
        refine ⟨g, J, fun h => sg_M_claimBy_22 (iteN (l1080 hk0) ⟨ib, iteP (by rw [ck]; exact c) ?_⟩)⟩
        rw [ey]; exact h
      · rw [if_neg c]
        have b0 := hD (k / 360)
        have J2 := JMd_inc J l (k / 360) hl hy (by omega)
        rw [upA_upA, upA_same] at J2
        refine ⟨_, J2, fun h => sg_M_claimBy_22 (iteN (l1080 hk0) ⟨ib, iteN (by rw [ck]; exact c) (iteN (nI_neg1 (by omega)) ?_)⟩)⟩
        rw [ey, ix]
        refine ⟨nI_inb (by omega) (by omega), nI_inb (by omega) (by omega), ?_⟩
        rw [nI_clamp (by omega), upA_upA, upA_same]
        exact h
    obtain ⟨g1, J1, s1⟩ := st
    have R1 : JMr (upA A 47 g1) ru na rn rl := R
    have jc := M_isClaimed_c (L := L) (xs := xs) (V := V) (K := K) (T := T) J1 R1 l (k / 360) hl hy
    have e : cbs (A 37) H ru l (r + 1) k D = if clm (thD (A 37) l k D) H ru (k / 360) l then some k else cbs (A 37) H ru l r (k + 1) (thD (A 37) l k D) := rfl
    by_cases q : clm (thD (A 37) l k D) H ru (k / 360) l
    · rw [e, if_pos q]
      exact ⟨g1, s1 (am_fin.call jc (sg_M_claimBy_58r (iteN (mt b2_z.mp (fun z => z q)) ⟨rfl, rfl⟩)))⟩
    · rw [e, if_neg q]
      obtain ⟨g', i1⟩ := ih (k + 1) (m + 1) (thD (A 37) l k D) g1 (by omega) (by omega) J1 (thD_le hD)
      rw [← nI_1] at i1
      exact ⟨g', s1 (am_fin.call jc (sg_M_claimBy_58r (iteP (b2_z.mpr q) i1)))⟩
end
section
variable {L : Nat} {xs : Nat → Int32} {A V : Nat → Nat → Int32} {K : Nat → Option Nat} {T : am_H}
theorem pr_claimBy (a1 a2 : Int32) (R : RI A V K T) : PRQ z_L_claimBy z_M_claimBy [.ref 1, .int a1, .int a2, .null, .null] [.ref 36, .int a1, .int a2, .null] L xs A V K T := by
  by_cases c1 : a1 < 0
  · refine ⟨(-1), A, V, K, T, A, V, sg_L_claimBy_0 ?_, sg_M_claimBy_0 ?_, R⟩
    · (try simp only [lgl, lgg]); (repeat first | refine iteP (by first | assumption) ?_ | refine iteN (by first | assumption) ?_); (constructor <;> first | rfl | trivial)
    · (try simp only [lgl, lgg]); (repeat first | refine iteP (by first | assumption) ?_ | refine iteN (by first | assumption) ?_); (constructor <;> first | rfl | trivial)
  by_cases c2 : (5 : Int32) < a1
  · refine ⟨(-1), A, V, K, T, A, V, sg_L_claimBy_0 ?_, sg_M_claimBy_0 ?_, R⟩
    · (try simp only [lgl, lgg]); (repeat first | refine iteP (by first | assumption) ?_ | refine iteN (by first | assumption) ?_); (constructor <;> first | rfl | trivial)
    · (try simp only [lgl, lgg]); (repeat first | refine iteP (by first | assumption) ?_ | refine iteN (by first | assumption) ?_); (constructor <;> first | rfl | trivial)
  by_cases c3 : a2 < 0
  · refine ⟨(-1), A, V, K, T, A, V, sg_L_claimBy_0 ?_, sg_M_claimBy_0 ?_, R⟩
    · (try simp only [lgl, lgg]); (repeat first | refine iteP (by first | assumption) ?_ | refine iteN (by first | assumption) ?_); (constructor <;> first | rfl | trivial)
    · (try simp only [lgl, lgg]); (repeat first | refine iteP (by first | assumption) ?_ | refine iteN (by first | assumption) ?_); (constructor <;> first | rfl | trivial)
  by_cases c4 : (1079 : Int32) < a2
  · refine ⟨(-1), A, V, K, T, A, V, sg_L_claimBy_0 ?_, sg_M_claimBy_0 ?_, R⟩
    · (try simp only [lgl, lgg]); (repeat first | refine iteP (by first | assumption) ?_ | refine iteN (by first | assumption) ?_); (constructor <;> first | rfl | trivial)
    · (try simp only [lgl, lgg]); (repeat first | refine iteP (by first | assumption) ?_ | refine iteN (by first | assumption) ?_); (constructor <;> first | rfl | trivial)
  obtain ⟨l, hl, rfl⟩ := i32_nat (m := 5) (by omega) c1 c2
  obtain ⟨d, hd, rfl⟩ := i32_nat (m := 1079) (by omega) c3 c4
  obtain ⟨r1, r2, r3, r4, r5, r6, r7, r8⟩ := id R.1
  obtain ⟨gc, gh, gd, j1, j2⟩ := J_weigh_3_c (L := L) (xs := xs) (V := V) (K := K) (T := T) r5 r6 r8
  obtain ⟨g, lp⟩ := L_cb_lp (L := L) (xs := xs) (A := upA (upA A 29 gc) 28 gh) (V := V) (K := K) (T := T) (JCr_of R.2.2.1) l d (by omega) (1080 - d) d 360 (nD (A 4)) gd (by omega) (by omega) j1 (fun y => nD_le _ _ _)
  obtain ⟨gm, m1, m2⟩ := M_laysCounts_c (L := L) (xs := xs) (A := upA (upA (upA A 29 gc) 28 gh) 27 g) (V := V) (K := K) (T := T)
  have m1 : JMd (upA (upA (upA (upA A 29 gc) 28 gh) 27 g) 47 gm) (nD (A 37)) (nH (A 38)) (nD (A 39)) := m1
  rw [r1, r2, r3] at m1
  obtain ⟨gm', ml⟩ := M_cb_lp (L := L) (xs := xs) (A := upA (upA (upA A 29 gc) 28 gh) 27 g) (V := V) (K := K) (T := T) (JMr_of R.2.2.1) l d (by omega) (1080 - d) d 360 (nD (A 4)) gm (by omega) (by omega) m1 (fun y => nD_le _ _ _)
  have e37 : upA (upA (upA A 29 gc) 28 gh) 27 g 37 = A 4 := r1
  rw [e37] at ml
  refine ⟨onat (-2) (cbs (A 4) (nH (A 9)) (ruA A) l (1080 - d) d (nD (A 4))), upA (upA (upA A 29 gc) 28 gh) 27 g, V, K, T, upA (upA (upA (upA A 29 gc) 28 gh) 27 g) 47 gm', V, sg_L_claimBy_0 ?_, sg_M_claimBy_0 ?_, R⟩
  · (try simp only [lgl, lgg]); (repeat first | refine iteP (by first | assumption) ?_ | refine iteN (by first | assumption) ?_)
    exact am_fin.call j2 (sg_L_claimBy_30r (lp none))
  · (try simp only [lgl, lgg]); (repeat first | refine iteP (by first | assumption) ?_ | refine iteN (by first | assumption) ?_)
    exact am_fin.call m2 (sg_M_claimBy_20r ml)
end
