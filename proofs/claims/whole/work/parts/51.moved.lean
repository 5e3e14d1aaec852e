section
variable {L : Nat} {xs : Nat → Int32} {A B V W : Nat → Nat → Int32} {K K' : Nat → Option Nat} {T T' : am_H} {D H C ru : Nat → Nat → Nat} {na : Nat → Nat} {rn : Nat → Nat → Nat} {rl : Nat → Nat → Nat → Nat}
theorem nearest_lp (J : JCd A D H C) (R : JCr A V ru na rn rl) (JM : JMd B D H C) (RM : JMr B ru na rn rl) (y w : Nat) (hy : y < 3) (hw : w < 2) (hD : ∀ l, l < 6 → D l y ≤ 360) : ∀ (r k : Nat) (b : Option Nat) (lc lr : Int32), k + r = 6 → (b = none → lc = -2) → (∀ m, b = some m → lc = lr ∧ m < 6) → ∃ v : Int32, (∀ u : Option Int32, am_fin [(z_L_nearest, 42, [.ref 1, .int (nI y), .int (nI w), .int (onat (-2) b), .int lc, .int (nI k), dl u], [])] (hp L xs A V K T) (some v) (hp L xs A V K T)) ∧ ∀ u : Option Int32, am_fin [(z_M_nearest, 32, [.ref 36, .int (nI y), .int (nI w), .int (onat (-2) b), .int lr, .int (nI k), dl u], [])] (hp L xs B W K' T') (some v) (hp L xs B W K' T') := by
  intro r
  induction r with
  | zero =>
    intro k b lc lr hk h1 h2
    have k6 : (6 : Int32) ≤ nI k := by rw [l_6, nI_leI (by omega) (by omega)]; omega
    by_cases w0 : w = 0
    · subst w0
      refine ⟨onat (-2) b, fun u => ?_, fun u => ?_⟩
      · cases u
        · exact sg_L_nearest_42 (iteP k6 (iteP rfl ⟨rfl, rfl⟩))
        · exact sg_L_nearest_42b (iteP k6 (iteP rfl ⟨rfl, rfl⟩))
      · cases u
        · exact sg_M_nearest_32 (iteP k6 (iteP rfl ⟨rfl, rfl⟩))
        · exact sg_M_nearest_32b (iteP k6 (iteP rfl ⟨rfl, rfl⟩))
    · have n0 : ¬ nI w = 0 := mt (nI_z (by omega)).mp w0
      refine ⟨lc, fun u => ?_, fun u => ?_⟩
      · cases u
        · exact sg_L_nearest_42 (iteP k6 (iteN n0 ⟨rfl, rfl⟩))
        · exact sg_L_nearest_42b (iteP k6 (iteN n0 ⟨rfl, rfl⟩))
      · cases b with
        | none =>
          rw [h1 rfl]
          cases u
          · exact sg_M_nearest_32 (iteP k6 (iteN n0 (iteP rfl ⟨rfl, rfl⟩)))
          · exact sg_M_nearest_32b (iteP k6 (iteN n0 (iteP rfl ⟨rfl, rfl⟩)))
        | some m =>
          rw [(h2 m rfl).1]
          have nm : ¬ nI m = -2 := nI_neg2 (by have := (h2 m rfl).2; omega)
          cases u
          · exact sg_M_nearest_32 (iteP k6 (iteN n0 (iteN nm ⟨rfl, rfl⟩)))
          · exact sg_M_nearest_32b (iteP k6 (iteN n0 (iteN nm ⟨rfl, rfl⟩)))
  | succ r ih =>
    intro k b lc lr hk h1 h2
    have k6 : ¬ (6 : Int32) ≤ nI k := by rw [l_6, nI_leI (by omega) (by omega)]; omega
    have hk6 : k < 6 := by omega
    have jc := J_needOf_c (L := L) (xs := xs) (K := K) (T := T) J R k y hk6 hy (hD k hk6)
    have mc := M_needs_c (L := L) (xs := xs) (V := W) (K := K') (T := T') JM RM k y hk6 hy (hD k hk6)
    have e1 : nI k + 1 = nI (k + 1) := nI_1 k
    by_cases z : (onat (-2) (nd D H ru k y)) ≤ 0
    · have z2 : (onat (-2) (nd D H ru k y)) < 1 := by
        rw [Int32.le_iff_toInt_le] at z
        rw [Int32.lt_iff_toInt_lt]
        have a1 : (0 : Int32).toInt = 0 := by decide
        have a2 : (1 : Int32).toInt = 1 := by decide
        omega
      obtain ⟨v, i1, i2⟩ := ih (k + 1) b lc lr (by omega) h1 h2
      refine ⟨v, fun u => ?_, fun u => ?_⟩
      · cases u
        · exact sg_L_nearest_42 (iteN k6 (am_fin.call jc (sg_L_nearest_59r (iteP z (by rw [e1]; exact i1 (some _))))))
        · exact sg_L_nearest_42b (iteN k6 (am_fin.call jc (sg_L_nearest_59rb (iteP z (by rw [e1]; exact i1 (some _))))))
      · cases u
        · exact sg_M_nearest_32 (iteN k6 (am_fin.call mc (sg_M_nearest_46r (iteP z2 (by rw [e1]; exact i2 (some _))))))
        · exact sg_M_nearest_32b (iteN k6 (am_fin.call mc (sg_M_nearest_46rb (iteP z2 (by rw [e1]; exact i2 (some _))))))
    · have z2 : ¬ (onat (-2) (nd D H ru k y)) < 1 := by
        rw [Int32.le_iff_toInt_le] at z
        rw [Int32.lt_iff_toInt_lt]
        have a1 : (0 : Int32).toInt = 0 := by decide
        have a2 : (1 : Int32).toInt = 1 := by decide
        omega
      by_cases up : b = none ∨ ¬ lc ≤ onat (-2) (nd D H ru k y)
      · obtain ⟨v, i1, i2⟩ := ih (k + 1) (some k) (onat (-2) (nd D H ru k y)) (onat (-2) (nd D H ru k y)) (by omega) (fun h => by cases h) (fun m h => by cases h; exact ⟨rfl, hk6⟩)
        cases b with
        | none =>
          refine ⟨v, fun u => ?_, fun u => ?_⟩
          · cases u
            · exact sg_L_nearest_42 (iteN k6 (am_fin.call jc (sg_L_nearest_59r (iteN z (iteP rfl (by rw [e1]; exact i1 (some _)))))))
            · exact sg_L_nearest_42b (iteN k6 (am_fin.call jc (sg_L_nearest_59rb (iteN z (iteP rfl (by rw [e1]; exact i1 (some _)))))))
          · cases u
            · exact sg_M_nearest_32 (iteN k6 (am_fin.call mc (sg_M_nearest_46r (iteN z2 (iteP rfl (by rw [e1]; exact i2 (some _)))))))
            · exact sg_M_nearest_32b (iteN k6 (am_fin.call mc (sg_M_nearest_46rb (iteN z2 (iteP rfl (by rw [e1]; exact i2 (some _)))))))
        | some m =>
          have nm : ¬ nI m = -2 := nI_neg2 (by have := (h2 m rfl).2; omega)
          have up := up.resolve_left (fun h => by cases h)
          have up2 : onat (-2) (nd D H ru k y) < lr := by rw [← (h2 m rfl).1]; exact Int32.not_le.mp up
          refine ⟨v, fun u => ?_, fun u => ?_⟩
          · cases u
            · exact sg_L_nearest_42 (iteN k6 (am_fin.call jc (sg_L_nearest_59r (iteN z (iteN nm (iteN up (by rw [e1]; exact i1 (some _))))))))
            · exact sg_L_nearest_42b (iteN k6 (am_fin.call jc (sg_L_nearest_59rb (iteN z (iteN nm (iteN up (by rw [e1]; exact i1 (some _))))))))
          · cases u
            · exact sg_M_nearest_32 (iteN k6 (am_fin.call mc (sg_M_nearest_46r (iteN z2 (iteN nm (iteP up2 (by rw [e1]; exact i2 (some _))))))))
            · exact sg_M_nearest_32b (iteN k6 (am_fin.call mc (sg_M_nearest_46rb (iteN z2 (iteN nm (iteP up2 (by rw [e1]; exact i2 (some _))))))))
      · obtain ⟨v, i1, i2⟩ := ih (k + 1) b lc lr (by omega) h1 h2
        cases b with
        | none => exact absurd (Or.inl rfl) up
        | some m =>
          have nm : ¬ nI m = -2 := nI_neg2 (by have := (h2 m rfl).2; omega)
          have up : lc ≤ onat (-2) (nd D H ru k y) := Decidable.not_not.mp (fun h => up (Or.inr h))
          have up2 : ¬ onat (-2) (nd D H ru k y) < lr := by rw [← (h2 m rfl).1]; exact Int32.not_lt.mpr up
          refine ⟨v, fun u => ?_, fun u => ?_⟩
          · cases u
            · exact sg_L_nearest_42 (iteN k6 (am_fin.call jc (sg_L_nearest_59r (iteN z (iteN nm (iteP up (by rw [e1]; exact i1 (some _))))))))
            · exact sg_L_nearest_42b (iteN k6 (am_fin.call jc (sg_L_nearest_59rb (iteN z (iteN nm (iteP up (by rw [e1]; exact i1 (some _))))))))
          · cases u
            · exact sg_M_nearest_32 (iteN k6 (am_fin.call mc (sg_M_nearest_46r (iteN z2 (iteN nm (iteN up2 (by rw [e1]; exact i2 (some _))))))))
            · exact sg_M_nearest_32b (iteN k6 (am_fin.call mc (sg_M_nearest_46rb (iteN z2 (iteN nm (iteN up2 (by rw [e1]; exact i2 (some _))))))))
end
def dcD (D : Nat → Nat → Nat) (w : Option Nat) (y : Nat) : Nat → Nat → Nat := match w with
  | none => D
  | some l => setD D l y (D l y - 1)
def icD (D : Nat → Nat → Nat) (w : Option Nat) (y : Nat) : Nat → Nat → Nat := match w with
  | none => D
  | some l => setD D l y (D l y + 1)
/-- a day moved from w to t -/
def mvD (D : Nat → Nat → Nat) (w t : Option Nat) (y : Nat) : Nat → Nat → Nat := icD (dcD D w y) t y
theorem upd_pm (f : Nat → Int32) (i : Nat) : upd (upd f i (f i + 1)) i (upd f i (f i + 1) i + -1) = f := by
  rw [updat, upd_upd, Int32.add_assoc, show (1 : Int32) + -1 = 0 from by decide, Int32.add_zero, upd_id]
theorem upd_mp (f : Nat → Int32) (i : Nat) : upd (upd f i (f i + -1)) i (upd f i (f i + -1) i + 1) = f := by
  rw [updat, upd_upd, Int32.add_assoc, show (-1 : Int32) + 1 = 0 from by decide, Int32.add_zero, upd_id]
theorem JCd_inc {A : Nat → Nat → Int32} {D H C : Nat → Nat → Nat} (J : JCd A D H C) (l y : Nat) (hl : l < 6) (hy : y < 3) (h : D l y ≤ 1499) : JCd (upA A 27 (upd (A 27) (l * 3 + y) (A 27 (l * 3 + y) + 1))) (setD D l y (D l y + 1)) H C := by
  rw [(J l y hl hy).1, nI_1]
  exact JCd_set J l y (D l y + 1) (by omega) hy
theorem JCd_dec {A : Nat → Nat → Int32} {D H C : Nat → Nat → Nat} (J : JCd A D H C) (l y : Nat) (hl : l < 6) (hy : y < 3) (h : 1 ≤ D l y) : JCd (upA A 27 (upd (A 27) (l * 3 + y) (A 27 (l * 3 + y) + -1))) (setD D l y (D l y - 1)) H C := by
  have := (J l y hl hy).2.2.2.1
  rw [(J l y hl hy).1, nI_am1 (by omega)]
  exact JCd_set J l y (D l y - 1) (by omega) hy
theorem JMd_inc {A : Nat → Nat → Int32} {D H C : Nat → Nat → Nat} (J : JMd A D H C) (l y : Nat) (hl : l < 6) (hy : y < 3) (h : D l y ≤ 1499) : JMd (upA A 47 (upd (A 47) (18 * 0 + 3 * l + y) (A 47 (18 * 0 + 3 * l + y) + 1))) (setD D l y (D l y + 1)) H C := by
  rw [(J l y hl hy).1, nI_1]
  exact JMd_set J l y (D l y + 1) (by omega) hl hy
theorem JMd_dec {A : Nat → Nat → Int32} {D H C : Nat → Nat → Nat} (J : JMd A D H C) (l y : Nat) (hl : l < 6) (hy : y < 3) (h : 1 ≤ D l y) : JMd (upA A 47 (upd (A 47) (18 * 0 + 3 * l + y) (A 47 (18 * 0 + 3 * l + y) + -1))) (setD D l y (D l y - 1)) H C := by
  have := (J l y hl hy).2.2.2.1
  rw [(J l y hl hy).1, nI_am1 (by omega)]
  exact JMd_set J l y (D l y - 1) (by omega) hl hy
theorem setD_b {D : Nat → Nat → Nat} {l y n a b m : Nat} (h1 : D a b ≤ m) (h2 : n ≤ m) : setD D l y n a b ≤ m := by
  unfold setD
  split <;> assumption
section
variable {L : Nat} {xs : Nat → Int32} {A V : Nat → Nat → Int32} {K : Nat → Option Nat} {T : am_H} {D H C ru : Nat → Nat → Nat} {na : Nat → Nat} {rn : Nat → Nat → Nat} {rl : Nat → Nat → Nat → Nat}

theorem J_livesIfMoved_c (J : JCd A D H C) (R : JCr A V ru na rn rl) (w t : Option Nat) (y : Nat) (hy : y < 3) (hw : ∀ l, w = some l → l < 6 ∧ 1 ≤ D l y) (ht : ∀ l, t = some l → l < 6) (hD : ∀ l, l < 6 → D l y ≤ 360) : am_fin [(z_J_livesIfMoved, 0, [.ref 26, .int (onat (-1) w), .int (onat (-1) t), .int (nI y), .null], [])] (hp L xs A V K T) (some (onat (-2) (lives (mvD D w t y) H C ru na rn rl y))) (hp L xs A V K T) := by
  have ob : ∀ l, l < 6 → ¬ (nI (l * 3 + y) < 0 ∨ 18 ≤ (nI (l * 3 + y)).toNatClampNeg) := fun l hl => nI_inb (by omega) (by omega)
  have ix : ∀ l, nI l * 3 + nI y = nI (l * 3 + y) := fun l => by rw [l_3, nI_mul, nI_add]
  have g5 : ∀ l, l < 6 → ¬ (5 : Int32) < nI l := fun l hl => by rw [l_5, nI_ltI (by omega) (by omega)]; omega
  have n0 : onat (-1) none < 0 := by decide
  refine sg_J_livesIfMoved_0 ?_
  cases w with
  | none =>
    cases t with
    | none =>
      exact iteP n0 (iteP n0 (am_fin.call (J_livesIn_c J R y hy) (sg_J_livesIfMoved_19r (iteP n0 (iteP n0 ⟨rfl, rfl⟩)))))
    | some b =>
      have hb := ht b rfl
      have cb := nI_clamp (n := b * 3 + y) (by omega)
      refine iteP n0 (iteN (nI_lt0 (a := b) (by omega)) (iteN (g5 b hb) ?_))
      rw [show onat (-1) (some b) * 3 + nI y = nI (b * 3 + y) from ix b]
      refine ⟨ob b hb, ob b hb, ?_⟩
      rw [cb]
      have J2 := JCd_inc J b y hb hy (by have := hD b hb; omega)
      have R2 : JCr (upA A 27 (upd (A 27) (b * 3 + y) (A 27 (b * 3 + y) + 1))) V ru na rn rl := R
      refine am_fin.call (J_livesIn_c J2 R2 y hy) (sg_J_livesIfMoved_19r ?_)
      refine iteN (nI_lt0 (a := b) (by omega)) (iteN (g5 b hb) ?_)
      rw [show onat (-1) (some b) * 3 + nI y = nI (b * 3 + y) from ix b]
      refine ⟨ob b hb, ob b hb, iteP n0 ⟨rfl, ?_⟩⟩
      rw [cb, upA_upA, upA_same, upd_pm, upA_self]
  | some a =>
    obtain ⟨ha, da⟩ := hw a rfl
    have ca := nI_clamp (n := a * 3 + y) (by omega)
    refine iteN (nI_lt0 (a := a) (by omega)) (iteN (g5 a ha) ?_)
    rw [show onat (-1) (some a) * 3 + nI y = nI (a * 3 + y) from ix a]
    refine ⟨ob a ha, ob a ha, ?_⟩
    cases t with
    | none =>
      refine iteP n0 ?_
      rw [ca]
      have J2 := JCd_dec J a y ha hy da
      have R2 : JCr (upA A 27 (upd (A 27) (a * 3 + y) (A 27 (a * 3 + y) + -1))) V ru na rn rl := R
      refine am_fin.call (J_livesIn_c J2 R2 y hy) (sg_J_livesIfMoved_19r ?_)
      refine iteP n0 (iteN (nI_lt0 (a := a) (by omega)) (iteN (g5 a ha) ?_))
      rw [show onat (-1) (some a) * 3 + nI y = nI (a * 3 + y) from ix a]
      refine ⟨ob a ha, ob a ha, rfl, ?_⟩
      rw [ca, upA_upA, upA_same, upd_mp, upA_self]
    | some b =>
      have hb := ht b rfl
      have cb := nI_clamp (n := b * 3 + y) (by omega)
      refine iteN (nI_lt0 (a := b) (by omega)) (iteN (g5 b hb) ?_)
      rw [show onat (-1) (some b) * 3 + nI y = nI (b * 3 + y) from ix b]
      refine ⟨ob b hb, ob b hb, ?_⟩
      rw [ca, cb]
      have J2 := JCd_inc (JCd_dec J a y ha hy da) b y hb hy (by
        have d1 := hD a ha
        have d2 := hD b hb
        exact setD_b (by omega) (by omega))
      have R2 : JCr (upA (upA A 27 (upd (A 27) (a * 3 + y) (A 27 (a * 3 + y) + -1))) 27 (upd ((upA A 27 (upd (A 27) (a * 3 + y) (A 27 (a * 3 + y) + -1))) 27) (b * 3 + y) ((upA A 27 (upd (A 27) (a * 3 + y) (A 27 (a * 3 + y) + -1))) 27 (b * 3 + y) + 1))) V ru na rn rl := R
      refine am_fin.call (J_livesIn_c J2 R2 y hy) (sg_J_livesIfMoved_19r ?_)
      refine iteN (nI_lt0 (a := b) (by omega)) (iteN (g5 b hb) ?_)
      rw [show onat (-1) (some b) * 3 + nI y = nI (b * 3 + y) from ix b]
      refine ⟨ob b hb, ob b hb, iteN (nI_lt0 (a := a) (by omega)) (iteN (g5 a ha) ?_)⟩
      rw [show onat (-1) (some a) * 3 + nI y = nI (a * 3 + y) from ix a]
      refine ⟨ob a ha, ob a ha, rfl, ?_⟩
      simp only [ca, cb, upA_upA, upA_same, upd_pm, upd_mp, upA_self]
theorem M_livesBy_c (J : JMd A D H C) (R : JMr A ru na rn rl) (w t : Option Nat) (d : Nat) (hd : d < 1080) (hf : A 37 d = onat (-1) w) (hw : ∀ l, w = some l → l < 6 ∧ 1 ≤ D l (d / 360)) (ht : ∀ l, t = some l → l < 6) (hD : ∀ l, l < 6 → D l (d / 360) ≤ 360) : am_fin [(z_M_livesBy, 0, [.ref 36, .int (nI d), .int (onat (-1) t), .null, .null], [])] (hp L xs A V K T) (some (onat (-2) (lives (mvD D w t (d / 360)) H C ru na rn rl (d / 360)))) (hp L xs A V K T) := by
  have hy : d / 360 < 3 := by omega
  have ib : ¬ (nI d < 0 ∨ 1080 ≤ (nI d).toNatClampNeg) := nI_inb (by omega) hd
  have ey : nI d / 360 = nI (d / 360) := by rw [l_360, nI_divI (by omega) (by omega) (by omega)]
  have cd := nI_clamp (n := d) (by omega)
  have ob : ∀ l, l < 6 → ¬ (nI (18 * 0 + 3 * l + d / 360) < 0 ∨ 54 ≤ (nI (18 * 0 + 3 * l + d / 360)).toNatClampNeg) := fun l hl => nI_inb (by omega) (by omega)
  have ix : ∀ l, (18 : Int32) * 0 + 3 * nI l + nI (d / 360) = nI (18 * 0 + 3 * l + d / 360) := fun l => by rw [l_18, l_0, l_3, nI_mul, nI_mul, nI_add, nI_add]
  refine sg_M_livesBy_0 ⟨ib, ?_⟩
  rw [ey, cd, hf]
  cases w with
  | none =>
    refine iteP rfl ?_
    cases t with
    | none =>
      refine iteP rfl (am_fin.call (M_livesNow_c J R (d / 360) hy) (sg_M_livesBy_29r (iteP rfl ⟨ib, ?_⟩)))
      rw [cd, hf]
      exact iteP rfl ⟨rfl, rfl⟩
    | some b =>
      have hb := ht b rfl
      have cb := nI_clamp (n := 18 * 0 + 3 * b + d / 360) (by omega)
      have nb : ¬ onat (-1) (some b) = -1 := nI_neg1 (a := b) (by omega)
      refine iteN nb ?_
      rw [show (18 : Int32) * 0 + 3 * onat (-1) (some b) + nI (d / 360) = nI (18 * 0 + 3 * b + d / 360) from ix b]
      refine ⟨ob b hb, ob b hb, ?_⟩
      rw [cb]
      have J2 := JMd_inc J b (d / 360) hb hy (by have := hD b hb; omega)
      have R2 : JMr (upA A 47 (upd (A 47) (18 * 0 + 3 * b + d / 360) (A 47 (18 * 0 + 3 * b + d / 360) + 1))) ru na rn rl := R
      refine am_fin.call (M_livesNow_c J2 R2 (d / 360) hy) (sg_M_livesBy_29r ?_)
      refine iteN nb ?_
      rw [show (18 : Int32) * 0 + 3 * onat (-1) (some b) + nI (d / 360) = nI (18 * 0 + 3 * b + d / 360) from ix b]
      refine ⟨ob b hb, ob b hb, ib, iteP ?_ ⟨rfl, ?_⟩⟩
      · rw [cd]; exact hf
      · rw [cb, upA_upA, upA_same, upd_pm, upA_self]
  | some a =>
    obtain ⟨ha, da⟩ := hw a rfl
    have ca := nI_clamp (n := 18 * 0 + 3 * a + d / 360) (by omega)
    have nna : ¬ onat (-1) (some a) = -1 := nI_neg1 (a := a) (by omega)
    refine iteN nna ?_
    rw [show (18 : Int32) * 0 + 3 * onat (-1) (some a) + nI (d / 360) = nI (18 * 0 + 3 * a + d / 360) from ix a]
    refine ⟨ob a ha, ob a ha, ?_⟩
    cases t with
    | none =>
      refine iteP rfl ?_
      rw [ca]
      have J2 := JMd_dec J a (d / 360) ha hy da
      have R2 : JMr (upA A 47 (upd (A 47) (18 * 0 + 3 * a + d / 360) (A 47 (18 * 0 + 3 * a + d / 360) + -1))) ru na rn rl := R
      refine am_fin.call (M_livesNow_c J2 R2 (d / 360) hy) (sg_M_livesBy_29r ?_)
      refine iteP rfl ⟨ib, ?_⟩
      rw [cd]
      rw [show ∀ F, upA A 47 F 37 d = onat (-1) (some a) from fun F => hf]
      refine iteN nna ?_
      rw [show (18 : Int32) * 0 + 3 * onat (-1) (some a) + nI (d / 360) = nI (18 * 0 + 3 * a + d / 360) from ix a]
      refine ⟨ob a ha, ob a ha, rfl, ?_⟩
      rw [ca, upA_upA, upA_same, upd_mp, upA_self]
    | some b =>
      have hb := ht b rfl
      have cb := nI_clamp (n := 18 * 0 + 3 * b + d / 360) (by omega)
      have nb : ¬ onat (-1) (some b) = -1 := nI_neg1 (a := b) (by omega)
      refine iteN nb ?_
      rw [show (18 : Int32) * 0 + 3 * onat (-1) (some b) + nI (d / 360) = nI (18 * 0 + 3 * b + d / 360) from ix b]
      refine ⟨ob b hb, ob b hb, ?_⟩
      rw [ca, cb]
      have J2 := JMd_inc (JMd_dec J a (d / 360) ha hy da) b (d / 360) hb hy (by
        have d1 := hD a ha
        have d2 := hD b hb
        exact setD_b (by omega) (by omega))
      have R2 : JMr (upA (upA A 47 (upd (A 47) (18 * 0 + 3 * a + d / 360) (A 47 (18 * 0 + 3 * a + d / 360) + -1))) 47 (upd ((upA A 47 (upd (A 47) (18 * 0 + 3 * a + d / 360) (A 47 (18 * 0 + 3 * a + d / 360) + -1))) 47) (18 * 0 + 3 * b + d / 360) ((upA A 47 (upd (A 47) (18 * 0 + 3 * a + d / 360) (A 47 (18 * 0 + 3 * a + d / 360) + -1))) 47 (18 * 0 + 3 * b + d / 360) + 1))) ru na rn rl := R
      refine am_fin.call (M_livesNow_c J2 R2 (d / 360) hy) (sg_M_livesBy_29r ?_)
      refine iteN nb ?_
      rw [show (18 : Int32) * 0 + 3 * onat (-1) (some b) + nI (d / 360) = nI (18 * 0 + 3 * b + d / 360) from ix b]
      refine ⟨ob b hb, ob b hb, ib, ?_⟩
      rw [cd]
      rw [show ∀ F G P, upA (upA (upA A 47 F) 47 G) 47 P 37 d = onat (-1) (some a) from fun F G P => hf]
      refine iteN nna ?_
      rw [show (18 : Int32) * 0 + 3 * onat (-1) (some a) + nI (d / 360) = nI (18 * 0 + 3 * a + d / 360) from ix a]
      refine ⟨ob a ha, ob a ha, rfl, ?_⟩
      simp only [ca, cb, upA_upA, upA_same, upd_pm, upd_mp, upA_self]
end
theorem cn_pos {p : Nat → Prop} [DecidablePred p] {a : Nat} : ∀ {n i : Nat}, a ≤ i → i < a + n → p i → 1 ≤ cn p a n
  | 0, i, h1, h2, _ => by omega
  | n + 1, i, h1, h2, hp => by
    unfold cn
    by_cases e : i = a + n
    · rw [e] at hp; rw [if_pos hp]; omega
    · have := cn_pos (n := n) h1 (by omega) hp
      omega
theorem pl_on {x : Int32} (h : pl x) : ∃ w : Option Nat, x = onat (-1) w ∧ ∀ l, w = some l → l < 6 := by
  rcases h with e | ⟨l, hl, e⟩
  · exact ⟨none, e, fun l h => by cases h⟩
  · exact ⟨some l, e, fun m h => by cases h; exact hl⟩
theorem nD_pos {f : Nat → Int32} {d l : Nat} (hd : d < 1080) (h : f d = nI l) : 1 ≤ nD f l (d / 360) := cn_pos (p := fun d => f d = nI l) (i := d) (by omega) (by omega) h
theorem i32_pl {x : Int32} (h1 : ¬ x < -1) (h2 : ¬ (5 : Int32) < x) : pl x := by
  by_cases c : x = -1
  · exact Or.inl c
  · have h3 : ¬ x < 0 := by
      rw [Int32.lt_iff_toInt_lt] at h1 ⊢
      rw [← Int32.toInt_inj] at c
      have a1 : (0 : Int32).toInt = 0 := by decide
      have a2 : (-1 : Int32).toInt = -1 := by decide
      omega
    obtain ⟨n, hn, e⟩ := i32_nat (m := 5) (by omega) h3 h2
    exact Or.inr ⟨n, by omega, e⟩
section
variable {L : Nat} {xs : Nat → Int32} {A V : Nat → Nat → Int32} {K : Nat → Option Nat} {T : am_H}
theorem pr_nearest (a1 a2 : Int32) (R : RI A V K T) : PRQ z_L_nearest z_M_nearest [.ref 1, .int a1, .int a2, .null, .null, .null, .null] [.ref 36, .int a1, .int a2, .null, .null, .null, .null] L xs A V K T := by
  by_cases c1 : a1 < 0
  · refine ⟨(-1), A, V, K, T, A, V, sg_L_nearest_0 ?_, sg_M_nearest_0 ?_, R⟩
    · (try simp only [lgl, lgg]); (repeat first | refine iteP (by first | assumption) ?_ | refine iteN (by first | assumption) ?_); (constructor <;> first | rfl | trivial)
    · (try simp only [lgl, lgg]); (repeat first | refine iteP (by first | assumption) ?_ | refine iteN (by first | assumption) ?_); (constructor <;> first | rfl | trivial)
  by_cases c2 : (2 : Int32) < a1
  · refine ⟨(-1), A, V, K, T, A, V, sg_L_nearest_0 ?_, sg_M_nearest_0 ?_, R⟩
    · (try simp only [lgl, lgg]); (repeat first | refine iteP (by first | assumption) ?_ | refine iteN (by first | assumption) ?_); (constructor <;> first | rfl | trivial)
    · (try simp only [lgl, lgg]); (repeat first | refine iteP (by first | assumption) ?_ | refine iteN (by first | assumption) ?_); (constructor <;> first | rfl | trivial)
  by_cases c3 : a2 < 0
  · refine ⟨(-1), A, V, K, T, A, V, sg_L_nearest_0 ?_, sg_M_nearest_0 ?_, R⟩
    · (try simp only [lgl, lgg]); (repeat first | refine iteP (by first | assumption) ?_ | refine iteN (by first | assumption) ?_); (constructor <;> first | rfl | trivial)
    · (try simp only [lgl, lgg]); (repeat first | refine iteP (by first | assumption) ?_ | refine iteN (by first | assumption) ?_); (constructor <;> first | rfl | trivial)
  by_cases c4 : (1 : Int32) < a2
  · refine ⟨(-1), A, V, K, T, A, V, sg_L_nearest_0 ?_, sg_M_nearest_0 ?_, R⟩
    · (try simp only [lgl, lgg]); (repeat first | refine iteP (by first | assumption) ?_ | refine iteN (by first | assumption) ?_); (constructor <;> first | rfl | trivial)
    · (try simp only [lgl, lgg]); (repeat first | refine iteP (by first | assumption) ?_ | refine iteN (by first | assumption) ?_); (constructor <;> first | rfl | trivial)
  obtain ⟨y, hy, rfl⟩ := i32_nat (m := 2) (by omega) c1 c2
  obtain ⟨w, hw, rfl⟩ := i32_nat (m := 1) (by omega) c3 c4
  obtain ⟨gc, gh, gd, gm, j1, j2, j3, m1, m2, m3, RR⟩ := weighed (L := L) (xs := xs) R
  obtain ⟨v, i1, i2⟩ := nearest_lp (L := L) (xs := xs) (V := V) (W := V) (K := K) (K' := K) (T := T) (T' := T) j1 j2 m1 m2 y w (by omega) (by omega) (fun l _ => nD_le _ _ _) 6 0 none (-2) 0 (by omega) (fun _ => rfl) (fun m h => by cases h)
  refine ⟨v, upA (upA (upA A 29 gc) 28 gh) 27 gd, V, K, T, upA (upA (upA (upA A 29 gc) 28 gh) 27 gd) 47 gm, V, sg_L_nearest_0 ?_, sg_M_nearest_0 ?_, RR⟩
  · (try simp only [lgl, lgg]); (repeat first | refine iteP (by first | assumption) ?_ | refine iteN (by first | assumption) ?_)
    exact am_fin.call j3 (sg_L_nearest_32r (i1 none))
  · (try simp only [lgl, lgg]); (repeat first | refine iteP (by first | assumption) ?_ | refine iteN (by first | assumption) ?_)
    exact am_fin.call m3 (sg_M_nearest_23r (i2 none))
theorem pr_moved (a1 a2 : Int32) (R : RI A V K T) : PRQ z_L_moved z_M_moved [.ref 1, .int a1, .int a2] [.ref 36, .int a1, .int a2] L xs A V K T := by
  by_cases c1 : a1 < 0
  · refine ⟨(-1), A, V, K, T, A, V, sg_L_moved_0 ?_, sg_M_moved_0 ?_, R⟩
    · (try simp only [lgl, lgg]); (repeat first | refine iteP (by first | assumption) ?_ | refine iteN (by first | assumption) ?_); (constructor <;> first | rfl | trivial)
    · (try simp only [lgl, lgg]); (repeat first | refine iteP (by first | assumption) ?_ | refine iteN (by first | assumption) ?_); (constructor <;> first | rfl | trivial)
  by_cases c2 : (1079 : Int32) < a1
  · refine ⟨(-1), A, V, K, T, A, V, sg_L_moved_0 ?_, sg_M_moved_0 ?_, R⟩
    · (try simp only [lgl, lgg]); (repeat first | refine iteP (by first | assumption) ?_ | refine iteN (by first | assumption) ?_); (constructor <;> first | rfl | trivial)
    · (try simp only [lgl, lgg]); (repeat first | refine iteP (by first | assumption) ?_ | refine iteN (by first | assumption) ?_); (constructor <;> first | rfl | trivial)
  by_cases c3 : a2 < -1
  · refine ⟨(-1), A, V, K, T, A, V, sg_L_moved_0 ?_, sg_M_moved_0 ?_, R⟩
    · (try simp only [lgl, lgg]); (repeat first | refine iteP (by first | assumption) ?_ | refine iteN (by first | assumption) ?_); (constructor <;> first | rfl | trivial)
    · (try simp only [lgl, lgg]); (repeat first | refine iteP (by first | assumption) ?_ | refine iteN (by first | assumption) ?_); (constructor <;> first | rfl | trivial)
  by_cases c4 : (5 : Int32) < a2
  · refine ⟨(-1), A, V, K, T, A, V, sg_L_moved_0 ?_, sg_M_moved_0 ?_, R⟩
    · (try simp only [lgl, lgg]); (repeat first | refine iteP (by first | assumption) ?_ | refine iteN (by first | assumption) ?_); (constructor <;> first | rfl | trivial)
    · (try simp only [lgl, lgg]); (repeat first | refine iteP (by first | assumption) ?_ | refine iteN (by first | assumption) ?_); (constructor <;> first | rfl | trivial)
  obtain ⟨d, hd, rfl⟩ := i32_nat (m := 1079) (by omega) c1 c2
  obtain ⟨t, rfl, ht⟩ := pl_on (i32_pl c3 c4)
  obtain ⟨gc, gh, gd, gm, j1, j2, j3, m1, m2, m3, RR⟩ := weighed (L := L) (xs := xs) R
  obtain ⟨w, ew, hw⟩ := pl_on (R.1.2.2.2.2.1 d (by omega))
  have hw2 : ∀ l, w = some l → l < 6 ∧ 1 ≤ nD (A 4) l (d / 360) := fun l h => ⟨hw l h, nD_pos (by omega) (by rw [ew, h]; rfl)⟩
  have e1 : upA (upA (upA (upA A 29 gc) 28 gh) 27 gd) 47 gm 37 = A 4 := R.1.1
  have ey : nI d / 360 = nI (d / 360) := by rw [l_360, nI_divI (by omega) (by omega) (by omega)]
  refine ⟨onat (-2) (lives (mvD (nD (A 4)) w t (d / 360)) (nH (A 9)) (nD (A 6)) (ruA A) (naV V) (rnA A) (rlA A) (d / 360)), upA (upA (upA A 29 gc) 28 gh) 27 gd, V, K, T, upA (upA (upA (upA A 29 gc) 28 gh) 27 gd) 47 gm, V, sg_L_moved_0 ?_, sg_M_moved_0 ?_, RR⟩
  · (try simp only [lgl, lgg]); (repeat first | refine iteP (by first | assumption) ?_ | refine iteN (by first | assumption) ?_)
    refine am_fin.call j3 (sg_L_moved_30r (am_fin.call (P_landOn_3_c d (by omega)) (sg_L_moved_45r ?_)))
    rw [ey, show upA (upA (upA A 29 gc) 28 gh) 27 gd 4 d = onat (-1) w from ew]
    exact am_fin.call (J_livesIfMoved_c j1 j2 w t (d / 360) (by omega) hw2 ht (fun l _ => nD_le _ _ _)) (sg_L_moved_53r ⟨(by first | rfl | trivial), (by first | rfl | trivial)⟩)
  · (try simp only [lgl, lgg]); (repeat first | refine iteP (by first | assumption) ?_ | refine iteN (by first | assumption) ?_)
    exact am_fin.call m3 (sg_M_moved_20r (am_fin.call (M_livesBy_c m1 m2 w t d (by omega) (by rw [e1]; exact ew) hw2 ht (fun l _ => nD_le _ _ _)) (sg_M_moved_26r ⟨(by first | rfl | trivial), (by first | rfl | trivial)⟩)))
end
