def bc32 (r : Int32) : Int32 := (((((((((r - ((((r : Int32).toUInt32 >>> ((1 : Int32).toUInt32 &&& Int32.toUInt32 31)).toInt32) &&& 1431655765)) &&& 858993459) + (((((r - ((((r : Int32).toUInt32 >>> ((1 : Int32).toUInt32 &&& Int32.toUInt32 31)).toInt32) &&& 1431655765)) : Int32).toUInt32 >>> ((2 : Int32).toUInt32 &&& Int32.toUInt32 31)).toInt32) &&& 858993459)) + ((((((r - ((((r : Int32).toUInt32 >>> ((1 : Int32).toUInt32 &&& Int32.toUInt32 31)).toInt32) &&& 1431655765)) &&& 858993459) + (((((r - ((((r : Int32).toUInt32 >>> ((1 : Int32).toUInt32 &&& Int32.toUInt32 31)).toInt32) &&& 1431655765)) : Int32).toUInt32 >>> ((2 : Int32).toUInt32 &&& Int32.toUInt32 31)).toInt32) &&& 858993459)) : Int32).toUInt32 >>> ((4 : Int32).toUInt32 &&& Int32.toUInt32 31)).toInt32)) &&& 252645135) + ((((((((r - ((((r : Int32).toUInt32 >>> ((1 : Int32).toUInt32 &&& Int32.toUInt32 31)).toInt32) &&& 1431655765)) &&& 858993459) + (((((r - ((((r : Int32).toUInt32 >>> ((1 : Int32).toUInt32 &&& Int32.toUInt32 31)).toInt32) &&& 1431655765)) : Int32).toUInt32 >>> ((2 : Int32).toUInt32 &&& Int32.toUInt32 31)).toInt32) &&& 858993459)) + ((((((r - ((((r : Int32).toUInt32 >>> ((1 : Int32).toUInt32 &&& Int32.toUInt32 31)).toInt32) &&& 1431655765)) &&& 858993459) + (((((r - ((((r : Int32).toUInt32 >>> ((1 : Int32).toUInt32 &&& Int32.toUInt32 31)).toInt32) &&& 1431655765)) : Int32).toUInt32 >>> ((2 : Int32).toUInt32 &&& Int32.toUInt32 31)).toInt32) &&& 858993459)) : Int32).toUInt32 >>> ((4 : Int32).toUInt32 &&& Int32.toUInt32 31)).toInt32)) &&& 252645135) : Int32).toUInt32 >>> ((8 : Int32).toUInt32 &&& Int32.toUInt32 31)).toInt32)) + (((((((((r - ((((r : Int32).toUInt32 >>> ((1 : Int32).toUInt32 &&& Int32.toUInt32 31)).toInt32) &&& 1431655765)) &&& 858993459) + (((((r - ((((r : Int32).toUInt32 >>> ((1 : Int32).toUInt32 &&& Int32.toUInt32 31)).toInt32) &&& 1431655765)) : Int32).toUInt32 >>> ((2 : Int32).toUInt32 &&& Int32.toUInt32 31)).toInt32) &&& 858993459)) + ((((((r - ((((r : Int32).toUInt32 >>> ((1 : Int32).toUInt32 &&& Int32.toUInt32 31)).toInt32) &&& 1431655765)) &&& 858993459) + (((((r - ((((r : Int32).toUInt32 >>> ((1 : Int32).toUInt32 &&& Int32.toUInt32 31)).toInt32) &&& 1431655765)) : Int32).toUInt32 >>> ((2 : Int32).toUInt32 &&& Int32.toUInt32 31)).toInt32) &&& 858993459)) : Int32).toUInt32 >>> ((4 : Int32).toUInt32 &&& Int32.toUInt32 31)).toInt32)) &&& 252645135) + ((((((((r - ((((r : Int32).toUInt32 >>> ((1 : Int32).toUInt32 &&& Int32.toUInt32 31)).toInt32) &&& 1431655765)) &&& 858993459) + (((((r - ((((r : Int32).toUInt32 >>> ((1 : Int32).toUInt32 &&& Int32.toUInt32 31)).toInt32) &&& 1431655765)) : Int32).toUInt32 >>> ((2 : Int32).toUInt32 &&& Int32.toUInt32 31)).toInt32) &&& 858993459)) + ((((((r - ((((r : Int32).toUInt32 >>> ((1 : Int32).toUInt32 &&& Int32.toUInt32 31)).toInt32) &&& 1431655765)) &&& 858993459) + (((((r - ((((r : Int32).toUInt32 >>> ((1 : Int32).toUInt32 &&& Int32.toUInt32 31)).toInt32) &&& 1431655765)) : Int32).toUInt32 >>> ((2 : Int32).toUInt32 &&& Int32.toUInt32 31)).toInt32) &&& 858993459)) : Int32).toUInt32 >>> ((4 : Int32).toUInt32 &&& Int32.toUInt32 31)).toInt32)) &&& 252645135) : Int32).toUInt32 >>> ((8 : Int32).toUInt32 &&& Int32.toUInt32 31)).toInt32)) : Int32).toUInt32 >>> ((16 : Int32).toUInt32 &&& Int32.toUInt32 31)).toInt32)) &&& 63) - 1)
theorem bc64 : ∀ n, n < 64 → bc32 (nI n) = nI (cn (fun k => n / 2 ^ k % 2 = 1) 0 6) - 1 := by decide +kernel
theorem cn_sub {p q : Nat → Prop} [DecidablePred p] [DecidablePred q] {a : Nat} (h : ∀ i, q i → p i) : ∀ n, cn q a n ≤ cn p a n ∧ (cn q a n = cn p a n ↔ ∀ i, a ≤ i → i < a + n → p i → q i)
  | 0 => ⟨Nat.le_refl _, fun _ i h1 h2 => by omega, fun _ => rfl⟩
  | n + 1 => by
    obtain ⟨h1, h2⟩ := cn_sub (a := a) h n
    unfold cn
    by_cases hq : q (a + n)
    · rw [if_pos hq, if_pos (h _ hq)]
      refine ⟨by omega, fun z i i1 i2 hp => ?_, fun z => ?_⟩
      · by_cases e : i = a + n
        · rw [e]; exact hq
        · exact h2.mp (by omega) i i1 (by omega) hp
      · rw [h2.mpr (fun i i1 i2 => z i i1 (by omega))]
    · rw [if_neg hq]
      by_cases hp : p (a + n)
      · rw [if_pos hp]
        exact ⟨by omega, fun z => by omega, fun z => absurd (z (a + n) (by omega) (by omega) hp) hq⟩
      · rw [if_neg hp]
        refine ⟨by omega, fun z i i1 i2 hp2 => ?_, fun z => ?_⟩
        · by_cases e : i = a + n
          · rw [e] at hp2; exact absurd hp2 hp
          · exact h2.mp (by omega) i i1 (by omega) hp2
        · rw [h2.mpr (fun i i1 i2 => z i i1 (by omega))]
theorem cn_one {p : Nat → Prop} [DecidablePred p] {a c : Nat} (hc : p c) : ∀ n, a ≤ c → c < a + n → cn (fun i => i ≠ c ∧ p i) a n + 1 = cn p a n
  | 0, h1, h2 => by omega
  | n + 1, h1, h2 => by
    unfold cn
    by_cases e : c = a + n
    · subst e
      rw [if_neg (fun z => z.1 rfl), if_pos hc, cn_congr (p := fun i => i ≠ a + n ∧ p i) (q := p) (fun i i1 i2 => ⟨fun z => z.2, fun z => ⟨by omega, z⟩⟩)]
    · have := cn_one hc n h1 (by omega)
      by_cases hp : p (a + n)
      · rw [if_pos ⟨fun z => e z.symm, hp⟩, if_pos hp]; omega
      · rw [if_neg (fun z => hp z.2), if_neg hp]; omega
abbrev bt (D H C : Nat → Nat → Nat) (na : Nat → Nat) (rn : Nat → Nat → Nat) (rl : Nat → Nat → Nat → Nat) (y a b : Nat) : Prop := ans D H C na rn rl y a b = nI a ∧ ans D H C na rn rl y b a = nI a
abbrev btn (D H C ru : Nat → Nat → Nat) (na : Nat → Nat) (rn : Nat → Nat → Nat) (rl : Nat → Nat → Nat → Nat) (y a b : Nat) : Prop := (b ≠ a ∧ clm D H ru y b) ∧ bt D H C na rn rl y a b
/-- one lives there -/
abbrev la (D H C ru : Nat → Nat → Nat) (na : Nat → Nat) (rn : Nat → Nat → Nat) (rl : Nat → Nat → Nat → Nat) (y a : Nat) : Prop := clm D H ru y a ∧ ∀ b, b < 6 → b ≠ a → clm D H ru y b → bt D H C na rn rl y a b
def lives (D H C ru : Nat → Nat → Nat) (na : Nat → Nat) (rn : Nat → Nat → Nat) (rl : Nat → Nat → Nat → Nat) (y : Nat) : Option Nat := srch (la D H C ru na rn rl y) 6 0
section
variable {L : Nat} {xs : Nat → Int32} {A V : Nat → Nat → Int32} {K : Nat → Option Nat} {T : am_H} {D H C ru : Nat → Nat → Nat} {na : Nat → Nat} {rn : Nat → Nat → Nat} {rl : Nat → Nat → Nat → Nat}

theorem J_beaten_c (J : JCd A D H C) (R : JCr A V ru na rn rl) (a y : Nat) (ha : a < 6) (hy : y < 3) : am_fin [(z_J_beaten, 0, [.ref 26, .int (nI a), .int (nI (bs (clm D H ru y) 6)), .int (nI y), .null, .null], [])] (hp L xs A V K T) (some (nI (cn (btn D H C ru na rn rl y a) 0 6))) (hp L xs A V K T) := by
  refine sg_J_beaten_0 ?_
  refine am_iter (fun k => ([(z_J_beaten, 6, [.ref 26, .int (nI a), .int (nI (bs (clm D H ru y) 6)), .int (nI y), .int (nI (cn (btn D H C ru na rn rl y a) 0 k)), .int (nI k)], [])], hp L xs A V K T)) 6 (fun k hk ih => ?_) ?_
  · dsimp only at ih ⊢
    rw [← nI_1] at ih
    refine sg_J_beaten_6 (iteN (by rw [l_6, nI_leI (by omega) (by omega)]; omega) ?_)
    by_cases e : k = a
    · rw [← cn_f (p := btn D H C ru na rn rl y a) (fun z => z.1.1 (by omega))] at ih
      exact iteP (by rw [e]) ih
    refine iteN (mt (nI_eq (by omega) (by omega)).mp e) ?_
    by_cases c : clm D H ru y k
    · refine iteP (bs_hbit hk |>.mpr c) (am_fin.call (J_answerOf_c J R a k y ha hk (Ne.symm e) hy) (sg_J_beaten_36r ?_))
      by_cases z1 : ans D H C na rn rl y a k = nI a
      · refine iteP z1 (am_fin.call (J_answerOf_c J R k a y hk ha e hy) (sg_J_beaten_48r ?_))
        by_cases z2 : ans D H C na rn rl y k a = nI a
        · refine iteP z2 ?_
          rw [← cn_t (p := btn D H C ru na rn rl y a) (by rw [Nat.zero_add]; exact ⟨⟨e, c⟩, z1, z2⟩)] at ih
          exact ih
        · refine iteN z2 ?_
          rw [← cn_f (p := btn D H C ru na rn rl y a) (by rw [Nat.zero_add]; exact fun z => z2 z.2.2)] at ih
          exact ih
      · refine iteN z1 ?_
        rw [← cn_f (p := btn D H C ru na rn rl y a) (by rw [Nat.zero_add]; exact fun z => z1 z.2.1)] at ih
        exact ih
    · refine iteN (mt (bs_hbit hk).mp c) ?_
      rw [← cn_f (p := btn D H C ru na rn rl y a) (by rw [Nat.zero_add]; exact fun z => c z.1.2)] at ih
      exact ih
  · exact sg_J_beaten_6 (iteP (by decide) ⟨rfl, rfl⟩)
theorem btn_all (a y : Nat) (ha : a < 6) (hc : clm D H ru y a) : nI (cn (btn D H C ru na rn rl y a) 0 6) = bc32 (nI (bs (clm D H ru y) 6)) ↔ la D H C ru na rn rl y a := by
  have e1 : cn (fun k => bs (clm D H ru y) 6 / 2 ^ k % 2 = 1) 0 6 = cn (clm D H ru y) 0 6 := cn_congr (fun i _ h => bs_bit _ _ _ (by omega))
  have e2 := cn_one (p := clm D H ru y) (a := 0) hc 6 (by omega) (by omega)
  have e3 := cn_sub (p := fun b => b ≠ a ∧ clm D H ru y b) (q := btn D H C ru na rn rl y a) (a := 0) (fun i z => z.1) 6
  have l1 := cn_le (clm D H ru y) 0 6
  have l2 := cn_le (btn D H C ru na rn rl y a) 0 6
  rw [bc64 _ (bs_lt _ 6), e1, nI_m1 (by omega), nI_eq (by omega) (by omega)]
  constructor
  · intro z
    have := e3.2.mp (by omega)
    exact ⟨hc, fun b hb h1 h2 => (this b (by omega) (by omega) ⟨h1, h2⟩).2⟩
  · intro z
    have := e3.2.mpr (fun i _ hi w => ⟨w, z.2 i (by omega) w.1 w.2⟩)
    omega
theorem J_livesIn_c (J : JCd A D H C) (R : JCr A V ru na rn rl) (y : Nat) (hy : y < 3) : am_fin [(z_J_livesIn, 0, [.ref 26, .int (nI y), .null, .null, .null], [])] (hp L xs A V K T) (some (onat (-2) (lives D H C ru na rn rl y))) (hp L xs A V K T) := by
  refine sg_J_livesIn_0 (am_fin.call (J_claimBits_c J R y hy) (sg_J_livesIn_5r ?_))
  have key : ∀ r a, a + r = 6 → am_fin [(z_J_livesIn, 16, [.ref 26, .int (nI y), .int (nI (bs (clm D H ru y) 6)), .int (bc32 (nI (bs (clm D H ru y) 6))), .int (nI a)], [])] (hp L xs A V K T) (some (onat (-2) (srch (la D H C ru na rn rl y) r a))) (hp L xs A V K T) := by
    intro r
    induction r with
    | zero => intro a h; exact sg_J_livesIn_16 (iteP (by rw [l_6, nI_leI (by omega) (by omega)]; omega) ⟨rfl, rfl⟩)
    | succ r ih =>
      intro a h
      have ha : a < 6 := by omega
      refine sg_J_livesIn_16 (iteN (by rw [l_6, nI_leI (by omega) (by omega)]; omega) ?_)
      have ih := ih (a + 1) (by omega)
      rw [← nI_1] at ih
      by_cases c : clm D H ru y a
      · refine iteP ((bs_hbit ha).mpr c) (am_fin.call (J_beaten_c J R a y ha hy) (sg_J_livesIn_40r ?_))
        by_cases w : la D H C ru na rn rl y a
        · rw [srch_t w]
          exact iteP ((btn_all a y ha c).mpr w) ⟨rfl, rfl⟩
        · rw [srch_f w]
          exact iteN (mt (btn_all a y ha c).mp w) ih
      · rw [srch_f (fun w => c w.1)]
        exact iteN (mt (bs_hbit ha).mp c) ih
  exact key 6 0 (by omega)
theorem M_ln_in (J : JMd A D H C) (R : JMr A ru na rn rl) (a y : Nat) (ha : a < 6) (hy : y < 3) {v : Option Int32} {h' : am_H} (cont : ∀ x z : Int32, am_fin [(z_M_livesNow, 8, [.ref 36, .int (nI y), .int (nI (bs (clm D H ru y) 6)), .int (nI a + 1), .int x, .int z], [])] (hp L xs A V K T) v h') : ∀ z, am_fin [(z_M_livesNow, 33, [.ref 36, .int (nI y), .int (nI (bs (clm D H ru y) 6)), .int (nI a), .int 0, .int z], [])] (hp L xs A V K T) v h' := by
  intro z
  refine sg_M_livesNow_33 ?_
  by_cases w : (6 : Int32) ≤ z
  · exact iteP w (iteP rfl (cont _ _))
  · exact iteN w (iteP rfl (iteP rfl (cont _ _)))
theorem M_ln_lp (J : JMd A D H C) (R : JMr A ru na rn rl) (a y : Nat) (ha : a < 6) (hy : y < 3) {v : Option Int32} {h' : am_H} : ∀ r b, b + r = 6 → ((∀ i, b ≤ i → i < 6 → i ≠ a → clm D H ru y i → bt D H C na rn rl y a i) → v = some (nI a) ∧ h' = hp L xs A V K T) → (¬ (∀ i, b ≤ i → i < 6 → i ≠ a → clm D H ru y i → bt D H C na rn rl y a i) → ∀ x z : Int32, am_fin [(z_M_livesNow, 8, [.ref 36, .int (nI y), .int (nI (bs (clm D H ru y) 6)), .int (nI a + 1), .int x, .int z], [])] (hp L xs A V K T) v h') → am_fin [(z_M_livesNow, 33, [.ref 36, .int (nI y), .int (nI (bs (clm D H ru y) 6)), .int (nI a), .int 1, .int (nI b)], [])] (hp L xs A V K T) v h' := by
  intro r
  induction r with
  | zero =>
    intro b hb good bad
    exact sg_M_livesNow_33 (iteP (by rw [l_6, nI_leI (by omega) (by omega)]; omega) (iteN (by decide) (good (fun i h1 h2 => by omega))))
  | succ r ih =>
    intro b hb good bad
    have hb6 : b < 6 := by omega
    have skip : (b ≠ a → clm D H ru y b → bt D H C na rn rl y a b) → am_fin [(z_M_livesNow, 33, [.ref 36, .int (nI y), .int (nI (bs (clm D H ru y) 6)), .int (nI a), .int 1, .int (nI b + 1)], [])] (hp L xs A V K T) v h' := by
      intro w
      rw [nI_1]
      refine ih (b + 1) (by omega) (fun g => good (fun i h1 h2 h3 h4 => ?_)) (fun g => bad (fun q => g (fun i h1 h2 => q i (by omega) h2)))
      by_cases e : i = b
      · rw [e] at h3 h4 ⊢; exact w h3 h4
      · exact g i (by omega) h2 h3 h4
    refine sg_M_livesNow_33 (iteN (by rw [l_6, nI_leI (by omega) (by omega)]; omega) (iteN (by decide) ?_))
    by_cases e : b = a
    · exact iteP (by rw [e]) (skip (fun q => absurd e q))
    refine iteN (mt (nI_eq (by omega) (by omega)).mp e) ?_
    by_cases c : clm D H ru y b
    · refine iteN (mt (bs_hbitz hb6).mp (fun q => q c)) (am_fin.call (M_answer_c J R a b y ha hb6 (Ne.symm e) hy) (sg_M_livesNow_68r ?_))
      have fail : ¬ bt D H C na rn rl y a b → am_fin [(z_M_livesNow, 33, [.ref 36, .int (nI y), .int (nI (bs (clm D H ru y) 6)), .int (nI a), .int 0, .int (nI b + 1)], [])] (hp L xs A V K T) v h' := fun q => M_ln_in J R a y ha hy (bad (fun g => q (g b (by omega) hb6 e c))) _
      by_cases z1 : ans D H C na rn rl y a b = nI a
      · refine iteP z1 (am_fin.call (M_answer_c J R b a y hb6 ha e hy) (sg_M_livesNow_80r ?_))
        by_cases z2 : ans D H C na rn rl y b a = nI a
        · exact iteP z2 (skip (fun _ _ => ⟨z1, z2⟩))
        · exact iteN z2 (fail (fun q => z2 q.2))
      · exact iteN z1 (fail (fun q => z1 q.1))
    · exact iteP ((bs_hbitz hb6).mpr c) (skip (fun _ q => absurd q c))
theorem M_livesNow_c (J : JMd A D H C) (R : JMr A ru na rn rl) (y : Nat) (hy : y < 3) : am_fin [(z_M_livesNow, 0, [.ref 36, .int (nI y), .null, .null, .null, .null], [])] (hp L xs A V K T) (some (onat (-2) (lives D H C ru na rn rl y))) (hp L xs A V K T) := by
  refine sg_M_livesNow_0 (am_fin.call (M_claiming_c J R y hy) (sg_M_livesNow_5r ?_))
  have key : ∀ r a (u : Option (Int32 × Int32)), a + r = 6 → am_fin [(z_M_livesNow, 8, [.ref 36, .int (nI y), .int (nI (bs (clm D H ru y) 6)), .int (nI a), dl (u.map Prod.fst), dl (u.map Prod.snd)], [])] (hp L xs A V K T) (some (onat (-2) (srch (la D H C ru na rn rl y) r a))) (hp L xs A V K T) := by
    intro r
    induction r with
    | zero =>
      intro a u h
      cases u
      · exact sg_M_livesNow_8 (iteP (by rw [l_6, nI_leI (by omega) (by omega)]; omega) ⟨rfl, rfl⟩)
      · exact sg_M_livesNow_8b (iteP (by rw [l_6, nI_leI (by omega) (by omega)]; omega) ⟨rfl, rfl⟩)
    | succ r ih =>
      intro a u h
      have ha : a < 6 := by omega
      have ih : ∀ x z : Int32, am_fin [(z_M_livesNow, 8, [.ref 36, .int (nI y), .int (nI (bs (clm D H ru y) 6)), .int (nI a + 1), .int x, .int z], [])] (hp L xs A V K T) (some (onat (-2) (srch (la D H C ru na rn rl y) r (a + 1)))) (hp L xs A V K T) := fun x z => by rw [nI_1]; exact ih (a + 1) (some (x, z)) (by omega)
      have body : (if (((nI (bs (clm D H ru y) 6) : Int32) >>> (nI a &&& 31 : Int32)) &&& 1) = 1 then am_fin [(z_M_livesNow, 33, [.ref 36, .int (nI y), .int (nI (bs (clm D H ru y) 6)), .int (nI a), .int 1, .int 0], [])] (hp L xs A V K T) (some (onat (-2) (srch (la D H C ru na rn rl y) (r + 1) a))) (hp L xs A V K T) else am_fin [(z_M_livesNow, 33, [.ref 36, .int (nI y), .int (nI (bs (clm D H ru y) 6)), .int (nI a), .int 0, .int 0], [])] (hp L xs A V K T) (some (onat (-2) (srch (la D H C ru na rn rl y) (r + 1) a))) (hp L xs A V K T)) := by
        by_cases c : clm D H ru y a
        · refine iteP ((bs_hbit ha).mpr c) ?_
          refine M_ln_lp J R a y ha hy 6 0 (by omega) (fun g => ?_) (fun g => ?_)
          · rw [srch_t ⟨c, fun b hb => g b (by omega) hb⟩]; exact ⟨rfl, rfl⟩
          · rw [srch_f (fun w => g (fun i _ h2 => w.2 i h2))]; exact ih
        · refine iteN (mt (bs_hbit ha).mp c) (M_ln_in J R a y ha hy ?_ _)
          rw [srch_f (fun w => c w.1)]; exact ih
      cases u
      · exact sg_M_livesNow_8 (iteN (by rw [l_6, nI_leI (by omega) (by omega)]; omega) body)
      · exact sg_M_livesNow_8b (iteN (by rw [l_6, nI_leI (by omega) (by omega)]; omega) body)
  exact key 6 0 none (by omega)
end
