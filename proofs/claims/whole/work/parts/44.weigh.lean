theorem bit64 : ∀ n, n < 64 → ∀ k, k < 6 → ((nI n >>> (nI k &&& 31)) &&& 1) = if hbit (nI n) (nI k) then 1 else 0 := by decide +kernel
theorem bit0 : ∀ k, k < 6 → ¬ hbit (nI 0) (nI k) := by decide +kernel
/-- homes so far: of day k the lands below j -/
def hi (f : Nat → Int32) (g : Nat → Int32) (k j : Nat) : Prop := ∀ l y, l < 6 → y < 3 → g (l * 3 + y) = nI (cn (fun d => hbit (f d) (nI l) ∧ d / 360 = y) 0 (if l < j then k + 1 else k))
theorem hi_skip {f g : Nat → Int32} {k j : Nat} (h : hi f g k j) (n : ∀ l, j ≤ l → l < 6 → ¬ hbit (f k) (nI l)) : hi f g (k + 1) 0 := by
  intro l y hl hy
  rw [h l y hl hy, if_neg (by omega : ¬ l < 0)]
  by_cases c : l < j
  · rw [if_pos c]
  · rw [if_neg c, cn_f (p := fun d => hbit (f d) (nI l) ∧ d / 360 = y) (by rw [Nat.zero_add]; exact fun z => n l (by omega) hl z.1)]
theorem hi_add {f g : Nat → Int32} {k j b : Nat} (h : hi f g k j) (hj : j < 6) (hk : k < 1080) (hb : b < 64) (e : f k = nI b) : hi f (upd g (j * 3 + k / 360) (g (j * 3 + k / 360) + ((nI b >>> (nI j &&& 31)) &&& 1))) k (j + 1) := by
  intro l y hl hy
  have hy0 : k / 360 < 3 := by omega
  unfold upd
  by_cases e1 : l * 3 + y = j * 3 + k / 360
  · have e2 : l = j := by omega
    have e3 : y = k / 360 := by omega
    subst e2; subst e3
    rw [if_pos rfl, h l _ hl hy0, if_neg (by omega), if_pos (by omega), bit64 b hb l hl, ← e]
    by_cases c : hbit (f k) (nI l)
    · rw [if_pos c, cn_t (p := fun d => hbit (f d) (nI l) ∧ d / 360 = k / 360) (by rw [Nat.zero_add]; exact ⟨c, rfl⟩)]
    · rw [if_neg c, Int32.add_zero, cn_f (p := fun d => hbit (f d) (nI l) ∧ d / 360 = k / 360) (by rw [Nat.zero_add]; exact fun z => c z.1)]
  · rw [if_neg e1, h l y hl hy]
    by_cases c : l < j
    · rw [if_pos c, if_pos (by omega)]
    · rw [if_neg c]
      by_cases c2 : l = j
      · rw [if_pos (by omega), cn_f (p := fun d => hbit (f d) (nI l) ∧ d / 360 = y) (by rw [Nat.zero_add]; exact fun z => e1 (by rw [c2, z.2]))]
      · rw [if_neg (by omega)]
section
variable {L : Nat} {xs : Nat → Int32} {A V : Nat → Nat → Int32} {K : Nat → Option Nat} {T : am_H}

theorem J_wh_lp (hf : ∀ d, d < 1080 → ∃ b, b < 64 ∧ A 9 d = nI b) : ∀ r k (g : Nat → Int32), k + r = 1080 → hi (A 9) g k 0 → ∃ g' : Nat → Int32, hi (A 9) g' 1080 0 ∧ ∀ u : Option (Int32 × Int32 × Int32), am_fin [(z_J_weighHomes, 24, [.ref 26, .int (nI k), dl (u.map (·.1)), dl (u.map (·.2.1)), dl (u.map (·.2.2))], [])] (hp L xs (upA A 28 g) V K T) none (hp L xs (upA A 28 g') V K T) := by
  intro r
  induction r with
  | zero =>
    intro k g hk h
    have hk : k = 1080 := by omega
    subst hk
    refine ⟨g, h, fun u => ?_⟩
    cases u
    · exact sg_J_weighHomes_24 (iteP (g1080 rfl) ⟨rfl, rfl⟩)
    · exact sg_J_weighHomes_24b (iteP (g1080 rfl) ⟨rfl, rfl⟩)
  | succ r ih =>
    intro k g hk h
    have hk0 : k < 1080 := by omega
    obtain ⟨b, hb, e⟩ := hf k hk0
    have ib : ¬ (nI k < 0 ∨ 1080 ≤ (nI k).toNatClampNeg) := nI_inb (by omega) hk0
    have rd : ∀ g, upA A 28 g 9 (nI k).toNatClampNeg = nI b := fun g => by rw [nI_clamp (by omega), ← e]; rfl
    have st : ∃ gm : Nat → Int32, hi (A 9) gm (k + 1) 0 ∧ ∀ h' : am_H, (∀ x1 x2 x3 : Int32, am_fin [(z_J_weighHomes, 24, [.ref 26, .int (nI k + 1), .int x1, .int x2, .int x3], [])] (hp L xs (upA A 28 gm) V K T) none h') → am_fin [(z_J_weighHomes, 50, [.ref 26, .int (nI k), .int (nI k / 360), .int (nI b), .int 0], [])] (hp L xs (upA A 28 g) V K T) none h' := by
      have in2 : ∀ r j (g : Nat → Int32), j + r = 6 → hi (A 9) g k j → ∃ gm : Nat → Int32, hi (A 9) gm (k + 1) 0 ∧ ∀ h' : am_H, (∀ x1 x2 x3 : Int32, am_fin [(z_J_weighHomes, 24, [.ref 26, .int (nI k + 1), .int x1, .int x2, .int x3], [])] (hp L xs (upA A 28 gm) V K T) none h') → am_fin [(z_J_weighHomes, 50, [.ref 26, .int (nI k), .int (nI k / 360), .int (nI b), .int (nI j)], [])] (hp L xs (upA A 28 g) V K T) none h' := by
        intro r
        induction r with
        | zero =>
          intro j g hj h
          exact ⟨g, hi_skip h (fun l h1 h2 => by omega), fun h' cont => sg_J_weighHomes_50 (iteP (by rw [l_6, nI_leI (by omega) (by omega)]; omega) (cont _ _ _))⟩
        | succ r ih2 =>
          intro j g hj h
          by_cases z : b = 0
          · subst z
            exact ⟨g, hi_skip h (fun l _ h2 => by rw [e]; exact bit0 l h2), fun h' cont => sg_J_weighHomes_50 (iteN (by rw [l_6, nI_leI (by omega) (by omega)]; omega) (iteP rfl (cont _ _ _)))⟩
          · obtain ⟨gm, g1, g2⟩ := ih2 (j + 1) _ (by omega) (hi_add h (by omega) hk0 hb e)
            refine ⟨gm, g1, fun h' cont => sg_J_weighHomes_50 (iteN (by rw [l_6, nI_leI (by omega) (by omega)]; omega) (iteN (mt (nI_z (by omega)).mp z) ?_))⟩
            have hy0 : k / 360 < 3 := by omega
            have ix : nI j * 3 + nI k / 360 = nI (j * 3 + k / 360) := by rw [l_3, l_360, nI_mul, nI_divI (by omega) (by omega) (by omega), nI_add]
            have ob : ¬ (nI (j * 3 + k / 360) < 0 ∨ 18 ≤ (nI (j * 3 + k / 360)).toNatClampNeg) := nI_inb (by omega) (by omega)
            rw [ix]
            refine ⟨ob, ob, ?_⟩
            rw [nI_clamp (by omega), upA_same, upA_upA, nI_1]
            exact g2 h' cont
      exact in2 6 0 g (by omega) h
    obtain ⟨gm, m1, m2⟩ := st
    obtain ⟨g', h1, h2⟩ := ih (k + 1) gm (by omega) m1
    rw [← nI_1] at h2
    refine ⟨g', h1, fun u => ?_⟩
    cases u
    · exact sg_J_weighHomes_24 (iteN (l1080 hk0) ⟨ib, by rw [rd]; exact m2 _ (fun x1 x2 x3 => h2 (some (x1, x2, x3)))⟩)
    · exact sg_J_weighHomes_24b (iteN (l1080 hk0) ⟨ib, by rw [rd]; exact m2 _ (fun x1 x2 x3 => h2 (some (x1, x2, x3)))⟩)
theorem J_weighHomes_c (hc : ∀ d, d < 1080 → pl (A 6 d)) (hf : ∀ d, d < 1080 → ∃ b, b < 64 ∧ A 9 d = nI b) : ∃ gc gh : Nat → Int32, (∀ l y, l < 6 → y < 3 → gc (l * 3 + y) = nI (cn (fun d => A 6 d = nI l) (360 * y) 360) ∧ gh (l * 3 + y) = nI (cn (fun d => hbit (A 9 d) (nI l)) (360 * y) 360)) ∧ am_fin [(z_J_weighHomes, 0, [.ref 26, .null, .null, .null, .null], [])] (hp L xs A V K T) none (hp L xs (upA (upA A 29 gc) 28 gh) V K T) := by
  obtain ⟨gc, c1, c2⟩ := J_countInto_29_5_c (L := L) (xs := xs) (V := V) (K := K) (T := T) hc
  obtain ⟨g0, z0, f0⟩ := X_fill_28_c (L := L) (xs := xs) (A := upA A 29 gc) (V := V) (K := K) (T := T)
  obtain ⟨gh, h1, h2⟩ := J_wh_lp (L := L) (xs := xs) (A := upA A 29 gc) (V := V) (K := K) (T := T) hf 1080 0 g0 (by omega) (fun l y hl hy => by rw [z0 _ (by omega), if_neg (by omega)]; rfl)
  refine ⟨gc, gh, fun l y hl hy => ⟨c1 l y hl hy, ?_⟩, ?_⟩
  · rw [h1 l y hl hy, if_neg (by omega)]
    exact congrArg nI (cn_year (fun d => hbit (A 9 d) (nI l)) y hy)
  · exact sg_J_weighHomes_0 (am_fin.call c2 (sg_J_weighHomes_14r (am_fin.call f0 (sg_J_weighHomes_22r (h2 none)))))
/-- days, homes, centres, of land l in year y -/
abbrev nD (f : Nat → Int32) (l y : Nat) : Nat := cn (fun d => f d = nI l) (360 * y) 360
abbrev nH (f : Nat → Int32) (l y : Nat) : Nat := cn (fun d => hbit (f d) (nI l)) (360 * y) 360
theorem J_weigh_3_c (hd : ∀ d, d < 1080 → pl (A 4 d)) (hc : ∀ d, d < 1080 → pl (A 6 d)) (hf : ∀ d, d < 1080 → ∃ b, b < 64 ∧ A 9 d = nI b) : ∃ gc gh gd : Nat → Int32, JCd (upA (upA (upA A 29 gc) 28 gh) 27 gd) (nD (A 4)) (nH (A 9)) (nD (A 6)) ∧ am_fin [(z_J_weigh, 0, [.ref 26, .ref 3], [])] (hp L xs A V K T) none (hp L xs (upA (upA (upA A 29 gc) 28 gh) 27 gd) V K T) := by
  obtain ⟨gc, gh, h1, h2⟩ := J_weighHomes_c (L := L) (xs := xs) (V := V) (K := K) (T := T) hc hf
  obtain ⟨gd, d1, d2⟩ := J_countInto_27_3_c (L := L) (xs := xs) (A := upA (upA A 29 gc) 28 gh) (V := V) (K := K) (T := T) hd
  refine ⟨gc, gh, gd, fun l y hl hy => ⟨d1 l y hl hy, (h1 l y hl hy).2, (h1 l y hl hy).1, ?_, ?_, ?_⟩, ?_⟩
  · have := cn_le (fun d => A 4 d = nI l) (360 * y) 360; unfold nD; omega
  · have := cn_le (fun d => hbit (A 9 d) (nI l)) (360 * y) 360; unfold nH; omega
  · have := cn_le (fun d => A 6 d = nI l) (360 * y) 360; unfold nD; omega
  · exact sg_J_weigh_3_0 (am_fin.call h2 (sg_J_weigh_3_4r (am_fin.call (sg_J_weighPlaces_3_0 (am_fin.call d2 (sg_J_weighPlaces_3_8r ⟨rfl, rfl⟩))) (sg_J_weigh_3_9r ⟨rfl, rfl⟩))))
theorem J_weigh_34_c (hd : ∀ d, d < 1080 → pl (A 35 d)) (hc : ∀ d, d < 1080 → pl (A 6 d)) (hf : ∀ d, d < 1080 → ∃ b, b < 64 ∧ A 9 d = nI b) : ∃ gc gh gd : Nat → Int32, JCd (upA (upA (upA A 29 gc) 28 gh) 27 gd) (nD (A 35)) (nH (A 9)) (nD (A 6)) ∧ am_fin [(z_J_weigh, 0, [.ref 26, .ref 34], [])] (hp L xs A V K T) none (hp L xs (upA (upA (upA A 29 gc) 28 gh) 27 gd) V K T) := by
  obtain ⟨gc, gh, h1, h2⟩ := J_weighHomes_c (L := L) (xs := xs) (V := V) (K := K) (T := T) hc hf
  obtain ⟨gd, d1, d2⟩ := J_countInto_27_34_c (L := L) (xs := xs) (A := upA (upA A 29 gc) 28 gh) (V := V) (K := K) (T := T) hd
  refine ⟨gc, gh, gd, fun l y hl hy => ⟨d1 l y hl hy, (h1 l y hl hy).2, (h1 l y hl hy).1, ?_, ?_, ?_⟩, ?_⟩
  · have := cn_le (fun d => A 35 d = nI l) (360 * y) 360; unfold nD; omega
  · have := cn_le (fun d => hbit (A 9 d) (nI l)) (360 * y) 360; unfold nH; omega
  · have := cn_le (fun d => A 6 d = nI l) (360 * y) 360; unfold nD; omega
  · exact sg_J_weigh_34_0 (am_fin.call h2 (sg_J_weigh_34_4r (am_fin.call (sg_J_weighPlaces_34_0 (am_fin.call d2 (sg_J_weighPlaces_34_8r ⟨rfl, rfl⟩))) (sg_J_weigh_34_9r ⟨rfl, rfl⟩))))
/-- the reference's counts so far -/
def mi (A : Nat → Nat → Int32) (g : Nat → Int32) (m : Nat) : Prop := ∀ l y, l < 6 → y < 3 → (9 * l + 3 * y < m → g (18 * 0 + 3 * l + y) = nI (nD (A 37) l y)) ∧ (9 * l + 3 * y + 1 < m → g (18 * 1 + 3 * l + y) = nI (nH (A 38) l y)) ∧ (9 * l + 3 * y + 2 < m → g (18 * 2 + 3 * l + y) = nI (nD (A 39) l y))
theorem mi_add0 {g : Nat → Int32} {l y : Nat} (hl : l < 6) (hy : y < 3) (h : mi A g (9 * l + 3 * y)) : mi A (upd g (18 * 0 + 3 * l + y) (nI (nD (A 37) l y))) (9 * l + 3 * y + 1) := by
  intro a b ha hb
  obtain ⟨h0, h1, h2⟩ := h a b ha hb
  unfold upd
  refine ⟨fun z => ?_, fun z => ?_, fun z => ?_⟩
  · by_cases e : 18 * 0 + 3 * a + b = 18 * 0 + 3 * l + y
    · rw [if_pos e, show a = l by omega, show b = y by omega]
    · rw [if_neg e]; exact h0 (by omega)
  · rw [if_neg (by omega)]; exact h1 (by omega)
  · rw [if_neg (by omega)]; exact h2 (by omega)
theorem mi_add1 {g : Nat → Int32} {l y : Nat} (hl : l < 6) (hy : y < 3) (h : mi A g (9 * l + 3 * y + 1)) : mi A (upd g (18 * 1 + 3 * l + y) (nI (nH (A 38) l y))) (9 * l + 3 * y + 2) := by
  intro a b ha hb
  obtain ⟨h0, h1, h2⟩ := h a b ha hb
  unfold upd
  refine ⟨fun z => ?_, fun z => ?_, fun z => ?_⟩
  · rw [if_neg (by omega)]; exact h0 (by omega)
  · by_cases e : 18 * 1 + 3 * a + b = 18 * 1 + 3 * l + y
    · rw [if_pos e, show a = l by omega, show b = y by omega]
    · rw [if_neg e]; exact h1 (by omega)
  · rw [if_neg (by omega)]; exact h2 (by omega)
theorem mi_add2 {g : Nat → Int32} {l y : Nat} (hl : l < 6) (hy : y < 3) (h : mi A g (9 * l + 3 * y + 2)) : mi A (upd g (18 * 2 + 3 * l + y) (nI (nD (A 39) l y))) (9 * l + 3 * y + 3) := by
  intro a b ha hb
  obtain ⟨h0, h1, h2⟩ := h a b ha hb
  unfold upd
  refine ⟨fun z => ?_, fun z => ?_, fun z => ?_⟩
  · rw [if_neg (by omega)]; exact h0 (by omega)
  · rw [if_neg (by omega)]; exact h1 (by omega)
  · by_cases e : 18 * 2 + 3 * a + b = 18 * 2 + 3 * l + y
    · rw [if_pos e, show a = l by omega, show b = y by omega]
    · rw [if_neg e]; exact h2 (by omega)
theorem M_lc_lp : ∀ r l y (g : Nat → Int32), 3 * l + y + r = 17 → l < 6 → y < 3 → mi A g (9 * l + 3 * y) → ∃ g' : Nat → Int32, mi A g' 54 ∧ am_fin [(z_M_laysCounts, 17, [.ref 36, .int (nI l), .int (nI y), .int 0], [])] (hp L xs (upA A 47 g) V K T) none (hp L xs (upA A 47 g') V K T) := by
  intro r
  have row : ∀ l y (g : Nat → Int32), l < 6 → y < 3 → mi A g (9 * l + 3 * y) → ∃ gm : Nat → Int32, mi A gm (9 * l + 3 * y + 3) ∧ ∀ {h' : am_H}, am_fin [(z_M_laysCounts, 10, [.ref 36, .int (nI l), .int (nI y + 1), .int (nI 3)], [])] (hp L xs (upA A 47 gm) V K T) none h' → am_fin [(z_M_laysCounts, 17, [.ref 36, .int (nI l), .int (nI y), .int 0], [])] (hp L xs (upA A 47 g) V K T) none h' := by
    intro l y g hl hy h
    refine ⟨_, mi_add2 hl hy (mi_add1 hl hy (mi_add0 hl hy h)), fun {h'} k => ?_⟩
    have ix : ∀ s, s < 3 → (18 : Int32) * nI s + 3 * nI l + nI y = nI (18 * s + 3 * l + y) := fun s hs => by rw [l_18, l_3, nI_mul, nI_mul, nI_add, nI_add]
    have ob : ∀ s, s < 3 → ¬ (nI (18 * s + 3 * l + y) < 0 ∨ 54 ≤ (nI (18 * s + 3 * l + y)).toNatClampNeg) := fun s hs => nI_inb (by omega) (by omega)
    have k17 := sg_M_laysCounts_17 (L := L) (xs := xs) (A := upA A 47 (upd (upd (upd g (18 * 0 + 3 * l + y) (nI (nD (A 37) l y))) (18 * 1 + 3 * l + y) (nI (nH (A 38) l y))) (18 * 2 + 3 * l + y) (nI (nD (A 39) l y)))) (V := V) (K := K) (T := T) (v := none) (h' := h') (v1 := nI l) (v2 := nI y) (v3 := nI 3) (iteP (by decide) k)
    refine sg_M_laysCounts_17 (v3 := nI 0) (iteN (by decide) ?_)
    rw [ix 0 (by omega)]
    refine am_fin.call (M_daysIn_c0 (nI l) y hy) (sg_M_laysCounts_39r ⟨ob 0 (by omega), ?_⟩)
    rw [nI_clamp (by omega), upA_same, upA_upA]
    refine sg_M_laysCounts_17 (v3 := nI 1) (iteN (by decide) ?_)
    rw [ix 1 (by omega)]
    refine am_fin.call (M_daysIn_c1 (nI l) y hy) (sg_M_laysCounts_39r ⟨ob 1 (by omega), ?_⟩)
    rw [nI_clamp (by omega), upA_same, upA_upA]
    refine sg_M_laysCounts_17 (v3 := nI 2) (iteN (by decide) ?_)
    rw [ix 2 (by omega)]
    refine am_fin.call (M_daysIn_c2 (nI l) y hy) (sg_M_laysCounts_39r ⟨ob 2 (by omega), ?_⟩)
    rw [nI_clamp (by omega), upA_same, upA_upA]
    exact k17
  induction r with
  | zero =>
    intro l y g hr hl hy h
    obtain ⟨gm, m1, m2⟩ := row l y g hl hy h
    have e1 : l = 5 := by omega
    have e2 : y = 2 := by omega
    subst e1; subst e2
    exact ⟨gm, m1, m2 (sg_M_laysCounts_10b (iteP (by decide) (sg_M_laysCounts_2c (iteP (by decide) ⟨rfl, rfl⟩))))⟩
  | succ r ih =>
    intro l y g hr hl hy h
    obtain ⟨gm, m1, m2⟩ := row l y g hl hy h
    by_cases c : y < 2
    · obtain ⟨g', h1, h2⟩ := ih l (y + 1) gm (by omega) hl (by omega) (by rw [show 9 * l + 3 * (y + 1) = 9 * l + 3 * y + 3 by omega]; exact m1)
      refine ⟨g', h1, m2 ?_⟩
      rw [nI_1]
      exact sg_M_laysCounts_10b (iteN (by rw [l_3, nI_leI (by omega) (by omega)]; omega) h2)
    · have e2 : y = 2 := by omega
      subst e2
      obtain ⟨g', h1, h2⟩ := ih (l + 1) 0 gm (by omega) (by omega) (by omega) (by rw [show 9 * (l + 1) + 3 * 0 = 9 * l + 3 * 2 + 3 by omega]; exact m1)
      refine ⟨g', h1, m2 ?_⟩
      refine sg_M_laysCounts_10b (iteP (by decide) ?_)
      rw [nI_1]
      exact sg_M_laysCounts_2c (iteN (by rw [l_6, nI_leI (by omega) (by omega)]; omega) (sg_M_laysCounts_10b (iteN (by decide) h2)))
theorem M_laysCounts_c : ∃ g : Nat → Int32, JMd (upA A 47 g) (nD (A 37)) (nH (A 38)) (nD (A 39)) ∧ am_fin [(z_M_laysCounts, 0, [.ref 36, .null, .null, .null], [])] (hp L xs A V K T) none (hp L xs (upA A 47 g) V K T) := by
  obtain ⟨g, h1, h2⟩ := M_lc_lp (L := L) (xs := xs) (A := A) (V := V) (K := K) (T := T) 17 0 0 (A 47) (by omega) (by omega) (by omega) (fun l y hl hy => ⟨fun z => by omega, fun z => by omega, fun z => by omega⟩)
  rw [upA_self] at h2
  refine ⟨g, fun l y hl hy => ?_, ?_⟩
  · obtain ⟨q0, q1, q2⟩ := h1 l y hl hy
    refine ⟨q0 (by omega), q1 (by omega), q2 (by omega), ?_, ?_, ?_⟩
    · have := cn_le (fun d => A 37 d = nI l) (360 * y) 360; unfold nD; omega
    · have := cn_le (fun d => hbit (A 38 d) (nI l)) (360 * y) 360; unfold nH; omega
    · have := cn_le (fun d => A 39 d = nI l) (360 * y) 360; unfold nD; omega
  · exact sg_M_laysCounts_0 (sg_M_laysCounts_2 (iteN (by decide) (sg_M_laysCounts_10 (iteN (by decide) h2))))
end
