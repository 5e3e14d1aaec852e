theorem nI_divI {a b : Nat} (ha : a < 2 ^ 31) (hb : b < 2 ^ 31) (h0 : 1 < b) : nI a / nI b = nI (a / b) := by
  have hd : a / b ≤ a := Nat.div_le_self a b
  apply Int32.toInt_inj.mp
  rw [Int32.toInt_div_of_ne_right _ _ (by
    intro h
    have := congrArg Int32.toInt h
    rw [nI_toInt hb, show (-1 : Int32).toInt = -1 from by decide] at this
    omega), nI_toInt ha, nI_toInt hb, nI_toInt (by omega)]
  exact (Int.natCast_ediv a b ▸ Int.tdiv_eq_ediv_of_nonneg (by omega))
theorem cn_app (p : Nat → Prop) [DecidablePred p] (a n : Nat) : ∀ m, cn p a (n + m) = cn p a n + cn p (a + n) m
  | 0 => rfl
  | m + 1 => by
    rw [← Nat.add_assoc]
    show cn p a (n + m) + (if p (a + (n + m)) then 1 else 0) = cn p a n + (cn p (a + n) m + (if p (a + n + m) then 1 else 0))
    rw [cn_app p a n m, Nat.add_assoc a n m, Nat.add_assoc]
/-- in a year -/
theorem cn_year (p : Nat → Prop) [DecidablePred p] (y : Nat) (hy : y < 3) : cn (fun d => p d ∧ d / 360 = y) 0 1080 = cn p (360 * y) 360 := by
  have sp : ∀ n m, cn (fun d => p d ∧ d / 360 = y) 0 (n + m) = cn (fun d => p d ∧ d / 360 = y) 0 n + cn (fun d => p d ∧ d / 360 = y) n m := fun n m => by
    have := cn_app (fun d => p d ∧ d / 360 = y) 0 n m
    rw [Nat.zero_add] at this
    exact this
  have z : ∀ (q : Nat → Prop) [DecidablePred q] a n, (∀ i, a ≤ i → i < a + n → ¬ q i) → cn q a n = 0 := by
    intro q _ a n h
    induction n with
    | zero => rfl
    | succ n ih => unfold cn; rw [ih (fun i h1 h2 => h i h1 (by omega)), if_neg (h _ (by omega) (by omega))]
  have e : (1080 : Nat) = 360 * y + (360 + (720 - 360 * y)) := by omega
  have sp2 : cn (fun d => p d ∧ d / 360 = y) (360 * y) (360 + (720 - 360 * y)) = cn (fun d => p d ∧ d / 360 = y) (360 * y) 360 := by
    have : ∀ m, 360 * y + 360 + m ≤ 1080 → cn (fun d => p d ∧ d / 360 = y) (360 * y) (360 + m) = cn (fun d => p d ∧ d / 360 = y) (360 * y) 360 := by
      intro m
      induction m with
      | zero => intro _; rfl
      | succ m ih =>
        intro h
        rw [← Nat.add_assoc]
        rw [show cn (fun d => p d ∧ d / 360 = y) (360 * y) (360 + m + 1) = cn (fun d => p d ∧ d / 360 = y) (360 * y) (360 + m) + (if p (360 * y + (360 + m)) ∧ (360 * y + (360 + m)) / 360 = y then 1 else 0) from rfl, if_neg (fun w => by have := w.2; omega), ih (by omega), Nat.add_zero]
    exact this _ (by omega)
  rw [e, sp, sp2, z _ 0 (360 * y) (fun i _ h w => by have := w.2; omega), Nat.zero_add]
  exact cn_congr (fun i h1 h2 => ⟨fun w => w.1, fun w => ⟨w, by omega⟩⟩)
/-- days so far, by lands and years -/
def ci (q : Nat → Nat → Prop) [∀ l d, Decidable (q l d)] (g : Nat → Int32) (k : Nat) : Prop := ∀ l y, l < 6 → y < 3 → g (l * 3 + y) = nI (cn (fun d => q l d ∧ d / 360 = y) 0 k)
theorem ci_skip {q : Nat → Nat → Prop} [∀ l d, Decidable (q l d)] {g : Nat → Int32} {k : Nat} (h : ci q g k) (n : ∀ l, l < 6 → ¬ q l k) : ci q g (k + 1) := by
  intro l y hl hy
  rw [h l y hl hy, cn_f (p := fun d => q l d ∧ d / 360 = y) (by rw [Nat.zero_add]; exact fun z => n l hl z.1)]
theorem ci_add {q : Nat → Nat → Prop} [∀ l d, Decidable (q l d)] {g : Nat → Int32} {k l : Nat} (h : ci q g k) (hl : l < 6) (hk : k < 1080) (n : ∀ m, m < 6 → (q m k ↔ m = l)) : ci q (upd g (l * 3 + k / 360) (g (l * 3 + k / 360) + 1)) (k + 1) := by
  intro m y hm hy
  have hy0 : k / 360 < 3 := by omega
  unfold upd
  by_cases e : m * 3 + y = l * 3 + k / 360
  · have e1 : m = l := by omega
    have e2 : y = k / 360 := by omega
    subst e1; subst e2
    rw [if_pos rfl, h m _ hl hy0, cn_t (p := fun d => q m d ∧ d / 360 = k / 360) (by rw [Nat.zero_add]; exact ⟨(n m hl).mpr rfl, rfl⟩)]
  · rw [if_neg e, h m y hm hy, cn_f (p := fun d => q m d ∧ d / 360 = y) (by rw [Nat.zero_add]; exact fun z => e (by rw [(n m hm).mp z.1, z.2]))]
section
variable {L : Nat} {xs : Nat → Int32} {A V : Nat → Nat → Int32} {K : Nat → Option Nat} {T : am_H}
theorem X_fill_27_c : ∃ g : Nat → Int32, (∀ i, i < 18 → g i = 0) ∧ am_fin [(z_X_fill, 0, [.ref 27, .int 0, .null, .null], [])] (hp L xs A V K T) none (hp L xs (upA A 27 g) V K T) := by
  refine ⟨fl (A 27) 0 18 0, fun i hi => by unfold fl; rw [if_pos (by omega)], sg_X_fill_27_0 ?_⟩
  have key := am_iter (fun k => ([(z_X_fill, 5, [.ref 27, .int 0, .int (nI k), .int (nI 18)], [])], hp L xs (upA A 27 (fl (A 27) 0 k 0)) V K T)) 18 (v := none) (h' := hp L xs (upA A 27 (fl (A 27) 0 18 0)) V K T) (fun k hk ih => ?_) ?_
  · rw [fl_0, upA_self] at key
    exact key
  · dsimp only at ih ⊢
    refine sg_X_fill_27_5 (iteN (by rw [nI_leI (by omega) (by omega)]; omega) ⟨nI_inb (by omega) hk, ?_⟩)
    rw [nI_clamp (by omega), upA_same, upA_upA, show fl (A 27) 0 k 0 = fl (A 27) 0 k 0 from rfl]
    have e := fl_s (A 27) 0 k 0
    rw [Nat.zero_add] at e
    rw [e, l_1, nI_add]
    exact ih
  · exact sg_X_fill_27_5 (iteP (by rw [nI_leI (by omega) (by omega)]; omega) ⟨rfl, rfl⟩)
theorem X_fill_28_c : ∃ g : Nat → Int32, (∀ i, i < 18 → g i = 0) ∧ am_fin [(z_X_fill, 0, [.ref 28, .int 0, .null, .null], [])] (hp L xs A V K T) none (hp L xs (upA A 28 g) V K T) := by
  refine ⟨fl (A 28) 0 18 0, fun i hi => by unfold fl; rw [if_pos (by omega)], sg_X_fill_28_0 ?_⟩
  have key := am_iter (fun k => ([(z_X_fill, 5, [.ref 28, .int 0, .int (nI k), .int (nI 18)], [])], hp L xs (upA A 28 (fl (A 28) 0 k 0)) V K T)) 18 (v := none) (h' := hp L xs (upA A 28 (fl (A 28) 0 18 0)) V K T) (fun k hk ih => ?_) ?_
  · rw [fl_0, upA_self] at key
    exact key
  · dsimp only at ih ⊢
    refine sg_X_fill_28_5 (iteN (by rw [nI_leI (by omega) (by omega)]; omega) ⟨nI_inb (by omega) hk, ?_⟩)
    rw [nI_clamp (by omega), upA_same, upA_upA, show fl (A 28) 0 k 0 = fl (A 28) 0 k 0 from rfl]
    have e := fl_s (A 28) 0 k 0
    rw [Nat.zero_add] at e
    rw [e, l_1, nI_add]
    exact ih
  · exact sg_X_fill_28_5 (iteP (by rw [nI_leI (by omega) (by omega)]; omega) ⟨rfl, rfl⟩)
theorem X_fill_29_c : ∃ g : Nat → Int32, (∀ i, i < 18 → g i = 0) ∧ am_fin [(z_X_fill, 0, [.ref 29, .int 0, .null, .null], [])] (hp L xs A V K T) none (hp L xs (upA A 29 g) V K T) := by
  refine ⟨fl (A 29) 0 18 0, fun i hi => by unfold fl; rw [if_pos (by omega)], sg_X_fill_29_0 ?_⟩
  have key := am_iter (fun k => ([(z_X_fill, 5, [.ref 29, .int 0, .int (nI k), .int (nI 18)], [])], hp L xs (upA A 29 (fl (A 29) 0 k 0)) V K T)) 18 (v := none) (h' := hp L xs (upA A 29 (fl (A 29) 0 18 0)) V K T) (fun k hk ih => ?_) ?_
  · rw [fl_0, upA_self] at key
    exact key
  · dsimp only at ih ⊢
    refine sg_X_fill_29_5 (iteN (by rw [nI_leI (by omega) (by omega)]; omega) ⟨nI_inb (by omega) hk, ?_⟩)
    rw [nI_clamp (by omega), upA_same, upA_upA, show fl (A 29) 0 k 0 = fl (A 29) 0 k 0 from rfl]
    have e := fl_s (A 29) 0 k 0
    rw [Nat.zero_add] at e
    rw [e, l_1, nI_add]
    exact ih
  · exact sg_X_fill_29_5 (iteP (by rw [nI_leI (by omega) (by omega)]; omega) ⟨rfl, rfl⟩)
theorem J_ci_27_3 (hf : ∀ d, d < 1080 → pl (A 4 d)) : ∀ r k (g : Nat → Int32) (u : Option Int32), k + r = 1080 → ci (fun l d => A 4 d = nI l) g k → ∃ g' : Nat → Int32, ci (fun l d => A 4 d = nI l) g' 1080 ∧ am_fin [(z_J_countInto, 7, [.ref 27, .ref 3, .int (nI k), dl u], [])] (hp L xs (upA A 27 g) V K T) none (hp L xs (upA A 27 g') V K T) := by
  intro r
  induction r with
  | zero =>
    intro k g u hk h
    have hk : k = 1080 := by omega
    subst hk
    refine ⟨g, h, ?_⟩
    cases u
    · exact sg_J_countInto_27_3_7 (iteP (g1080 rfl) ⟨rfl, rfl⟩)
    · exact sg_J_countInto_27_3_7b (iteP (g1080 rfl) ⟨rfl, rfl⟩)
  | succ r ih =>
    intro k g u hk h
    have hk0 : k < 1080 := by omega
    have ib : ¬ (nI k < 0 ∨ 1080 ≤ (nI k).toNatClampNeg) := nI_inb (by omega) hk0
    have rd : upA A 27 g 4 (nI k).toNatClampNeg = A 4 k := by rw [nI_clamp (by omega)]; rfl
    rcases hf k hk0 with e | ⟨l, hl, e⟩
    · obtain ⟨g', h1, h2⟩ := ih (k + 1) g (some (-1)) (by omega) (ci_skip h (fun l hl z => nI_neg1 (a := l) (by omega) (z.symm.trans e)))
      rw [← nI_1] at h2
      refine ⟨g', h1, ?_⟩
      cases u
      · exact sg_J_countInto_27_3_7 (iteN (l1080 hk0) ⟨ib, by rw [rd, e]; exact iteP (by decide) h2⟩)
      · exact sg_J_countInto_27_3_7b (iteN (l1080 hk0) ⟨ib, by rw [rd, e]; exact iteP (by decide) h2⟩)
    · have hy0 : k / 360 < 3 := by omega
      obtain ⟨g', h1, h2⟩ := ih (k + 1) _ (some (nI l)) (by omega) (ci_add h hl hk0 (fun m hm => ⟨fun z => (nI_eq (by omega) (by omega)).mp (z.symm.trans e), fun z => by rw [z]; exact e⟩))
      rw [← nI_1] at h2
      have ix : nI l * 3 + nI k / 360 = nI (l * 3 + k / 360) := by rw [l_3, l_360, nI_mul, nI_divI (by omega) (by omega) (by omega), nI_add]
      have ob : ¬ (nI (l * 3 + k / 360) < 0 ∨ 18 ≤ (nI (l * 3 + k / 360)).toNatClampNeg) := nI_inb (by omega) (by omega)
      refine ⟨g', h1, ?_⟩
      cases u
      · exact sg_J_countInto_27_3_7 (iteN (l1080 hk0) ⟨ib, by rw [rd, e, ix]; exact iteN (nI_lt0 (by omega)) (iteN (by rw [l_6, nI_leI (by omega) (by omega)]; omega) ⟨ob, ob, by rw [nI_clamp (by omega), upA_same, upA_upA]; exact h2⟩)⟩)
      · exact sg_J_countInto_27_3_7b (iteN (l1080 hk0) ⟨ib, by rw [rd, e, ix]; exact iteN (nI_lt0 (by omega)) (iteN (by rw [l_6, nI_leI (by omega) (by omega)]; omega) ⟨ob, ob, by rw [nI_clamp (by omega), upA_same, upA_upA]; exact h2⟩)⟩)
theorem J_countInto_27_3_c (hf : ∀ d, d < 1080 → pl (A 4 d)) : ∃ g : Nat → Int32, (∀ l y, l < 6 → y < 3 → g (l * 3 + y) = nI (cn (fun d => A 4 d = nI l) (360 * y) 360)) ∧ am_fin [(z_J_countInto, 0, [.ref 27, .ref 3, .null, .null], [])] (hp L xs A V K T) none (hp L xs (upA A 27 g) V K T) := by
  obtain ⟨g0, z0, f0⟩ := X_fill_27_c (L := L) (xs := xs) (A := A) (V := V) (K := K) (T := T)
  obtain ⟨g, h1, h2⟩ := J_ci_27_3 (L := L) (xs := xs) (V := V) (K := K) (T := T) hf 1080 0 g0 none (by omega) (fun l y hl hy => by rw [z0 _ (by omega)]; rfl)
  refine ⟨g, fun l y hl hy => by rw [h1 l y hl hy, cn_year (fun d => A 4 d = nI l) y hy], ?_⟩
  exact sg_J_countInto_27_3_0 (am_fin.call f0 (sg_J_countInto_27_3_5r h2))
theorem J_ci_27_34 (hf : ∀ d, d < 1080 → pl (A 35 d)) : ∀ r k (g : Nat → Int32) (u : Option Int32), k + r = 1080 → ci (fun l d => A 35 d = nI l) g k → ∃ g' : Nat → Int32, ci (fun l d => A 35 d = nI l) g' 1080 ∧ am_fin [(z_J_countInto, 7, [.ref 27, .ref 34, .int (nI k), dl u], [])] (hp L xs (upA A 27 g) V K T) none (hp L xs (upA A 27 g') V K T) := by
  intro r
  induction r with
  | zero =>
    intro k g u hk h
    have hk : k = 1080 := by omega
    subst hk
    refine ⟨g, h, ?_⟩
    cases u
    · exact sg_J_countInto_27_34_7 (iteP (g1080 rfl) ⟨rfl, rfl⟩)
    · exact sg_J_countInto_27_34_7b (iteP (g1080 rfl) ⟨rfl, rfl⟩)
  | succ r ih =>
    intro k g u hk h
    have hk0 : k < 1080 := by omega
    have ib : ¬ (nI k < 0 ∨ 1080 ≤ (nI k).toNatClampNeg) := nI_inb (by omega) hk0
    have rd : upA A 27 g 35 (nI k).toNatClampNeg = A 35 k := by rw [nI_clamp (by omega)]; rfl
    rcases hf k hk0 with e | ⟨l, hl, e⟩
    · obtain ⟨g', h1, h2⟩ := ih (k + 1) g (some (-1)) (by omega) (ci_skip h (fun l hl z => nI_neg1 (a := l) (by omega) (z.symm.trans e)))
      rw [← nI_1] at h2
      refine ⟨g', h1, ?_⟩
      cases u
      · exact sg_J_countInto_27_34_7 (iteN (l1080 hk0) ⟨ib, by rw [rd, e]; exact iteP (by decide) h2⟩)
      · exact sg_J_countInto_27_34_7b (iteN (l1080 hk0) ⟨ib, by rw [rd, e]; exact iteP (by decide) h2⟩)
    · have hy0 : k / 360 < 3 := by omega
      obtain ⟨g', h1, h2⟩ := ih (k + 1) _ (some (nI l)) (by omega) (ci_add h hl hk0 (fun m hm => ⟨fun z => (nI_eq (by omega) (by omega)).mp (z.symm.trans e), fun z => by rw [z]; exact e⟩))
      rw [← nI_1] at h2
      have ix : nI l * 3 + nI k / 360 = nI (l * 3 + k / 360) := by rw [l_3, l_360, nI_mul, nI_divI (by omega) (by omega) (by omega), nI_add]
      have ob : ¬ (nI (l * 3 + k / 360) < 0 ∨ 18 ≤ (nI (l * 3 + k / 360)).toNatClampNeg) := nI_inb (by omega) (by omega)
      refine ⟨g', h1, ?_⟩
      cases u
      · exact sg_J_countInto_27_34_7 (iteN (l1080 hk0) ⟨ib, by rw [rd, e, ix]; exact iteN (nI_lt0 (by omega)) (iteN (by rw [l_6, nI_leI (by omega) (by omega)]; omega) ⟨ob, ob, by rw [nI_clamp (by omega), upA_same, upA_upA]; exact h2⟩)⟩)
      · exact sg_J_countInto_27_34_7b (iteN (l1080 hk0) ⟨ib, by rw [rd, e, ix]; exact iteN (nI_lt0 (by omega)) (iteN (by rw [l_6, nI_leI (by omega) (by omega)]; omega) ⟨ob, ob, by rw [nI_clamp (by omega), upA_same, upA_upA]; exact h2⟩)⟩)
theorem J_countInto_27_34_c (hf : ∀ d, d < 1080 → pl (A 35 d)) : ∃ g : Nat → Int32, (∀ l y, l < 6 → y < 3 → g (l * 3 + y) = nI (cn (fun d => A 35 d = nI l) (360 * y) 360)) ∧ am_fin [(z_J_countInto, 0, [.ref 27, .ref 34, .null, .null], [])] (hp L xs A V K T) none (hp L xs (upA A 27 g) V K T) := by
  obtain ⟨g0, z0, f0⟩ := X_fill_27_c (L := L) (xs := xs) (A := A) (V := V) (K := K) (T := T)
  obtain ⟨g, h1, h2⟩ := J_ci_27_34 (L := L) (xs := xs) (V := V) (K := K) (T := T) hf 1080 0 g0 none (by omega) (fun l y hl hy => by rw [z0 _ (by omega)]; rfl)
  refine ⟨g, fun l y hl hy => by rw [h1 l y hl hy, cn_year (fun d => A 35 d = nI l) y hy], ?_⟩
  exact sg_J_countInto_27_34_0 (am_fin.call f0 (sg_J_countInto_27_34_5r h2))
theorem J_ci_29_5 (hf : ∀ d, d < 1080 → pl (A 6 d)) : ∀ r k (g : Nat → Int32) (u : Option Int32), k + r = 1080 → ci (fun l d => A 6 d = nI l) g k → ∃ g' : Nat → Int32, ci (fun l d => A 6 d = nI l) g' 1080 ∧ am_fin [(z_J_countInto, 7, [.ref 29, .ref 5, .int (nI k), dl u], [])] (hp L xs (upA A 29 g) V K T) none (hp L xs (upA A 29 g') V K T) := by
  intro r
  induction r with
  | zero =>
    intro k g u hk h
    have hk : k = 1080 := by omega
    subst hk
    refine ⟨g, h, ?_⟩
    cases u
    · exact sg_J_countInto_29_5_7 (iteP (g1080 rfl) ⟨rfl, rfl⟩)
    · exact sg_J_countInto_29_5_7b (iteP (g1080 rfl) ⟨rfl, rfl⟩)
  | succ r ih =>
    intro k g u hk h
    have hk0 : k < 1080 := by omega
    have ib : ¬ (nI k < 0 ∨ 1080 ≤ (nI k).toNatClampNeg) := nI_inb (by omega) hk0
    have rd : upA A 29 g 6 (nI k).toNatClampNeg = A 6 k := by rw [nI_clamp (by omega)]; rfl
    rcases hf k hk0 with e | ⟨l, hl, e⟩
    · obtain ⟨g', h1, h2⟩ := ih (k + 1) g (some (-1)) (by omega) (ci_skip h (fun l hl z => nI_neg1 (a := l) (by omega) (z.symm.trans e)))
      rw [← nI_1] at h2
      refine ⟨g', h1, ?_⟩
      cases u
      · exact sg_J_countInto_29_5_7 (iteN (l1080 hk0) ⟨ib, by rw [rd, e]; exact iteP (by decide) h2⟩)
      · exact sg_J_countInto_29_5_7b (iteN (l1080 hk0) ⟨ib, by rw [rd, e]; exact iteP (by decide) h2⟩)
    · have hy0 : k / 360 < 3 := by omega
      obtain ⟨g', h1, h2⟩ := ih (k + 1) _ (some (nI l)) (by omega) (ci_add h hl hk0 (fun m hm => ⟨fun z => (nI_eq (by omega) (by omega)).mp (z.symm.trans e), fun z => by rw [z]; exact e⟩))
      rw [← nI_1] at h2
      have ix : nI l * 3 + nI k / 360 = nI (l * 3 + k / 360) := by rw [l_3, l_360, nI_mul, nI_divI (by omega) (by omega) (by omega), nI_add]
      have ob : ¬ (nI (l * 3 + k / 360) < 0 ∨ 18 ≤ (nI (l * 3 + k / 360)).toNatClampNeg) := nI_inb (by omega) (by omega)
      refine ⟨g', h1, ?_⟩
      cases u
      · exact sg_J_countInto_29_5_7 (iteN (l1080 hk0) ⟨ib, by rw [rd, e, ix]; exact iteN (nI_lt0 (by omega)) (iteN (by rw [l_6, nI_leI (by omega) (by omega)]; omega) ⟨ob, ob, by rw [nI_clamp (by omega), upA_same, upA_upA]; exact h2⟩)⟩)
      · exact sg_J_countInto_29_5_7b (iteN (l1080 hk0) ⟨ib, by rw [rd, e, ix]; exact iteN (nI_lt0 (by omega)) (iteN (by rw [l_6, nI_leI (by omega) (by omega)]; omega) ⟨ob, ob, by rw [nI_clamp (by omega), upA_same, upA_upA]; exact h2⟩)⟩)
theorem J_countInto_29_5_c (hf : ∀ d, d < 1080 → pl (A 6 d)) : ∃ g : Nat → Int32, (∀ l y, l < 6 → y < 3 → g (l * 3 + y) = nI (cn (fun d => A 6 d = nI l) (360 * y) 360)) ∧ am_fin [(z_J_countInto, 0, [.ref 29, .ref 5, .null, .null], [])] (hp L xs A V K T) none (hp L xs (upA A 29 g) V K T) := by
  obtain ⟨g0, z0, f0⟩ := X_fill_29_c (L := L) (xs := xs) (A := A) (V := V) (K := K) (T := T)
  obtain ⟨g, h1, h2⟩ := J_ci_29_5 (L := L) (xs := xs) (V := V) (K := K) (T := T) hf 1080 0 g0 none (by omega) (fun l y hl hy => by rw [z0 _ (by omega)]; rfl)
  refine ⟨g, fun l y hl hy => by rw [h1 l y hl hy, cn_year (fun d => A 6 d = nI l) y hy], ?_⟩
  exact sg_J_countInto_29_5_0 (am_fin.call f0 (sg_J_countInto_29_5_5r h2))
end
