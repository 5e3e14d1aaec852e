/-! ROLLING: days counted through, windows -/
theorem winI {d w : Nat} (hd : d < 100000) (hw : w < 100000) : (if nI d - nI w + 1 < 0 then (0 : Int32) else nI d - nI w + 1) = nI (d + 1 - w) := by
  by_cases h : d + 1 < w
  · rw [if_pos (by rw [Int32.lt_iff_toInt_lt, i32_sub1 (by omega) (by omega), Int32.toInt_zero]; omega), show d + 1 - w = 0 by omega]; rfl
  · have e : nI d - nI w + 1 = nI (d + 1 - w) := by
      apply Int32.toInt_inj.mp
      rw [i32_sub1 (by omega) (by omega), nI_toInt (by omega)]; omega
    rw [e, if_neg (nI_lt0 (by omega))]
theorem sub0I {a b : Nat} (ha : a < 100000) (hb : b < 100000) : (if nI a - nI b < 0 then (0 : Int32) else nI a - nI b) = nI (a - b) := by
  by_cases h : b ≤ a
  · rw [nI_sub h, if_neg (nI_lt0 (by omega))]
  · have e : (nI a - nI b).toInt = (a : Int) - (b : Int) := by
      rw [Int32.toInt_sub, nI_toInt (by omega), nI_toInt (by omega)]
      exact Int.bmod_eq_of_le (n := (a : Int) - (b : Int)) (by omega) (by omega)
    rw [if_pos (by rw [Int32.lt_iff_toInt_lt, e, Int32.toInt_zero]; omega), show a - b = 0 by omega]; rfl
theorem zsub (z : Int32) {a b : Nat} (h : a ≤ b) : (z + nI b) - (z + nI a) = nI (b - a) := by
  have : z + nI b = nI (b - a) + (z + nI a) := by
    rw [Int32.add_comm (nI (b - a)), Int32.add_assoc, nI_add, show a + (b - a) = b by omega]
  rw [this, Int32.add_sub_cancel]
theorem cn_dif (p : Nat → Prop) [DecidablePred p] {a b : Nat} (h : a ≤ b) : cn p 0 b = cn p 0 a + cn p a (b - a) := by
  have := cn_app p 0 a (b - a)
  rw [show a + (b - a) = b by omega, Nat.zero_add] at this
  exact this
theorem cn_s (p : Nat → Prop) [DecidablePred p] (k : Nat) : cn p 0 (k + 1) = cn p 0 k + (if p k then 1 else 0) := by
  show cn p 0 k + (if p (0 + k) then 1 else 0) = _
  rw [Nat.zero_add]
theorem cn_none {p : Nat → Prop} [DecidablePred p] {a : Nat} (h : ∀ i, ¬ p i) : ∀ n, cn p a n = 0
  | 0 => rfl
  | n + 1 => by rw [← cn_F (p := p) (a := a) (n := n) (h _)]; exact cn_none h n
theorem srch_none {p : Nat → Prop} [DecidablePred p] (h : ∀ i, ¬ p i) : ∀ n a, srch p n a = none
  | 0, _ => rfl
  | n + 1, a => by rw [srch_f (h a)]; exact srch_none h n (a + 1)
def mxn (q : Nat → Nat) (a : Nat) : Nat → Nat
  | 0 => 0
  | n + 1 => max (mxn q a n) (q (a + n))
theorem mxn_none {q : Nat → Nat} {a : Nat} (h : ∀ i, q i = 0) : ∀ n, mxn q a n = 0
  | 0 => rfl
  | n + 1 => by unfold mxn; rw [mxn_none h n, h]; rfl
theorem mxn_le {q : Nat → Nat} {a b : Nat} (h : ∀ i, q i ≤ b) : ∀ n, mxn q a n ≤ b
  | 0 => Nat.zero_le _
  | n + 1 => by
    have h1 := mxn_le h (a := a) n
    have h2 := h (a + n)
    unfold mxn
    omega
/-- days there of the window that ends with d -/
def wc (f : Nat → Int32) (x : Int32) (w d : Nat) : Nat := cn (fun d => f d = x) (d + 1 - w) (d + 1 - (d + 1 - w))
theorem wc_dif (f : Nat → Int32) (x : Int32) (w d : Nat) : wc f x w d = cn (fun d => f d = x) 0 (d + 1) - cn (fun d => f d = x) 0 (d + 1 - w) := by
  have := cn_dif (fun d => f d = x) (show d + 1 - w ≤ d + 1 by omega)
  unfold wc
  omega
theorem wc_le (f : Nat → Int32) (x : Int32) (w d : Nat) : wc f x w d ≤ d + 1 := by
  have := cn_le (fun d => f d = x) (d + 1 - w) (d + 1 - (d + 1 - w))
  unfold wc
  omega
def bey (f : Nat → Int32) (x : Int32) (w m d : Nat) : Nat := if w ≠ 0 ∧ f d = x then wc f x w d - m else 0
abbrev ovq (f : Nat → Int32) (x : Int32) (w m d : Nat) : Prop := 0 < bey f x w m d
theorem bey_le (f : Nat → Int32) (x : Int32) (w m d : Nat) : bey f x w m d ≤ d + 1 := by
  have := wc_le f x w d
  unfold bey
  split <;> omega
theorem bey_0 (f : Nat → Int32) (x : Int32) (m d : Nat) : bey f x 0 m d = 0 := by
  unfold bey; rw [if_neg (fun z => z.1 rfl)]
def ovr (f : Nat → Int32) (x : Int32) (w m t a n : Nat) : Int32 := if t = 0 then nI (cn (ovq f x w m) a n) else if t = 1 then onat (-2) (srch (ovq f x w m) n a) else nI (mxn (bey f x w m) a n)
theorem ovr_0 (f : Nat → Int32) (x : Int32) (m t a n : Nat) : ovr f x 0 m t a n = if t = 0 then 0 else if t = 1 then -2 else 0 := by
  unfold ovr
  have h : ∀ i, ¬ ovq f x 0 m i := fun i => by unfold ovq; rw [bey_0]; omega
  rw [cn_none h, srch_none h, mxn_none (fun i => bey_0 f x m i)]
  rfl
theorem ah_step {f : Nat → Int32} {x : Int32} {g : Nat → Int32} {k : Nat} {e : Int32} (hg : ∀ i, i ≤ k → g i = g 0 + nI (cn (fun d => f d = x) 0 i)) (he : e = if f k = x then 1 else 0) : ∀ i, i ≤ k + 1 → upd g (k + 1) (g k + e) i = upd g (k + 1) (g k + e) 0 + nI (cn (fun d => f d = x) 0 i) := by
  intro i hi
  rw [upd_no g (g k + e) (show (0 : Nat) ≠ k + 1 by omega)]
  by_cases q : i = k + 1
  · have s : nI (cn (fun d => f d = x) 0 k) + e = nI (cn (fun d => f d = x) 0 (k + 1)) := by
      rw [he, cn_s]
      by_cases c : f k = x
      · rw [if_pos c, if_pos c, nI_1]
      · rw [if_neg c, if_neg c, Int32.add_zero, Nat.add_zero]
    rw [q, upd_at, hg k (Nat.le_refl k), Int32.add_assoc, s]
  · rw [upd_no _ _ q]; exact hg i (by omega)
/-- the class has read a land's days -/
def QB (A V : Nat → Nat → Int32) (f : Nat → Int32) (x : Int32) (w m : Nat) : Prop := (∀ i, i ≤ 1080 → A 31 i = A 31 0 + nI (cn (fun d => f d = x) 0 i)) ∧ V 30 4 = nI w ∧ V 30 5 = nI m ∧ m ≤ w ∧ w ≤ 360
theorem wm_of {A V : Nat → Nat → Int32} (R : Rr A V) (l : Nat) (hl : l < 6) : ∃ w m, m ≤ w ∧ w ≤ 360 ∧ A 11 l = nI w ∧ A 12 l = nI m ∧ A 41 (13 * l) = nI w ∧ A 41 (13 * l + 1) = nI m := by
  obtain ⟨h1, h2, -, -, -, -, -, ⟨w, m, e1, e2, e3, e4⟩, -⟩ := R.1 l hl
  exact ⟨w, m, e1, e2, e3, e4, h1.trans e3, h2.trans e4⟩
section
variable {L : Nat} {xs : Nat → Int32} {A V : Nat → Nat → Int32} {K : Nat → Option Nat} {T : am_H}
theorem O_rd_3_lp (l : Nat) : ∀ (r k : Nat) (g : Nat → Int32), k + r = 1080 → (∀ i, i ≤ k → g i = g 0 + nI (cn (fun d => A 4 d = nI l) 0 i)) → ∃ g' : Nat → Int32, (∀ i, i ≤ 1080 → g' i = g' 0 + nI (cn (fun d => A 4 d = nI l) 0 i)) ∧ am_fin [(z_O_read, 28, [.ref 30, .ref 3, .int (nI l), .int (nI k)], [])] (hp L xs (upA A 31 g) V K T) none (hp L xs (upA A 31 g') V K T) := by
  intro r
  induction r with
  | zero =>
    intro k g hk hg
    exact ⟨g, fun i hi => hg i (by omega), sg_O_read_3_28 (iteP (g1080 (by omega)) ⟨rfl, rfl⟩)⟩
  | succ r ih =>
    intro k g hk hg
    have b1 : ¬ (nI k < 0 ∨ 1081 ≤ (nI k).toNatClampNeg) := nI_inb (by omega) (by omega)
    have b2 : ¬ (nI k < 0 ∨ 1080 ≤ (nI k).toNatClampNeg) := nI_inb (by omega) (by omega)
    have b3 : ¬ (nI k + 1 < 0 ∨ 1081 ≤ (nI k + 1).toNatClampNeg) := by rw [nI_1]; exact nI_inb (by omega) (by omega)
    have ck : (nI k).toNatClampNeg = k := nI_clamp (by omega)
    have ck1 : (nI k + 1).toNatClampNeg = k + 1 := by rw [nI_1]; exact nI_clamp (by omega)
    by_cases c : A 4 k = nI l
    · obtain ⟨g', h1, h2⟩ := ih (k + 1) (upd g (k + 1) (g k + 1)) (by omega) (ah_step hg (by rw [if_pos c]))
      refine ⟨g', h1, sg_O_read_3_28 (iteN (l1080 (by omega)) ⟨b1, b2, iteP (by rw [ck]; exact c) ⟨b3, ?_⟩⟩)⟩
      rw [ck, ck1, upA_upA, upA_same, nI_1]
      exact h2
    · obtain ⟨g', h1, h2⟩ := ih (k + 1) (upd g (k + 1) (g k + 0)) (by omega) (ah_step hg (by rw [if_neg c]))
      refine ⟨g', h1, sg_O_read_3_28 (iteN (l1080 (by omega)) ⟨b1, b2, iteN (by rw [ck]; exact c) ⟨b3, ?_⟩⟩)⟩
      rw [ck, ck1, upA_upA, upA_same, nI_1]
      exact h2
theorem O_read_3_c (l : Nat) (hl : l < 6) : ∃ g : Nat → Int32, (∀ i, i ≤ 1080 → g i = g 0 + nI (cn (fun d => A 4 d = nI l) 0 i)) ∧ am_fin [(z_O_read, 0, [.ref 30, .ref 3, .int (nI l), .null], [])] (hp L xs A V K T) none (hp L xs (upA A 31 g) (upV (upV V 30 4 (A 11 l)) 30 5 (A 12 l)) K T) := by
  have base : ∀ i, i ≤ 0 → A 31 i = A 31 0 + nI (cn (fun d => A 4 d = nI l) 0 i) := fun i hi => by rw [show i = 0 by omega]; exact (Int32.add_zero _).symm
  have ib : ¬ (nI l < 0 ∨ 6 ≤ (nI l).toNatClampNeg) := nI_inb (by omega) hl
  obtain ⟨g, h1, h2⟩ := O_rd_3_lp (L := L) (xs := xs) (A := A) (V := upV (upV V 30 4 (A 11 l)) 30 5 (A 12 l)) (K := K) (T := T) l 1080 0 (A 31) (by omega) base
  rw [upA_self] at h2
  refine ⟨g, h1, sg_O_read_3_0 ⟨ib, ib, ?_⟩⟩
  rw [nI_clamp (by omega)]
  exact h2
theorem O_rd_34_lp (l : Nat) : ∀ (r k : Nat) (g : Nat → Int32), k + r = 1080 → (∀ i, i ≤ k → g i = g 0 + nI (cn (fun d => A 35 d = nI l) 0 i)) → ∃ g' : Nat → Int32, (∀ i, i ≤ 1080 → g' i = g' 0 + nI (cn (fun d => A 35 d = nI l) 0 i)) ∧ am_fin [(z_O_read, 28, [.ref 30, .ref 34, .int (nI l), .int (nI k)], [])] (hp L xs (upA A 31 g) V K T) none (hp L xs (upA A 31 g') V K T) := by
  intro r
  induction r with
  | zero =>
    intro k g hk hg
    exact ⟨g, fun i hi => hg i (by omega), sg_O_read_34_28 (iteP (g1080 (by omega)) ⟨rfl, rfl⟩)⟩
  | succ r ih =>
    intro k g hk hg
    have b1 : ¬ (nI k < 0 ∨ 1081 ≤ (nI k).toNatClampNeg) := nI_inb (by omega) (by omega)
    have b2 : ¬ (nI k < 0 ∨ 1080 ≤ (nI k).toNatClampNeg) := nI_inb (by omega) (by omega)
    have b3 : ¬ (nI k + 1 < 0 ∨ 1081 ≤ (nI k + 1).toNatClampNeg) := by rw [nI_1]; exact nI_inb (by omega) (by omega)
    have ck : (nI k).toNatClampNeg = k := nI_clamp (by omega)
    have ck1 : (nI k + 1).toNatClampNeg = k + 1 := by rw [nI_1]; exact nI_clamp (by omega)
    by_cases c : A 35 k = nI l
    · obtain ⟨g', h1, h2⟩ := ih (k + 1) (upd g (k + 1) (g k + 1)) (by omega) (ah_step hg (by rw [if_pos c]))
      refine ⟨g', h1, sg_O_read_34_28 (iteN (l1080 (by omega)) ⟨b1, b2, iteP (by rw [ck]; exact c) ⟨b3, ?_⟩⟩)⟩
      rw [ck, ck1, upA_upA, upA_same, nI_1]
      exact h2
    · obtain ⟨g', h1, h2⟩ := ih (k + 1) (upd g (k + 1) (g k + 0)) (by omega) (ah_step hg (by rw [if_neg c]))
      refine ⟨g', h1, sg_O_read_34_28 (iteN (l1080 (by omega)) ⟨b1, b2, iteN (by rw [ck]; exact c) ⟨b3, ?_⟩⟩)⟩
      rw [ck, ck1, upA_upA, upA_same, nI_1]
      exact h2
theorem O_read_34_c (l : Nat) (hl : l < 6) : ∃ g : Nat → Int32, (∀ i, i ≤ 1080 → g i = g 0 + nI (cn (fun d => A 35 d = nI l) 0 i)) ∧ am_fin [(z_O_read, 0, [.ref 30, .ref 34, .int (nI l), .null], [])] (hp L xs A V K T) none (hp L xs (upA A 31 g) (upV (upV V 30 4 (A 11 l)) 30 5 (A 12 l)) K T) := by
  have base : ∀ i, i ≤ 0 → A 31 i = A 31 0 + nI (cn (fun d => A 35 d = nI l) 0 i) := fun i hi => by rw [show i = 0 by omega]; exact (Int32.add_zero _).symm
  have ib : ¬ (nI l < 0 ∨ 6 ≤ (nI l).toNatClampNeg) := nI_inb (by omega) hl
  obtain ⟨g, h1, h2⟩ := O_rd_34_lp (L := L) (xs := xs) (A := A) (V := upV (upV V 30 4 (A 11 l)) 30 5 (A 12 l)) (K := K) (T := T) l 1080 0 (A 31) (by omega) base
  rw [upA_self] at h2
  refine ⟨g, h1, sg_O_read_34_0 ⟨ib, ib, ?_⟩⟩
  rw [nI_clamp (by omega)]
  exact h2
theorem O_between_c {f : Nat → Int32} {x : Int32} {w m : Nat} (Q : QB A V f x w m) (a1 : Int32) (a b : Nat) (ha : (if a1 < 0 then (0 : Int32) else a1) = nI a) (ha2 : a < 100000) (hb : b ≤ 1080) : am_fin [(z_O_between, 0, [.ref 30, .int a1, .int (nI b - 1), .null], [])] (hp L xs A V K T) (some (nI (cn (fun d => f d = x) a (b - a)))) (hp L xs A V K T) := by
  refine sg_O_between_0 ?_
  rw [ha]
  by_cases c : b ≤ a
  · refine iteP ?_ ⟨?_, rfl⟩
    · by_cases b0 : b = 0
      · rw [b0, nI_0m1, Int32.lt_iff_toInt_lt, nI_toInt (by omega), show (-1 : Int32).toInt = -1 from by decide]; omega
      · rw [nI_m1 (by omega), nI_ltI (by omega) (by omega)]; omega
    · rw [show b - a = 0 by omega]; rfl
  · rw [nI_m1 (by omega)]
    have e : nI (b - 1) + 1 = nI b := by rw [nI_1]; congr 1; omega
    have d := cn_dif (fun d => f d = x) (show a ≤ b by omega)
    rw [e]
    refine iteN (by rw [nI_ltI (by omega) (by omega)]; omega) (iteN (by rw [l_1080, nI_leI (by omega) (by omega)]; omega) ⟨nI_inb (by omega) (by omega), nI_inb (by omega) (by omega), ?_, rfl⟩)
    rw [nI_clamp (by omega), nI_clamp (by omega), Q.1 b hb, Q.1 a (by omega), zsub _ (show cn (fun d => f d = x) 0 a ≤ cn (fun d => f d = x) 0 b by omega), d, Nat.add_sub_cancel_left]
theorem O_isThere_c {f : Nat → Int32} {x : Int32} {w m : Nat} (Q : QB A V f x w m) (d : Nat) (hd : d < 1080) : am_fin [(z_O_isThere, 0, [.ref 30, .int (nI d)], [])] (hp L xs A V K T) (some (b2 (f d = x))) (hp L xs A V K T) := by
  have k := O_between_c (L := L) (xs := xs) (K := K) (T := T) Q (nI d) d (d + 1) (if_neg (nI_lt0 (by omega))) (by omega) (by omega)
  rw [nI_m1 (by omega), Nat.add_sub_cancel, show d + 1 - d = 1 by omega] at k
  refine sg_O_isThere_0 (am_fin.call k (sg_O_isThere_6r ?_))
  have e : cn (fun d => f d = x) d 1 = if f d = x then 1 else 0 := by
    show 0 + (if f (d + 0) = x then 1 else 0) = _
    rw [Nat.zero_add, Nat.add_zero]
  rw [e]
  unfold b2
  by_cases c : f d = x
  · rw [if_pos c, if_pos c]; exact iteP rfl ⟨rfl, rfl⟩
  · rw [if_neg c, if_neg c]; exact iteN (by decide) ⟨rfl, rfl⟩
theorem O_beyond_c {f : Nat → Int32} {x : Int32} {w m : Nat} (Q : QB A V f x w m) (d : Nat) (hd : d < 1080) : am_fin [(z_O_beyond, 0, [.ref 30, .int (nI d)], [])] (hp L xs A V K T) (some (nI (bey f x w m d))) (hp L xs A V K T) := by
  obtain ⟨-, q1, q2, q3, q4⟩ := id Q
  by_cases w0 : w = 0
  · refine sg_O_beyond_0 (iteP (by rw [q1, w0]; rfl) ⟨?_, rfl⟩)
    rw [w0, bey_0]; rfl
  · refine sg_O_beyond_0 (iteN (by rw [q1]; exact mt (nI_z (by omega)).mp w0) (am_fin.call (O_isThere_c Q d hd) (sg_O_beyond_12r ?_)))
    by_cases c : f d = x
    · have k := O_between_c (L := L) (xs := xs) (K := K) (T := T) Q (nI d - nI w + 1) (d + 1 - w) (d + 1) (winI (by omega) (by omega)) (by omega) (by omega)
      rw [nI_m1 (by omega), Nat.add_sub_cancel] at k
      have wl := wc_le f x w d
      rw [q1]
      refine iteN (mt b2_z.mp (fun z => z c)) (am_fin.call k (sg_O_beyond_30r ⟨?_, rfl⟩))
      rw [q2]
      show some (nI (bey f x w m d)) = some (if nI (wc f x w d) - nI m < 0 then (0 : Int32) else nI (wc f x w d) - nI m)
      rw [sub0I (by omega) (by omega)]
      unfold bey
      rw [if_pos ⟨w0, c⟩]
    · refine iteP (b2_z.mpr c) ⟨?_, rfl⟩
      unfold bey
      rw [if_neg (fun z => c z.2)]
      rfl
theorem O_overstayDays_c {f : Nat → Int32} {x : Int32} {w m : Nat} (Q : QB A V f x w m) : am_fin [(z_O_overstayDays, 0, [.ref 30, .null, .null], [])] (hp L xs A V K T) (some (nI (cn (ovq f x w m) 0 1080))) (hp L xs A V K T) := by
  obtain ⟨-, q1, q2, q3, q4⟩ := id Q
  by_cases w0 : w = 0
  · refine sg_O_overstayDays_0 (sg_O_overstayDays_4 (iteN (by decide) (iteP (by rw [q1, w0]; exact Int32.le_refl _) ⟨?_, rfl⟩)))
    rw [cn_none (fun i => by unfold ovq; rw [w0, bey_0]; omega)]; rfl
  · refine sg_O_overstayDays_0 ?_
    refine am_iter (fun k => ([(z_O_overstayDays, 4, [.ref 30, .int (nI (cn (ovq f x w m) 0 k)), .int (nI k)], [])], hp L xs A V K T)) 1080 (fun k hk ih => ?_) ?_
    · dsimp only at ih ⊢
      have bl := bey_le f x w m k
      refine sg_O_overstayDays_4 (iteN (l1080 hk) (iteN (by rw [q1, l_0, nI_leI (by omega) (by omega)]; omega) (am_fin.call (O_beyond_c Q k hk) (sg_O_overstayDays_23r ?_))))
      rw [cn_s] at ih
      by_cases q : ovq f x w m k
      · rw [if_pos q] at ih
        refine iteN (by rw [l_0, nI_leI (by omega) (by omega)]; unfold ovq at q; omega) ?_
        rw [nI_1, nI_1]; exact ih
      · rw [if_neg q] at ih
        refine iteP (by rw [l_0, nI_leI (by omega) (by omega)]; unfold ovq at q; omega) ?_
        rw [nI_1]; exact ih
    · dsimp only
      exact sg_O_overstayDays_4 (iteP (g1080 rfl) ⟨rfl, rfl⟩)
theorem M_ll_lp (x : Int32) (w : Nat) (hw : w ≤ 1080) : ∀ (r k : Nat) (g : Nat → Int32), k + r = 1080 → (∀ d, d < k → g d = nI (wc (A 37) x w d)) → ∃ g' : Nat → Int32, (∀ d, d < 1080 → g' d = nI (wc (A 37) x w d)) ∧ am_fin [(z_M_laysLast, 5, [.ref 36, .int x, .int (nI w), .int (nI (cn (fun d => A 37 d = x) 0 k - cn (fun d => A 37 d = x) 0 (k - w))), .int (nI k)], [])] (hp L xs (upA A 45 g) V K T) none (hp L xs (upA A 45 g') V K T) := by
  intro r
  induction r with
  | zero =>
    intro k g hk hg
    exact ⟨g, fun i hi => hg i (by omega), sg_M_laysLast_5 (iteP (g1080 (by omega)) ⟨rfl, rfl⟩)⟩
  | succ r ih =>
    intro k g hk hg
    have b2 : ¬ (nI k < 0 ∨ 1080 ≤ (nI k).toNatClampNeg) := nI_inb (by omega) (by omega)
    have ck : (nI k).toNatClampNeg = k := nI_clamp (by omega)
    have hu : ∀ d, d < k + 1 → upd g k (nI (wc (A 37) x w k)) d = nI (wc (A 37) x w d) := by
      intro d hd
      by_cases e : d = k
      · rw [e, upd_at]
      · rw [upd_no _ _ e]; exact hg d (by omega)
    obtain ⟨g', h1, h2⟩ := ih (k + 1) (upd g k (nI (wc (A 37) x w k))) (by omega) hu
    refine ⟨g', h1, ?_⟩
    rw [← wc_dif, ← nI_1] at h2
    have key : ∀ e1 e2 : Nat, e1 = (if A 37 k = x then 1 else 0) → e2 = (if w ≤ k ∧ A 37 (k - w) = x then 1 else 0) → nI (cn (fun d => A 37 d = x) 0 k - cn (fun d => A 37 d = x) 0 (k - w)) + nI e1 - nI e2 = nI (wc (A 37) x w k) := by
      intro e1 e2 h1 h2
      have s1 := cn_s (fun d => A 37 d = x) k
      have s3 := cn_dif (fun d => A 37 d = x) (show k - w ≤ k by omega)
      have s4 := cn_dif (fun d => A 37 d = x) (show k + 1 - w ≤ k + 1 by omega)
      have s2 : cn (fun d => A 37 d = x) 0 (k + 1 - w) = cn (fun d => A 37 d = x) 0 (k - w) + e2 := by
        by_cases c : w ≤ k
        · rw [show k + 1 - w = k - w + 1 by omega, cn_s, h2]
          congr 1
          by_cases d : A 37 (k - w) = x
          · rw [if_pos d, if_pos ⟨c, d⟩]
          · rw [if_neg d, if_neg (fun z => d z.2)]
        · rw [show k + 1 - w = k - w by omega, h2, if_neg (fun z => c z.1), Nat.add_zero]
      rw [← h1] at s1
      rw [wc_dif, nI_add, nI_sub (by omega)]
      congr 1
      omega
    have fin : ∀ z : Int32, z = nI (wc (A 37) x w k) → am_fin [(z_M_laysLast, 5, [.ref 36, .int x, .int (nI w), .int z, .int (nI k + 1)], [])] (hp L xs (upA (upA A 45 g) 45 (upd (upA A 45 g 45) (nI k).toNatClampNeg z)) V K T) none (hp L xs (upA A 45 g') V K T) := by
      intro z hz
      rw [ck, upA_upA, upA_same, hz]
      exact h2
    refine sg_M_laysLast_5 (iteN (l1080 (by omega)) ⟨b2, ?_⟩)
    by_cases c : A 37 k = x
    · refine iteP (by rw [ck]; exact c) ?_
      by_cases c2 : k < w
      · exact iteP (by rw [nI_ltI (by omega) (by omega)]; exact c2) ⟨b2, fin _ (key 1 0 (by rw [if_pos c]) (by rw [if_neg (by omega)]))⟩
      · have es : nI k - nI w = nI (k - w) := nI_sub (by omega)
        refine iteN (by rw [nI_ltI (by omega) (by omega)]; exact c2) ⟨by rw [es]; exact nI_inb (by omega) (by omega), ?_⟩
        have cs : (nI k - nI w).toNatClampNeg = k - w := by rw [es]; exact nI_clamp (by omega)
        by_cases c3 : A 37 (k - w) = x
        · exact iteP (by rw [cs]; exact c3) ⟨b2, fin _ (key 1 1 (by rw [if_pos c]) (by rw [if_pos ⟨by omega, c3⟩]))⟩
        · exact iteN (by rw [cs]; exact c3) ⟨b2, fin _ (key 1 0 (by rw [if_pos c]) (by rw [if_neg (fun z => c3 z.2)]))⟩
    · refine iteN (by rw [ck]; exact c) ?_
      by_cases c2 : k < w
      · exact iteP (by rw [nI_ltI (by omega) (by omega)]; exact c2) ⟨b2, fin _ (key 0 0 (by rw [if_neg c]) (by rw [if_neg (by omega)]))⟩
      · have es : nI k - nI w = nI (k - w) := nI_sub (by omega)
        refine iteN (by rw [nI_ltI (by omega) (by omega)]; exact c2) ⟨by rw [es]; exact nI_inb (by omega) (by omega), ?_⟩
        have cs : (nI k - nI w).toNatClampNeg = k - w := by rw [es]; exact nI_clamp (by omega)
        by_cases c3 : A 37 (k - w) = x
        · exact iteP (by rw [cs]; exact c3) ⟨b2, fin _ (key 0 1 (by rw [if_neg c]) (by rw [if_pos ⟨by omega, c3⟩]))⟩
        · exact iteN (by rw [cs]; exact c3) ⟨b2, fin _ (key 0 0 (by rw [if_neg c]) (by rw [if_neg (fun z => c3 z.2)]))⟩
theorem M_laysLast_c (x : Int32) (w : Nat) (hw : w ≤ 1080) : ∃ g : Nat → Int32, (∀ d, d < 1080 → g d = nI (wc (A 37) x w d)) ∧ am_fin [(z_M_laysLast, 0, [.ref 36, .int x, .int (nI w), .null, .null], [])] (hp L xs A V K T) none (hp L xs (upA A 45 g) V K T) := by
  obtain ⟨g, h1, h2⟩ := M_ll_lp (L := L) (xs := xs) (A := A) (V := V) (K := K) (T := T) x w hw 1080 0 (A 45) (by omega) (fun d hd => absurd hd (by omega))
  rw [upA_self, Nat.zero_sub] at h2
  exact ⟨g, h1, sg_M_laysLast_0 h2⟩
theorem M_ov_lp (l w m a b t : Nat) (hl : l < 6) (hb : b < 1080) (ht : t < 3) (w0 : w ≠ 0) (hm : m ≤ 360) (e1 : A 41 (13 * l + 1) = nI m) (g1 : ∀ d, d < 1080 → A 45 d = nI (wc (A 37) (nI l) w d)) : ∀ r k, a + k + r = b + 1 → am_fin [(z_M_overstayed, 33, [.ref 36, .int (nI l), .int (nI a), .int (nI b), .int (nI t), .int (nI (cn (ovq (A 37) (nI l) w m) a k)), .int (onat (-2) (srch (ovq (A 37) (nI l) w m) k a)), .int (nI (mxn (bey (A 37) (nI l) w m) a k)), .int (nI (a + k))], [])] (hp L xs A V K T) (some (ovr (A 37) (nI l) w m t a (k + r))) (hp L xs A V K T) := by
  intro r
  induction r with
  | zero =>
    intro k hk
    refine sg_M_overstayed_33 (iteP (by rw [nI_ltI (by omega) (by omega)]; omega) ?_)
    unfold ovr
    by_cases t0 : t = 0
    · rw [if_pos t0]; exact iteP ((nI_z (by omega)).mpr t0) ⟨rfl, rfl⟩
    · rw [if_neg t0]
      refine iteN (mt (nI_z (by omega)).mp t0) ?_
      by_cases t1 : t = 1
      · rw [if_pos t1]; exact iteP (by rw [t1]; rfl) ⟨rfl, rfl⟩
      · rw [if_neg t1]; exact iteN (by rw [l_1, nI_eq (by omega) (by omega)]; exact t1) ⟨rfl, rfl⟩
  | succ r ih =>
    intro k hk
    have i1 := ih (k + 1) (by omega)
    rw [← Nat.add_assoc a k 1, ← nI_1, srch_snoc, show k + 1 + r = k + (r + 1) by omega, show mxn (bey (A 37) (nI l) w m) a (k + 1) = max (mxn (bey (A 37) (nI l) w m) a k) (bey (A 37) (nI l) w m (a + k)) from rfl] at i1
    have ib : ¬ (nI (a + k) < 0 ∨ 1080 ≤ (nI (a + k)).toNatClampNeg) := nI_inb (by omega) (by omega)
    have ca : (nI (a + k)).toNatClampNeg = a + k := nI_clamp (by omega)
    have ey : (13 : Int32) * nI l + 1 = nI (13 * l + 1) := e13 l 1
    have im : ¬ ((13 : Int32) * nI l + 1 < 0 ∨ 258 ≤ ((13 : Int32) * nI l + 1).toNatClampNeg) := by rw [ey]; exact nI_inb (by omega) (by omega)
    have cm : ((13 : Int32) * nI l + 1).toNatClampNeg = 13 * l + 1 := by rw [ey]; exact nI_clamp (by omega)
    have gk := g1 (a + k) (by omega)
    have wl := wc_le (A 37) (nI l) w (a + k)
    have hs0 := cn_srch (p := ovq (A 37) (nI l) w m) (a := a) k
    have cl := cn_le (ovq (A 37) (nI l) w m) a k
    have ml : mxn (bey (A 37) (nI l) w m) a k ≤ 1080 := by
      have : ∀ n, n ≤ k → mxn (bey (A 37) (nI l) w m) a n ≤ 1080 := by
        intro n
        induction n with
        | zero => intro _; exact Nat.zero_le _
        | succ n ihn =>
          intro hn
          have := ihn (by omega)
          have := bey_le (A 37) (nI l) w m (a + n)
          unfold mxn
          omega
      exact this k (Nat.le_refl k)
    refine sg_M_overstayed_33 (iteN (by rw [nI_ltI (by omega) (by omega)]; omega) ⟨ib, ?_⟩)
    rw [ca, cm, gk, e1]
    rw [ca] at ib
    rw [cm] at im
    by_cases c : A 37 (a + k) = nI l
    · refine iteP c ⟨ib, im, ?_⟩
      have be : bey (A 37) (nI l) w m (a + k) = wc (A 37) (nI l) w (a + k) - m := by unfold bey; rw [if_pos ⟨w0, c⟩]
      by_cases q : m < wc (A 37) (nI l) w (a + k)
      · have oq : ovq (A 37) (nI l) w m (a + k) := by unfold ovq; omega
        have ed : nI (wc (A 37) (nI l) w (a + k)) - nI m = nI (bey (A 37) (nI l) w m (a + k)) := by rw [nI_sub (by omega), be]
        refine iteN (by rw [nI_leI (by omega) (by omega)]; omega) ?_
        rw [← cn_t (p := ovq (A 37) (nI l) w m) oq] at i1
        rw [ed]
        cases hs : srch (ovq (A 37) (nI l) w m) k a with
        | none =>
          rw [hs] at i1
          dsimp only at i1
          rw [if_pos oq] at i1
          refine iteP ((nI_z (by omega)).mpr (hs0.mpr hs)) ⟨ib, im, ?_⟩
          by_cases mm : mxn (bey (A 37) (nI l) w m) a k ≤ bey (A 37) (nI l) w m (a + k)
          · rw [show max (mxn (bey (A 37) (nI l) w m) a k) (bey (A 37) (nI l) w m (a + k)) = bey (A 37) (nI l) w m (a + k) by omega] at i1
            exact iteP (by rw [nI_leI (by omega) (by omega)]; exact mm) i1
          · rw [show max (mxn (bey (A 37) (nI l) w m) a k) (bey (A 37) (nI l) w m (a + k)) = mxn (bey (A 37) (nI l) w m) a k by omega] at i1
            exact iteN (by rw [nI_leI (by omega) (by omega)]; exact mm) i1
        | some z =>
          rw [hs] at i1
          refine iteN (mt (nI_z (by omega)).mp (fun z => by rw [hs0.mp z] at hs; cases hs)) ⟨ib, im, ?_⟩
          by_cases mm : mxn (bey (A 37) (nI l) w m) a k ≤ bey (A 37) (nI l) w m (a + k)
          · rw [show max (mxn (bey (A 37) (nI l) w m) a k) (bey (A 37) (nI l) w m (a + k)) = bey (A 37) (nI l) w m (a + k) by omega] at i1
            exact iteP (by rw [nI_leI (by omega) (by omega)]; exact mm) i1
          · rw [show max (mxn (bey (A 37) (nI l) w m) a k) (bey (A 37) (nI l) w m (a + k)) = mxn (bey (A 37) (nI l) w m) a k by omega] at i1
            exact iteN (by rw [nI_leI (by omega) (by omega)]; exact mm) i1
      · have oq : ¬ ovq (A 37) (nI l) w m (a + k) := by unfold ovq; omega
        refine iteP (by rw [nI_leI (by omega) (by omega)]; omega) ?_
        rw [← cn_f (p := ovq (A 37) (nI l) w m) oq, show max (mxn (bey (A 37) (nI l) w m) a k) (bey (A 37) (nI l) w m (a + k)) = mxn (bey (A 37) (nI l) w m) a k by unfold ovq at oq; omega] at i1
        cases hs : srch (ovq (A 37) (nI l) w m) k a with
        | none =>
          rw [hs] at i1
          dsimp only at i1
          rw [if_neg oq] at i1
          exact i1
        | some z =>
          rw [hs] at i1
          exact i1
    · have be : bey (A 37) (nI l) w m (a + k) = 0 := by unfold bey; rw [if_neg (fun z => c z.2)]
      have oq : ¬ ovq (A 37) (nI l) w m (a + k) := by unfold ovq; omega
      refine iteN c ?_
      rw [← cn_f (p := ovq (A 37) (nI l) w m) oq, show max (mxn (bey (A 37) (nI l) w m) a k) (bey (A 37) (nI l) w m (a + k)) = mxn (bey (A 37) (nI l) w m) a k by omega] at i1
      cases hs : srch (ovq (A 37) (nI l) w m) k a with
      | none =>
        rw [hs] at i1
        dsimp only at i1
        rw [if_neg oq] at i1
        exact i1
      | some z =>
        rw [hs] at i1
        exact i1
theorem M_overstayed_c (l w m a b t : Nat) (hl : l < 6) (hab : a ≤ b) (hb : b < 1080) (ht : t < 3) (hw : w ≤ 360) (hm : m ≤ 360) (e0 : A 41 (13 * l) = nI w) (e1 : A 41 (13 * l + 1) = nI m) : ∃ g : Nat → Int32, am_fin [(z_M_overstayed, 0, [.ref 36, .int (nI l), .int (nI a), .int (nI b), .int (nI t), .null, .null, .null, .null], [])] (hp L xs A V K T) (some (ovr (A 37) (nI l) w m t a (b + 1 - a))) (hp L xs (upA A 45 g) V K T) := by
  have ex : (13 : Int32) * nI l + 0 = nI (13 * l) := e13 l 0
  have im : ¬ ((13 : Int32) * nI l + 0 < 0 ∨ 258 ≤ ((13 : Int32) * nI l + 0).toNatClampNeg) := by rw [ex]; exact nI_inb (by omega) (by omega)
  have cm : ((13 : Int32) * nI l + 0).toNatClampNeg = 13 * l := by rw [ex]; exact nI_clamp (by omega)
  by_cases w0 : w = 0
  · refine ⟨A 45, ?_⟩
    rw [upA_self, w0, ovr_0]
    refine sg_M_overstayed_0 ⟨im, ?_⟩
    refine iteP (by rw [cm, e0, w0]; exact Int32.le_refl _) ?_
    by_cases t0 : t = 0
    · rw [if_pos t0]; exact iteP ((nI_z (by omega)).mpr t0) ⟨rfl, rfl⟩
    · rw [if_neg t0]
      refine iteN (mt (nI_z (by omega)).mp t0) ?_
      by_cases t1 : t = 1
      · rw [if_pos t1]; exact iteP (by rw [t1]; rfl) ⟨rfl, rfl⟩
      · rw [if_neg t1]; exact iteN (by rw [l_1, nI_eq (by omega) (by omega)]; exact t1) ⟨rfl, rfl⟩
  · obtain ⟨g, h1, h2⟩ := M_laysLast_c (L := L) (xs := xs) (A := A) (V := V) (K := K) (T := T) (nI l) w (by omega)
    refine ⟨g, sg_M_overstayed_0 ⟨im, iteN (by rw [cm, e0, l_0, nI_leI (by omega) (by omega)]; omega) ⟨im, ?_⟩⟩⟩
    rw [cm, e0]
    have lp := M_ov_lp (L := L) (xs := xs) (A := upA A 45 g) (V := V) (K := K) (T := T) l w m a b t hl hb ht w0 hm e1 h1 (b + 1 - a) 0 (by omega)
    rw [Nat.zero_add, Nat.add_zero] at lp
    exact am_fin.call h2 (sg_M_overstayed_30r lp)
end
