theorem srch_congr {p q : Nat → Prop} [DecidablePred p] [DecidablePred q] : ∀ n a, (∀ i, a ≤ i → i < a + n → (p i ↔ q i)) → srch p n a = srch q n a
  | 0, _, _ => rfl
  | n + 1, a, h => by
    by_cases c : p a
    · rw [srch_t c, srch_t ((h a (by omega) (by omega)).mp c)]
    · rw [srch_f c, srch_f (mt (h a (by omega) (by omega)).mpr c)]
      exact srch_congr n (a + 1) (fun i h1 h2 => h i (by omega) (by omega))
theorem cn_all {p : Nat → Prop} [DecidablePred p] {a : Nat} : ∀ n, (∀ i, a ≤ i → i < a + n → p i) → cn p a n = n
  | 0, _ => rfl
  | n + 1, h => by
    rw [← cn_T (p := p) (a := a) (n := n) (h _ (by omega) (by omega)), cn_all n (fun i h1 h2 => h i h1 (by omega))]
theorem cp_0 (p q : Nat → Int32) : (fun i => if i < 0 then p i else q i) = q := by
  funext i; rw [if_neg (Nat.not_lt_zero i)]
theorem cp_s (p q : Nat → Int32) (k : Nat) : upd (fun i => if i < k then p i else q i) k (p k) = fun i => if i < k + 1 then p i else q i := by
  funext i
  unfold upd
  by_cases e : i = k
  · rw [if_pos e, if_pos (by omega), e]
  · rw [if_neg e]
    show (if i < k then p i else q i) = _
    by_cases c : i < k
    · rw [if_pos c, if_pos (by omega)]
    · rw [if_neg c, if_neg (by omega)]
/-- days there in the window that ends with k, were one there from t on -/
def stq (f : Nat → Int32) (x : Int32) (w t k : Nat) : Nat := cn (fun d => f d = x) (k + 1 - w) (t - (k + 1 - w)) + (k + 1 - max t (k + 1 - w))
abbrev tooL (f : Nat → Int32) (x : Int32) (w m t k : Nat) : Prop := w ≠ 0 ∧ m < stq f x w t k
theorem stq_le (f : Nat → Int32) (x : Int32) (w t k : Nat) (h : t ≤ k) : stq f x w t k ≤ k + 1 := by
  have := cn_le (fun d => f d = x) (k + 1 - w) (t - (k + 1 - w))
  unfold stq
  omega
theorem cn_head (p : Nat → Prop) [DecidablePred p] (a n : Nat) : cn p a (n + 1) = (if p a then 1 else 0) + cn p (a + 1) n := by
  have h := cn_app p a 1 n
  rw [Nat.add_comm 1 n] at h
  rw [h]
  congr 1
  show 0 + (if p (a + 0) then 1 else 0) = _
  rw [Nat.zero_add, Nat.add_zero]
theorem stq_s (f : Nat → Int32) (x : Int32) (w t k : Nat) (hw : w ≠ 0) (h : t ≤ k) : stq f x w t k ≤ stq f x w t (k + 1) := by
  unfold stq
  by_cases c : k + 1 < w
  · rw [show k + 1 - w = 0 by omega, show k + 1 + 1 - w = 0 by omega]
    omega
  · by_cases c2 : k + 1 - w < t
    · obtain ⟨n, hn⟩ : ∃ n, t - (k + 1 - w) = n + 1 := ⟨t - (k + 1 - w) - 1, by omega⟩
      have e := cn_head (fun d => f d = x) (k + 1 - w) n
      rw [hn, e, show k + 1 + 1 - w = k + 1 - w + 1 by omega, show t - (k + 1 - w + 1) = n by omega]
      have : (if f (k + 1 - w) = x then 1 else 0) ≤ 1 := by split <;> omega
      omega
    · rw [show t - (k + 1 - w) = 0 by omega, show t - (k + 1 + 1 - w) = 0 by omega]
      show 0 + _ ≤ 0 + _
      omega
theorem stq_mono (f : Nat → Int32) (x : Int32) (w t : Nat) (hw : w ≠ 0) : ∀ r k, t ≤ k → stq f x w t k ≤ stq f x w t (k + r)
  | 0, _, _ => Nat.le_refl _
  | r + 1, k, h => Nat.le_trans (stq_mono f x w t hw r k h) (stq_s f x w t (k + r) hw (by omega))
theorem wc_fl (f : Nat → Int32) (x : Int32) (w t k : Nat) (h : t ≤ k) (hk : k < 1080) : wc (fl f t (1080 - t) x) x w k = stq f x w t k := by
  have hb : ∀ i, i < t → (fl f t (1080 - t) x i = x ↔ f i = x) := fun i hi => by unfold fl; rw [if_neg (by omega)]
  have ha : ∀ i, t ≤ i → i < 1080 → fl f t (1080 - t) x i = x := fun i h1 h2 => by unfold fl; rw [if_pos (by omega)]
  unfold wc stq
  by_cases c : k + 1 - w ≤ t
  · rw [show k + 1 - (k + 1 - w) = (t - (k + 1 - w)) + (k + 1 - t) by omega, cn_app, show k + 1 - w + (t - (k + 1 - w)) = t by omega, cn_all (p := fun d => fl f t (1080 - t) x d = x) (k + 1 - t) (fun i h1 h2 => ha i h1 (by omega)), show max t (k + 1 - w) = t by omega]
    rw [cn_congr (p := fun d => fl f t (1080 - t) x d = x) (q := fun d => f d = x) (fun i h1 h2 => hb i (by omega))]
  · rw [show t - (k + 1 - w) = 0 by omega, show max t (k + 1 - w) = k + 1 - w by omega, cn_all (p := fun d => fl f t (1080 - t) x d = x) _ (fun i h1 h2 => ha i (by omega) (by omega))]
    show _ = 0 + _
    omega
theorem tl_ov (f : Nat → Int32) (x : Int32) (w m t k : Nat) (h : t ≤ k) (hk : k < 1080) : tooL f x w m t k ↔ ovq (fl f t (1080 - t) x) x w m k := by
  unfold tooL ovq bey
  rw [← wc_fl f x w t k h hk]
  by_cases c : w = 0
  · exact ⟨fun z => absurd c z.1, fun z => by rw [if_neg (fun y => y.1 c)] at z; omega⟩
  · rw [if_pos ⟨c, show fl f t (1080 - t) x k = x by unfold fl; rw [if_pos (by omega)]⟩]
    exact ⟨fun z => by omega, fun z => ⟨c, by omega⟩⟩
theorem maxI {a b w : Nat} (ha : a < 100000) (hb : b < 100000) (hw : w < 100000) : (if nI a < nI b - nI w + 1 then nI b - nI w + 1 else nI a) = nI (max a (b + 1 - w)) := by
  by_cases h : b + 1 < w
  · rw [if_neg (by rw [Int32.lt_iff_toInt_lt, i32_sub1 (by omega) (by omega), nI_toInt (by omega)]; omega), show max a (b + 1 - w) = a by omega]
  · have e : nI b - nI w + 1 = nI (b + 1 - w) := by
      apply Int32.toInt_inj.mp
      rw [i32_sub1 (by omega) (by omega), nI_toInt (by omega)]; omega
    rw [e, nI_max (by omega) (by omega)]
theorem zadd (z : Int32) {a b c : Nat} (h : a ≤ b) : (nI c + (z + nI b)) - (z + nI a) = nI (c + (b - a)) := by
  have : nI c + (z + nI b) = nI (c + (b - a)) + (z + nI a) := by
    rw [← nI_add c, Int32.add_assoc, Int32.add_comm (nI (b - a)), Int32.add_assoc z, nI_add a, show a + (b - a) = b by omega]
  rw [this, Int32.add_sub_cancel]
section
variable {L : Nat} {xs : Nat → Int32} {A V : Nat → Nat → Int32} {K : Nat → Option Nat} {T : am_H}
theorem M_laysAside_c : am_fin [(z_M_laysAside, 0, [.ref 36, .null], [])] (hp L xs A V K T) none (hp L xs (upA A 46 (fun i => if i < 1080 then A 37 i else A 46 i)) V K T) := by
  have lp : am_fin [(z_M_laysAside, 2, [.ref 36, .int (nI 0)], [])] (hp L xs (upA A 46 (fun i => if i < 0 then A 37 i else A 46 i)) V K T) none (hp L xs (upA A 46 (fun i => if i < 1080 then A 37 i else A 46 i)) V K T) := by
    refine am_iter (fun k => ([(z_M_laysAside, 2, [.ref 36, .int (nI k)], [])], hp L xs (upA A 46 (fun i => if i < k then A 37 i else A 46 i)) V K T)) 1080 (fun k hk ih => ?_) ?_
    · dsimp only at ih ⊢
      refine sg_M_laysAside_2 (iteN (l1080 hk) ⟨nI_inb (by omega) (by omega), nI_inb (by omega) (by omega), ?_⟩)
      rw [nI_clamp (by omega), upA_upA, upA_same, nI_1, show upA A 46 (fun i => if i < k then A 37 i else A 46 i) 37 = A 37 from rfl, cp_s]
      exact ih
    · dsimp only
      exact sg_M_laysAside_2 (iteP (g1080 rfl) ⟨rfl, rfl⟩)
  rw [cp_0, upA_self] at lp
  exact sg_M_laysAside_0 lp
theorem M_takesAside_c : am_fin [(z_M_takesAside, 0, [.ref 36, .null], [])] (hp L xs A V K T) none (hp L xs (upA A 37 (fun i => if i < 1080 then A 46 i else A 37 i)) V K T) := by
  have lp : am_fin [(z_M_takesAside, 2, [.ref 36, .int (nI 0)], [])] (hp L xs (upA A 37 (fun i => if i < 0 then A 46 i else A 37 i)) V K T) none (hp L xs (upA A 37 (fun i => if i < 1080 then A 46 i else A 37 i)) V K T) := by
    refine am_iter (fun k => ([(z_M_takesAside, 2, [.ref 36, .int (nI k)], [])], hp L xs (upA A 37 (fun i => if i < k then A 46 i else A 37 i)) V K T)) 1080 (fun k hk ih => ?_) ?_
    · dsimp only at ih ⊢
      refine sg_M_takesAside_2 (iteN (l1080 hk) ⟨nI_inb (by omega) (by omega), nI_inb (by omega) (by omega), ?_⟩)
      rw [nI_clamp (by omega), upA_upA, upA_same, nI_1, show upA A 37 (fun i => if i < k then A 46 i else A 37 i) 46 = A 46 from rfl, cp_s]
      exact ih
    · dsimp only
      exact sg_M_takesAside_2 (iteP (g1080 rfl) ⟨rfl, rfl⟩)
  rw [cp_0, upA_self] at lp
  exact sg_M_takesAside_0 lp
theorem O_isTooLong_c {f : Nat → Int32} {x : Int32} {w m : Nat} (Q : QB A V f x w m) (a b : Nat) (hab : a ≤ b) (hb : b < 1080) : am_fin [(z_O_isTooLong, 0, [.ref 30, .int (nI a), .int (nI b), .null, .null], [])] (hp L xs A V K T) (some (b2 (tooL f x w m a b))) (hp L xs A V K T) := by
  obtain ⟨-, q1, q2, q3, q4⟩ := id Q
  by_cases w0 : w = 0
  · refine sg_O_isTooLong_0 (iteP (by rw [q1, w0]; exact Int32.le_refl _) ⟨?_, rfl⟩)
    unfold b2
    rw [if_neg (fun z => z.1 w0)]
  · have kb := O_between_c (L := L) (xs := xs) (K := K) (T := T) Q (nI b - nI w + 1) (b + 1 - w) a (winI (by omega) (by omega)) (by omega) (by omega)
    refine sg_O_isTooLong_0 (iteN (by rw [q1, l_0, nI_leI (by omega) (by omega)]; omega) ?_)
    rw [q1]
    refine am_fin.call kb (sg_O_isTooLong_35r ?_)
    have sl := stq_le f x w a b hab
    have e : nI (cn (fun d => f d = x) (b + 1 - w) (a - (b + 1 - w))) + (nI b - (if nI a < nI b - nI w + 1 then nI b - nI w + 1 else nI a) + 1) = nI (stq f x w a b) := by
      rw [maxI (by omega) (by omega) (by omega), nI_sub (by omega), nI_1, nI_add]
      unfold stq
      congr 1
      omega
    rw [e, q2]
    by_cases c : m < stq f x w a b
    · rw [show b2 (tooL f x w m a b) = 1 by unfold b2; rw [if_pos ⟨w0, c⟩]]
      exact iteN (by rw [nI_leI (by omega) (by omega)]; omega) ⟨rfl, rfl⟩
    · rw [show b2 (tooL f x w m a b) = 0 by unfold b2; rw [if_neg (fun z => c z.2)]]
      exact iteP (by rw [nI_leI (by omega) (by omega)]; omega) ⟨rfl, rfl⟩
theorem L_ml_lp {f : Nat → Int32} {x : Int32} {w m : Nat} (Q : QB A V f x w m) (l d : Nat) : ∀ r k, d ≤ k → k + r = 1080 → am_fin [(z_L_mustLeave, 33, [.ref 1, .int (nI l), .int (nI d), .int (nI k)], [])] (hp L xs A V K T) (some (onat (-2) (srch (tooL f x w m d) r k))) (hp L xs A V K T) := by
  intro r
  induction r with
  | zero =>
    intro k _ hk
    exact sg_L_mustLeave_33 (iteP (g1080 (by omega)) ⟨rfl, rfl⟩)
  | succ r ih =>
    intro k h1 hk
    have i1 := ih (k + 1) (by omega) (by omega)
    rw [← nI_1] at i1
    refine sg_L_mustLeave_33 (iteN (l1080 (by omega)) (am_fin.call (O_isTooLong_c Q d k h1 (by omega)) (sg_L_mustLeave_49r ?_)))
    by_cases c : tooL f x w m d k
    · rw [srch_t c]
      exact iteN (mt b2_z.mp (fun z => z c)) ⟨rfl, rfl⟩
    · rw [srch_f c]
      exact iteP (b2_z.mpr c) i1
theorem M_wouldBe_c (f : Nat → Int32) (x : Int32) (hg : ∀ i, i ≤ 1080 → A 48 i = A 48 0 + nI (cn (fun d => f d = x) 0 i)) (k t w : Nat) (ht : t ≤ k) (hk : k < 1080) (hw : w ≤ 360) (w0 : w ≠ 0) : am_fin [(z_M_wouldBe, 0, [.ref 36, .int (nI k), .int (nI t), .int (nI w), .null], [])] (hp L xs A V K T) (some (nI (stq f x w t k))) (hp L xs A V K T) := by
  have et : nI k - nI t + 1 = nI (k + 1 - t) := by rw [nI_sub ht, nI_1]; congr 1; omega
  refine sg_M_wouldBe_0 ?_
  by_cases c : k + 1 < w
  · refine iteN (by rw [Int32.le_iff_toInt_le, i32_sub1 (by omega) (by omega), Int32.toInt_zero]; omega) ?_
    unfold stq
    rw [show k + 1 - w = 0 by omega, show max t 0 = t by omega, Nat.sub_zero]
    by_cases c2 : 0 < t
    · refine iteP (by rw [l_0, nI_ltI (by omega) (by omega)]; exact c2) ⟨nI_inb (by omega) (by omega), ?_, rfl⟩
      rw [et, nI_clamp (by omega), hg t (by omega), show A 48 (0 : Int32).toNatClampNeg = A 48 0 + nI 0 from (Int32.add_zero _).symm, zadd _ (Nat.zero_le _), Nat.sub_zero, Nat.add_comm]
    · refine iteN (by rw [l_0, nI_ltI (by omega) (by omega)]; exact c2) ⟨?_, rfl⟩
      rw [show t = 0 by omega, l_0, nI_sub (by omega), nI_1]
      congr 2
      show 0 + _ = _
      omega
  · have es : nI k - nI w + 1 = nI (k + 1 - w) := by
      apply Int32.toInt_inj.mp
      rw [i32_sub1 (by omega) (by omega), nI_toInt (by omega)]; omega
    rw [es]
    refine iteP (nI_ge0 (by omega)) ?_
    unfold stq
    by_cases c2 : k + 1 - w < t
    · refine iteP (by rw [nI_ltI (by omega) (by omega)]; exact c2) ⟨nI_inb (by omega) (by omega), nI_inb (by omega) (by omega), ?_, rfl⟩
      have d := cn_dif (fun d => f d = x) (show k + 1 - w ≤ t by omega)
      rw [et, nI_clamp (by omega), nI_clamp (by omega), hg t (by omega), hg (k + 1 - w) (by omega), zadd _ (show cn (fun d => f d = x) 0 (k + 1 - w) ≤ cn (fun d => f d = x) 0 t by omega)]
      congr 2
      omega
    · refine iteN (by rw [nI_ltI (by omega) (by omega)]; exact c2) ⟨?_, rfl⟩
      rw [nI_sub (by omega), nI_1, show t - (k + 1 - w) = 0 by omega]
      congr 2
      show 0 + _ = _
      omega
theorem M_mc_rd (l d n w : Int32) (x : Int32) (hx : l = x) : ∀ (r k : Nat) (g : Nat → Int32), k + r = 1080 → (∀ i, i ≤ k → g i = g 0 + nI (cn (fun d => A 37 d = x) 0 i)) → ∃ g' : Nat → Int32, (∀ i, i ≤ 1080 → g' i = g' 0 + nI (cn (fun d => A 37 d = x) 0 i)) ∧ ∀ {v : Option Int32} {h' : am_H}, am_fin [(z_M_mayCome, 91, [.ref 36, .int l, .int d, .int n, .int w, .int d, .null, .null], [])] (hp L xs (upA A 48 g') V K T) v h' → am_fin [(z_M_mayCome, 41, [.ref 36, .int l, .int d, .int n, .int w, .int (nI k), .null, .null], [])] (hp L xs (upA A 48 g) V K T) v h' := by
  intro r
  induction r with
  | zero =>
    intro k g hk hg
    exact ⟨g, fun i hi => hg i (by omega), fun h => sg_M_mayCome_41 (iteP (g1080 (by omega)) h)⟩
  | succ r ih =>
    intro k g hk hg
    have b1 : ¬ (nI k < 0 ∨ 1081 ≤ (nI k).toNatClampNeg) := nI_inb (by omega) (by omega)
    have b2 : ¬ (nI k < 0 ∨ 1080 ≤ (nI k).toNatClampNeg) := nI_inb (by omega) (by omega)
    have b3 : ¬ (nI k + 1 < 0 ∨ 1081 ≤ (nI k + 1).toNatClampNeg) := by rw [nI_1]; exact nI_inb (by omega) (by omega)
    have ck : (nI k).toNatClampNeg = k := nI_clamp (by omega)
    have ck1 : (nI k + 1).toNatClampNeg = k + 1 := by rw [nI_1]; exact nI_clamp (by omega)
    by_cases c : A 37 k = x
    · obtain ⟨g', h1, h2⟩ := ih (k + 1) (upd g (k + 1) (g k + 1)) (by omega) (ah_step hg (by rw [if_pos c]))
      refine ⟨g', h1, fun h => sg_M_mayCome_41 (iteN (l1080 (by omega)) ⟨b1, b2, iteP (by rw [ck, hx]; exact c) ⟨b3, ?_⟩⟩)⟩
      rw [ck, ck1, upA_upA, upA_same, nI_1]
      exact h2 h
    · obtain ⟨g', h1, h2⟩ := ih (k + 1) (upd g (k + 1) (g k + 0)) (by omega) (ah_step hg (by rw [if_neg c]))
      refine ⟨g', h1, fun h => sg_M_mayCome_41 (iteN (l1080 (by omega)) ⟨b1, b2, iteN (by rw [ck, hx]; exact c) ⟨b3, ?_⟩⟩)⟩
      rw [ck, ck1, upA_upA, upA_same, nI_1]
      exact h2 h
theorem M_mc_in (f : Nat → Int32) {l : Nat} (hg : ∀ i, i ≤ 1080 → A 48 i = A 48 0 + nI (cn (fun d => f d = nI l) 0 i)) (d n w m t : Nat) (hl : l < 6) (hn : 1 ≤ n) (hn2 : n ≤ 360) (ht : t < 1080) (hm : m ≤ 360) (hw : w ≤ 360) (w0 : w ≠ 0) (e1 : A 41 (13 * l + 1) = nI m) {v : Option Int32} {h' : am_H} (cont : ¬ stq f (nI l) w t (min (t + n) 1080 - 1) ≤ m → ∀ z1 z2 : Int32, am_fin [(z_M_mayCome, 91, [.ref 36, .int (nI l), .int (nI d), .int (nI n), .int (nI w), .int (nI t + 1), .int z1, .int z2], [])] (hp L xs A V K T) v h') (ret : stq f (nI l) w t (min (t + n) 1080 - 1) ≤ m → v = some (nI t) ∧ h' = hp L xs A V K T) : ∀ r k, k + r = min (t + n) 1080 → t ≤ k → (k = t ∨ stq f (nI l) w t (k - 1) ≤ m) → am_fin [(z_M_mayCome, 106, [.ref 36, .int (nI l), .int (nI d), .int (nI n), .int (nI w), .int (nI t), .int 1, .int (nI k)], [])] (hp L xs A V K T) v h' := by
  intro r
  induction r with
  | zero =>
    intro k hk h1 h2
    have e : k - 1 = min (t + n) 1080 - 1 := by omega
    have q : stq f (nI l) w t (k - 1) ≤ m := h2.elim (fun z => by omega) id
    rw [e] at q
    by_cases c : k = 1080
    · exact sg_M_mayCome_106 (iteP (g1080 c) (iteN (by decide) (ret q)))
    · exact sg_M_mayCome_106 (iteN (l1080 (by omega)) (iteP (by rw [nI_add, nI_leI (by omega) (by omega)]; omega) (iteN (by decide) (ret q))))
  | succ r ih =>
    intro k hk h1 h2
    have ey : (13 : Int32) * nI l + 1 = nI (13 * l + 1) := e13 l 1
    have im : ¬ ((13 : Int32) * nI l + 1 < 0 ∨ 258 ≤ ((13 : Int32) * nI l + 1).toNatClampNeg) := by rw [ey]; exact nI_inb (by omega) (by omega)
    have cm : ((13 : Int32) * nI l + 1).toNatClampNeg = 13 * l + 1 := by rw [ey]; exact nI_clamp (by omega)
    have sl := stq_le f (nI l) w t k h1
    refine sg_M_mayCome_106 (iteN (l1080 (by omega)) (iteN (by rw [nI_add, nI_leI (by omega) (by omega)]; omega) (iteN (by decide) (am_fin.call (M_wouldBe_c f (nI l) hg k t w h1 (by omega) hw w0) (sg_M_mayCome_138r ⟨im, ?_⟩)))))
    rw [cm, e1]
    by_cases q : m < stq f (nI l) w t k
    · refine iteP (by rw [nI_ltI (by omega) (by omega)]; exact q) ?_
      have mo := stq_mono f (nI l) w t w0 (min (t + n) 1080 - 1 - k) k h1
      rw [show k + (min (t + n) 1080 - 1 - k) = min (t + n) 1080 - 1 by omega] at mo
      have ct := cont (by omega)
      refine sg_M_mayCome_106 ?_
      by_cases p1 : (1080 : Int32) ≤ nI k + 1
      · exact iteP p1 (iteP rfl (ct _ _))
      · refine iteN p1 ?_
        by_cases p2 : nI t + nI n ≤ nI k + 1
        · exact iteP p2 (iteP rfl (ct _ _))
        · exact iteN p2 (iteP rfl (iteP rfl (ct _ _)))
    · refine iteN (by rw [nI_ltI (by omega) (by omega)]; exact q) ?_
      have i1 := ih (k + 1) (by omega) (by omega) (Or.inr (by rw [Nat.add_sub_cancel]; omega))
      rw [← nI_1] at i1
      exact i1
abbrev mcp (f : Nat → Int32) (x : Int32) (w m n t : Nat) : Prop := ¬ tooL f x w m t (min (t + n) 1080 - 1)
theorem M_mc_lp (f : Nat → Int32) {l : Nat} (hg : ∀ i, i ≤ 1080 → A 48 i = A 48 0 + nI (cn (fun d => f d = nI l) 0 i)) (d n w m : Nat) (hl : l < 6) (hn : 1 ≤ n) (hn2 : n ≤ 360) (hm : m ≤ 360) (hw : w ≤ 360) (w0 : w ≠ 0) (e1 : A 41 (13 * l + 1) = nI m) : ∀ r t, t + r = 1080 → ∀ u : Option (Int32 × Int32), am_fin [(z_M_mayCome, 91, .ref 36 :: .int (nI l) :: .int (nI d) :: .int (nI n) :: .int (nI w) :: .int (nI t) :: d2 u, [])] (hp L xs A V K T) (some (onat (-2) (srch (mcp f (nI l) w m n) r t))) (hp L xs A V K T) := by
  intro r
  induction r with
  | zero =>
    intro t ht u
    cases u
    · exact sg_M_mayCome_91 (iteP (g1080 (by omega)) ⟨rfl, rfl⟩)
    · exact sg_M_mayCome_91b (iteP (g1080 (by omega)) ⟨rfl, rfl⟩)
  | succ r ih =>
    intro t ht u
    have i1 := ih (t + 1) (by omega)
    rw [← nI_1] at i1
    have inn := M_mc_in (L := L) (xs := xs) (A := A) (V := V) (K := K) (T := T) f hg d n w m t hl hn hn2 (by omega) hm hw w0 e1 (v := some (onat (-2) (srch (mcp f (nI l) w m n) (r + 1) t))) (h' := hp L xs A V K T) (fun q z1 z2 => by
      rw [srch_f (p := mcp f (nI l) w m n) (fun z => z ⟨w0, by omega⟩)]
      exact i1 (some (z1, z2))) (fun q => by
      rw [srch_t (p := mcp f (nI l) w m n) (fun z => by have := z.2; omega)]
      exact ⟨rfl, rfl⟩) (min (t + n) 1080 - t) t (by omega) (Nat.le_refl t) (Or.inl rfl)
    cases u
    · exact sg_M_mayCome_91 (iteN (l1080 (by omega)) inn)
    · exact sg_M_mayCome_91b (iteN (l1080 (by omega)) inn)
theorem L_mc_lp {f : Nat → Int32} {x : Int32} {w m : Nat} (Q : QB A V f x w m) (l d n : Nat) (hn : 1 ≤ n) (hn2 : n ≤ 360) : ∀ r t, t + r = 1080 → am_fin [(z_L_mayCome, 45, [.ref 1, .int (nI l), .int (nI d), .int (nI n), .int (nI t)], [])] (hp L xs A V K T) (some (onat (-2) (srch (mcp f x w m n) r t))) (hp L xs A V K T) := by
  intro r
  induction r with
  | zero =>
    intro t ht
    exact sg_L_mayCome_45 (iteP (g1080 (by omega)) ⟨rfl, rfl⟩)
  | succ r ih =>
    intro t ht
    have i1 := ih (t + 1) (by omega)
    rw [← nI_1] at i1
    have e : (if (1080 : Int32) < nI t + nI n then (1080 : Int32) else nI t + nI n) - 1 = nI (min (t + n) 1080 - 1) := by
      rw [nI_add, l_1080]
      by_cases c : 1080 < t + n
      · rw [if_pos (by rw [nI_ltI (by omega) (by omega)]; exact c), nI_m1 (by omega), show min (t + n) 1080 = 1080 by omega]
      · rw [if_neg (by rw [nI_ltI (by omega) (by omega)]; exact c), nI_m1 (by omega), show min (t + n) 1080 = t + n by omega]
    refine sg_L_mayCome_45 (iteN (l1080 (by omega)) ?_)
    rw [e]
    refine am_fin.call (O_isTooLong_c Q t (min (t + n) 1080 - 1) (by omega) (by omega)) (sg_L_mayCome_74r ?_)
    by_cases c : tooL f x w m t (min (t + n) 1080 - 1)
    · rw [srch_f (p := mcp f x w m n) (fun z => z c)]
      exact iteN (mt b2_z.mp (fun z => z c)) i1
    · rw [srch_t (p := mcp f x w m n) c]
      exact iteP (b2_z.mpr c) ⟨rfl, rfl⟩
theorem pr_mustLeave (a1 a2 : Int32) (R : RI A V K T) : PRQ z_L_mustLeave z_M_mustLeave [.ref 1, .int a1, .int a2, .null] [.ref 36, .int a1, .int a2, .null] L xs A V K T := by
  by_cases c1 : a1 < 0
  · refine ⟨(-1), A, V, K, T, A, V, sg_L_mustLeave_0 ?_, sg_M_mustLeave_0 ?_, R⟩
    · (try simp only [lgl, lgg]); (repeat first | refine iteP (by first | assumption) ?_ | refine iteN (by first | assumption) ?_); (constructor <;> first | rfl | trivial)
    · (try simp only [lgl, lgg]); (repeat first | refine iteP (by first | assumption) ?_ | refine iteN (by first | assumption) ?_); (constructor <;> first | rfl | trivial)
  by_cases c2 : (5 : Int32) < a1
  · refine ⟨(-1), A, V, K, T, A, V, sg_L_mustLeave_0 ?_, sg_M_mustLeave_0 ?_, R⟩
    · (try simp only [lgl, lgg]); (repeat first | refine iteP (by first | assumption) ?_ | refine iteN (by first | assumption) ?_); (constructor <;> first | rfl | trivial)
    · (try simp only [lgl, lgg]); (repeat first | refine iteP (by first | assumption) ?_ | refine iteN (by first | assumption) ?_); (constructor <;> first | rfl | trivial)
  by_cases c3 : a2 < 0
  · refine ⟨(-1), A, V, K, T, A, V, sg_L_mustLeave_0 ?_, sg_M_mustLeave_0 ?_, R⟩
    · (try simp only [lgl, lgg]); (repeat first | refine iteP (by first | assumption) ?_ | refine iteN (by first | assumption) ?_); (constructor <;> first | rfl | trivial)
    · (try simp only [lgl, lgg]); (repeat first | refine iteP (by first | assumption) ?_ | refine iteN (by first | assumption) ?_); (constructor <;> first | rfl | trivial)
  by_cases c4 : (1079 : Int32) < a2
  · refine ⟨(-1), A, V, K, T, A, V, sg_L_mustLeave_0 ?_, sg_M_mustLeave_0 ?_, R⟩
    · (try simp only [lgl, lgg]); (repeat first | refine iteP (by first | assumption) ?_ | refine iteN (by first | assumption) ?_); (constructor <;> first | rfl | trivial)
    · (try simp only [lgl, lgg]); (repeat first | refine iteP (by first | assumption) ?_ | refine iteN (by first | assumption) ?_); (constructor <;> first | rfl | trivial)
  obtain ⟨l, hl, rfl⟩ := i32_nat (m := 5) (by omega) c1 c2
  obtain ⟨d, hd, rfl⟩ := i32_nat (m := 1079) (by omega) c3 c4
  obtain ⟨w, m, w1, w2, w3, w4, w5, w6⟩ := wm_of R.2.2.1 l (by omega)
  obtain ⟨g, q1, q2⟩ := O_read_3_c (L := L) (xs := xs) (A := A) (V := V) (K := K) (T := T) l (by omega)
  rw [w3, w4] at q2
  have Q : QB (upA A 31 g) (upV (upV V 30 4 (nI w)) 30 5 (nI m)) (A 4) (nI l) w m := ⟨q1, rfl, rfl, w1, w2⟩
  have e37 : upA A 31 g 37 = A 4 := R.1.1
  have m1 := M_laysAside_c (L := L) (xs := xs) (A := upA A 31 g) (V := upV (upV V 30 4 (nI w)) 30 5 (nI m)) (K := K) (T := T)
  rw [e37] at m1
  have m2 := M_goes_c (L := L) (xs := xs) (A := upA (upA A 31 g) 46 (fun i => if i < 1080 then A 4 i else upA A 31 g 46 i)) (V := upV (upV V 30 4 (nI w)) 30 5 (nI m)) (K := K) (T := T) (nI l) d 1079 (by omega) (by omega)
  rw [show upA (upA A 31 g) 46 (fun i => if i < 1080 then A 4 i else upA A 31 g 46 i) 37 = A 4 from e37, show 1079 + 1 - d = 1080 - d by omega] at m2
  obtain ⟨g2, m3⟩ := M_overstayed_c (L := L) (xs := xs) (A := upA (upA (upA A 31 g) 46 (fun i => if i < 1080 then A 4 i else upA A 31 g 46 i)) 37 (fl (A 4) d (1080 - d) (nI l))) (V := upV (upV V 30 4 (nI w)) 30 5 (nI m)) (K := K) (T := T) l w m d 1079 1 (by omega) (by omega) (by omega) (by omega) w2 (by omega) w5 w6
  have m4 := M_takesAside_c (L := L) (xs := xs) (A := upA (upA (upA (upA A 31 g) 46 (fun i => if i < 1080 then A 4 i else upA A 31 g 46 i)) 37 (fl (A 4) d (1080 - d) (nI l))) 45 g2) (V := upV (upV V 30 4 (nI w)) 30 5 (nI m)) (K := K) (T := T)
  have ev : ovr (fl (A 4) d (1080 - d) (nI l)) (nI l) w m 1 d (1079 + 1 - d) = onat (-2) (srch (tooL (A 4) (nI l) w m d) (1080 - d) d) := by
    show onat (-2) (srch (ovq (fl (A 4) d (1080 - d) (nI l)) (nI l) w m) (1079 + 1 - d) d) = _
    rw [show 1079 + 1 - d = 1080 - d by omega]
    exact congrArg _ (srch_congr _ _ (fun i h1 h2 => (tl_ov (A 4) (nI l) w m d i h1 (by omega)).symm))
  have m3 : am_fin [(z_M_overstayed, 0, [.ref 36, .int (nI l), .int (nI d), .int (nI 1079), .int (nI 1), .null, .null, .null, .null], [])] (hp L xs (upA (upA (upA A 31 g) 46 (fun i => if i < 1080 then A 4 i else upA A 31 g 46 i)) 37 (fl (A 4) d (1080 - d) (nI l))) (upV (upV V 30 4 (nI w)) 30 5 (nI m)) K T) (some (ovr (fl (A 4) d (1080 - d) (nI l)) (nI l) w m 1 d (1079 + 1 - d))) (hp L xs (upA (upA (upA (upA A 31 g) 46 (fun i => if i < 1080 then A 4 i else upA A 31 g 46 i)) 37 (fl (A 4) d (1080 - d) (nI l))) 45 g2) (upV (upV V 30 4 (nI w)) 30 5 (nI m)) K T) := m3
  rw [ev] at m3
  have ef : (fun i => if i < 1080 then upA (upA (upA (upA A 31 g) 46 (fun i => if i < 1080 then A 4 i else upA A 31 g 46 i)) 37 (fl (A 4) d (1080 - d) (nI l))) 45 g2 46 i else upA (upA (upA (upA A 31 g) 46 (fun i => if i < 1080 then A 4 i else upA A 31 g 46 i)) 37 (fl (A 4) d (1080 - d) (nI l))) 45 g2 37 i) = A 4 := by
    funext i
    show (if i < 1080 then (if i < 1080 then A 4 i else upA A 31 g 46 i) else fl (A 4) d (1080 - d) (nI l) i) = A 4 i
    by_cases c : i < 1080
    · rw [if_pos c, if_pos c]
    · rw [if_neg c]; unfold fl; rw [if_neg (by omega)]
  rw [ef] at m4
  refine ⟨onat (-2) (srch (tooL (A 4) (nI l) w m d) (1080 - d) d), upA A 31 g, upV (upV V 30 4 (nI w)) 30 5 (nI m), K, T, upA (upA (upA (upA (upA A 31 g) 46 (fun i => if i < 1080 then A 4 i else upA A 31 g 46 i)) 37 (fl (A 4) d (1080 - d) (nI l))) 45 g2) 37 (A 4), upV (upV V 30 4 (nI w)) 30 5 (nI m), sg_L_mustLeave_0 ?_, sg_M_mustLeave_0 ?_, ⟨⟨rfl, R.1.2⟩, R.2⟩⟩
  · (try simp only [lgl, lgg]); (repeat first | refine iteP (by first | assumption) ?_ | refine iteN (by first | assumption) ?_)
    exact am_fin.call q2 (sg_L_mustLeave_31r (L_ml_lp Q l d (1080 - d) d (Nat.le_refl d) (by omega)))
  · (try simp only [lgl, lgg]); (repeat first | refine iteP (by first | assumption) ?_ | refine iteN (by first | assumption) ?_)
    exact am_fin.call m1 (sg_M_mustLeave_20r (am_fin.call m2 (sg_M_mustLeave_29r (am_fin.call m3 (sg_M_mustLeave_39r (am_fin.call m4 (sg_M_mustLeave_44r ⟨rfl, rfl⟩)))))))
theorem pr_mayCome (a1 a2 a3 : Int32) (R : RI A V K T) : PRQ z_L_mayCome z_M_mayCome [.ref 1, .int a1, .int a2, .int a3, .null] [.ref 36, .int a1, .int a2, .int a3, .null, .null, .null, .null] L xs A V K T := by
  by_cases c1 : a1 < 0
  · refine ⟨(-1), A, V, K, T, A, V, sg_L_mayCome_0 ?_, sg_M_mayCome_0 ?_, R⟩
    · (try simp only [lgl, lgg]); (repeat first | refine iteP (by first | assumption) ?_ | refine iteN (by first | assumption) ?_); (constructor <;> first | rfl | trivial)
    · (try simp only [lgl, lgg]); (repeat first | refine iteP (by first | assumption) ?_ | refine iteN (by first | assumption) ?_); (constructor <;> first | rfl | trivial)
  by_cases c2 : (5 : Int32) < a1
  · refine ⟨(-1), A, V, K, T, A, V, sg_L_mayCome_0 ?_, sg_M_mayCome_0 ?_, R⟩
    · (try simp only [lgl, lgg]); (repeat first | refine iteP (by first | assumption) ?_ | refine iteN (by first | assumption) ?_); (constructor <;> first | rfl | trivial)
    · (try simp only [lgl, lgg]); (repeat first | refine iteP (by first | assumption) ?_ | refine iteN (by first | assumption) ?_); (constructor <;> first | rfl | trivial)
  by_cases c3 : a2 < 0
  · refine ⟨(-1), A, V, K, T, A, V, sg_L_mayCome_0 ?_, sg_M_mayCome_0 ?_, R⟩
    · (try simp only [lgl, lgg]); (repeat first | refine iteP (by first | assumption) ?_ | refine iteN (by first | assumption) ?_); (constructor <;> first | rfl | trivial)
    · (try simp only [lgl, lgg]); (repeat first | refine iteP (by first | assumption) ?_ | refine iteN (by first | assumption) ?_); (constructor <;> first | rfl | trivial)
  by_cases c4 : (1079 : Int32) < a2
  · refine ⟨(-1), A, V, K, T, A, V, sg_L_mayCome_0 ?_, sg_M_mayCome_0 ?_, R⟩
    · (try simp only [lgl, lgg]); (repeat first | refine iteP (by first | assumption) ?_ | refine iteN (by first | assumption) ?_); (constructor <;> first | rfl | trivial)
    · (try simp only [lgl, lgg]); (repeat first | refine iteP (by first | assumption) ?_ | refine iteN (by first | assumption) ?_); (constructor <;> first | rfl | trivial)
  by_cases c5 : a3 < 1
  · refine ⟨(-1), A, V, K, T, A, V, sg_L_mayCome_0 ?_, sg_M_mayCome_0 ?_, R⟩
    · (try simp only [lgl, lgg]); (repeat first | refine iteP (by first | assumption) ?_ | refine iteN (by first | assumption) ?_); (constructor <;> first | rfl | trivial)
    · (try simp only [lgl, lgg]); (repeat first | refine iteP (by first | assumption) ?_ | refine iteN (by first | assumption) ?_); (constructor <;> first | rfl | trivial)
  by_cases c6 : (360 : Int32) < a3
  · refine ⟨(-1), A, V, K, T, A, V, sg_L_mayCome_0 ?_, sg_M_mayCome_0 ?_, R⟩
    · (try simp only [lgl, lgg]); (repeat first | refine iteP (by first | assumption) ?_ | refine iteN (by first | assumption) ?_); (constructor <;> first | rfl | trivial)
    · (try simp only [lgl, lgg]); (repeat first | refine iteP (by first | assumption) ?_ | refine iteN (by first | assumption) ?_); (constructor <;> first | rfl | trivial)
  obtain ⟨l, hl, rfl⟩ := i32_nat (m := 5) (by omega) c1 c2
  obtain ⟨d, hd, rfl⟩ := i32_nat (m := 1079) (by omega) c3 c4
  have c0 : ¬ a3 < 0 := fun z => c5 (Int32.lt_iff_toInt_lt.mpr (by rw [Int32.lt_iff_toInt_lt, Int32.toInt_zero] at z; rw [show (1 : Int32).toInt = 1 from by decide]; omega))
  obtain ⟨n, hn, rfl⟩ := i32_nat (m := 360) (by omega) c0 c6
  have hn1 : 1 ≤ n := by rw [l_1, nI_ltI (by omega) (by omega)] at c5; omega
  obtain ⟨w, m, w1, w2, w3, w4, w5, w6⟩ := wm_of R.2.2.1 l (by omega)
  obtain ⟨g, q1, q2⟩ := O_read_3_c (L := L) (xs := xs) (A := A) (V := V) (K := K) (T := T) l (by omega)
  rw [w3, w4] at q2
  have Q : QB (upA A 31 g) (upV (upV V 30 4 (nI w)) 30 5 (nI m)) (A 4) (nI l) w m := ⟨q1, rfl, rfl, w1, w2⟩
  have ex : (13 : Int32) * nI l + 0 = nI (13 * l) := e13 l 0
  have im : ¬ ((13 : Int32) * nI l + 0 < 0 ∨ 258 ≤ ((13 : Int32) * nI l + 0).toNatClampNeg) := by rw [ex]; exact nI_inb (by omega) (by omega)
  have cm : ((13 : Int32) * nI l + 0).toNatClampNeg = 13 * l := by rw [ex]; exact nI_clamp (by omega)
  have kl := L_mc_lp (L := L) (xs := xs) (K := K) (T := T) Q l d n hn1 hn (1080 - d) d (by omega)
  by_cases w0 : w = 0
  · have e : srch (mcp (A 4) (nI l) w m n) (1080 - d) d = some d := by
      obtain ⟨r, hr⟩ : ∃ r, 1080 - d = r + 1 := ⟨1080 - d - 1, by omega⟩
      rw [hr, srch_t (p := mcp (A 4) (nI l) w m n) (fun z => z.1 w0)]
    rw [e] at kl
    refine ⟨nI d, upA A 31 g, upV (upV V 30 4 (nI w)) 30 5 (nI m), K, T, upA A 31 g, upV (upV V 30 4 (nI w)) 30 5 (nI m), sg_L_mayCome_0 ?_, sg_M_mayCome_0 ?_, R⟩
    · (try simp only [lgl, lgg]); (repeat first | refine iteP (by first | assumption) ?_ | refine iteN (by first | assumption) ?_)
      exact am_fin.call q2 (sg_L_mayCome_42r kl)
    · (try simp only [lgl, lgg]); (repeat first | refine iteP (by first | assumption) ?_ | refine iteN (by first | assumption) ?_)
      exact ⟨im, iteP (by rw [cm]; exact w5.trans (by rw [w0]; rfl)) ⟨(by first | rfl | trivial), (by first | rfl | trivial)⟩⟩
  · have base : ∀ i, i ≤ 0 → A 48 i = A 48 0 + nI (cn (fun d => upA A 31 g 37 d = nI l) 0 i) := fun i hi => by rw [show i = 0 by omega]; exact (Int32.add_zero _).symm
    obtain ⟨g2, h1, h2⟩ := M_mc_rd (L := L) (xs := xs) (A := upA A 31 g) (V := upV (upV V 30 4 (nI w)) 30 5 (nI m)) (K := K) (T := T) (nI l) (nI d) (nI n) (nI w) (nI l) rfl 1080 0 (A 48) (by omega) base
    have e37 : upA A 31 g 37 = A 4 := R.1.1
    rw [e37] at h1
    have ml := M_mc_lp (L := L) (xs := xs) (A := upA (upA A 31 g) 48 g2) (V := upV (upV V 30 4 (nI w)) 30 5 (nI m)) (K := K) (T := T) (A 4) h1 d n w m (by omega) hn1 hn (by omega) w2 w0 w6 (1080 - d) d (by omega) none
    have h2 := h2 ml
    rw [show upA (upA A 31 g) 48 (A 48) = upA A 31 g from upA_self (upA A 31 g) 48] at h2
    refine ⟨onat (-2) (srch (mcp (A 4) (nI l) w m n) (1080 - d) d), upA A 31 g, upV (upV V 30 4 (nI w)) 30 5 (nI m), K, T, upA (upA A 31 g) 48 g2, upV (upV V 30 4 (nI w)) 30 5 (nI m), sg_L_mayCome_0 ?_, sg_M_mayCome_0 ?_, R⟩
    · (try simp only [lgl, lgg]); (repeat first | refine iteP (by first | assumption) ?_ | refine iteN (by first | assumption) ?_)
      exact am_fin.call q2 (sg_L_mayCome_42r kl)
    · (try simp only [lgl, lgg]); (repeat first | refine iteP (by first | assumption) ?_ | refine iteN (by first | assumption) ?_)
      refine ⟨im, iteN (by rw [cm, show upA A 31 g 41 (13 * l) = nI w from w5]; exact mt (nI_z (by omega)).mp w0) ?_⟩
      rw [cm, show upA A 31 g 41 (13 * l) = nI w from w5]
      exact h2
end
