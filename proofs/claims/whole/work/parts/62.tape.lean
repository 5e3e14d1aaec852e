/-! THE TAPE: words, rows of letters -/
theorem fa_byte_low (x : Int32) : (x &&& 255).toInt8 = x.toInt8 := by
  apply Int8.toBitVec_inj.1
  apply BitVec.eq_of_getLsbD_eq
  intro i hi
  have h2 : (255 : Int32).toBitVec.getLsbD i = true := by
    have : ∀ j : Fin 8, (255 : Int32).toBitVec.getLsbD j.val = true := by decide +kernel
    exact this ⟨i, hi⟩
  have h4 : (x &&& 255).toBitVec.getLsbD i = x.toBitVec.getLsbD i := by
    show (x.toBitVec &&& (255 : Int32).toBitVec).getLsbD i = _
    rw [BitVec.getLsbD_and, h2, Bool.and_true]
  have h3 : i < 32 := by omega
  first
    | (show (((x &&& 255).toBitVec).signExtend 8).getLsbD i = (x.toBitVec.signExtend 8).getLsbD i; rw [BitVec.getLsbD_signExtend, BitVec.getLsbD_signExtend, if_pos h3, if_pos h3, h4])
    | (show (((x &&& 255).toBitVec).setWidth 8).getLsbD i = (x.toBitVec.setWidth 8).getLsbD i; rw [BitVec.getLsbD_setWidth, BitVec.getLsbD_setWidth, h4])
def okt (f g : Nat → Int32) : Prop := ∀ k, k < 320 → ∃ b, b < 256 ∧ f k = nI b ∧ g k = (nI b).toInt8.toInt32
theorem okt_upd {f g : Nat → Int32} (h : okt f g) (t : Nat) (x : Int32) : okt (upd f t (x &&& 255)) (upd g t (vp_nar .byte x.toInt8.toInt32)) := by
  intro k hk
  by_cases e : k = t
  · obtain ⟨b, hb, eb⟩ := pk_andE x (m := 255) 8 (by decide)
    refine ⟨b, hb, by rw [e, upd_at, eb], ?_⟩
    rw [e, upd_at, pk_vb, ← fa_byte_low, eb]
  · rw [upd_no _ _ e, upd_no _ _ e]; exact h k hk
def w20 (f : Nat → Int32) (t : Nat) (x : Int32) : Nat → Int32 := (upd (upd (upd (upd f t ((x >>> ((24 : Int32) &&& 31)) &&& 255)) (t + 1) ((x >>> ((16 : Int32) &&& 31)) &&& 255)) (t + 2) ((x >>> ((8 : Int32) &&& 31)) &&& 255)) (t + 3) ((x >>> ((0 : Int32) &&& 31)) &&& 255))
def w42 (f : Nat → Int32) (t : Nat) (x : Int32) : Nat → Int32 := (upd (upd (upd (upd f t (vp_nar .byte (x >>> ((24 : Int32) &&& 31)).toInt8.toInt32)) (t + 1) (vp_nar .byte (x >>> ((16 : Int32) &&& 31)).toInt8.toInt32)) (t + 2) (vp_nar .byte (x >>> ((8 : Int32) &&& 31)).toInt8.toInt32)) (t + 3) (vp_nar .byte (x >>> ((0 : Int32) &&& 31)).toInt8.toInt32))
theorem okt_w {f g : Nat → Int32} (h : okt f g) (t : Nat) (x : Int32) : okt (w20 f t x) (w42 g t x) := okt_upd (okt_upd (okt_upd (okt_upd h _ _) _ _) _ _) _ _
theorem sh8 : ((8 : Int32) * 3 &&& 31) = (24 &&& 31) ∧ ((8 : Int32) * 2 &&& 31) = (16 &&& 31) ∧ ((8 : Int32) * 1 &&& 31) = (8 &&& 31) ∧ ((8 : Int32) * 0 &&& 31) = (0 &&& 31) := by decide
section
variable {L : Nat} {xs : Nat → Int32} {A V : Nat → Nat → Int32} {K : Nat → Option Nat} {T : am_H}
theorem T_pw_s (x s s' : Int32) (t : Nat) (f : Nat → Int32) (ht : t < 320) (hs : ¬ s < 0) (es : s + (-8) = s') {v : Option Int32} {h' : am_H} (k : am_fin [(z_T_putWord, 3, [.ref 19, .int x, .int s'], [])] (hp L xs (upA A 20 (upd f t ((x >>> (s &&& 31)) &&& 255))) (upV V 19 1 (nI (t + 1))) K T) v h') : am_fin [(z_T_putWord, 3, [.ref 19, .int x, .int s], [])] (hp L xs (upA A 20 f) (upV V 19 1 (nI t)) K T) v h' := by
  refine sg_T_putWord_3 (iteN hs ?_)
  rw [upV_same]
  refine iteN (by rw [l_320, nI_leI (by omega) (by omega)]; omega) ⟨nI_inb (by omega) (by omega), ?_⟩
  rw [es, nI_clamp (by omega), upA_upA, upA_same, upV_upV, nI_1]
  exact k
theorem T_putWord_c (x : Int32) (t : Nat) (f : Nat → Int32) (ht : t + 4 ≤ 320) : am_fin [(z_T_putWord, 0, [.ref 19, .int x, .null], [])] (hp L xs (upA A 20 f) (upV V 19 1 (nI t)) K T) none (hp L xs (upA A 20 (w20 f t x)) (upV V 19 1 (nI (t + 4))) K T) := by
  refine sg_T_putWord_0 (T_pw_s x 24 16 t f (by omega) (by decide) (by decide) (T_pw_s x 16 8 (t + 1) _ (by omega) (by decide) (by decide) (T_pw_s x 8 0 (t + 2) _ (by omega) (by decide) (by decide) (T_pw_s x 0 (-8) (t + 3) _ (by omega) (by decide) (by decide) ?_))))
  exact sg_T_putWord_3 (iteP (by decide) ⟨rfl, rfl⟩)
theorem M_t4_s (x s s' z : Int32) (t : Nat) (f : Nat → Int32) (ht : t < 320) (hs : ¬ s < 0) (es : s + (-1) = s') (ez : ((8 : Int32) * s &&& 31) = z) {v : Option Int32} {h' : am_H} (k : am_fin [(z_M_typed4, 2, [.ref 36, .int x, .int s'], [])] (hp L xs (upA A 42 (upd f t (vp_nar .byte (x >>> z).toInt8.toInt32))) (upV V 36 7 (nI (t + 1))) K T) v h') : am_fin [(z_M_typed4, 2, [.ref 36, .int x, .int s], [])] (hp L xs (upA A 42 f) (upV V 36 7 (nI t)) K T) v h' := by
  refine sg_M_typed4_2 (iteN hs ?_)
  rw [upV_same]
  refine ⟨nI_inb (by omega) (by omega), ?_⟩
  rw [es, ez, nI_clamp (by omega), upA_upA, upA_same, upV_upV, nI_1]
  exact k
theorem M_typed4_c (x : Int32) (t : Nat) (f : Nat → Int32) (ht : t + 4 ≤ 320) : am_fin [(z_M_typed4, 0, [.ref 36, .int x, .null], [])] (hp L xs (upA A 42 f) (upV V 36 7 (nI t)) K T) none (hp L xs (upA A 42 (w42 f t x)) (upV V 36 7 (nI (t + 4))) K T) := by
  refine sg_M_typed4_0 (M_t4_s x 3 2 _ t f (by omega) (by decide) (by decide) sh8.1 (M_t4_s x 2 1 _ (t + 1) _ (by omega) (by decide) (by decide) sh8.2.1 (M_t4_s x 1 0 _ (t + 2) _ (by omega) (by decide) (by decide) sh8.2.2.1 (M_t4_s x 0 (-1) _ (t + 3) _ (by omega) (by decide) (by decide) sh8.2.2.2 ?_))))
  exact sg_M_typed4_2 (iteP (by decide) ⟨rfl, rfl⟩)
theorem pr_feed (a1 a2 a3 a4 a5 : Int32) (R : RI A V K T) : PRQ z_L_feed z_M_feed [.ref 1, .int a1, .int a2, .int a3, .int a4, .int a5] [.ref 36, .int a1, .int a2, .int a3, .int a4, .int a5] L xs A V K T := by
  obtain ⟨⟨t, ht, t1, t2⟩, ok⟩ := R.2.2.2.1
  have ok : okt (A 20) (A 42) := ok
  by_cases c : t + 20 ≤ 320
  · have c1 : V 19 1 + 20 ≤ 320 := by rw [t1, l_20, l_320, nI_add, nI_leI (by omega) (by omega)]; exact c
    have v1 : V = upV V 19 1 (nI t) := by rw [← t1, upV_self]
    have x0 : A = upA A 20 (A 20) := (upA_self A 20).symm
    have k1 : am_fin [(z_L_feed, 0, [.ref 1, .int a1, .int a2, .int a3, .int a4, .int a5], [])] (hp L xs A V K T) (some (nI (t + 4 + 4 + 4 + 4 + 4))) (hp L xs (upA A 20 (w20 (w20 (w20 (w20 (w20 (A 20) t a1) (t + 4) a2) (t + 4 + 4) a3) (t + 4 + 4 + 4) a4) (t + 4 + 4 + 4 + 4) a5)) (upV V 19 1 (nI (t + 4 + 4 + 4 + 4 + 4))) K T) := by
      refine sg_L_feed_0 (iteP c1 ?_)
      have p1 := T_putWord_c (L := L) (xs := xs) (A := A) (V := V) (K := K) (T := T) a1 t (A 20) (by omega)
      rw [← v1, ← x0] at p1
      exact am_fin.call p1 (sg_L_feed_26r (am_fin.call (T_putWord_c a2 (t + 4) _ (by omega)) (sg_L_feed_34r (am_fin.call (T_putWord_c a3 (t + 4 + 4) _ (by omega)) (sg_L_feed_42r (am_fin.call (T_putWord_c a4 (t + 4 + 4 + 4) _ (by omega)) (sg_L_feed_51r (am_fin.call (T_putWord_c a5 (t + 4 + 4 + 4 + 4) _ (by omega)) (sg_L_feed_60r ⟨by rw [upV_same], rfl⟩)))))))))
    generalize hA1 : upA A 20 (w20 (w20 (w20 (w20 (w20 (A 20) t a1) (t + 4) a2) (t + 4 + 4) a3) (t + 4 + 4 + 4) a4) (t + 4 + 4 + 4 + 4) a5) = A1 at k1
    generalize hV1 : upV V 19 1 (nI (t + 4 + 4 + 4 + 4 + 4)) = V1 at k1
    have e7 : V1 36 7 = nI t := by rw [← hV1]; exact t2
    have c2 : V1 36 7 + 20 ≤ 320 := by rw [e7, l_20, l_320, nI_add, nI_leI (by omega) (by omega)]; exact c
    have v2 : V1 = upV V1 36 7 (nI t) := by rw [← e7, upV_self]
    have x2 : A1 = upA A1 42 (A1 42) := (upA_self A1 42).symm
    have k2 : am_fin [(z_M_feed, 0, [.ref 36, .int a1, .int a2, .int a3, .int a4, .int a5], [])] (hp L xs A1 V1 K T) (some (nI (t + 4 + 4 + 4 + 4 + 4))) (hp L xs (upA A1 42 (w42 (w42 (w42 (w42 (w42 (A1 42) t a1) (t + 4) a2) (t + 4 + 4) a3) (t + 4 + 4 + 4) a4) (t + 4 + 4 + 4 + 4) a5)) (upV V1 36 7 (nI (t + 4 + 4 + 4 + 4 + 4))) K T) := by
      refine sg_M_feed_0 (iteP c2 ?_)
      have p1 := M_typed4_c (L := L) (xs := xs) (A := A1) (V := V1) (K := K) (T := T) a1 t (A1 42) (by omega)
      rw [← v2, ← x2] at p1
      exact am_fin.call p1 (sg_M_feed_20r (am_fin.call (M_typed4_c a2 (t + 4) _ (by omega)) (sg_M_feed_25r (am_fin.call (M_typed4_c a3 (t + 4 + 4) _ (by omega)) (sg_M_feed_30r (am_fin.call (M_typed4_c a4 (t + 4 + 4 + 4) _ (by omega)) (sg_M_feed_36r (am_fin.call (M_typed4_c a5 (t + 4 + 4 + 4 + 4) _ (by omega)) (sg_M_feed_42r ⟨by rw [upV_same], rfl⟩)))))))))
    refine ⟨_, A1, V1, K, T, _, _, k1, k2, ?_⟩
    have e42 : A1 42 = A 42 := by rw [← hA1]; rfl
    rw [e42, ← hA1, ← hV1]
    exact ⟨R.1, R.2.1, R.2.2.1, ⟨⟨t + 4 + 4 + 4 + 4 + 4, by omega, rfl, rfl⟩, okt_w (okt_w (okt_w (okt_w (okt_w ok _ _) _ _) _ _) _ _) _ _⟩, R.2.2.2.2⟩
  · have c1 : ¬ V 19 1 + 20 ≤ 320 := by rw [t1, l_20, l_320, nI_add, nI_leI (by omega) (by omega)]; exact c
    have c2 : ¬ V 36 7 + 20 ≤ 320 := by rw [t2, l_20, l_320, nI_add, nI_leI (by omega) (by omega)]; exact c
    exact ⟨-1, A, V, K, T, A, V, sg_L_feed_0 (iteN c1 ⟨rfl, rfl⟩), sg_M_feed_0 (iteN c2 ⟨rfl, rfl⟩), R⟩
end
theorem rw1 : ∀ k, k < 4 → ∀ q, q < 2 ^ (3 + 2 * k) → q % 8 = k → ∀ c, c < 4 → (nI q + 1 ||| (nI c <<< ((3 + 2 * (nI q &&& 7)) &&& 31))) = nI (q + 1 + c * 2 ^ (3 + 2 * k)) := by decide +kernel
theorem rw2a : ∀ k, k < 4 → ∀ q, q < 2 ^ (3 + 2 * k) → q % 8 = k → ∀ c, c < 4 → (q + 1 + c * 2 ^ (3 + 2 * k)) % 8 = k + 1 ∧ q + 1 + c * 2 ^ (3 + 2 * k) < 2 ^ (3 + 2 * (k + 1)) := by decide +kernel
theorem rw2b : ∀ k, k < 4 → ∀ q, q < 2 ^ (3 + 2 * k) → q % 8 = k → ∀ c, c < 4 → ∀ j, j < k → (q + 1 + c * 2 ^ (3 + 2 * k)) / 2 ^ (3 + 2 * j) % 4 = q / 2 ^ (3 + 2 * j) % 4 := by decide +kernel
theorem rw2c : ∀ k, k < 4 → ∀ q, q < 2 ^ (3 + 2 * k) → q % 8 = k → ∀ c, c < 4 → (q + 1 + c * 2 ^ (3 + 2 * k)) / 2 ^ (3 + 2 * k) % 4 = c := by decide +kernel
theorem rw3 : ∀ n, n < 5 → ∀ q, q < 2 ^ (3 + 2 * n) → q % 8 = n → rlen (nI q) = nI n ∧ ∀ j, j < n → rlet (nI q) j = nI (q / 2 ^ (3 + 2 * j) % 4) := by decide +kernel
theorem by8 : ∀ b, b < 256 → ((nI b = 99 ↔ b = 99) ∧ (nI b = 100 ↔ b = 100) ∧ (nI b = 104 ↔ b = 104) ∧ (nI b = 110 ↔ b = 110)) ∧ ((nI b).toInt8.toInt32 = 104 ↔ b = 104) ∧ ((nI b).toInt8.toInt32 = 99 ↔ b = 99) ∧ ((nI b).toInt8.toInt32 = 100 ↔ b = 100) ∧ ((nI b).toInt8.toInt32 = 110 ↔ b = 110) := by decide +kernel
def ow : Option Nat → Int32
  | none => 0
  | some _ => 1
/-- a letter more -/
theorem row_f {f : Nat → Int32} {k q c : Nat} (hk : k < 4) (hq : q < 2 ^ (3 + 2 * k)) (hq2 : q % 8 = k) (hc : c < 4) (hf : ∀ j, j < k → f j = nI (q / 2 ^ (3 + 2 * j) % 4)) : ∀ j, j < k + 1 → upd f k (nI c) j = nI ((q + 1 + c * 2 ^ (3 + 2 * k)) / 2 ^ (3 + 2 * j) % 4) := by
  have h3 := rw2b k hk q hq hq2 c hc
  have h4 := rw2c k hk q hq hq2 c hc
  intro j hj
  by_cases e : j = k
  · rw [e, upd_at, h4]
  · rw [upd_no _ _ e, hf j (by omega), h3 j (by omega)]
section
variable {L : Nat} {xs : Nat → Int32} {A V : Nat → Nat → Int32} {K : Nat → Option Nat} {T : am_H}
theorem tr_lp (g42 : Nat → Int32) (ok : okt (A 20) g42) (n : Nat) (hn : n ≤ 4) : ∀ (r k q : Nat) (s : Int32) (f : Nat → Int32), k + r = n → q % 8 = k → q < 2 ^ (3 + 2 * k) → (∀ j, j < k → f j = nI (q / 2 ^ (3 + 2 * j) % 4)) → ∃ (w : Option Nat) (f' : Nat → Int32), (∀ q', w = some q' → q' % 8 = n ∧ q' < 2 ^ (3 + 2 * n) ∧ ∀ j, j < n → f' j = nI (q' / 2 ^ (3 + 2 * j) % 4)) ∧ (∀ u : Option Int32, am_fin [(z_T_takeRow, 7, [.ref 19, .int (nI n), .int (nI q), .int s, .int (nI k), dl u], [])] (hp L xs A V K T) (some (onat (-1) w)) (hp L xs A (upV V 19 1 0) K T)) ∧ ∀ (B W : Nat → Nat → Int32), B 42 = g42 → am_fin [(z_M_readsLetters, 9, [.ref 36, .int (nI n), .int s, .int (nI k)], [])] (hp L xs (upA B 44 f) W K T) (some (ow w)) (hp L xs (upA B 44 f') W K T) := by
  intro r
  induction r with
  | zero =>
    intro k q s f hk q1 q2 hf
    have e : k = n := by omega
    subst e
    have c : nI k ≤ nI k := Int32.le_refl _
    refine ⟨some q, f, fun q' h => ?_, fun u => ?_, fun B W hB => sg_M_readsLetters_9 (iteP c ⟨rfl, rfl⟩)⟩
    · cases h; exact ⟨q1, q2, hf⟩
    · cases u
      · exact sg_T_takeRow_7 (iteP c ⟨rfl, rfl⟩)
      · exact sg_T_takeRow_7b (iteP c ⟨rfl, rfl⟩)
  | succ r ih =>
    intro k q s f hk q1 q2 hf
    have hk4 : k < 4 := by omega
    have c1 : ¬ nI n ≤ nI k := by rw [nI_leI (by omega) (by omega)]; omega
    have c2 : ¬ (4 : Int32) ≤ nI k := by rw [l_4, nI_leI (by omega) (by omega)]; omega
    have ib : ¬ (nI k < 0 ∨ 320 ≤ (nI k).toNatClampNeg) := nI_inb (by omega) (by omega)
    have i4 : ¬ (nI k < 0 ∨ 4 ≤ k) := fun z => z.elim (nI_lt0 (by omega)) (by omega)
    have ck : (nI k).toNatClampNeg = k := nI_clamp (by omega)
    obtain ⟨b, hb, eb, eg⟩ := ok k (by omega)
    obtain ⟨⟨z1, z2, z3, z4⟩, z5, z6, z7, z8⟩ := by8 b hb
    rw [← eb] at z1 z2 z3 z4
    rw [← eg] at z5 z6 z7 z8
    rw [← ck] at z1 z2 z3 z4 z5 z6 z7 z8
    by_cases e : b = 99
    · by_cases sn : ((s >>> ((1 : Int32) &&& 31)) &&& 1) = 1
      · refine ⟨none, upd f k 1, fun q' h => (by cases h), fun u => ?_, fun B W hB => ?_⟩
        · cases u
          · exact sg_T_takeRow_7 (iteN c1 (iteN c2 ⟨ib, (iteP (z1.mpr e) (iteP sn ⟨rfl, rfl⟩))⟩))
          · exact sg_T_takeRow_7b (iteN c1 (iteN c2 ⟨ib, (iteP (z1.mpr e) (iteP sn ⟨rfl, rfl⟩))⟩))
        · have hB : upA B 44 f 42 = g42 := hB
          refine sg_M_readsLetters_9 (iteN c1 ⟨ib, (iteN (by rw [hB]; exact mt z5.mp (by omega)) (iteP (by rw [hB]; exact z6.mpr e) ?_))⟩)
          simp only [ck, upA_upA, upA_same, upd_at]
          exact ⟨i4, i4, iteN (by decide) ⟨i4, iteP sn ⟨(by first | rfl | trivial), (by first | rfl | trivial)⟩⟩⟩
      · obtain ⟨n1, n2⟩ := rw2a k hk4 q q2 q1 1 (by omega)
        obtain ⟨w, f', j1, j2, j3⟩ := ih (k + 1) (q + 1 + 1 * 2 ^ (3 + 2 * k)) (s ||| ((1 : Int32) <<< ((1 : Int32) &&& 31))) (upd f k 1) (by omega) n1 n2 (row_f hk4 q2 q1 (c := 1) (by omega) hf)
        rw [← nI_1, ← rw1 k hk4 q q2 q1 1 (by omega)] at j2
        refine ⟨w, f', j1, fun u => ?_, fun B W hB => ?_⟩
        · cases u
          · exact sg_T_takeRow_7 (iteN c1 (iteN c2 ⟨ib, (iteP (z1.mpr e) (iteN sn (j2 (some 1))))⟩))
          · exact sg_T_takeRow_7b (iteN c1 (iteN c2 ⟨ib, (iteP (z1.mpr e) (iteN sn (j2 (some 1))))⟩))
        · have j3 := j3 B W hB
          rw [← nI_1] at j3
          have hB : upA B 44 f 42 = g42 := hB
          refine sg_M_readsLetters_9 (iteN c1 ⟨ib, (iteN (by rw [hB]; exact mt z5.mp (by omega)) (iteP (by rw [hB]; exact z6.mpr e) ?_))⟩)
          simp only [ck, upA_upA, upA_same, upd_at]
          exact ⟨i4, i4, iteN (by decide) ⟨i4, iteN sn ⟨i4, j3⟩⟩⟩
    have e99 := e
    clear e
    by_cases e : b = 100
    · by_cases sn : ((s >>> ((2 : Int32) &&& 31)) &&& 1) = 1
      · refine ⟨none, upd f k 2, fun q' h => (by cases h), fun u => ?_, fun B W hB => ?_⟩
        · cases u
          · exact sg_T_takeRow_7 (iteN c1 (iteN c2 ⟨ib, (iteN (mt z1.mp (by omega)) (iteP (z2.mpr e) (iteP sn ⟨rfl, rfl⟩)))⟩))
          · exact sg_T_takeRow_7b (iteN c1 (iteN c2 ⟨ib, (iteN (mt z1.mp (by omega)) (iteP (z2.mpr e) (iteP sn ⟨rfl, rfl⟩)))⟩))
        · have hB : upA B 44 f 42 = g42 := hB
          refine sg_M_readsLetters_9 (iteN c1 ⟨ib, (iteN (by rw [hB]; exact mt z5.mp (by omega)) (iteN (by rw [hB]; exact mt z6.mp (by omega)) (iteP (by rw [hB]; exact z7.mpr e) ?_)))⟩)
          simp only [ck, upA_upA, upA_same, upd_at]
          exact ⟨i4, i4, iteN (by decide) ⟨i4, iteP sn ⟨(by first | rfl | trivial), (by first | rfl | trivial)⟩⟩⟩
      · obtain ⟨n1, n2⟩ := rw2a k hk4 q q2 q1 2 (by omega)
        obtain ⟨w, f', j1, j2, j3⟩ := ih (k + 1) (q + 1 + 2 * 2 ^ (3 + 2 * k)) (s ||| ((1 : Int32) <<< ((2 : Int32) &&& 31))) (upd f k 2) (by omega) n1 n2 (row_f hk4 q2 q1 (c := 2) (by omega) hf)
        rw [← nI_1, ← rw1 k hk4 q q2 q1 2 (by omega)] at j2
        refine ⟨w, f', j1, fun u => ?_, fun B W hB => ?_⟩
        · cases u
          · exact sg_T_takeRow_7 (iteN c1 (iteN c2 ⟨ib, (iteN (mt z1.mp (by omega)) (iteP (z2.mpr e) (iteN sn (j2 (some 2)))))⟩))
          · exact sg_T_takeRow_7b (iteN c1 (iteN c2 ⟨ib, (iteN (mt z1.mp (by omega)) (iteP (z2.mpr e) (iteN sn (j2 (some 2)))))⟩))
        · have j3 := j3 B W hB
          rw [← nI_1] at j3
          have hB : upA B 44 f 42 = g42 := hB
          refine sg_M_readsLetters_9 (iteN c1 ⟨ib, (iteN (by rw [hB]; exact mt z5.mp (by omega)) (iteN (by rw [hB]; exact mt z6.mp (by omega)) (iteP (by rw [hB]; exact z7.mpr e) ?_)))⟩)
          simp only [ck, upA_upA, upA_same, upd_at]
          exact ⟨i4, i4, iteN (by decide) ⟨i4, iteN sn ⟨i4, j3⟩⟩⟩
    have e100 := e
    clear e
    by_cases e : b = 104
    · by_cases sn : ((s >>> ((0 : Int32) &&& 31)) &&& 1) = 1
      · refine ⟨none, upd f k 0, fun q' h => (by cases h), fun u => ?_, fun B W hB => ?_⟩
        · cases u
          · exact sg_T_takeRow_7 (iteN c1 (iteN c2 ⟨ib, (iteN (mt z1.mp (by omega)) (iteN (mt z2.mp (by omega)) (iteP (z3.mpr e) (iteP sn ⟨rfl, rfl⟩))))⟩))
          · exact sg_T_takeRow_7b (iteN c1 (iteN c2 ⟨ib, (iteN (mt z1.mp (by omega)) (iteN (mt z2.mp (by omega)) (iteP (z3.mpr e) (iteP sn ⟨rfl, rfl⟩))))⟩))
        · have hB : upA B 44 f 42 = g42 := hB
          refine sg_M_readsLetters_9 (iteN c1 ⟨ib, (iteP (by rw [hB]; exact z5.mpr e) ?_)⟩)
          simp only [ck, upA_upA, upA_same, upd_at]
          exact ⟨i4, i4, iteN (by decide) ⟨i4, iteP sn ⟨(by first | rfl | trivial), (by first | rfl | trivial)⟩⟩⟩
      · obtain ⟨n1, n2⟩ := rw2a k hk4 q q2 q1 0 (by omega)
        obtain ⟨w, f', j1, j2, j3⟩ := ih (k + 1) (q + 1 + 0 * 2 ^ (3 + 2 * k)) (s ||| ((1 : Int32) <<< ((0 : Int32) &&& 31))) (upd f k 0) (by omega) n1 n2 (row_f hk4 q2 q1 (c := 0) (by omega) hf)
        rw [← nI_1, ← rw1 k hk4 q q2 q1 0 (by omega)] at j2
        refine ⟨w, f', j1, fun u => ?_, fun B W hB => ?_⟩
        · cases u
          · exact sg_T_takeRow_7 (iteN c1 (iteN c2 ⟨ib, (iteN (mt z1.mp (by omega)) (iteN (mt z2.mp (by omega)) (iteP (z3.mpr e) (iteN sn (j2 (some 0))))))⟩))
          · exact sg_T_takeRow_7b (iteN c1 (iteN c2 ⟨ib, (iteN (mt z1.mp (by omega)) (iteN (mt z2.mp (by omega)) (iteP (z3.mpr e) (iteN sn (j2 (some 0))))))⟩))
        · have j3 := j3 B W hB
          rw [← nI_1] at j3
          have hB : upA B 44 f 42 = g42 := hB
          refine sg_M_readsLetters_9 (iteN c1 ⟨ib, (iteP (by rw [hB]; exact z5.mpr e) ?_)⟩)
          simp only [ck, upA_upA, upA_same, upd_at]
          exact ⟨i4, i4, iteN (by decide) ⟨i4, iteN sn ⟨i4, j3⟩⟩⟩
    have e104 := e
    clear e
    by_cases e : b = 110
    · by_cases sn : ((s >>> ((3 : Int32) &&& 31)) &&& 1) = 1
      · refine ⟨none, upd f k 3, fun q' h => (by cases h), fun u => ?_, fun B W hB => ?_⟩
        · cases u
          · exact sg_T_takeRow_7 (iteN c1 (iteN c2 ⟨ib, (iteN (mt z1.mp (by omega)) (iteN (mt z2.mp (by omega)) (iteN (mt z3.mp (by omega)) (iteP (z4.mpr e) (iteP sn ⟨rfl, rfl⟩)))))⟩))
          · exact sg_T_takeRow_7b (iteN c1 (iteN c2 ⟨ib, (iteN (mt z1.mp (by omega)) (iteN (mt z2.mp (by omega)) (iteN (mt z3.mp (by omega)) (iteP (z4.mpr e) (iteP sn ⟨rfl, rfl⟩)))))⟩))
        · have hB : upA B 44 f 42 = g42 := hB
          refine sg_M_readsLetters_9 (iteN c1 ⟨ib, (iteN (by rw [hB]; exact mt z5.mp (by omega)) (iteN (by rw [hB]; exact mt z6.mp (by omega)) (iteN (by rw [hB]; exact mt z7.mp (by omega)) (iteP (by rw [hB]; exact z8.mpr e) ?_))))⟩)
          simp only [ck, upA_upA, upA_same, upd_at]
          exact ⟨i4, i4, iteN (by decide) ⟨i4, iteP sn ⟨(by first | rfl | trivial), (by first | rfl | trivial)⟩⟩⟩
      · obtain ⟨n1, n2⟩ := rw2a k hk4 q q2 q1 3 (by omega)
        obtain ⟨w, f', j1, j2, j3⟩ := ih (k + 1) (q + 1 + 3 * 2 ^ (3 + 2 * k)) (s ||| ((1 : Int32) <<< ((3 : Int32) &&& 31))) (upd f k 3) (by omega) n1 n2 (row_f hk4 q2 q1 (c := 3) (by omega) hf)
        rw [← nI_1, ← rw1 k hk4 q q2 q1 3 (by omega)] at j2
        refine ⟨w, f', j1, fun u => ?_, fun B W hB => ?_⟩
        · cases u
          · exact sg_T_takeRow_7 (iteN c1 (iteN c2 ⟨ib, (iteN (mt z1.mp (by omega)) (iteN (mt z2.mp (by omega)) (iteN (mt z3.mp (by omega)) (iteP (z4.mpr e) (iteN sn (j2 (some 3)))))))⟩))
          · exact sg_T_takeRow_7b (iteN c1 (iteN c2 ⟨ib, (iteN (mt z1.mp (by omega)) (iteN (mt z2.mp (by omega)) (iteN (mt z3.mp (by omega)) (iteP (z4.mpr e) (iteN sn (j2 (some 3)))))))⟩))
        · have j3 := j3 B W hB
          rw [← nI_1] at j3
          have hB : upA B 44 f 42 = g42 := hB
          refine sg_M_readsLetters_9 (iteN c1 ⟨ib, (iteN (by rw [hB]; exact mt z5.mp (by omega)) (iteN (by rw [hB]; exact mt z6.mp (by omega)) (iteN (by rw [hB]; exact mt z7.mp (by omega)) (iteP (by rw [hB]; exact z8.mpr e) ?_))))⟩)
          simp only [ck, upA_upA, upA_same, upd_at]
          exact ⟨i4, i4, iteN (by decide) ⟨i4, iteN sn ⟨i4, j3⟩⟩⟩
    have e110 := e
    clear e
    refine ⟨none, upd f k (-1), fun q' h => (by cases h), fun u => ?_, fun B W hB => ?_⟩
    · cases u
      · exact sg_T_takeRow_7 (iteN c1 (iteN c2 ⟨ib, (iteN (mt z1.mp e99) (iteN (mt z2.mp e100) (iteN (mt z3.mp e104) (iteN (mt z4.mp e110) ⟨rfl, rfl⟩))))⟩))
      · exact sg_T_takeRow_7b (iteN c1 (iteN c2 ⟨ib, (iteN (mt z1.mp e99) (iteN (mt z2.mp e100) (iteN (mt z3.mp e104) (iteN (mt z4.mp e110) ⟨rfl, rfl⟩))))⟩))
    · have hB : upA B 44 f 42 = g42 := hB
      refine sg_M_readsLetters_9 (iteN c1 ⟨ib, (iteN (by rw [hB]; exact mt z5.mp e104) (iteN (by rw [hB]; exact mt z6.mp e99) (iteN (by rw [hB]; exact mt z7.mp e100) (iteN (by rw [hB]; exact mt z8.mp e110) ?_))))⟩)
      simp only [ck, upA_upA, upA_same, upd_at]
      exact ⟨i4, i4, iteP (by first | rfl | trivial) ⟨(by first | rfl | trivial), (by first | rfl | trivial)⟩⟩
end
