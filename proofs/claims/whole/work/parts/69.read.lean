/-- stays as both sides hold them -/
def stored (g1 g2 g3 g : Nat → Int32) (m : Nat) : Prop := ∀ j, j < m → ∃ (x : Int32) (a e : Nat), pl x ∧ a ≤ e ∧ e < 1080 ∧ g1 j = x ∧ g2 j = nI a ∧ g3 j = nI e ∧ g (3 * j) = x ∧ g (3 * j + 1) = nI a ∧ g (3 * j + 2) = nI e
theorem st3 (A : Nat → Nat → Int32) (g1 g2 g3 h1 h2 h3 : Nat → Int32) : upA (upA (upA (upA (upA (upA A 22 g1) 23 g2) 24 g3) 22 h1) 23 h2) 24 h3 = upA (upA (upA A 22 h1) 23 h2) 24 h3 := by
  funext i
  unfold upA
  cases Nat.beq i 24 <;> cases Nat.beq i 23 <;> cases Nat.beq i 22 <;> rfl
def up22 (A : Nat → Nat → Int32) (g1 g2 g3 : Nat → Int32) : Nat → Nat → Int32 := upA (upA (upA A 22 g1) 23 g2) 24 g3
theorem neg_nz {F : Int32} (h : F < 0) : ¬ F = 0 := fun e => by rw [e] at h; exact absurd h (by decide)
section
variable {L : Nat} {xs : Nat → Int32} {A V : Nat → Nat → Int32} {K : Nat → Option Nat} {T : am_H}
theorem rt_lp (b : Nat → Nat) (n : Nat) (hn : n ≤ 160) (hby : ∀ i, i < 320 → b i < 256) : ∀ (r k p : Nat) (g1 g2 g3 g : Nat → Int32), n + 1 - p ≤ r → p ≤ n → 3 * k ≤ p → stored g1 g2 g3 g k → ∃ (v : Int32) (m : Nat) (st pc F : Int32) (g1' g2' g3' g' : Nat → Int32), (v < 0 ∨ (v = nI m ∧ 1 ≤ m ∧ m ≤ 80 ∧ st = nI m ∧ stored g1' g2' g3' g' m)) ∧ (∀ (A V : Nat → Nat → Int32), oc20 A b → am_fin [(z_D_readText, 32, [.ref 21, .int (nI n), .int 1, .int (nI k)], [])] (hp L xs (up22 A g1 g2 g3) (rv V (nI n) (nI k) (nI p) 0) K T) (some v) (hp L xs (up22 A g1' g2' g3') (rv V (nI n) st pc F) K T)) ∧ ∀ (B W : Nat → Nat → Int32) (z : Int32), oc42 B b → ∃ pr Fr z' : Int32, am_fin [(z_M_readsAll, 24, [.ref 36, .int (nI n), .int (nI k), .int 1], [])] (hp L xs (upA B 43 g) (mv W (nI n) (nI p) 0 z) K T) (some v) (hp L xs (upA B 43 g') (mv W (nI n) pr Fr z') K T) := by
  intro r
  induction r with
  | zero => intro k p g1 g2 g3 g h1 h2; omega
  | succ r ih =>
    intro k p g1 g2 g3 g h1 h2 h3 hs
    have hk : k < 80 := by omega
    have c80 : ¬ (80 : Int32) ≤ nI k := by rw [show (80 : Int32) = nI 80 from rfl, nI_leI (by omega) (by omega)]; omega
    have c81 : ¬ (80 : Int32) ≤ nI k + 1 := by rw [nI_1, show (80 : Int32) = nI 80 from rfl, nI_leI (by omega) (by omega)]; omega
    rcases st_both (L := L) (xs := xs) (K := K) (T := T) b n k p hn hk h2 with ⟨F, pc, pr, f1, f2, f3⟩ | ⟨l, a, e, p', pr, q1, q2, q3, q4, q5, q6, q7, q8, q9, q10⟩
    · obtain ⟨g', f3⟩ := f3 g
      have nz := neg_nz f1
      refine ⟨F, 0, nI k, nI pc, F, g1, g2, g3, g', Or.inl f1, fun A V ok => ?_, fun B W z ok => ?_⟩
      · have ok' : oc20 (up22 A g1 g2 g3) b := ok
        refine sg_D_readText_32 (iteN c80 (iteN (by decide) (am_fin.call (f2 _ V (nI k) ok') (sg_D_readText_47r ?_))))
        rw [rv7]
        refine iteN nz (sg_D_readText_32 (iteN c81 (iteP rfl ?_)))
        rw [rv7]
        exact iteN nz ⟨rfl, rfl⟩
      · obtain ⟨z', f4⟩ := f3 B W z ok
        refine ⟨nI pr, F, z', sg_M_readsAll_24 (iteN (by decide) (am_fin.call f4 (sg_M_readsAll_33r ?_)))⟩
        rw [mv10]
        refine iteN nz (sg_M_readsAll_24 (iteP rfl ?_))
        rw [mv10]
        exact iteN nz ⟨rfl, rfl⟩
    · obtain ⟨g', y1, y2, y3, y4, y5⟩ := q10 g
      have hs' : stored (upd g1 k l) (upd g2 k (nI a)) (upd g3 k (nI e)) g' (k + 1) := by
        intro j hj
        by_cases ej : j = k
        · rw [ej]
          exact ⟨l, a, e, q1, q2, q3, upd_at _ _ _, upd_at _ _ _, upd_at _ _ _, y2, y3, y4⟩
        · obtain ⟨x, a', e', w1, w2, w3, w4, w5, w6, w7, w8, w9⟩ := hs j (by omega)
          rw [upd_no _ _ ej, upd_no _ _ ej, upd_no _ _ ej, y1 _ (by omega), y1 _ (by omega), y1 _ (by omega)]
          exact ⟨x, a', e', w1, w2, w3, w4, w5, w6, w7, w8, w9⟩
      have cst : ∀ (A V : Nat → Nat → Int32), oc20 A b → am_fin [(z_D_readStay, 0, [.ref 21, .int (nI k), .null, .null, .null], [])] (hp L xs (up22 A g1 g2 g3) (rv V (nI n) (nI k) (nI p) 0) K T) none (hp L xs (up22 A (upd g1 k l) (upd g2 k (nI a)) (upd g3 k (nI e))) (rv V (nI n) (nI k + 1) (nI p') 0) K T) := by
        intro A V ok
        have ok' : oc20 (up22 A g1 g2 g3) b := ok
        have k1 := q9 (up22 A g1 g2 g3) V (nI k) ok'
        rw [show upA (upA (upA (up22 A g1 g2 g3) 22 (upd (up22 A g1 g2 g3 22) k l)) 23 (upd (up22 A g1 g2 g3 23) k (nI a))) 24 (upd (up22 A g1 g2 g3 24) k (nI e)) = up22 A (upd g1 k l) (upd g2 k (nI a)) (upd g3 k (nI e)) from st3 A g1 g2 g3 _ _ _] at k1
        exact k1
      have ckp : (nI p').toNatClampNeg = p' := nI_clamp (by omega)
      have cnp : (nI n ≤ nI p') ↔ n ≤ p' := nI_leI (by omega) (by omega)
      by_cases h4 : n ≤ p'
      · -- the text's end
        have es : sgn b n p' = -1 := by unfold sgn; rw [if_neg (by omega)]
        refine ⟨nI (k + 1), k + 1, nI k + 1, nI p', 0, upd g1 k l, upd g2 k (nI a), upd g3 k (nI e), g', Or.inr ⟨rfl, by omega, by omega, nI_1 k, hs'⟩, fun A V ok => ?_, fun B W z ok => ?_⟩
        · refine sg_D_readText_32 (iteN c80 (iteN (by decide) (am_fin.call (cst A V ok) (sg_D_readText_47r ?_))))
          rw [rv7, rv4, rv6]
          refine iteP rfl (iteP (cnp.mpr h4) (sg_D_readText_32 (iteN c81 (iteP rfl ?_))))
          rw [rv7, rv5]
          exact iteP rfl ⟨by rw [nI_1], rfl⟩
        · obtain ⟨z', y6⟩ := y5 B W z ok
          have ok' : oc42 (upA B 43 g') b := ok
          have ks := M_see_c (L := L) (xs := xs) (A := upA B 43 g') (V := W) (K := K) (T := T) b ok' n (by omega) 0 z' pr q7
          rw [q8, es] at ks
          refine ⟨nI p', 0, z', sg_M_readsAll_24 (iteN (by decide) (am_fin.call y6 (sg_M_readsAll_33r ?_)))⟩
          rw [mv10]
          refine iteP rfl (am_fin.call ks (sg_M_readsAll_48r (iteP rfl (sg_M_readsAll_24 (iteP rfl ?_)))))
          rw [mv10]
          exact iteP rfl ⟨by rw [nI_1], rfl⟩
      · have hb := hby p' (by omega)
        have es : sgn b n p' = nI (b p') := by unfold sgn; rw [if_pos (by omega)]
        have ib : ¬ (nI p' < 0 ∨ 320 ≤ (nI p').toNatClampNeg) := nI_inb (by omega) (by omega)
        have c44 : (nI (b p') = 44) ↔ b p' = 44 := by rw [show (44 : Int32) = nI 44 from rfl, nI_eq (by omega) (by omega)]
        have cnn : ¬ nI n ≤ nI p' := mt cnp.mp h4
        by_cases h5 : b p' = 44
        · -- a comma
          obtain ⟨v, m, st, pc, F, g1', g2', g3', g'', i1, i2, i3⟩ := ih (k + 1) (p' + 1) (upd g1 k l) (upd g2 k (nI a)) (upd g3 k (nI e)) g' (by omega) (by omega) (by omega) hs'
          refine ⟨v, m, st, pc, F, g1', g2', g3', g'', i1, fun A V ok => ?_, fun B W z ok => ?_⟩
          · have i2 := i2 A V ok
            refine sg_D_readText_32 (iteN c80 (iteN (by decide) (am_fin.call (cst A V ok) (sg_D_readText_47r ?_))))
            have o1 : up22 A (upd g1 k l) (upd g2 k (nI a)) (upd g3 k (nI e)) 20 (nI p').toNatClampNeg = nI (b p') := by rw [ckp]; exact (ok p' (by omega)).1
            rw [rv7, rv4, rv6, o1, rvu6, nI_1, nI_1]
            exact iteP rfl (iteN cnn ⟨ib, iteN (nI_neg1 (by omega)) (iteN cnn ⟨ib, iteP (c44.mpr h5) i2⟩)⟩)
          · obtain ⟨z', y6⟩ := y5 B W z ok
            have ok' : oc42 (upA B 43 g') b := ok
            have ks := M_see_c (L := L) (xs := xs) (A := upA B 43 g') (V := W) (K := K) (T := T) b ok' n (by omega) 0 z' pr q7
            rw [q8, es] at ks
            have ks2 := M_see_c (L := L) (xs := xs) (A := upA B 43 g') (V := W) (K := K) (T := T) b ok' n (by omega) 0 z' p' q5
            rw [q6, es] at ks2
            obtain ⟨pr', Fr, z'', i4⟩ := i3 B W z' ok
            refine ⟨pr', Fr, z'', sg_M_readsAll_24 (iteN (by decide) (am_fin.call y6 (sg_M_readsAll_33r ?_)))⟩
            rw [mv10]
            refine iteP rfl (am_fin.call ks (sg_M_readsAll_48r (iteN (nI_neg1 (by omega)) (am_fin.call ks2 (sg_M_readsAll_66r (iteP (c44.mpr h5) (iteN (by decide) ?_)))))))
            rw [mv8, mvu8, nI_1, nI_1]
            exact i4
        · -- something else
          obtain ⟨Ff, hFf, nz, fneg⟩ : ∃ Ff : Int32, (-1000 : Int32) * 1 - nI p' = Ff ∧ ¬ Ff = 0 ∧ Ff < 0 := ⟨_, rfl, f1_ne (by omega), f1_neg (by omega)⟩
          refine ⟨Ff, 0, nI k + 1, nI p', Ff, upd g1 k l, upd g2 k (nI a), upd g3 k (nI e), g', Or.inl fneg, fun A V ok => ?_, fun B W z ok => ?_⟩
          · refine sg_D_readText_32 (iteN c80 (iteN (by decide) (am_fin.call (cst A V ok) (sg_D_readText_47r ?_))))
            have o1 : up22 A (upd g1 k l) (upd g2 k (nI a)) (upd g3 k (nI e)) 20 (nI p').toNatClampNeg = nI (b p') := by rw [ckp]; exact (ok p' (by omega)).1
            rw [rv7, rv4, rv6, o1, rvu7, hFf]
            refine iteP rfl (iteN cnn ⟨ib, iteN (nI_neg1 (by omega)) (iteN cnn ⟨ib, iteN (mt c44.mp h5) (iteP rfl (sg_D_readText_32 (iteN c81 (iteP rfl ?_))))⟩)⟩)
            rw [rv7]
            exact iteN nz ⟨rfl, rfl⟩
          · obtain ⟨z', y6⟩ := y5 B W z ok
            have ok' : oc42 (upA B 43 g') b := ok
            have ks := M_see_c (L := L) (xs := xs) (A := upA B 43 g') (V := W) (K := K) (T := T) b ok' n (by omega) 0 z' pr q7
            rw [q8, es] at ks
            have ks2 := M_see_c (L := L) (xs := xs) (A := upA B 43 g') (V := W) (K := K) (T := T) b ok' n (by omega) 0 z' p' q5
            rw [q6, es] at ks2
            refine ⟨nI p', Ff, z', sg_M_readsAll_24 (iteN (by decide) (am_fin.call y6 (sg_M_readsAll_33r ?_)))⟩
            rw [mv10]
            refine iteP rfl (am_fin.call ks (sg_M_readsAll_48r (iteN (nI_neg1 (by omega)) (am_fin.call ks2 (sg_M_readsAll_66r (iteN (mt c44.mp h5) ?_))))))
            rw [mv10, mv8, mvu10, hFf]
            refine iteP rfl (sg_M_readsAll_24 (iteP rfl ?_))
            rw [mv10]
            exact iteN nz ⟨rfl, rfl⟩
/-- a text, on both sides -/
theorem rt_c (b : Nat → Nat) (n : Nat) (hn : n ≤ 160) (hn1 : 1 ≤ n) (hby : ∀ i, i < 320 → b i < 256) (A V : Nat → Nat → Int32) (ok : oc20 A b) (g : Nat → Int32) : ∃ (v : Int32) (m : Nat) (st pc F : Int32) (g1' g2' g3' g' : Nat → Int32), (v < 0 ∨ (v = nI m ∧ 1 ≤ m ∧ m ≤ 80 ∧ st = nI m ∧ stored g1' g2' g3' g' m)) ∧ am_fin [(z_D_readText, 0, [.ref 21, .int (nI n), .null, .null], [])] (hp L xs A V K T) (some v) (hp L xs (up22 A g1' g2' g3') (rv V (nI n) st pc F) K T) ∧ ∀ (B W : Nat → Nat → Int32), oc42 B b → B 43 = g → ∃ pr Fr z' : Int32, am_fin [(z_M_readsAll, 0, [.ref 36, .int (nI n), .null, .null], [])] (hp L xs B W K T) (some v) (hp L xs (upA B 43 g') (mv (upV W 36 7 0) (nI n) pr Fr z') K T) := by
  obtain ⟨v, m, st, pc, F, g1', g2', g3', g', i1, i2, i3⟩ := rt_lp (L := L) (xs := xs) (K := K) (T := T) b n hn hby (n + 1) 0 0 (A 22) (A 23) (A 24) g (by omega) (by omega) (by omega) (fun j hj => absurd hj (by omega))
  refine ⟨v, m, st, pc, F, g1', g2', g3', g', i1, ?_, fun B W okB eB => ?_⟩
  · have i2 := i2 A V ok
    rw [show up22 A (A 22) (A 23) (A 24) = A from by unfold up22; rw [upA_self, upA_self, upA_self]] at i2
    refine sg_D_readText_0 ?_
    rw [show (if Int32.ofNat 320 < nI n then Int32.ofNat 320 else nI n) = nI n from if_neg (by rw [show Int32.ofNat 320 = nI 320 from rfl, nI_ltI (by omega) (by omega)]; omega)]
    exact i2
  · obtain ⟨pr, Fr, z', i4⟩ := i3 B (upV W 36 7 0) (W 36 11) okB
    rw [← eB, upA_self] at i4
    refine ⟨pr, Fr, z', sg_M_readsAll_0 ?_⟩
    rw [show upV (upV (upV (upV W 36 7 0) 36 9 (nI n)) 36 8 0) 36 10 0 = mv (upV W 36 7 0) (nI n) (nI 0) 0 (W 36 11) from (upV_self (upV (upV (upV (upV W 36 7 0) 36 9 (nI n)) 36 8 0) 36 10 0) 36 11).symm]
    exact i4
end
/-- stays laid over days -/
def ly (f g1 g2 g3 : Nat → Int32) : Nat → Nat → Int32
  | 0 => f
  | j + 1 => fl (ly f g1 g2 g3 j) (g2 j).toNatClampNeg ((g3 j).toNatClampNeg + 1 - (g2 j).toNatClampNeg) (g1 j)
theorem ly_s {f g1 g2 g3 : Nat → Int32} {j a e : Nat} {x : Int32} (h1 : g1 j = x) (h2 : g2 j = nI a) (h3 : g3 j = nI e) (ha : a ≤ e) (he : e < 1080) : ly f g1 g2 g3 (j + 1) = fl (ly f g1 g2 g3 j) a (e + 1 - a) x := by
  show fl (ly f g1 g2 g3 j) (g2 j).toNatClampNeg ((g3 j).toNatClampNeg + 1 - (g2 j).toNatClampNeg) (g1 j) = _
  rw [h1, h2, h3, nI_clamp (by omega), nI_clamp (by omega)]
theorem ly_ok {f g1 g2 g3 g : Nat → Int32} {m : Nat} (hs : stored g1 g2 g3 g m) (pf : ∀ d, d < 1080 → pl (f d)) : ∀ j, j ≤ m → (∀ d, d < 1080 → pl (ly f g1 g2 g3 j d)) ∧ ∀ d, 1080 ≤ d → ly f g1 g2 g3 j d = f d
  | 0, _ => ⟨pf, fun _ _ => rfl⟩
  | j + 1, hj => by
    obtain ⟨p1, p2⟩ := ly_ok hs pf j (by omega)
    obtain ⟨x, a, e, w1, w2, w3, w4, w5, w6, -⟩ := hs j (by omega)
    rw [ly_s w4 w5 w6 w2 w3]
    refine ⟨fl_pl w1 p1, fun d hd => ?_⟩
    unfold fl
    rw [if_neg (by omega)]
    exact p2 d hd
theorem ly_congr {f f' g1 g2 g3 g : Nat → Int32} {m : Nat} (hs : stored g1 g2 g3 g m) (e : ∀ d, d < 1080 → f d = f' d) : ∀ j, j ≤ m → ∀ d, d < 1080 → ly f g1 g2 g3 j d = ly f' g1 g2 g3 j d
  | 0, _ => e
  | j + 1, hj => by
    have ih := ly_congr hs e j (by omega)
    obtain ⟨x, a, e', w1, w2, w3, w4, w5, w6, -⟩ := hs j (by omega)
    intro d hd
    rw [ly_s w4 w5 w6 w2 w3, ly_s w4 w5 w6 w2 w3]
    unfold fl
    rw [ih d hd]
section
variable {L : Nat} {xs : Nat → Int32} {A V : Nat → Nat → Int32} {K : Nat → Option Nat} {T : am_H}
theorem D_lo_3_c {g1 g2 g3 g : Nat → Int32} {m : Nat} (hs : stored g1 g2 g3 g m) (hm : m ≤ 80) (f : Nat → Int32) (h22 : A 22 = g1) (h23 : A 23 = g2) (h24 : A 24 = g3) (h5 : V 21 5 = nI m) : ∀ r k, k + r = m → am_fin [(z_D_layOver, 2, [.ref 21, .ref 3, .int (nI k)], [])] (hp L xs (upA A 4 (ly f g1 g2 g3 k)) V K T) none (hp L xs (upA A 4 (ly f g1 g2 g3 m)) V K T) := by
  intro r
  induction r with
  | zero =>
    intro k hk
    rw [show k = m by omega]
    exact sg_D_layOver_3_2 (iteP (by rw [h5]; exact Int32.le_refl _) ⟨rfl, rfl⟩)
  | succ r ih =>
    intro k hk
    have i1 := ih (k + 1) (by omega)
    obtain ⟨x, a, e, w1, w2, w3, w4, w5, w6, -⟩ := hs k (by omega)
    rw [← nI_1, ly_s w4 w5 w6 w2 w3] at i1
    have ib : ¬ (nI k < 0 ∨ 80 ≤ (nI k).toNatClampNeg) := nI_inb (by omega) (by omega)
    have kp := P_put_3_c (L := L) (xs := xs) (A := upA A 4 (ly f g1 g2 g3 k)) (V := V) (K := K) (T := T) x a e w3 (by omega)
    rw [upA_upA, upA_same] at kp
    refine sg_D_layOver_3_2 (iteN (by rw [h5, nI_leI (by omega) (by omega)]; omega) (iteN (by rw [show (80 : Int32) = nI 80 from rfl, nI_leI (by omega) (by omega)]; omega) ⟨ib, ib, ib, ?_⟩))
    rw [nI_clamp (by omega), show upA A 4 (ly f g1 g2 g3 k) 22 = g1 from h22, show upA A 4 (ly f g1 g2 g3 k) 23 = g2 from h23, show upA A 4 (ly f g1 g2 g3 k) 24 = g3 from h24, w4, w5, w6]
    exact am_fin.call kp (sg_D_layOver_3_38r i1)
theorem D_lo_34_c {g1 g2 g3 g : Nat → Int32} {m : Nat} (hs : stored g1 g2 g3 g m) (hm : m ≤ 80) (f : Nat → Int32) (h22 : A 22 = g1) (h23 : A 23 = g2) (h24 : A 24 = g3) (h5 : V 21 5 = nI m) : ∀ r k, k + r = m → am_fin [(z_D_layOver, 2, [.ref 21, .ref 34, .int (nI k)], [])] (hp L xs (upA A 35 (ly f g1 g2 g3 k)) V K T) none (hp L xs (upA A 35 (ly f g1 g2 g3 m)) V K T) := by
  intro r
  induction r with
  | zero =>
    intro k hk
    rw [show k = m by omega]
    exact sg_D_layOver_34_2 (iteP (by rw [h5]; exact Int32.le_refl _) ⟨rfl, rfl⟩)
  | succ r ih =>
    intro k hk
    have i1 := ih (k + 1) (by omega)
    obtain ⟨x, a, e, w1, w2, w3, w4, w5, w6, -⟩ := hs k (by omega)
    rw [← nI_1, ly_s w4 w5 w6 w2 w3] at i1
    have ib : ¬ (nI k < 0 ∨ 80 ≤ (nI k).toNatClampNeg) := nI_inb (by omega) (by omega)
    have kp := P_put_34_c (L := L) (xs := xs) (A := upA A 35 (ly f g1 g2 g3 k)) (V := V) (K := K) (T := T) x a e w3 (by omega)
    rw [upA_upA, upA_same] at kp
    refine sg_D_layOver_34_2 (iteN (by rw [h5, nI_leI (by omega) (by omega)]; omega) (iteN (by rw [show (80 : Int32) = nI 80 from rfl, nI_leI (by omega) (by omega)]; omega) ⟨ib, ib, ib, ?_⟩))
    rw [nI_clamp (by omega), show upA A 35 (ly f g1 g2 g3 k) 22 = g1 from h22, show upA A 35 (ly f g1 g2 g3 k) 23 = g2 from h23, show upA A 35 (ly f g1 g2 g3 k) 24 = g3 from h24, w4, w5, w6]
    exact am_fin.call kp (sg_D_layOver_34_38r i1)
theorem M_ls_in (f : Nat → Int32) (x v1 : Int32) (k a e : Nat) (hk : k < 80) (he : e < 1080) (h0 : A 43 (3 * k) = x) (h2 : A 43 (3 * k + 2) = nI e) {w : Option Int32} {h' : am_H} (nx : am_fin [(z_M_laysStays, 2, [.ref 36, .int v1, .int (nI k + 1), .int (nI (e + 1))], [])] (hp L xs (upA A 37 (fl f a (e + 1 - a) x)) V K T) w h') : ∀ r j, a + j + r = e + 1 → am_fin [(z_M_laysStays, 18, [.ref 36, .int v1, .int (nI k), .int (nI (a + j))], [])] (hp L xs (upA A 37 (fl f a j x)) V K T) w h' := by
  have e0 : (3 : Int32) * nI k = nI (3 * k) := by rw [l_3, nI_mul]
  have e2 : (3 : Int32) * nI k + 2 = nI (3 * k + 2) := by rw [l_3, nI_mul, l_2, nI_add]
  have i2 : ¬ ((3 : Int32) * nI k + 2 < 0 ∨ 240 ≤ ((3 : Int32) * nI k + 2).toNatClampNeg) := by rw [e2]; exact nI_inb (by omega) (by omega)
  have i0 : ¬ ((3 : Int32) * nI k < 0 ∨ 240 ≤ ((3 : Int32) * nI k).toNatClampNeg) := by rw [e0]; exact nI_inb (by omega) (by omega)
  have c2 : upA A 37 f 43 ((3 : Int32) * nI k + 2).toNatClampNeg = nI e := by rw [e2, nI_clamp (by omega)]; exact h2
  intro r
  induction r with
  | zero =>
    intro j hj
    have c2 : upA A 37 (fl f a j x) 43 ((3 : Int32) * nI k + 2).toNatClampNeg = nI e := c2
    refine sg_M_laysStays_18 ⟨i2, iteP (by rw [c2, nI_ltI (by omega) (by omega)]; omega) ?_⟩
    rw [show a + j = e + 1 by omega, show j = e + 1 - a by omega]
    exact nx
  | succ r ih =>
    intro j hj
    have i1 := ih (j + 1) (by omega)
    rw [← Nat.add_assoc, ← nI_1, ← fl_s] at i1
    have c2 : upA A 37 (fl f a j x) 43 ((3 : Int32) * nI k + 2).toNatClampNeg = nI e := c2
    have c0 : upA A 37 (fl f a j x) 43 ((3 : Int32) * nI k).toNatClampNeg = x := by rw [e0, nI_clamp (by omega)]; exact h0
    refine sg_M_laysStays_18 ⟨i2, iteN (by rw [c2, nI_ltI (by omega) (by omega)]; omega) ⟨i0, nI_inb (by omega) (by omega), ?_⟩⟩
    rw [c0, nI_clamp (by omega), upA_upA, upA_same]
    exact i1
theorem M_ls_c {g1 g2 g3 g : Nat → Int32} {m : Nat} (hs : stored g1 g2 g3 g m) (hm : m ≤ 80) (f : Nat → Int32) (h43 : A 43 = g) : ∀ r k, k + r = m → ∀ u : Option Int32, am_fin [(z_M_laysStays, 2, [.ref 36, .int (nI m), .int (nI k), dl u], [])] (hp L xs (upA A 37 (ly f g1 g2 g3 k)) V K T) none (hp L xs (upA A 37 (ly f g1 g2 g3 m)) V K T) := by
  intro r
  induction r with
  | zero =>
    intro k hk u
    rw [show k = m by omega]
    cases u
    · exact sg_M_laysStays_2 (iteP (Int32.le_refl _) ⟨rfl, rfl⟩)
    · exact sg_M_laysStays_2b (iteP (Int32.le_refl _) ⟨rfl, rfl⟩)
  | succ r ih =>
    intro k hk u
    obtain ⟨x, a, e, w1, w2, w3, w4, w5, w6, w7, w8, w9⟩ := hs k (by omega)
    have i1 := ih (k + 1) (by omega) (some (nI (e + 1)))
    rw [← nI_1 k, ly_s w4 w5 w6 w2 w3] at i1
    have e1 : (3 : Int32) * nI k + 1 = nI (3 * k + 1) := by rw [l_3, nI_mul, nI_1]
    have i2 : ¬ ((3 : Int32) * nI k + 1 < 0 ∨ 240 ≤ ((3 : Int32) * nI k + 1).toNatClampNeg) := by rw [e1]; exact nI_inb (by omega) (by omega)
    have c1 : upA A 37 (ly f g1 g2 g3 k) 43 ((3 : Int32) * nI k + 1).toNatClampNeg = nI a := by rw [e1, nI_clamp (by omega), show upA A 37 (ly f g1 g2 g3 k) 43 = g from h43]; exact w8
    have lp := M_ls_in (L := L) (xs := xs) (A := A) (V := V) (K := K) (T := T) (ly f g1 g2 g3 k) x (nI m) k a e (by omega) w3 (by rw [h43]; exact w7) (by rw [h43]; exact w9) i1 (e + 1 - a) 0 (by omega)
    rw [fl_0, Nat.add_zero] at lp
    have c : ¬ nI m ≤ nI k := by rw [nI_leI (by omega) (by omega)]; omega
    cases u
    · refine sg_M_laysStays_2 (iteN c ⟨i2, ?_⟩)
      rw [c1]; exact lp
    · refine sg_M_laysStays_2b (iteN c ⟨i2, ?_⟩)
      rw [c1]; exact lp
/-- the bytes of the tape -/
theorem bytes_of {f g : Nat → Int32} (h : okt f g) : ∃ b : Nat → Nat, (∀ i, i < 320 → b i < 256) ∧ ∀ i, i < 320 → f i = nI (b i) ∧ g i = (nI (b i)).toInt8.toInt32 := by
  refine ⟨fun i => (f i).toNatClampNeg, fun i hi => ?_, fun i hi => ?_⟩
  · obtain ⟨c, h1, h2, -⟩ := h i hi
    show (f i).toNatClampNeg < 256
    rw [h2, nI_clamp (by omega)]; exact h1
  · obtain ⟨c, h1, h2, h3⟩ := h i hi
    show f i = nI (f i).toNatClampNeg ∧ g i = (nI (f i).toNatClampNeg).toInt8.toInt32
    rw [h2, nI_clamp (by omega)]; exact ⟨rfl, h3⟩
theorem pr_calendar (a1 : Int32) (R : RI A V K T) : PRQ z_L_calendar z_M_calendar [.ref 1, .int a1, .null] [.ref 36, .int a1, .null] L xs A V K T := by
  by_cases c1 : a1 < 1
  · refine ⟨(-1), A, V, K, T, A, V, sg_L_calendar_0 ?_, sg_M_calendar_0 ?_, R⟩
    · (try simp only [lgl, lgg]); (repeat first | refine iteP (by first | assumption) ?_ | refine iteN (by first | assumption) ?_); (constructor <;> first | rfl | trivial)
    · (try simp only [lgl, lgg]); (repeat first | refine iteP (by first | assumption) ?_ | refine iteN (by first | assumption) ?_); (constructor <;> first | rfl | trivial)
  by_cases c2 : (160 : Int32) < a1
  · refine ⟨(-1), A, V, K, T, A, V, sg_L_calendar_0 ?_, sg_M_calendar_0 ?_, R⟩
    · (try simp only [lgl, lgg]); (repeat first | refine iteP (by first | assumption) ?_ | refine iteN (by first | assumption) ?_); (constructor <;> first | rfl | trivial)
    · (try simp only [lgl, lgg]); (repeat first | refine iteP (by first | assumption) ?_ | refine iteN (by first | assumption) ?_); (constructor <;> first | rfl | trivial)
  have z1 : ¬ a1 < 0 := fun z => c1 (Int32.lt_iff_toInt_lt.mpr (by rw [Int32.lt_iff_toInt_lt, Int32.toInt_zero] at z; rw [show (1 : Int32).toInt = 1 from by decide]; omega))
  obtain ⟨n, hn, rfl⟩ := i32_nat (m := 160) (by omega) z1 c2
  have hn1 : 1 ≤ n := by rw [l_1, nI_ltI (by omega) (by omega)] at c1; omega
  obtain ⟨⟨t, ht, t1, t2⟩, ok⟩ := R.2.2.2.1
  have ok : okt (A 20) (A 42) := ok
  obtain ⟨r1, r2, r3, r4, r5, r6, r7, r8⟩ := id R.1
  by_cases c3 : t < n
  · have k1 : V 19 1 < nI n := by rw [t1, nI_ltI (by omega) (by omega)]; exact c3
    have k2 : V 36 7 < nI n := by rw [t2, nI_ltI (by omega) (by omega)]; exact c3
    refine ⟨-1, A, V, K, T, A, V, sg_L_calendar_0 ?_, sg_M_calendar_0 ?_, R⟩
    · (try simp only [lgl, lgg]); (repeat first | refine iteP (by first | assumption) ?_ | refine iteN (by first | assumption) ?_); (constructor <;> first | rfl | trivial)
    · (try simp only [lgl, lgg]); (repeat first | refine iteP (by first | assumption) ?_ | refine iteN (by first | assumption) ?_); (constructor <;> first | rfl | trivial)
  have k1 : ¬ V 19 1 < nI n := by rw [t1, nI_ltI (by omega) (by omega)]; exact c3
  have k2 : ¬ V 36 7 < nI n := by rw [t2, nI_ltI (by omega) (by omega)]; exact c3
  obtain ⟨b, hby, hb2⟩ := bytes_of ok
  have o20 : oc20 A b := fun i hi => ⟨(hb2 i hi).1, hby i hi⟩
  have o42 : oc42 A b := fun i hi => ⟨(hb2 i hi).2, hby i hi⟩
  obtain ⟨v, m, st, pc, F, g1, g2, g3, g, w1, w2, w3⟩ := rt_c (L := L) (xs := xs) (K := K) (T := T) b n hn hn1 hby A V o20 (A 43)
  rcases w1 with w1 | ⟨w1, w4, w5, w6, w7⟩
  · obtain ⟨pr, Fr, z', w8⟩ := w3 (up22 A g1 g2 g3) (upV (rv V (nI n) st pc F) 19 1 0) o42 rfl
    refine ⟨v, up22 A g1 g2 g3, upV (rv V (nI n) st pc F) 19 1 0, K, T, upA (up22 A g1 g2 g3) 43 g, mv (upV (upV (rv V (nI n) st pc F) 19 1 0) 36 7 0) (nI n) pr Fr z', sg_L_calendar_0 ?_, sg_M_calendar_0 ?_, ⟨R.1, R.2.1, R.2.2.1, ⟨⟨0, by omega, rfl, rfl⟩, R.2.2.2.1.2⟩, R.2.2.2.2⟩⟩
    · (try simp only [lgl, lgg]); (repeat first | refine iteP (by first | assumption) ?_ | refine iteN (by first | assumption) ?_)
      exact am_fin.call w2 (sg_L_calendar_18r (iteP (Int32.le_of_lt w1) ⟨(by first | rfl | trivial), (by first | rfl | trivial)⟩))
    · (try simp only [lgl, lgg]); (repeat first | refine iteP (by first | assumption) ?_ | refine iteN (by first | assumption) ?_)
      exact am_fin.call w8 (sg_M_calendar_15r (iteP (Int32.le_of_lt w1) ⟨(by first | rfl | trivial), (by first | rfl | trivial)⟩))
  · have pos : ¬ v ≤ 0 := by rw [w1, l_0, nI_leI (by omega) (by omega)]; omega
    have lo := D_lo_3_c (L := L) (xs := xs) (A := up22 A g1 g2 g3) (V := upV (rv V (nI n) st pc F) 19 1 0) (K := K) (T := T) w7 w5 (A 4) rfl rfl rfl w6 m 0 (by omega)
    rw [show upA (up22 A g1 g2 g3) 4 (ly (A 4) g1 g2 g3 0) = up22 A g1 g2 g3 from upA_self (up22 A g1 g2 g3) 4] at lo
    obtain ⟨l1, l2⟩ := ly_ok w7 r5 m (Nat.le_refl m)
    obtain ⟨pr, Fr, z', w8⟩ := w3 (upA (up22 A g1 g2 g3) 4 (ly (A 4) g1 g2 g3 m)) (upV (rv V (nI n) st pc F) 19 1 0) o42 rfl
    have ls := M_ls_c (L := L) (xs := xs) (A := upA (upA (up22 A g1 g2 g3) 4 (ly (A 4) g1 g2 g3 m)) 43 g) (V := mv (upV (upV (rv V (nI n) st pc F) 19 1 0) 36 7 0) (nI n) pr Fr z') (K := K) (T := T) w7 w5 (A 4) rfl m 0 (by omega) none
    have e37 : upA (upA (up22 A g1 g2 g3) 4 (ly (A 4) g1 g2 g3 m)) 43 g 37 = A 4 := r1
    rw [show upA (upA (upA (up22 A g1 g2 g3) 4 (ly (A 4) g1 g2 g3 m)) 43 g) 37 (ly (A 4) g1 g2 g3 0) = upA (upA (up22 A g1 g2 g3) 4 (ly (A 4) g1 g2 g3 m)) 43 g from by rw [show ly (A 4) g1 g2 g3 0 = upA (upA (up22 A g1 g2 g3) 4 (ly (A 4) g1 g2 g3 m)) 43 g 37 from e37.symm]; exact upA_self _ _] at ls
    refine ⟨v, upA (up22 A g1 g2 g3) 4 (ly (A 4) g1 g2 g3 m), upV (rv V (nI n) st pc F) 19 1 0, K, T, upA (upA (upA (up22 A g1 g2 g3) 4 (ly (A 4) g1 g2 g3 m)) 43 g) 37 (ly (A 4) g1 g2 g3 m), mv (upV (upV (rv V (nI n) st pc F) 19 1 0) 36 7 0) (nI n) pr Fr z', sg_L_calendar_0 ?_, sg_M_calendar_0 ?_, ?_⟩
    · (try simp only [lgl, lgg]); (repeat first | refine iteP (by first | assumption) ?_ | refine iteN (by first | assumption) ?_)
      exact am_fin.call w2 (sg_L_calendar_18r (iteN pos (am_fin.call (sg_D_layOver_3_0 lo) (sg_L_calendar_45r ⟨(by first | rfl | trivial), (by first | rfl | trivial)⟩))))
    · (try simp only [lgl, lgg]); (repeat first | refine iteP (by first | assumption) ?_ | refine iteN (by first | assumption) ?_)
      refine am_fin.call w8 (sg_M_calendar_15r (iteN pos ?_))
      rw [w1]
      exact am_fin.call (sg_M_laysStays_0 ls) (sg_M_calendar_25r ⟨(by first | rfl | trivial), (by first | rfl | trivial)⟩)
    · exact ⟨⟨rfl, r2, r3, r4, l1, r6, r7, r8⟩, R.2.1, R.2.2.1, ⟨⟨0, by omega, rfl, rfl⟩, R.2.2.2.1.2⟩, fun d hd => ⟨(l2 d hd).trans (R.2.2.2.2.1 d hd).1, (R.2.2.2.2.1 d hd).2⟩, R.2.2.2.2.2⟩
end
