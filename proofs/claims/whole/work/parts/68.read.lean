/-- what of a stay's letter: a land, or nowhere -/
def stl (c : Nat) : Option Int32 := if c = 45 then some (-1) else if 97 ≤ c ∧ c ≤ 102 then some (nI (c - 97)) else none
theorem stl_pl {c : Nat} {l : Int32} (h : stl c = some l) : pl l := by
  unfold stl at h
  by_cases h1 : c = 45
  · rw [if_pos h1] at h; cases h; exact Or.inl rfl
  · rw [if_neg h1] at h
    by_cases h2 : 97 ≤ c ∧ c ≤ 102
    · rw [if_pos h2] at h; cases h; exact Or.inr ⟨c - 97, by omega, rfl⟩
    · rw [if_neg h2] at h; cases h
theorem nf_0 (x : Int32) : nf 0 x = x := by unfold nf; rw [if_pos rfl]
theorem nf_n {F : Int32} (h : ¬ F = 0) (x : Int32) : nf F x = F := by unfold nf; rw [if_neg h]
section
variable {L : Nat} {xs : Nat → Int32} {A V : Nat → Nat → Int32} {K : Nat → Option Nat} {T : am_H}
/-- the class's reader at a letter -/
theorem D_rs_4 (b : Nat → Nat) (ok : oc20 A b) (n p k : Nat) (hn : n ≤ 160) (hpn : p ≤ n) (st : Int32) {x : Option Int32} {h' : am_H}
    (bad : (n ≤ p ∨ stl (b p) = none) → x = none ∧ h' = hp L xs A (rv V (nI n) st (nI p) ((-1000) * 1 - nI p)) K T)
    (good : ∀ l, p < n → stl (b p) = some l → am_fin [(z_D_skipBlanks, 0, [.ref 21, .null], []), (z_D_readStay, 42, [.ref 21, .int (nI k), .int l, .null, .null], [])] (hp L xs A (rv V (nI n) st (nI p + 1) 0) K T) x h') : am_fin [(z_D_readStay, 4, [.ref 21, .int (nI k), .null, .null, .null], [])] (hp L xs A (rv V (nI n) st (nI p) 0) K T) x h' := by
  have ck : (nI p).toNatClampNeg = p := nI_clamp (by omega)
  have cn : (nI n ≤ nI p) ↔ n ≤ p := nI_leI (by omega) (by omega)
  refine sg_D_readStay_4r ?_
  simp only [rv4, rv5, rv6, rv7, rvu5, rvu6, rvu7]
  simp only [ck, cn]
  by_cases h1 : n ≤ p
  · refine iteP h1 ?_
    have bd := bad (Or.inl h1)
    first | exact iteP rfl bd | exact bd | simpa using bd
  · have ib : ¬ (nI p < 0 ∨ 320 ≤ p) := fun z => z.elim (nI_lt0 (by omega)) (by omega)
    obtain ⟨o1, o2⟩ := ok p (by omega)
    have c45 : (nI (b p) = 45) ↔ b p = 45 := by rw [show (45 : Int32) = nI 45 from rfl, nI_eq (by omega) (by omega)]
    simp only [o1, c45]
    refine iteN h1 ⟨ib, ?_⟩
    by_cases h2 : b p = 45
    · exact iteP h2 (good (-1) (by omega) (by unfold stl; rw [if_pos h2]))
    · refine iteN h2 ?_
      by_cases h3 : b p < 97
      · have e3 : nI (b p) - 97 < 0 := by
          rw [show (97 : Int32) = nI 97 from rfl, Int32.lt_iff_toInt_lt, nI_sub_toInt (by omega) (by omega), Int32.toInt_zero]; omega
        refine iteP e3 ?_
        have bd := bad (Or.inr (by unfold stl; rw [if_neg h2, if_neg (by omega)]))
        first | exact iteP rfl bd | exact bd
      · have e97 : nI (b p) - 97 = nI (b p - 97) := by rw [show (97 : Int32) = nI 97 from rfl]; exact nI_sub (by omega)
        rw [e97]
        refine iteN (nI_lt0 (by omega)) ?_
        by_cases h4 : 102 < b p
        · refine iteP (by rw [l_5, nI_ltI (by omega) (by omega)]; omega) ?_
          have bd := bad (Or.inr (by unfold stl; rw [if_neg h2, if_neg (by omega)]))
          first | exact iteP rfl bd | exact bd
        · exact iteN (by rw [l_5, nI_ltI (by omega) (by omega)]; omega) (iteN (nI_neg2 (by omega)) (good (nI (b p - 97)) (by omega) (by unfold stl; rw [if_neg h2, if_pos (by omega)])))
/-- the reference's at a letter -/
theorem M_rs_4 (b : Nat → Nat) (ok : oc42 A b) (n p k : Nat) (hn : n ≤ 160) (hpn : p ≤ n) (hk : k < 80) (z : Int32) {x : Option Int32} {h' : am_H}
    (bad : (n ≤ p ∨ stl (b p) = none) → x = none ∧ h' = hp L xs A (mv V (nI n) (nI p) ((-1000) * 1 - nI p) z) K T)
    (good : ∀ l r, p < n → stl (b p) = some l → am_fin [(z_M_readsDay, 0, [.ref 36, .int 0, .null, .null], []), (z_M_readsStay, 73, [.ref 36, .int (nI k), .int r], [])] (hp L xs (upA A 43 (upd (A 43) (3 * k) l)) (mv V (nI n) (nI p + 1) 0 z) K T) x h') : am_fin [(z_M_readsStay, 4, [.ref 36, .int (nI k), .null], [.int (sgn b n p)])] (hp L xs A (mv V (nI n) (nI p) 0 z) K T) x h' := by
  have e3k : (3 : Int32) * nI k = nI (3 * k) := by rw [l_3, nI_mul]
  have i3 : ¬ (nI (3 * k) < 0 ∨ 240 ≤ 3 * k) := fun z => z.elim (nI_lt0 (by omega)) (by omega)
  have c3 : (nI (3 * k)).toNatClampNeg = 3 * k := nI_clamp (by omega)
  refine sg_M_readsStay_4r ?_
  simp only [lgl, lgg, mv8, mv9, mv10, mv11, mvu8, mvu10, mvu11]
  simp only [e3k, c3]
  by_cases h1 : n ≤ p
  · have es : sgn b n p = -1 := by unfold sgn; rw [if_neg (by omega)]
    rw [es]
    have bd := bad (Or.inl h1)
    refine iteN (by decide) (iteP (by decide) ?_)
    first | exact iteP rfl bd | exact bd
  · obtain ⟨o1, o2⟩ := ok p (by omega)
    have es : sgn b n p = nI (b p) := by unfold sgn; rw [if_pos (by omega)]
    have c45 : (nI (b p) = 45) ↔ b p = 45 := by rw [show (45 : Int32) = nI 45 from rfl, nI_eq (by omega) (by omega)]
    have c97 : (nI (b p) < 97) ↔ b p < 97 := by rw [show (97 : Int32) = nI 97 from rfl, nI_ltI (by omega) (by omega)]
    have c102 : ((102 : Int32) < nI (b p)) ↔ 102 < b p := by rw [show (102 : Int32) = nI 102 from rfl, nI_ltI (by omega) (by omega)]
    rw [es]
    simp only [c45, c97, c102]
    by_cases h2 : b p = 45
    · exact iteP h2 (iteP h2 ⟨i3, good (-1) _ (by omega) (by unfold stl; rw [if_pos h2])⟩)
    · refine iteN h2 ?_
      by_cases h3 : b p < 97
      · refine iteP h3 ?_
        have bd := bad (Or.inr (by unfold stl; rw [if_neg h2, if_neg (by omega)]))
        first | exact iteP rfl bd | exact bd
      · have e97 : nI (b p) - 97 = nI (b p - 97) := by rw [show (97 : Int32) = nI 97 from rfl]; exact nI_sub (by omega)
        rw [e97]
        refine iteN h3 ?_
        by_cases h4 : 102 < b p
        · refine iteP h4 ?_
          have bd := bad (Or.inr (by unfold stl; rw [if_neg h2, if_neg (by omega)]))
          first | exact iteP rfl bd | exact bd
        · exact iteN h4 (iteN h2 ⟨i3, good (nI (b p - 97)) _ (by omega) (by unfold stl; rw [if_neg h2, if_pos (by omega)])⟩)
/-- a stay's text, on both sides -/
theorem st_both (b : Nat → Nat) (n k p : Nat) (hn : n ≤ 160) (hk : k < 80) (hpn : p ≤ n) :
    (∃ (F : Int32) (pc pr : Nat), F < 0 ∧ (∀ (A V : Nat → Nat → Int32) (st : Int32), oc20 A b → am_fin [(z_D_readStay, 0, [.ref 21, .int (nI k), .null, .null, .null], [])] (hp L xs A (rv V (nI n) st (nI p) 0) K T) none (hp L xs A (rv V (nI n) st (nI pc) F) K T)) ∧ ∀ g : Nat → Int32, ∃ g' : Nat → Int32, ∀ (B W : Nat → Nat → Int32) (z : Int32), oc42 B b → ∃ z' : Int32, am_fin [(z_M_readsStay, 0, [.ref 36, .int (nI k), .null], [])] (hp L xs (upA B 43 g) (mv W (nI n) (nI p) 0 z) K T) none (hp L xs (upA B 43 g') (mv W (nI n) (nI pr) F z') K T)) ∨
    (∃ (l : Int32) (a e p' pr : Nat), pl l ∧ a ≤ e ∧ e < 1080 ∧ p + 2 ≤ p' ∧ p' ≤ n ∧ skp b n p' = p' ∧ pr ≤ n ∧ skp b n pr = p' ∧ (∀ (A V : Nat → Nat → Int32) (st : Int32), oc20 A b → am_fin [(z_D_readStay, 0, [.ref 21, .int (nI k), .null, .null, .null], [])] (hp L xs A (rv V (nI n) st (nI p) 0) K T) none (hp L xs (upA (upA (upA A 22 (upd (A 22) k l)) 23 (upd (A 23) k (nI a))) 24 (upd (A 24) k (nI e))) (rv V (nI n) (nI k + 1) (nI p') 0) K T)) ∧ ∀ g : Nat → Int32, ∃ g' : Nat → Int32, (∀ i, i < 3 * k → g' i = g i) ∧ g' (3 * k) = l ∧ g' (3 * k + 1) = nI a ∧ g' (3 * k + 2) = nI e ∧ ∀ (B W : Nat → Nat → Int32) (z : Int32), oc42 B b → ∃ z' : Int32, am_fin [(z_M_readsStay, 0, [.ref 36, .int (nI k), .null], [])] (hp L xs (upA B 43 g) (mv W (nI n) (nI p) 0 z) K T) none (hp L xs (upA B 43 g') (mv W (nI n) (nI pr) 0 z') K T)) := by
  obtain ⟨s1, s2⟩ := skp_in b hpn
  have e3k1 : (3 : Int32) * nI k + 1 = nI (3 * k + 1) := by rw [l_3, nI_mul, nI_1]
  have e3k2 : (3 : Int32) * nI k + 2 = nI (3 * k + 2) := by rw [l_3, nI_mul, l_2, nI_add]
  have ik : ¬ (nI k < 0 ∨ 80 ≤ k) := fun z => z.elim (nI_lt0 (by omega)) (by omega)
  have ckk : (nI k).toNatClampNeg = k := nI_clamp (by omega)
  have i31 : ¬ (nI (3 * k + 1) < 0 ∨ 240 ≤ 3 * k + 1) := fun z => z.elim (nI_lt0 (by omega)) (by omega)
  have i32 : ¬ (nI (3 * k + 2) < 0 ∨ 240 ≤ 3 * k + 2) := fun z => z.elim (nI_lt0 (by omega)) (by omega)
  have c31 : (nI (3 * k + 1)).toNatClampNeg = 3 * k + 1 := nI_clamp (by omega)
  have c32 : (nI (3 * k + 2)).toNatClampNeg = 3 * k + 2 := nI_clamp (by omega)
  -- the class up to a letter, the reference up to a letter
  have dsk := fun (A V : Nat → Nat → Int32) (st : Int32) (ok : oc20 A b) => D_skipBlanks_c (L := L) (xs := xs) (A := A) (V := V) (K := K) (T := T) b ok n (by omega) st 0 p hpn
  have msk := fun (B W : Nat → Nat → Int32) (z : Int32) (ok : oc42 B b) => M_see_c (L := L) (xs := xs) (A := B) (V := W) (K := K) (T := T) b ok n (by omega) 0 z p hpn
  generalize hp1 : skp b n p = p1 at *
  by_cases h1 : n ≤ p1 ∨ stl (b p1) = none
  · refine Or.inl ⟨(-1000) * 1 - nI p1, p1, p1, f1_neg (by omega), fun A V st ok => ?_, fun g => ⟨g, fun B W z ok => ⟨z, ?_⟩⟩⟩
    · exact sg_D_readStay_0 (am_fin.call (dsk A V st ok) (D_rs_4 b ok n p1 k hn s2 st (fun _ => ⟨rfl, rfl⟩) (fun l q1 q2 => (h1.elim (fun z => absurd z (by omega)) (fun z => by rw [z] at q2; cases q2)))))
    · have ok : oc42 (upA B 43 g) b := ok
      exact sg_M_readsStay_0 (am_fin.call (msk _ W z ok) (M_rs_4 b ok n p1 k hn s2 hk z (fun _ => ⟨rfl, rfl⟩) (fun l r q1 q2 => (h1.elim (fun z => absurd z (by omega)) (fun z => by rw [z] at q2; cases q2)))))
  · have h2 : p1 < n := by
      by_cases z : p1 < n
      · exact z
      · exact absurd (Or.inl (by omega)) h1
    obtain ⟨l, hl⟩ : ∃ l, stl (b p1) = some l := by
      cases hs : stl (b p1) with
      | none => exact absurd (Or.inr hs) h1
      | some l => exact ⟨l, rfl⟩
    obtain ⟨t1, t2⟩ := skp_in b (show p1 + 1 ≤ n by omega)
    obtain ⟨q1, q2, q3, q4⟩ := rdp_in b n 4 (skp b n (p1 + 1)) 0 t2
    obtain ⟨u1, u2⟩ := skp_in b q2
    have us := skp_stop b q2
    have ui := skp_skp b q2
    -- both up to behind the first day
    have d47 : ∀ (A V : Nat → Nat → Int32) (st : Int32), oc20 A b → ∀ {h' : am_H}, am_fin [(z_D_readStay, 55, [.ref 21, .int (nI k), .int l, .int (nI (rdp b n 4 (skp b n (p1 + 1)) 0).2), .int (nI (rdp b n 4 (skp b n (p1 + 1)) 0).2)], [])] (hp L xs A (rv V (nI n) st (nI (skp b n (rdp b n 4 (skp b n (p1 + 1)) 0).1)) (dFv b n 0 (skp b n (p1 + 1)) (rdp b n 4 (skp b n (p1 + 1)) 0).1 (rdp b n 4 (skp b n (p1 + 1)) 0).2)) K T) none h' → am_fin [(z_D_readStay, 0, [.ref 21, .int (nI k), .null, .null, .null], [])] (hp L xs A (rv V (nI n) st (nI p) 0) K T) none h' := by
      intro A V st ok h' nx
      refine sg_D_readStay_0 (am_fin.call (dsk A V st ok) (D_rs_4 b ok n p1 k hn s2 st (fun z => absurd z h1) (fun l' _ q => ?_)))
      rw [hl] at q
      cases q
      have k1 := D_skipBlanks_c (L := L) (xs := xs) (A := A) (V := V) (K := K) (T := T) b ok n (by omega) st 0 (p1 + 1) (by omega)
      have k2 := D_readDay_c (L := L) (xs := xs) (A := A) (V := V) (K := K) (T := T) b ok n (by omega) st 0 0 (skp b n (p1 + 1)) (by omega) t2
      rw [nf_0] at k2
      have k3 := D_skipBlanks_c (L := L) (xs := xs) (A := A) (V := V) (K := K) (T := T) b ok n (by omega) st (dFv b n 0 (skp b n (p1 + 1)) (rdp b n 4 (skp b n (p1 + 1)) 0).1 (rdp b n 4 (skp b n (p1 + 1)) 0).2) (rdp b n 4 (skp b n (p1 + 1)) 0).1 q2
      rw [nI_1]
      exact am_fin.call k1 (sg_D_readStay_42r (am_fin.call k2 (sg_D_readStay_47r (am_fin.call k3 nx))))
    have m73 : ∀ (g : Nat → Int32) (B W : Nat → Nat → Int32) (z : Int32), oc42 B b → ∃ z' r : Int32, (dFv b n 0 (skp b n (p1 + 1)) (rdp b n 4 (skp b n (p1 + 1)) 0).1 (rdp b n 4 (skp b n (p1 + 1)) 0).2 = 0 → z' = nI (rdp b n 4 (skp b n (p1 + 1)) 0).2) ∧ ∀ {h' : am_H}, am_fin [(z_M_readsStay, 73, [.ref 36, .int (nI k), .int r], [.int (b2 (dFv b n 0 (skp b n (p1 + 1)) (rdp b n 4 (skp b n (p1 + 1)) 0).1 (rdp b n 4 (skp b n (p1 + 1)) 0).2 = 0))])] (hp L xs (upA B 43 (upd g (3 * k) l)) (mv W (nI n) (nI (rdp b n 4 (skp b n (p1 + 1)) 0).1) (dFv b n 0 (skp b n (p1 + 1)) (rdp b n 4 (skp b n (p1 + 1)) 0).1 (rdp b n 4 (skp b n (p1 + 1)) 0).2) z') K T) none h' → am_fin [(z_M_readsStay, 0, [.ref 36, .int (nI k), .null], [])] (hp L xs (upA B 43 g) (mv W (nI n) (nI p) 0 z) K T) none h' := by
      intro g B W z ok
      have ok0 : oc42 (upA B 43 g) b := ok
      have ok1 : oc42 (upA B 43 (upd g (3 * k) l)) b := ok
      obtain ⟨z', y1, y2⟩ := M_readsDay_c (L := L) (xs := xs) (A := upA B 43 (upd g (3 * k) l)) (V := W) (K := K) (T := T) b ok1 n (by omega) 0 (p1 + 1) z (by omega) (by omega)
      refine ⟨z', sgn b n p1, y1, fun {h'} nx => sg_M_readsStay_0 (am_fin.call (msk _ W z ok0) ?_)⟩
      refine sg_M_readsStay_4r ?_
      have e3k : (3 : Int32) * nI k = nI (3 * k) := by rw [l_3, nI_mul]
      have i3 : ¬ (nI (3 * k) < 0 ∨ 240 ≤ 3 * k) := fun z => z.elim (nI_lt0 (by omega)) (by omega)
      have c3 : (nI (3 * k)).toNatClampNeg = 3 * k := nI_clamp (by omega)
      obtain ⟨o1, o2⟩ := ok p1 (by omega)
      have es : sgn b n p1 = nI (b p1) := by unfold sgn; rw [if_pos h2]
      have c45 : (nI (b p1) = 45) ↔ b p1 = 45 := by rw [show (45 : Int32) = nI 45 from rfl, nI_eq (by omega) (by omega)]
      have c97 : (nI (b p1) < 97) ↔ b p1 < 97 := by rw [show (97 : Int32) = nI 97 from rfl, nI_ltI (by omega) (by omega)]
      have c102 : ((102 : Int32) < nI (b p1)) ↔ 102 < b p1 := by rw [show (102 : Int32) = nI 102 from rfl, nI_ltI (by omega) (by omega)]
      rw [es] at nx ⊢
      simp only [lgl, lgg, mv8, mv9, mv10, mv11, mvu8, mvu10, mvu11]
      simp only [e3k, c3, c45, c97, c102, upA_upA, upA_same]
      unfold stl at hl
      have fin := am_fin.call y2 nx
      rw [← nI_1] at fin
      by_cases g2 : b p1 = 45
      · rw [if_pos g2] at hl
        cases hl
        exact iteP g2 (iteP g2 ⟨i3, fin⟩)
      · rw [if_neg g2] at hl
        by_cases g3 : 97 ≤ b p1 ∧ b p1 ≤ 102
        · rw [if_pos g3] at hl
          cases hl
          have e97 : nI (b p1) - 97 = nI (b p1 - 97) := by rw [show (97 : Int32) = nI 97 from rfl]; exact nI_sub (by omega)
          rw [e97]
          exact iteN g2 (iteN (by omega) (iteN (by omega) (iteN g2 ⟨i3, fin⟩)))
        · rw [if_neg g3] at hl; cases hl
    generalize hv3 : (rdp b n 4 (skp b n (p1 + 1)) 0).2 = v3 at *
    generalize hq1 : (rdp b n 4 (skp b n (p1 + 1)) 0).1 = p3 at *
    have hd0 := dFv_0 (b := b) (n := n) (least := 0) (s := skp b n (p1 + 1)) (p := p3) (v := v3) (by omega) (by omega)
    have hdn := dFv_neg (b := b) (n := n) (least := 0) (s := skp b n (p1 + 1)) (p := p3) (v := v3) (by omega) (by omega)
    generalize dFv b n 0 (skp b n (p1 + 1)) p3 v3 = dd at *
    generalize hp4 : skp b n p3 = p4 at *
    by_cases h3 : dd = 0
    · obtain ⟨w1, w2, w3, w4⟩ := hd0 h3
      subst h3
      have ck4 : (nI p4).toNatClampNeg = p4 := nI_clamp (by omega)
      have cn4 : (nI n ≤ nI p4) ↔ n ≤ p4 := nI_leI (by omega) (by omega)
      by_cases h4 : p4 < n ∧ b p4 = 46
      · -- a point
        have ck5 : (nI p4 + 1).toNatClampNeg = p4 + 1 := by rw [nI_1]; exact nI_clamp (by omega)
        have cn5 : (nI n ≤ nI p4 + 1) ↔ n ≤ p4 + 1 := by rw [nI_1]; exact nI_leI (by omega) (by omega)
        have g1 : ¬ n ≤ p4 := by omega
        have ib4 : ¬ (nI p4 < 0 ∨ 320 ≤ p4) := fun z => z.elim (nI_lt0 (by omega)) (by omega)
        have ib5 : ¬ (nI p4 + 1 < 0 ∨ 320 ≤ p4 + 1) := fun z => z.elim (by rw [nI_1]; exact nI_lt0 (by omega)) (by omega)
        have es4 : sgn b n p4 = 46 := by unfold sgn; rw [if_pos h4.1, h4.2]; rfl
        by_cases h5 : p4 + 1 < n ∧ b (p4 + 1) = 46
        · -- two points
          have g2 : ¬ n ≤ p4 + 1 := by omega
          obtain ⟨x1, x2⟩ := skp_in b (show p4 + 1 + 1 ≤ n by omega)
          obtain ⟨y1, y2, y3, y4⟩ := rdp_in b n 4 (skp b n (p4 + 1 + 1)) 0 x2
          obtain ⟨z1, z2⟩ := skp_in b y2
          have zi := skp_skp b y2
          -- both up to behind the second day
          have d90 : ∀ (A V : Nat → Nat → Int32) (st : Int32), oc20 A b → ∀ {h' : am_H}, am_fin [(z_D_readStay, 90, [.ref 21, .int (nI k), .int l, .int (nI v3), .int (nI (rdp b n 4 (skp b n (p4 + 1 + 1)) 0).2)], [])] (hp L xs A (rv V (nI n) st (nI (skp b n (rdp b n 4 (skp b n (p4 + 1 + 1)) 0).1)) (dFv b n v3 (skp b n (p4 + 1 + 1)) (rdp b n 4 (skp b n (p4 + 1 + 1)) 0).1 (rdp b n 4 (skp b n (p4 + 1 + 1)) 0).2)) K T) none h' → am_fin [(z_D_readStay, 0, [.ref 21, .int (nI k), .null, .null, .null], [])] (hp L xs A (rv V (nI n) st (nI p) 0) K T) none h' := by
            intro A V st ok h' nx
            refine d47 A V st ok (sg_D_readStay_55r ?_)
            have k1 := D_skipBlanks_c (L := L) (xs := xs) (A := A) (V := V) (K := K) (T := T) b ok n (by omega) st 0 (p4 + 1 + 1) (by omega)
            have k2 := D_readDay_c (L := L) (xs := xs) (A := A) (V := V) (K := K) (T := T) b ok n (by omega) st 0 v3 (skp b n (p4 + 1 + 1)) (by omega) x2
            rw [nf_0] at k2
            have k3 := D_skipBlanks_c (L := L) (xs := xs) (A := A) (V := V) (K := K) (T := T) b ok n (by omega) st (dFv b n v3 (skp b n (p4 + 1 + 1)) (rdp b n 4 (skp b n (p4 + 1 + 1)) 0).1 (rdp b n 4 (skp b n (p4 + 1 + 1)) 0).2) (rdp b n 4 (skp b n (p4 + 1 + 1)) 0).1 y2
            have o4 : A 20 p4 = 46 := by rw [(ok p4 (by omega)).1, h4.2]; rfl
            have o5 : A 20 (p4 + 1) = 46 := by rw [(ok (p4 + 1) (by omega)).1, h5.2]; rfl
            simp only [rv4, rv5, rv6, rv7, rvu5, rvu6, rvu7]
            simp only [ck4, cn4, ck5, cn5]
            (repeat first | refine iteP trivial ?_ | refine iteP (by assumption) ?_ | refine iteN (by assumption) ?_ | refine And.intro (by assumption) ?_)
            (repeat first | refine iteP trivial ?_ | refine iteP rfl ?_ | refine iteP (by assumption) ?_ | refine iteN (by assumption) ?_ | refine And.intro (by assumption) ?_)
            rw [nI_1, nI_1]
            exact am_fin.call k1 (sg_D_readStay_79r (am_fin.call k2 (sg_D_readStay_84r (am_fin.call k3 nx))))
          have m179 : ∀ (g : Nat → Int32) (B W : Nat → Nat → Int32) (z : Int32), oc42 B b → ∃ z' r : Int32, (dFv b n v3 (skp b n (p4 + 1 + 1)) (rdp b n 4 (skp b n (p4 + 1 + 1)) 0).1 (rdp b n 4 (skp b n (p4 + 1 + 1)) 0).2 = 0 → z' = nI (rdp b n 4 (skp b n (p4 + 1 + 1)) 0).2) ∧ ∀ {h' : am_H}, am_fin [(z_M_readsStay, 179, [.ref 36, .int (nI k), .int r], [.int (b2 (dFv b n v3 (skp b n (p4 + 1 + 1)) (rdp b n 4 (skp b n (p4 + 1 + 1)) 0).1 (rdp b n 4 (skp b n (p4 + 1 + 1)) 0).2 = 0))])] (hp L xs (upA B 43 (upd (upd (upd g (3 * k) l) (3 * k + 1) (nI v3)) (3 * k + 2) (nI v3))) (mv W (nI n) (nI (rdp b n 4 (skp b n (p4 + 1 + 1)) 0).1) (dFv b n v3 (skp b n (p4 + 1 + 1)) (rdp b n 4 (skp b n (p4 + 1 + 1)) 0).1 (rdp b n 4 (skp b n (p4 + 1 + 1)) 0).2) z') K T) none h' → am_fin [(z_M_readsStay, 0, [.ref 36, .int (nI k), .null], [])] (hp L xs (upA B 43 g) (mv W (nI n) (nI p) 0 z) K T) none h' := by
            intro g B W z ok
            obtain ⟨za, ra, e1, nx1⟩ := m73 g B W z ok
            have e1 := e1 rfl
            subst e1
            have ok1 : oc42 (upA B 43 (upd (upd (upd g (3 * k) l) (3 * k + 1) (nI v3)) (3 * k + 2) (nI v3))) b := ok
            obtain ⟨z', f1, f2⟩ := M_readsDay_c (L := L) (xs := xs) (A := upA B 43 (upd (upd (upd g (3 * k) l) (3 * k + 1) (nI v3)) (3 * k + 2) (nI v3))) (V := W) (K := K) (T := T) b ok1 n (by omega) v3 (p4 + 1 + 1) (nI v3) (by omega) (by omega)
            have ks := M_see_c (L := L) (xs := xs) (A := upA B 43 (upd (upd (upd g (3 * k) l) (3 * k + 1) (nI v3)) (3 * k + 2) (nI v3))) (V := W) (K := K) (T := T) b ok1 n (by omega) 0 (nI v3) p3 q2
            rw [hp4, es4] at ks
            refine ⟨z', ra, f1, fun {h'} nx => nx1 (sg_M_readsStay_73r ?_)⟩
            rw [show b2 ((0 : Int32) = 0) = 1 by unfold b2; rw [if_pos rfl]]
            simp only [lgl, lgg, mv8, mv9, mv10, mv11, mvu8, mvu10, mvu11]
            simp only [e3k1, e3k2, c31, c32, upA_upA, upA_same]
            refine iteN (by decide) ⟨i31, i32, am_fin.call ks (sg_M_readsStay_109r ?_)⟩
            have o5 : B 42 (p4 + 1) = 46 := by
              obtain ⟨o1, o2⟩ := ok (p4 + 1) (by omega)
              rw [o1]; exact (by8b _ o2).2.1.mpr h5.2
            simp only [lgl, lgg, mv8, mv9, mv10, mv11, mvu8, mvu10, mvu11]
            simp only [ck5, cn5]
            refine iteP (by first | trivial | rfl) (iteN g2 ⟨ib5, iteP o5 ?_⟩)
            rw [nI_1, nI_1]
            exact am_fin.call f2 nx
          generalize hv8 : (rdp b n 4 (skp b n (p4 + 1 + 1)) 0).2 = v8 at *
          generalize hq8 : (rdp b n 4 (skp b n (p4 + 1 + 1)) 0).1 = p8 at *
          have hd0 := dFv_0 (b := b) (n := n) (least := v3) (s := skp b n (p4 + 1 + 1)) (p := p8) (v := v8) (by omega) (by omega)
          have hdn := dFv_neg (b := b) (n := n) (least := v3) (s := skp b n (p4 + 1 + 1)) (p := p8) (v := v8) (by omega) (by omega)
          generalize dFv b n v3 (skp b n (p4 + 1 + 1)) p8 v8 = d8 at *
          generalize hp9 : skp b n p8 = p9 at *
          by_cases h6 : d8 = 0
          · obtain ⟨w5, w6, w7, w8⟩ := hd0 h6
            subst h6
            refine Or.inr ⟨l, v3, v8, p9, p8, stl_pl hl, w8, w7, by omega, by omega, zi, by omega, hp9, fun A V st ok => d90 A V st ok (sg_D_readStay_90r ?_), fun g => ⟨upd (upd (upd (upd g (3 * k) l) (3 * k + 1) (nI v3)) (3 * k + 2) (nI v3)) (3 * k + 2) (nI v8), fun i hi => ?_, ?_, ?_, ?_, fun B W z ok => ?_⟩⟩
            · simp only [rv4, rv5, rv6, rv7, rvu5, rvu6, rvu7]
              simp only [ckk]
              first | exact ⟨ik, ik, ik, (by first | rfl | trivial), (by first | rfl | trivial)⟩ | exact iteP trivial ⟨ik, ik, ik, (by first | rfl | trivial), (by first | rfl | trivial)⟩
            · rw [upd_no _ _ (by omega), upd_no _ _ (by omega), upd_no _ _ (by omega), upd_no _ _ (by omega)]
            · rw [upd_no _ _ (by omega), upd_no _ _ (by omega), upd_no _ _ (by omega), upd_at]
            · rw [upd_no _ _ (by omega), upd_no _ _ (by omega), upd_at]
            · rw [upd_at]
            · obtain ⟨z', r, e1, nx⟩ := m179 g B W z ok
              have e1 := e1 rfl
              subst e1
              refine ⟨nI v8, nx (sg_M_readsStay_179r ?_)⟩
              rw [show b2 ((0 : Int32) = 0) = 1 by unfold b2; rw [if_pos rfl]]
              simp only [lgl, lgg, mv8, mv9, mv10, mv11, mvu8, mvu10, mvu11]
              simp only [e3k2, c32, upA_upA, upA_same]
              exact iteN (by decide) ⟨i32, (by first | rfl | trivial), (by first | rfl | trivial)⟩
          · refine Or.inl ⟨d8, p9, p8, hdn h6, fun A V st ok => d90 A V st ok (sg_D_readStay_90r ?_), fun g => ⟨upd (upd (upd g (3 * k) l) (3 * k + 1) (nI v3)) (3 * k + 2) (nI v3), fun B W z ok => ?_⟩⟩
            · rw [rv7]
              exact iteN h6 ⟨rfl, rfl⟩
            · obtain ⟨z', r, e1, nx⟩ := m179 g B W z ok
              exact ⟨z', nx (sg_M_readsStay_179r (iteP (b2_z.mpr h6) ⟨rfl, rfl⟩))⟩
        · -- one point alone
          obtain ⟨Ff, hFf, nz, fneg⟩ : ∃ Ff : Int32, (-1000 : Int32) * 1 - (nI p4 + 1) = Ff ∧ ¬ Ff = 0 ∧ Ff < 0 := ⟨_, rfl, by rw [nI_1]; exact f1_ne (by omega), by rw [nI_1]; exact f1_neg (by omega)⟩
          have ny : ∃ p' : Nat, ∀ (A V : Nat → Nat → Int32) (st : Int32), oc20 A b → am_fin [(z_D_skipBlanks, 0, [.ref 21, .null], []), (z_D_readStay, 79, [.ref 21, .int (nI k), .int l, .int (nI v3), .int (nI v3)], [])] (hp L xs A (rv V (nI n) st (nI p4 + 1) Ff) K T) none (hp L xs A (rv V (nI n) st (nI p') Ff) K T) := by
            obtain ⟨s1', s2'⟩ := skp_in b (show p4 + 1 ≤ n by omega)
            obtain ⟨r1, r2, r3, r4⟩ := rdp_in b n 4 (skp b n (p4 + 1)) 0 s2'
            refine ⟨skp b n (rdp b n 4 (skp b n (p4 + 1)) 0).1, fun A V st ok => ?_⟩
            have k1 := D_skipBlanks_c (L := L) (xs := xs) (A := A) (V := V) (K := K) (T := T) b ok n (by omega) st Ff (p4 + 1) (by omega)
            have k2 := D_readDay_c (L := L) (xs := xs) (A := A) (V := V) (K := K) (T := T) b ok n (by omega) st Ff v3 (skp b n (p4 + 1)) (by omega) s2'
            rw [nf_n nz] at k2
            have k3 := D_skipBlanks_c (L := L) (xs := xs) (A := A) (V := V) (K := K) (T := T) b ok n (by omega) st Ff (rdp b n 4 (skp b n (p4 + 1)) 0).1 r2
            rw [nI_1]
            refine am_fin.call k1 (sg_D_readStay_79r (am_fin.call k2 (sg_D_readStay_84r (am_fin.call k3 (sg_D_readStay_90r ?_)))))
            rw [rv7]
            exact iteN nz ⟨rfl, rfl⟩
          obtain ⟨p', ny⟩ := ny
          refine Or.inl ⟨Ff, p', p4 + 1, fneg, fun A V st ok => d47 A V st ok (sg_D_readStay_55r ?_), fun g => ⟨upd (upd (upd g (3 * k) l) (3 * k + 1) (nI v3)) (3 * k + 2) (nI v3), fun B W z ok => ?_⟩⟩
          · have ny := ny A V st ok
            have o4 : A 20 p4 = 46 := by rw [(ok p4 (by omega)).1, h4.2]; rfl
            simp only [rv4, rv5, rv6, rv7, rvu5, rvu6, rvu7]
            simp only [ck4, cn4, ck5, cn5, hFf]
            by_cases g2 : n ≤ p4 + 1
            · (repeat first | refine iteP trivial ?_ | refine iteP (by assumption) ?_ | refine iteN (by assumption) ?_ | refine And.intro (by assumption) ?_); exact ny
            · have o5 : ¬ A 20 (p4 + 1) = 46 := by
                obtain ⟨o1, o2⟩ := ok (p4 + 1) (by omega)
                rw [o1, show (46 : Int32) = nI 46 from rfl, nI_eq (by omega) (by omega)]
                exact fun z => h5 ⟨by omega, z⟩
              exact iteP trivial (iteN g1 ⟨ib4, iteP o4 (iteN g2 ⟨ib5, iteN o5 (iteP trivial ny)⟩)⟩)
          · obtain ⟨za, ra, e1, nx1⟩ := m73 g B W z ok
            have e1 := e1 rfl
            subst e1
            have ok1 : oc42 (upA B 43 (upd (upd (upd g (3 * k) l) (3 * k + 1) (nI v3)) (3 * k + 2) (nI v3))) b := ok
            have ks := M_see_c (L := L) (xs := xs) (A := upA B 43 (upd (upd (upd g (3 * k) l) (3 * k + 1) (nI v3)) (3 * k + 2) (nI v3))) (V := W) (K := K) (T := T) b ok1 n (by omega) 0 (nI v3) p3 q2
            rw [hp4, es4] at ks
            refine ⟨nI v3, nx1 (sg_M_readsStay_73r ?_)⟩
            rw [show b2 ((0 : Int32) = 0) = 1 by unfold b2; rw [if_pos rfl]]
            simp only [lgl, lgg, mv8, mv9, mv10, mv11, mvu8, mvu10, mvu11]
            simp only [e3k1, e3k2, c31, c32, upA_upA, upA_same]
            refine iteN (by decide) ⟨i31, i32, am_fin.call ks (sg_M_readsStay_109r ?_)⟩
            simp only [lgl, lgg, mv8, mv9, mv10, mv11, mvu8, mvu10, mvu11]
            simp only [ck5, cn5, hFf]
            by_cases g2 : n ≤ p4 + 1
            · refine iteP (by first | trivial | rfl) (iteP g2 ?_)
              first | exact iteP trivial ⟨(by first | rfl | trivial), (by rw [nI_1 p4])⟩ | exact ⟨(by first | rfl | trivial), (by rw [nI_1 p4])⟩
            · have o5 : ¬ B 42 (p4 + 1) = 46 := by
                obtain ⟨o1, o2⟩ := ok (p4 + 1) (by omega)
                rw [o1]; exact fun z => h5 ⟨by omega, (by8b _ o2).2.1.mp z⟩
              refine iteP (by first | trivial | rfl) (iteN g2 ⟨ib5, iteN o5 ?_⟩)
              first | exact iteP trivial ⟨(by first | rfl | trivial), (by rw [nI_1 p4])⟩ | exact ⟨(by first | rfl | trivial), (by rw [nI_1 p4])⟩
      · -- one day
        refine Or.inr ⟨l, v3, v3, p4, p4, stl_pl hl, Nat.le_refl _, w3, by omega, by omega, ui, by omega, ui, fun A V st ok => d47 A V st ok (sg_D_readStay_55r ?_), fun g => ⟨upd (upd (upd g (3 * k) l) (3 * k + 1) (nI v3)) (3 * k + 2) (nI v3), fun i hi => ?_, ?_, ?_, ?_, fun B W z ok => ?_⟩⟩
        · simp only [rv4, rv5, rv6, rv7, rvu5, rvu6, rvu7]
          simp only [ckk, ck4, cn4]
          by_cases g1 : n ≤ p4
          · (repeat first | exact ⟨ik, ik, ik, (by first | rfl | trivial), (by first | rfl | trivial)⟩ | refine iteP trivial ?_ | refine iteP rfl ?_ | refine iteP (by assumption) ?_ | refine iteN (by assumption) ?_)
          · have ib4 : ¬ (nI p4 < 0 ∨ 320 ≤ p4) := fun z => z.elim (nI_lt0 (by omega)) (by omega)
            have o4 : ¬ A 20 p4 = 46 := by
              obtain ⟨o1, o2⟩ := ok p4 (by omega)
              rw [o1, show (46 : Int32) = nI 46 from rfl, nI_eq (by omega) (by omega)]
              exact fun z => h4 ⟨by omega, z⟩
            (repeat first | exact ⟨ik, ik, ik, (by first | rfl | trivial), (by first | rfl | trivial)⟩ | refine iteP trivial ?_ | refine iteP rfl ?_ | refine iteP (by assumption) ?_ | refine iteN (by assumption) ?_ | refine And.intro (by assumption) ?_)
        · rw [upd_no _ _ (by omega), upd_no _ _ (by omega), upd_no _ _ (by omega)]
        · rw [upd_no _ _ (by omega), upd_no _ _ (by omega), upd_at]
        · rw [upd_no _ _ (by omega), upd_at]
        · rw [upd_at]
        · obtain ⟨za, ra, e1, nx1⟩ := m73 g B W z ok
          have e1 := e1 rfl
          subst e1
          have ok1 : oc42 (upA B 43 (upd (upd (upd g (3 * k) l) (3 * k + 1) (nI v3)) (3 * k + 2) (nI v3))) b := ok
          have ks := M_see_c (L := L) (xs := xs) (A := upA B 43 (upd (upd (upd g (3 * k) l) (3 * k + 1) (nI v3)) (3 * k + 2) (nI v3))) (V := W) (K := K) (T := T) b ok1 n (by omega) 0 (nI v3) p3 q2
          rw [hp4] at ks
          have es4 : ¬ sgn b n p4 = 46 := by
            unfold sgn
            by_cases g1 : p4 < n
            · obtain ⟨o1, o2⟩ := ok p4 (by omega)
              rw [if_pos g1, show (46 : Int32) = nI 46 from rfl, nI_eq (by omega) (by omega)]
              exact fun z => h4 ⟨g1, z⟩
            · rw [if_neg g1]; decide
          refine ⟨nI v3, nx1 (sg_M_readsStay_73r ?_)⟩
          rw [show b2 ((0 : Int32) = 0) = 1 by unfold b2; rw [if_pos rfl]]
          simp only [lgl, lgg, mv8, mv9, mv10, mv11, mvu8, mvu10, mvu11]
          simp only [e3k1, e3k2, c31, c32, upA_upA, upA_same]
          exact iteN (by decide) ⟨i31, i32, am_fin.call ks (sg_M_readsStay_109r (iteN es4 ⟨rfl, rfl⟩))⟩
    · -- a wrong day
      refine Or.inl ⟨dd, p4, p3, hdn h3, fun A V st ok => d47 A V st ok (sg_D_readStay_55r ?_), fun g => ⟨upd g (3 * k) l, fun B W z ok => ?_⟩⟩
      · rw [rv7]
        exact iteN h3 (iteN h3 ⟨rfl, rfl⟩)
      · obtain ⟨z', r, e1, nx⟩ := m73 g B W z ok
        exact ⟨z', nx (sg_M_readsStay_73r (iteP (b2_z.mpr h3) ⟨rfl, rfl⟩))⟩
end
