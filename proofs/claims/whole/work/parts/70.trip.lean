section
variable {L : Nat} {xs : Nat → Int32} {A V : Nat → Nat → Int32} {K : Nat → Option Nat} {T : am_H}
theorem pr_trip (a1 a2 : Int32) (R : RI A V K T) : PRQ z_L_trip z_M_trip [.ref 1, .int a1, .int a2, .null] [.ref 36, .int a1, .int a2, .null, .null] L xs A V K T := by
  obtain ⟨⟨t, ht, t1, t2⟩, ok⟩ := R.2.2.2.1
  have eV : V 36 7 = V 19 1 := by rw [t1, t2]
  by_cases bad : (a1 < 1 ∨ (160 : Int32) < a1 ∨ V 19 1 < a1) ∨ (a2 < 0 ∨ (4 : Int32) < a2)
  · refine ⟨-1, A, V, K, T, A, V, sg_L_trip_0 ?_, sg_M_trip_0 ?_, R⟩
    · by_cases c1 : a1 < 1
      · exact iteP c1 ⟨rfl, rfl⟩
      · refine iteN c1 ?_
        by_cases c2 : (160 : Int32) < a1
        · exact iteP c2 ⟨rfl, rfl⟩
        · refine iteN c2 ?_
          by_cases c3 : V 19 1 < a1
          · exact iteP c3 ⟨rfl, rfl⟩
          · refine iteN c3 ?_
            by_cases c4 : a2 < 0
            · exact iteP c4 ⟨rfl, rfl⟩
            · refine iteN c4 ?_
              by_cases c5 : (4 : Int32) < a2
              · exact iteP c5 ⟨rfl, rfl⟩
              · exact absurd bad (fun z => z.elim (fun z => z.elim c1 (fun z => z.elim c2 c3)) (fun z => z.elim c4 c5))
    · simp only [lgl, lgg, eV]
      by_cases c4 : a2 < 0
      · exact iteP c4 ⟨(by first | rfl | trivial), (by first | rfl | trivial)⟩
      · refine iteN c4 ?_
        by_cases c5 : (4 : Int32) < a2
        · exact iteP c5 ⟨(by first | rfl | trivial), (by first | rfl | trivial)⟩
        · refine iteN c5 ?_
          by_cases c1 : a1 < 1
          · exact iteP c1 ⟨(by first | rfl | trivial), (by first | rfl | trivial)⟩
          · refine iteN c1 ?_
            by_cases c2 : (160 : Int32) < a1
            · exact iteP c2 ⟨(by first | rfl | trivial), (by first | rfl | trivial)⟩
            · refine iteN c2 ?_
              by_cases c3 : V 19 1 < a1
              · exact iteP c3 ⟨(by first | rfl | trivial), (by first | rfl | trivial)⟩
              · exact absurd bad (fun z => z.elim (fun z => z.elim c1 (fun z => z.elim c2 c3)) (fun z => z.elim c4 c5))
  have c1 : ¬ a1 < 1 := fun z => bad (Or.inl (Or.inl z))
  have c2 : ¬ (160 : Int32) < a1 := fun z => bad (Or.inl (Or.inr (Or.inl z)))
  have k1 : ¬ V 19 1 < a1 := fun z => bad (Or.inl (Or.inr (Or.inr z)))
  have k2 : ¬ V 36 7 < a1 := by rw [eV]; exact k1
  have c4 : ¬ a2 < 0 := fun z => bad (Or.inr (Or.inl z))
  have c5 : ¬ (4 : Int32) < a2 := fun z => bad (Or.inr (Or.inr z))
  have z1 : ¬ a1 < 0 := fun z => c1 (Int32.lt_iff_toInt_lt.mpr (by rw [Int32.lt_iff_toInt_lt, Int32.toInt_zero] at z; rw [show (1 : Int32).toInt = 1 from by decide]; omega))
  obtain ⟨n, hn, rfl⟩ := i32_nat (m := 160) (by omega) z1 c2
  obtain ⟨q, hq, rfl⟩ := i32_nat (m := 4) (by omega) c4 c5
  have hn1 : 1 ≤ n := by rw [l_1, nI_ltI (by omega) (by omega)] at c1; omega
  have ok : okt (A 20) (A 42) := ok
  obtain ⟨r1, r2, r3, r4, r5, r6, r7, r8⟩ := id R.1
  obtain ⟨b, hby, hb2⟩ := bytes_of ok
  have o20 : oc20 A b := fun i hi => ⟨(hb2 i hi).1, hby i hi⟩
  have o42 : oc42 A b := fun i hi => ⟨(hb2 i hi).2, hby i hi⟩
  obtain ⟨v, m, st, pc, F, g1, g2, g3, g, w1, w2, w3⟩ := rt_c (L := L) (xs := xs) (K := K) (T := T) b n hn hn1 hby A V o20 (A 43)
  rcases w1 with w1 | ⟨w1, w4, w5, w6, w7⟩
  · obtain ⟨pr, Fr, z', w8⟩ := w3 (up22 A g1 g2 g3) (upV (rv V (nI n) st pc F) 19 1 0) o42 rfl
    have neg : ¬ (0 : Int32) ≤ v := Int32.not_le.mpr w1
    refine ⟨v, up22 A g1 g2 g3, upV (rv V (nI n) st pc F) 19 1 0, K, T, upA (up22 A g1 g2 g3) 43 g, mv (upV (upV (rv V (nI n) st pc F) 19 1 0) 36 7 0) (nI n) pr Fr z', sg_L_trip_0 ?_, sg_M_trip_0 ?_, ⟨R.1, R.2.1, R.2.2.1, ⟨⟨0, by omega, rfl, rfl⟩, R.2.2.2.1.2⟩, R.2.2.2.2⟩⟩
    · (try simp only [lgl, lgg]); (repeat first | refine iteP (by first | assumption) ?_ | refine iteN (by first | assumption) ?_)
      exact am_fin.call w2 (sg_L_trip_25r (iteN neg ⟨(by first | rfl | trivial), (by first | rfl | trivial)⟩))
    · (try simp only [lgl, lgg]); (repeat first | refine iteP (by first | assumption) ?_ | refine iteN (by first | assumption) ?_)
      exact am_fin.call w8 (sg_M_trip_27r (iteN neg ⟨(by first | rfl | trivial), (by first | rfl | trivial)⟩))
  · have pos : (0 : Int32) ≤ v := by rw [w1]; exact nI_ge0 (by omega)
    have pF := cpy4 (A 4) (A 35)
    generalize hF0 : va_cpy (A 4) (A 35) (0 : Int32).toNatClampNeg (0 : Int32).toNatClampNeg (1080 : Int32).toNatClampNeg = F0 at pF
    have pl0 : ∀ d, d < 1080 → pl (F0 d) := fun d hd => by rw [pF d hd]; exact r5 d hd
    have RR : Rr (up22 A g1 g2 g3) (upV (rv V (nI n) st pc F) 19 1 0) := R.2.2.1
    have lo := D_lo_34_c (L := L) (xs := xs) (A := up22 A g1 g2 g3) (V := upV (rv V (nI n) st pc F) 19 1 0) (K := K) (T := T) w7 w5 F0 rfl rfl rfl w6 m 0 (by omega)
    obtain ⟨l1, l2⟩ := ly_ok w7 r5 m (Nat.le_refl m)
    have lF := (ly_ok w7 pl0 m (Nat.le_refl m)).1
    obtain ⟨gc, gh, gd, gr, va, vb, ko⟩ := L_outcome_c (L := L) (xs := xs) (K := K) (T := T) RR r6 r8 (ly F0 g1 g2 g3 m) (ly (A 4) g1 g2 g3 m) lF (ly_congr w7 pF m (Nat.le_refl m)) q (by omega)
    generalize hA1 : upA (upA (upA (upA (upA (up22 A g1 g2 g3) 35 (ly F0 g1 g2 g3 m)) 29 gc) 28 gh) 27 gd) 31 gr = A1 at ko
    have o42' : oc42 A1 b := by rw [← hA1]; exact o42
    have e43 : A1 43 = A 43 := by rw [← hA1]; rfl
    have e37 : A1 37 = A 4 := by rw [← hA1]; exact r1
    obtain ⟨pr, Fr, z', w8⟩ := w3 A1 (upV (upV (upV (rv V (nI n) st pc F) 19 1 0) 30 4 va) 30 5 vb) o42' e43
    generalize hW : mv (upV (upV (upV (upV (rv V (nI n) st pc F) 19 1 0) 30 4 va) 30 5 vb) 36 7 0) (nI n) pr Fr z' = W at w8
    have m1 := M_laysAside_c (L := L) (xs := xs) (A := upA A1 43 g) (V := W) (K := K) (T := T)
    rw [show upA A1 43 g 37 = A 4 from e37] at m1
    generalize hB : upA (upA A1 43 g) 46 (fun i => if i < 1080 then A 4 i else upA A1 43 g 46 i) = B at m1
    have b46 : ∀ d, d < 1080 → B 46 d = A 4 d := by
      intro d hd
      rw [← hB]
      show (if d < 1080 then A 4 d else upA A1 43 g 46 d) = A 4 d
      rw [if_pos hd]
    have b37 : B 37 = A 4 := by rw [← hB]; exact e37
    have b43 : B 43 = g := by rw [← hB]; rfl
    have ls := M_ls_c (L := L) (xs := xs) (A := B) (V := W) (K := K) (T := T) w7 w5 (A 4) b43 m 0 (by omega) none
    rw [show ly (A 4) g1 g2 g3 0 = B 37 from b37.symm, upA_self] at ls
    obtain ⟨gm, g5, m2⟩ := M_asked_c (L := L) (xs := xs) (B := upA B 37 (ly (A 4) g1 g2 g3 m)) (W := W) (K := K) (T := T) RR (by rw [← hB, ← hA1]; rfl) (by rw [← hB, ← hA1]; exact r2) (by rw [← hB, ← hA1]; exact r3) (ly (A 4) g1 g2 g3 m) rfl l1 q (by omega)
    have m4 := M_takesAside_c (L := L) (xs := xs) (A := upA (upA (upA B 37 (ly (A 4) g1 g2 g3 m)) 47 gm) 45 g5) (V := W) (K := K) (T := T)
    have ef : (fun i => if i < 1080 then upA (upA (upA B 37 (ly (A 4) g1 g2 g3 m)) 47 gm) 45 g5 46 i else upA (upA (upA B 37 (ly (A 4) g1 g2 g3 m)) 47 gm) 45 g5 37 i) = A 4 := by
      funext i
      show (if i < 1080 then B 46 i else ly (A 4) g1 g2 g3 m i) = A 4 i
      by_cases c : i < 1080
      · rw [if_pos c]; exact b46 i c
      · rw [if_neg c]; exact l2 i (by omega)
    rw [ef] at m4
    refine ⟨ocv (up22 A g1 g2 g3) (upV (rv V (nI n) st pc F) 19 1 0) (ly (A 4) g1 g2 g3 m) q, A1, upV (upV (upV (rv V (nI n) st pc F) 19 1 0) 30 4 va) 30 5 vb, K, T, upA (upA (upA (upA B 37 (ly (A 4) g1 g2 g3 m)) 47 gm) 45 g5) 37 (A 4), W, sg_L_trip_0 ?_, sg_M_trip_0 ?_, ?_⟩
    · (try simp only [lgl, lgg]); (repeat first | refine iteP (by first | assumption) ?_ | refine iteN (by first | assumption) ?_)
      refine am_fin.call w2 (sg_L_trip_25r (iteP pos ?_))
      rw [show va_cpy (up22 A g1 g2 g3 4) (up22 A g1 g2 g3 35) (0 : Int32).toNatClampNeg (0 : Int32).toNatClampNeg (1080 : Int32).toNatClampNeg = F0 from hF0]
      exact am_fin.call (sg_D_layOver_34_0 lo) (sg_L_trip_65r (am_fin.call ko (sg_L_trip_70r ⟨(by first | rfl | trivial), (by first | rfl | trivial)⟩)))
    · (try simp only [lgl, lgg]); (repeat first | refine iteP (by first | assumption) ?_ | refine iteN (by first | assumption) ?_)
      refine am_fin.call w8 (sg_M_trip_27r (iteP pos (am_fin.call m1 (sg_M_trip_38r ?_))))
      rw [w1]
      exact am_fin.call (sg_M_laysStays_0 ls) (sg_M_trip_43r (am_fin.call m2 (sg_M_trip_48r (am_fin.call m4 (sg_M_trip_54r ⟨(by first | rfl | trivial), (by first | rfl | trivial)⟩)))))
    · rw [← hW, ← hB, ← hA1]
      exact ⟨⟨rfl, r2, r3, r4, r5, r6, r7, r8⟩, R.2.1, R.2.2.1, ⟨⟨0, by omega, rfl, rfl⟩, R.2.2.2.1.2⟩, R.2.2.2.2.1, R.2.2.2.2.2⟩
end
