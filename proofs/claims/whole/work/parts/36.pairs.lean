section
variable {L : Nat} {xs : Nat → Int32} {A V : Nat → Nat → Int32} {K : Nat → Option Nat} {T : am_H}
theorem erase_lp (x : Int32) (hx1 : ¬ x = -1) (w : Nat) (hw : w ≤ 360) : ∀ (m r d : Nat) (n : Int32) (f : Nat → Int32), r ≤ m → d + r = 1080 → (∀ d, d < 1080 → pl (f d)) → (∀ d, 1080 ≤ d → f d = 0) → ∃ (v : Int32) (F : Nat → Int32), (∀ d, d < 1080 → pl (F d)) ∧ (∀ d, 1080 ≤ d → F d = 0) ∧ (∀ u : Option Int32, am_fin [(z_L_erase, 25, [.ref 1, .int x, .int (nI w), .int n, .int (nI d), dl u], [])] (hp L xs (upA A 4 f) V K T) (some v) (hp L xs (upA A 4 F) V K T)) ∧ ∀ (B : Nat → Nat → Int32) (t : Option Int32), am_fin [(z_M_erase, 21, [.ref 36, .int x, .int (nI w), .int n, .int (nI d), dl t], [])] (hp L xs (upA B 37 f) V K T) (some v) (hp L xs (upA B 37 F) V K T) := by
  intro m
  induction m with
  | zero =>
    intro r d n f hr hd p1 p2
    refine ⟨n, f, p1, p2, fun u => ?_, fun B t => ?_⟩
    · cases u
      · exact sg_L_erase_25 (iteP (g1080 (by omega)) ⟨rfl, rfl⟩)
      · exact sg_L_erase_25b (iteP (g1080 (by omega)) ⟨rfl, rfl⟩)
    · cases t
      · exact sg_M_erase_21 (iteP (g1080 (by omega)) ⟨rfl, rfl⟩)
      · exact sg_M_erase_21b (iteP (g1080 (by omega)) ⟨rfl, rfl⟩)
  | succ m ih =>
    intro r d n f hr hd p1 p2
    by_cases hr0 : r ≤ m
    · exact ih r d n f hr0 hd p1 p2
    have hd' : d < 1080 := by omega
    have ib : ¬ (nI d < 0 ∨ 1080 ≤ (nI d).toNatClampNeg) := nI_inb (by omega) hd'
    have rd : ∀ B : Nat → Nat → Int32, upA B 37 f 37 (nI d).toNatClampNeg = f d := fun B => by rw [nI_clamp (by omega), upA_same]
    have hc := P_landOn_3_c (L := L) (xs := xs) (A := upA A 4 f) (V := V) (K := K) (T := T) d hd'
    have hs := P_startsStay_3_c (L := L) (xs := xs) (A := upA A 4 f) (V := V) (K := K) (T := T) d hd'
    have hl := P_lastOfStay_3_c (L := L) (xs := xs) (A := upA A 4 f) (V := V) (K := K) (T := T) d hd'
    have mb : ∀ B : Nat → Nat → Int32, _ := fun B => M_begins_c (L := L) (xs := xs) (A := upA B 37 f) (V := V) (K := K) (T := T) d hd'
    have me : ∀ B : Nat → Nat → Int32, _ := fun B => M_endOf_c (L := L) (xs := xs) (A := upA B 37 f) (V := V) (K := K) (T := T) d hd'
    by_cases hx : f d = x
    · by_cases hb : beg f d
      · have n0 : ¬ b2 (beg f d) = 0 := by unfold b2; rw [if_pos hb]; decide
        obtain ⟨q1, q2, q3⟩ := en_in f d hd'
        have es : nI (en f d) - nI d = nI (en f d - d) := nI_sub q1
        by_cases hlen : w ≤ en f d - d
        · have cl : nI w < nI (en f d) - nI d + 1 := by rw [es, nI_1]; exact (nI_ltI (by omega) (by omega)).mpr (by omega)
          have cr : nI w ≤ nI (en f d) - nI d := by rw [es]; exact (nI_leI (by omega) (by omega)).mpr (by omega)
          obtain ⟨v, F, g1, g2, i1, i2⟩ := ih (1080 - (en f d + 1)) (en f d + 1) n f (by omega) (by omega) p1 p2
          have sk := erase_sk (L := L) (xs := xs) (A := upA A 4 f) (V := V) (K := K) (T := T) x (nI w) n (en f d) q2 (some v) (hp L xs (upA A 4 F) V K T) i1 (en f d - d) (d + 1) (some (nI (en f d))) (by omega) (fun i k1 k2 k3 k4 => k4.2.elim (by omega) (fun z => z ((q3 (i - 1) (by omega) (by omega)).trans (q3 i (by omega) k2).symm)))
          rw [← nI_1] at sk
          refine ⟨v, F, g1, g2, fun u => ?_, fun B t => ?_⟩
          · cases u
            · exact sg_L_erase_25 (iteN (l1080 hd') (am_fin.call hc (sg_L_erase_45r (iteP hx (am_fin.call hs (sg_L_erase_61r (iteN n0 (am_fin.call hl (sg_L_erase_76r (iteP cl sk)))))))))) 
            · exact sg_L_erase_25b (iteN (l1080 hd') (am_fin.call hc (sg_L_erase_45rb (iteP hx (am_fin.call hs (sg_L_erase_61rb (iteN n0 (am_fin.call hl (sg_L_erase_76rb (iteP cl sk))))))))))
          · have i2 := i2 B (some (nI (en f d)))
            rw [← nI_1] at i2
            cases t
            · exact sg_M_erase_21 (iteN (l1080 hd') ⟨ib, iteP ((rd B).trans hx) (am_fin.call (mb B) (sg_M_erase_46r (iteN n0 (am_fin.call (me B) (sg_M_erase_58r (iteP cr i2))))))⟩)
            · exact sg_M_erase_21b (iteN (l1080 hd') ⟨ib, iteP ((rd B).trans hx) (am_fin.call (mb B) (sg_M_erase_46rb (iteN n0 (am_fin.call (me B) (sg_M_erase_58rb (iteP cr i2))))))⟩)
        · have cl : ¬ nI w < nI (en f d) - nI d + 1 := by rw [es, nI_1]; exact mt (nI_ltI (by omega) (by omega)).mp (by omega)
          have cr : ¬ nI w ≤ nI (en f d) - nI d := by rw [es]; exact mt (nI_leI (by omega) (by omega)).mp (by omega)
          obtain ⟨v, F, g1, g2, i1, i2⟩ := ih (1080 - (en f d + 1)) (en f d + 1) (n + 1) (fl f d (en f d + 1 - d) (-1)) (by omega) (by omega) (fl_pl (Or.inl rfl) p1) (fun k hk => fl_z (by omega) hk (p2 k hk))
          have sk := erase_sk (L := L) (xs := xs) (A := upA A 4 (fl f d (en f d + 1 - d) (-1))) (V := V) (K := K) (T := T) x (nI w) (n + 1) (en f d) q2 (some v) (hp L xs (upA A 4 F) V K T) i1 (en f d - d) (d + 1) (some (nI (en f d))) (by omega) (fun i k1 k2 k3 k4 => k4.1 (by show fl f d (en f d + 1 - d) (-1) i = -1; unfold fl; rw [if_pos (by omega)]))
          rw [← nI_1] at sk
          have hp1 := P_put_3_c (L := L) (xs := xs) (A := upA A 4 f) (V := V) (K := K) (T := T) (-1) d (en f d) q2 (by omega)
          rw [upA_upA, upA_same] at hp1
          refine ⟨v, F, g1, g2, fun u => ?_, fun B t => ?_⟩
          · cases u
            · exact sg_L_erase_25 (iteN (l1080 hd') (am_fin.call hc (sg_L_erase_45r (iteP hx (am_fin.call hs (sg_L_erase_61r (iteN n0 (am_fin.call hl (sg_L_erase_76r (iteN cl (am_fin.call hp1 (sg_L_erase_104r sk))))))))))))
            · exact sg_L_erase_25b (iteN (l1080 hd') (am_fin.call hc (sg_L_erase_45rb (iteP hx (am_fin.call hs (sg_L_erase_61rb (iteN n0 (am_fin.call hl (sg_L_erase_76rb (iteN cl (am_fin.call hp1 (sg_L_erase_104r sk))))))))))))
          · have i2 := i2 B (some (nI (en f d)))
            rw [← nI_1] at i2
            have hg := M_goes_c (L := L) (xs := xs) (A := upA B 37 f) (V := V) (K := K) (T := T) (-1) d (en f d) q2 (by omega)
            rw [upA_upA, upA_same] at hg
            cases t
            · exact sg_M_erase_21 (iteN (l1080 hd') ⟨ib, iteP ((rd B).trans hx) (am_fin.call (mb B) (sg_M_erase_46r (iteN n0 (am_fin.call (me B) (sg_M_erase_58r (iteN cr (am_fin.call hg (sg_M_erase_78r i2))))))))⟩)
            · exact sg_M_erase_21b (iteN (l1080 hd') ⟨ib, iteP ((rd B).trans hx) (am_fin.call (mb B) (sg_M_erase_46rb (iteN n0 (am_fin.call (me B) (sg_M_erase_58rb (iteN cr (am_fin.call hg (sg_M_erase_78r i2))))))))⟩)
      · have n0 : b2 (beg f d) = 0 := by unfold b2; rw [if_neg hb]
        obtain ⟨v, F, g1, g2, i1, i2⟩ := ih (1080 - (d + 1)) (d + 1) n f (by omega) (by omega) p1 p2
        rw [← nI_1] at i1 i2
        refine ⟨v, F, g1, g2, fun u => ?_, fun B t => ?_⟩
        · cases u
          · exact sg_L_erase_25 (iteN (l1080 hd') (am_fin.call hc (sg_L_erase_45r (iteP hx (am_fin.call hs (sg_L_erase_61r (iteP n0 (i1 none))))))))
          · exact sg_L_erase_25b (iteN (l1080 hd') (am_fin.call hc (sg_L_erase_45rb (iteP hx (am_fin.call hs (sg_L_erase_61rb (iteP n0 (i1 (some _)))))))))
        · cases t
          · exact sg_M_erase_21 (iteN (l1080 hd') ⟨ib, iteP ((rd B).trans hx) (am_fin.call (mb B) (sg_M_erase_46r (iteP n0 (i2 B none))))⟩)
          · exact sg_M_erase_21b (iteN (l1080 hd') ⟨ib, iteP ((rd B).trans hx) (am_fin.call (mb B) (sg_M_erase_46rb (iteP n0 (i2 B (some _)))))⟩)
    · obtain ⟨v, F, g1, g2, i1, i2⟩ := ih (1080 - (d + 1)) (d + 1) n f (by omega) (by omega) p1 p2
      rw [← nI_1] at i1 i2
      refine ⟨v, F, g1, g2, fun u => ?_, fun B t => ?_⟩
      · cases u
        · exact sg_L_erase_25 (iteN (l1080 hd') (am_fin.call hc (sg_L_erase_45r (iteN hx (i1 none)))))
        · exact sg_L_erase_25b (iteN (l1080 hd') (am_fin.call hc (sg_L_erase_45rb (iteN hx (i1 (some _))))))
      · cases t
        · exact sg_M_erase_21 (iteN (l1080 hd') ⟨ib, iteN (fun z => hx ((rd B).symm.trans z)) (i2 B none)⟩)
        · exact sg_M_erase_21b (iteN (l1080 hd') ⟨ib, iteN (fun z => hx ((rd B).symm.trans z)) (i2 B (some _))⟩)
end
