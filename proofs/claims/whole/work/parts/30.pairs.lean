def d2 (u : Option (Int32 × Int32)) : List Value := match u with
  | none => [.null, .null]
  | some (p, q) => [.int p, .int q]
section
variable {L : Nat} {xs : Nat → Int32} {A V : Nat → Nat → Int32} {K : Nat → Option Nat} {T : am_H}
theorem travels_lp (x : Int32) (y : Nat) (hy : y < 3) (r1 : A 37 = A 4) : ∀ (r d : Nat) (n : Int32) (u w : Option (Int32 × Int32)), d + r = 360 * y + 360 → ∃ v, am_fin [(z_L_travels, 24, .ref 1 :: .int x :: .int (nI y) :: .int n :: .int (nI d) :: d2 u, [])] (hp L xs A V K T) (some v) (hp L xs A V K T) ∧ am_fin [(z_M_travels, 25, .ref 36 :: .int x :: .int (nI y) :: .int n :: .int (nI d) :: d2 w, [])] (hp L xs A V K T) (some v) (hp L xs A V K T) := by
  have e1 : nI y * 360 + 360 - 1 = nI (360 * y + 359) := by rw [show nI y * 360 = nI (y * 360) from nI_mul y 360, show nI (y * 360) + 360 = nI (y * 360 + 360) from nI_add _ 360, nI_m1 (by omega)]; congr 1; omega
  have e2 : (360 : Int32) * nI y + 360 = nI (360 * y + 360) := by rw [show (360 : Int32) * nI y = nI (360 * y) from nI_mul 360 y]; exact nI_add _ 360
  intro r
  induction r with
  | zero =>
    intro d n u w hd
    have q1 : nI y * 360 + 360 - 1 < nI d := by rw [e1, nI_ltI (by omega) (by omega)]; omega
    have q2 : (360 : Int32) * nI y + 360 ≤ nI d := by rw [e2, nI_leI (by omega) (by omega)]; omega
    refine ⟨n, ?_, ?_⟩
    · cases u
      · exact sg_L_travels_24 (iteP q1 ⟨rfl, rfl⟩)
      · exact sg_L_travels_24b (iteP q1 ⟨rfl, rfl⟩)
    · cases w
      · exact sg_M_travels_25 (iteP q2 ⟨rfl, rfl⟩)
      · exact sg_M_travels_25b (iteP q2 ⟨rfl, rfl⟩)
  | succ r ih =>
    intro d n u w hd
    have hd' : d < 1080 := by omega
    have q1 : ¬ nI y * 360 + 360 - 1 < nI d := by rw [e1, nI_ltI (by omega) (by omega)]; omega
    have q2 : ¬ (360 : Int32) * nI y + 360 ≤ nI d := by rw [e2, nI_leI (by omega) (by omega)]; omega
    have rd : A 37 (nI d).toNatClampNeg = A 4 d := by rw [nI_clamp (by omega), r1]
    have ib : ¬ (nI d < 0 ∨ 1080 ≤ (nI d).toNatClampNeg) := nI_inb (by omega) hd'
    have ep : nI d + 1 = nI (d + 1) := nI_1 d
    have hc := P_landOn_3_c (L := L) (xs := xs) (A := A) (V := V) (K := K) (T := T) d hd'
    by_cases h0 : d = 0
    · have z0 : nI d ≤ 0 := (nI_leI (a := d) (b := 0) (by omega) (by omega)).mpr (by omega)
      have t9 : ¬ (1079 : Int32) ≤ nI d := mt (nI_leI (a := 1079) (b := d) (by omega) (by omega)).mp (by omega)
      have t8 : ¬ (1080 : Int32) ≤ nI d + 1 := by rw [ep]; exact mt (nI_leI (a := 1080) (b := d + 1) (by omega) (by omega)).mp (by omega)
      have rp : A 37 (nI d + 1).toNatClampNeg = A 4 (d + 1) := by rw [ep, nI_clamp (by omega), r1]
      have ip : ¬ (nI d + 1 < 0 ∨ 1080 ≤ (nI d + 1).toNatClampNeg) := by rw [ep]; exact nI_inb (by omega) (by omega)
      have hq : am_fin [(z_P_landOn, 0, [.ref 3, .int (nI d + 1)], [])] (hp L xs A V K T) (some (A 4 (d + 1))) (hp L xs A V K T) := by rw [ep]; exact P_landOn_3_c (d + 1) (by omega)
      by_cases hr : A 4 (d + 1) = x
      · by_cases hx : A 4 d = x
        · obtain ⟨v, i1, i2⟩ := ih (d + 1) n (some (0, 0)) (some (0, 0)) (by omega)
          rw [← ep] at i1 i2
          refine ⟨v, ?_, ?_⟩
          · cases u
            · exact sg_L_travels_24 (iteN q1 (iteP z0 (iteN t9 (am_fin.call hq (sg_L_travels_85rb (iteP hr (am_fin.call hc (sg_L_travels_108r (iteP hx (iteP rfl (iteP rfl i1)))))))))))
            · exact sg_L_travels_24b (iteN q1 (iteP z0 (iteN t9 (am_fin.call hq (sg_L_travels_85r (iteP hr (am_fin.call hc (sg_L_travels_108r (iteP hx (iteP rfl (iteP rfl i1)))))))))))
          · cases w
            · exact sg_M_travels_25 (iteN q2 (iteP z0 (iteN t8 ⟨ip, iteP (rp.trans hr) ⟨ib, iteP (rd.trans hx) (by rw [Int32.add_zero]; exact i2)⟩⟩)))
            · exact sg_M_travels_25b (iteN q2 (iteP z0 (iteN t8 ⟨ip, iteP (rp.trans hr) ⟨ib, iteP (rd.trans hx) (by rw [Int32.add_zero]; exact i2)⟩⟩)))
        · obtain ⟨v, i1, i2⟩ := ih (d + 1) n (some (0, 0)) (some (0, 0)) (by omega)
          rw [← ep] at i1 i2
          refine ⟨v, ?_, ?_⟩
          · cases u
            · exact sg_L_travels_24 (iteN q1 (iteP z0 (iteN t9 (am_fin.call hq (sg_L_travels_85rb (iteP hr (am_fin.call hc (sg_L_travels_108r (iteN hx i1)))))))))
            · exact sg_L_travels_24b (iteN q1 (iteP z0 (iteN t9 (am_fin.call hq (sg_L_travels_85r (iteP hr (am_fin.call hc (sg_L_travels_108r (iteN hx i1)))))))))
          · cases w
            · exact sg_M_travels_25 (iteN q2 (iteP z0 (iteN t8 ⟨ip, iteP (rp.trans hr) ⟨ib, iteN (fun z => hx (rd.symm.trans z)) (by rw [Int32.add_zero]; exact i2)⟩⟩)))
            · exact sg_M_travels_25b (iteN q2 (iteP z0 (iteN t8 ⟨ip, iteP (rp.trans hr) ⟨ib, iteN (fun z => hx (rd.symm.trans z)) (by rw [Int32.add_zero]; exact i2)⟩⟩)))
      · by_cases hx : A 4 d = x
        · obtain ⟨v, i1, i2⟩ := ih (d + 1) (n + 1) (some (0, 1)) (some (0, 1)) (by omega)
          rw [← ep] at i1 i2
          refine ⟨v, ?_, ?_⟩
          · cases u
            · exact sg_L_travels_24 (iteN q1 (iteP z0 (iteN t9 (am_fin.call hq (sg_L_travels_85rb (iteN hr (am_fin.call hc (sg_L_travels_108r (iteP hx (iteP rfl (iteN (by decide) i1)))))))))))
            · exact sg_L_travels_24b (iteN q1 (iteP z0 (iteN t9 (am_fin.call hq (sg_L_travels_85r (iteN hr (am_fin.call hc (sg_L_travels_108r (iteP hx (iteP rfl (iteN (by decide) i1)))))))))))
          · cases w
            · exact sg_M_travels_25 (iteN q2 (iteP z0 (iteN t8 ⟨ip, iteN (fun z => hr (rp.symm.trans z)) ⟨ib, iteP (rd.trans hx) i2⟩⟩)))
            · exact sg_M_travels_25b (iteN q2 (iteP z0 (iteN t8 ⟨ip, iteN (fun z => hr (rp.symm.trans z)) ⟨ib, iteP (rd.trans hx) i2⟩⟩)))
        · obtain ⟨v, i1, i2⟩ := ih (d + 1) n (some (0, 1)) (some (0, 1)) (by omega)
          rw [← ep] at i1 i2
          refine ⟨v, ?_, ?_⟩
          · cases u
            · exact sg_L_travels_24 (iteN q1 (iteP z0 (iteN t9 (am_fin.call hq (sg_L_travels_85rb (iteN hr (am_fin.call hc (sg_L_travels_108r (iteN hx i1)))))))))
            · exact sg_L_travels_24b (iteN q1 (iteP z0 (iteN t9 (am_fin.call hq (sg_L_travels_85r (iteN hr (am_fin.call hc (sg_L_travels_108r (iteN hx i1)))))))))
          · cases w
            · exact sg_M_travels_25 (iteN q2 (iteP z0 (iteN t8 ⟨ip, iteN (fun z => hr (rp.symm.trans z)) ⟨ib, iteN (fun z => hx (rd.symm.trans z)) (by rw [Int32.add_zero]; exact i2)⟩⟩)))
            · exact sg_M_travels_25b (iteN q2 (iteP z0 (iteN t8 ⟨ip, iteN (fun z => hr (rp.symm.trans z)) ⟨ib, iteN (fun z => hx (rd.symm.trans z)) (by rw [Int32.add_zero]; exact i2)⟩⟩)))
    · have z0 : ¬ nI d ≤ 0 := mt (nI_leI (a := d) (b := 0) (by omega) (by omega)).mp (by omega)
      have em : nI d - 1 = nI (d - 1) := nI_m1 (by omega)
      have rm : A 37 (nI d - 1).toNatClampNeg = A 4 (d - 1) := by rw [em, nI_clamp (by omega), r1]
      have im : ¬ (nI d - 1 < 0 ∨ 1080 ≤ (nI d - 1).toNatClampNeg) := by rw [em]; exact nI_inb (by omega) (by omega)
      have hm : am_fin [(z_P_landOn, 0, [.ref 3, .int (nI d - 1)], [])] (hp L xs A V K T) (some (A 4 (d - 1))) (hp L xs A V K T) := by rw [em]; exact P_landOn_3_c (d - 1) (by omega)
      by_cases hl : A 4 (d - 1) = x
      · by_cases h9 : d = 1079
        · have t9 : (1079 : Int32) ≤ nI d := (nI_leI (a := 1079) (b := d) (by omega) (by omega)).mpr (by omega)
          have t8 : (1080 : Int32) ≤ nI d + 1 := by rw [ep]; exact (nI_leI (a := 1080) (b := d + 1) (by omega) (by omega)).mpr (by omega)
          by_cases hx : A 4 d = x
          · obtain ⟨v, i1, i2⟩ := ih (d + 1) n (some (0, 0)) (some (0, 0)) (by omega)
            rw [← ep] at i1 i2
            refine ⟨v, ?_, ?_⟩
            · cases u
              · exact sg_L_travels_24 (iteN q1 (iteN z0 (am_fin.call hm (sg_L_travels_52rb (iteP hl (iteP t9 (am_fin.call hc (sg_L_travels_108r (iteP hx (iteP rfl (iteP rfl i1)))))))))))
              · exact sg_L_travels_24b (iteN q1 (iteN z0 (am_fin.call hm (sg_L_travels_52r (iteP hl (iteP t9 (am_fin.call hc (sg_L_travels_108r (iteP hx (iteP rfl (iteP rfl i1)))))))))))
            · cases w
              · exact sg_M_travels_25 (iteN q2 (iteN z0 ⟨im, iteP (rm.trans hl) (iteP t8 ⟨ib, iteP (rd.trans hx) (by rw [Int32.add_zero]; exact i2)⟩)⟩))
              · exact sg_M_travels_25b (iteN q2 (iteN z0 ⟨im, iteP (rm.trans hl) (iteP t8 ⟨ib, iteP (rd.trans hx) (by rw [Int32.add_zero]; exact i2)⟩)⟩))
          · obtain ⟨v, i1, i2⟩ := ih (d + 1) n (some (0, 0)) (some (0, 0)) (by omega)
            rw [← ep] at i1 i2
            refine ⟨v, ?_, ?_⟩
            · cases u
              · exact sg_L_travels_24 (iteN q1 (iteN z0 (am_fin.call hm (sg_L_travels_52rb (iteP hl (iteP t9 (am_fin.call hc (sg_L_travels_108r (iteN hx i1)))))))))
              · exact sg_L_travels_24b (iteN q1 (iteN z0 (am_fin.call hm (sg_L_travels_52r (iteP hl (iteP t9 (am_fin.call hc (sg_L_travels_108r (iteN hx i1)))))))))
            · cases w
              · exact sg_M_travels_25 (iteN q2 (iteN z0 ⟨im, iteP (rm.trans hl) (iteP t8 ⟨ib, iteN (fun z => hx (rd.symm.trans z)) (by rw [Int32.add_zero]; exact i2)⟩)⟩))
              · exact sg_M_travels_25b (iteN q2 (iteN z0 ⟨im, iteP (rm.trans hl) (iteP t8 ⟨ib, iteN (fun z => hx (rd.symm.trans z)) (by rw [Int32.add_zero]; exact i2)⟩)⟩))
        · have t9 : ¬ (1079 : Int32) ≤ nI d := mt (nI_leI (a := 1079) (b := d) (by omega) (by omega)).mp (by omega)
          have t8 : ¬ (1080 : Int32) ≤ nI d + 1 := by rw [ep]; exact mt (nI_leI (a := 1080) (b := d + 1) (by omega) (by omega)).mp (by omega)
          have rp : A 37 (nI d + 1).toNatClampNeg = A 4 (d + 1) := by rw [ep, nI_clamp (by omega), r1]
          have ip : ¬ (nI d + 1 < 0 ∨ 1080 ≤ (nI d + 1).toNatClampNeg) := by rw [ep]; exact nI_inb (by omega) (by omega)
          have hq : am_fin [(z_P_landOn, 0, [.ref 3, .int (nI d + 1)], [])] (hp L xs A V K T) (some (A 4 (d + 1))) (hp L xs A V K T) := by rw [ep]; exact P_landOn_3_c (d + 1) (by omega)
          by_cases hr : A 4 (d + 1) = x
          · by_cases hx : A 4 d = x
            · obtain ⟨v, i1, i2⟩ := ih (d + 1) n (some (0, 0)) (some (0, 0)) (by omega)
              rw [← ep] at i1 i2
              refine ⟨v, ?_, ?_⟩
              · cases u
                · exact sg_L_travels_24 (iteN q1 (iteN z0 (am_fin.call hm (sg_L_travels_52rb (iteP hl (iteN t9 (am_fin.call hq (sg_L_travels_85rb (iteP hr (am_fin.call hc (sg_L_travels_108r (iteP hx (iteP rfl (iteP rfl i1))))))))))))))
                · exact sg_L_travels_24b (iteN q1 (iteN z0 (am_fin.call hm (sg_L_travels_52r (iteP hl (iteN t9 (am_fin.call hq (sg_L_travels_85r (iteP hr (am_fin.call hc (sg_L_travels_108r (iteP hx (iteP rfl (iteP rfl i1))))))))))))))
              · cases w
                · exact sg_M_travels_25 (iteN q2 (iteN z0 ⟨im, iteP (rm.trans hl) (iteN t8 ⟨ip, iteP (rp.trans hr) ⟨ib, iteP (rd.trans hx) (by rw [Int32.add_zero]; exact i2)⟩⟩)⟩))
                · exact sg_M_travels_25b (iteN q2 (iteN z0 ⟨im, iteP (rm.trans hl) (iteN t8 ⟨ip, iteP (rp.trans hr) ⟨ib, iteP (rd.trans hx) (by rw [Int32.add_zero]; exact i2)⟩⟩)⟩))
            · obtain ⟨v, i1, i2⟩ := ih (d + 1) n (some (0, 0)) (some (0, 0)) (by omega)
              rw [← ep] at i1 i2
              refine ⟨v, ?_, ?_⟩
              · cases u
                · exact sg_L_travels_24 (iteN q1 (iteN z0 (am_fin.call hm (sg_L_travels_52rb (iteP hl (iteN t9 (am_fin.call hq (sg_L_travels_85rb (iteP hr (am_fin.call hc (sg_L_travels_108r (iteN hx i1))))))))))))
                · exact sg_L_travels_24b (iteN q1 (iteN z0 (am_fin.call hm (sg_L_travels_52r (iteP hl (iteN t9 (am_fin.call hq (sg_L_travels_85r (iteP hr (am_fin.call hc (sg_L_travels_108r (iteN hx i1))))))))))))
              · cases w
                · exact sg_M_travels_25 (iteN q2 (iteN z0 ⟨im, iteP (rm.trans hl) (iteN t8 ⟨ip, iteP (rp.trans hr) ⟨ib, iteN (fun z => hx (rd.symm.trans z)) (by rw [Int32.add_zero]; exact i2)⟩⟩)⟩))
                · exact sg_M_travels_25b (iteN q2 (iteN z0 ⟨im, iteP (rm.trans hl) (iteN t8 ⟨ip, iteP (rp.trans hr) ⟨ib, iteN (fun z => hx (rd.symm.trans z)) (by rw [Int32.add_zero]; exact i2)⟩⟩)⟩))
          · by_cases hx : A 4 d = x
            · obtain ⟨v, i1, i2⟩ := ih (d + 1) (n + 1) (some (0, 1)) (some (0, 1)) (by omega)
              rw [← ep] at i1 i2
              refine ⟨v, ?_, ?_⟩
              · cases u
                · exact sg_L_travels_24 (iteN q1 (iteN z0 (am_fin.call hm (sg_L_travels_52rb (iteP hl (iteN t9 (am_fin.call hq (sg_L_travels_85rb (iteN hr (am_fin.call hc (sg_L_travels_108r (iteP hx (iteP rfl (iteN (by decide) i1))))))))))))))
                · exact sg_L_travels_24b (iteN q1 (iteN z0 (am_fin.call hm (sg_L_travels_52r (iteP hl (iteN t9 (am_fin.call hq (sg_L_travels_85r (iteN hr (am_fin.call hc (sg_L_travels_108r (iteP hx (iteP rfl (iteN (by decide) i1))))))))))))))
              · cases w
                · exact sg_M_travels_25 (iteN q2 (iteN z0 ⟨im, iteP (rm.trans hl) (iteN t8 ⟨ip, iteN (fun z => hr (rp.symm.trans z)) ⟨ib, iteP (rd.trans hx) i2⟩⟩)⟩))
                · exact sg_M_travels_25b (iteN q2 (iteN z0 ⟨im, iteP (rm.trans hl) (iteN t8 ⟨ip, iteN (fun z => hr (rp.symm.trans z)) ⟨ib, iteP (rd.trans hx) i2⟩⟩)⟩))
            · obtain ⟨v, i1, i2⟩ := ih (d + 1) n (some (0, 1)) (some (0, 1)) (by omega)
              rw [← ep] at i1 i2
              refine ⟨v, ?_, ?_⟩
              · cases u
                · exact sg_L_travels_24 (iteN q1 (iteN z0 (am_fin.call hm (sg_L_travels_52rb (iteP hl (iteN t9 (am_fin.call hq (sg_L_travels_85rb (iteN hr (am_fin.call hc (sg_L_travels_108r (iteN hx i1))))))))))))
                · exact sg_L_travels_24b (iteN q1 (iteN z0 (am_fin.call hm (sg_L_travels_52r (iteP hl (iteN t9 (am_fin.call hq (sg_L_travels_85r (iteN hr (am_fin.call hc (sg_L_travels_108r (iteN hx i1))))))))))))
              · cases w
                · exact sg_M_travels_25 (iteN q2 (iteN z0 ⟨im, iteP (rm.trans hl) (iteN t8 ⟨ip, iteN (fun z => hr (rp.symm.trans z)) ⟨ib, iteN (fun z => hx (rd.symm.trans z)) (by rw [Int32.add_zero]; exact i2)⟩⟩)⟩))
                · exact sg_M_travels_25b (iteN q2 (iteN z0 ⟨im, iteP (rm.trans hl) (iteN t8 ⟨ip, iteN (fun z => hr (rp.symm.trans z)) ⟨ib, iteN (fun z => hx (rd.symm.trans z)) (by rw [Int32.add_zero]; exact i2)⟩⟩)⟩))
      · by_cases h9 : d = 1079
        · have t9 : (1079 : Int32) ≤ nI d := (nI_leI (a := 1079) (b := d) (by omega) (by omega)).mpr (by omega)
          have t8 : (1080 : Int32) ≤ nI d + 1 := by rw [ep]; exact (nI_leI (a := 1080) (b := d + 1) (by omega) (by omega)).mpr (by omega)
          by_cases hx : A 4 d = x
          · obtain ⟨v, i1, i2⟩ := ih (d + 1) (n + 1) (some (1, 0)) (some (1, 0)) (by omega)
            rw [← ep] at i1 i2
            refine ⟨v, ?_, ?_⟩
            · cases u
              · exact sg_L_travels_24 (iteN q1 (iteN z0 (am_fin.call hm (sg_L_travels_52rb (iteN hl (iteP t9 (am_fin.call hc (sg_L_travels_108r (iteP hx (iteN (by decide) i1))))))))))
              · exact sg_L_travels_24b (iteN q1 (iteN z0 (am_fin.call hm (sg_L_travels_52r (iteN hl (iteP t9 (am_fin.call hc (sg_L_travels_108r (iteP hx (iteN (by decide) i1))))))))))
            · cases w
              · exact sg_M_travels_25 (iteN q2 (iteN z0 ⟨im, iteN (fun z => hl (rm.symm.trans z)) (iteP t8 ⟨ib, iteP (rd.trans hx) i2⟩)⟩))
              · exact sg_M_travels_25b (iteN q2 (iteN z0 ⟨im, iteN (fun z => hl (rm.symm.trans z)) (iteP t8 ⟨ib, iteP (rd.trans hx) i2⟩)⟩))
          · obtain ⟨v, i1, i2⟩ := ih (d + 1) n (some (1, 0)) (some (1, 0)) (by omega)
            rw [← ep] at i1 i2
            refine ⟨v, ?_, ?_⟩
            · cases u
              · exact sg_L_travels_24 (iteN q1 (iteN z0 (am_fin.call hm (sg_L_travels_52rb (iteN hl (iteP t9 (am_fin.call hc (sg_L_travels_108r (iteN hx i1)))))))))
              · exact sg_L_travels_24b (iteN q1 (iteN z0 (am_fin.call hm (sg_L_travels_52r (iteN hl (iteP t9 (am_fin.call hc (sg_L_travels_108r (iteN hx i1)))))))))
            · cases w
              · exact sg_M_travels_25 (iteN q2 (iteN z0 ⟨im, iteN (fun z => hl (rm.symm.trans z)) (iteP t8 ⟨ib, iteN (fun z => hx (rd.symm.trans z)) (by rw [Int32.add_zero]; exact i2)⟩)⟩))
              · exact sg_M_travels_25b (iteN q2 (iteN z0 ⟨im, iteN (fun z => hl (rm.symm.trans z)) (iteP t8 ⟨ib, iteN (fun z => hx (rd.symm.trans z)) (by rw [Int32.add_zero]; exact i2)⟩)⟩))
        · have t9 : ¬ (1079 : Int32) ≤ nI d := mt (nI_leI (a := 1079) (b := d) (by omega) (by omega)).mp (by omega)
          have t8 : ¬ (1080 : Int32) ≤ nI d + 1 := by rw [ep]; exact mt (nI_leI (a := 1080) (b := d + 1) (by omega) (by omega)).mp (by omega)
          have rp : A 37 (nI d + 1).toNatClampNeg = A 4 (d + 1) := by rw [ep, nI_clamp (by omega), r1]
          have ip : ¬ (nI d + 1 < 0 ∨ 1080 ≤ (nI d + 1).toNatClampNeg) := by rw [ep]; exact nI_inb (by omega) (by omega)
          have hq : am_fin [(z_P_landOn, 0, [.ref 3, .int (nI d + 1)], [])] (hp L xs A V K T) (some (A 4 (d + 1))) (hp L xs A V K T) := by rw [ep]; exact P_landOn_3_c (d + 1) (by omega)
          by_cases hr : A 4 (d + 1) = x
          · by_cases hx : A 4 d = x
            · obtain ⟨v, i1, i2⟩ := ih (d + 1) (n + 1) (some (1, 0)) (some (1, 0)) (by omega)
              rw [← ep] at i1 i2
              refine ⟨v, ?_, ?_⟩
              · cases u
                · exact sg_L_travels_24 (iteN q1 (iteN z0 (am_fin.call hm (sg_L_travels_52rb (iteN hl (iteN t9 (am_fin.call hq (sg_L_travels_85rb (iteP hr (am_fin.call hc (sg_L_travels_108r (iteP hx (iteN (by decide) i1)))))))))))))
                · exact sg_L_travels_24b (iteN q1 (iteN z0 (am_fin.call hm (sg_L_travels_52r (iteN hl (iteN t9 (am_fin.call hq (sg_L_travels_85r (iteP hr (am_fin.call hc (sg_L_travels_108r (iteP hx (iteN (by decide) i1)))))))))))))
              · cases w
                · exact sg_M_travels_25 (iteN q2 (iteN z0 ⟨im, iteN (fun z => hl (rm.symm.trans z)) (iteN t8 ⟨ip, iteP (rp.trans hr) ⟨ib, iteP (rd.trans hx) i2⟩⟩)⟩))
                · exact sg_M_travels_25b (iteN q2 (iteN z0 ⟨im, iteN (fun z => hl (rm.symm.trans z)) (iteN t8 ⟨ip, iteP (rp.trans hr) ⟨ib, iteP (rd.trans hx) i2⟩⟩)⟩))
            · obtain ⟨v, i1, i2⟩ := ih (d + 1) n (some (1, 0)) (some (1, 0)) (by omega)
              rw [← ep] at i1 i2
              refine ⟨v, ?_, ?_⟩
              · cases u
                · exact sg_L_travels_24 (iteN q1 (iteN z0 (am_fin.call hm (sg_L_travels_52rb (iteN hl (iteN t9 (am_fin.call hq (sg_L_travels_85rb (iteP hr (am_fin.call hc (sg_L_travels_108r (iteN hx i1))))))))))))
                · exact sg_L_travels_24b (iteN q1 (iteN z0 (am_fin.call hm (sg_L_travels_52r (iteN hl (iteN t9 (am_fin.call hq (sg_L_travels_85r (iteP hr (am_fin.call hc (sg_L_travels_108r (iteN hx i1))))))))))))
              · cases w
                · exact sg_M_travels_25 (iteN q2 (iteN z0 ⟨im, iteN (fun z => hl (rm.symm.trans z)) (iteN t8 ⟨ip, iteP (rp.trans hr) ⟨ib, iteN (fun z => hx (rd.symm.trans z)) (by rw [Int32.add_zero]; exact i2)⟩⟩)⟩))
                · exact sg_M_travels_25b (iteN q2 (iteN z0 ⟨im, iteN (fun z => hl (rm.symm.trans z)) (iteN t8 ⟨ip, iteP (rp.trans hr) ⟨ib, iteN (fun z => hx (rd.symm.trans z)) (by rw [Int32.add_zero]; exact i2)⟩⟩)⟩))
          · by_cases hx : A 4 d = x
            · obtain ⟨v, i1, i2⟩ := ih (d + 1) (n + 1) (some (1, 1)) (some (1, 1)) (by omega)
              rw [← ep] at i1 i2
              refine ⟨v, ?_, ?_⟩
              · cases u
                · exact sg_L_travels_24 (iteN q1 (iteN z0 (am_fin.call hm (sg_L_travels_52rb (iteN hl (iteN t9 (am_fin.call hq (sg_L_travels_85rb (iteN hr (am_fin.call hc (sg_L_travels_108r (iteP hx (iteN (by decide) i1)))))))))))))
                · exact sg_L_travels_24b (iteN q1 (iteN z0 (am_fin.call hm (sg_L_travels_52r (iteN hl (iteN t9 (am_fin.call hq (sg_L_travels_85r (iteN hr (am_fin.call hc (sg_L_travels_108r (iteP hx (iteN (by decide) i1)))))))))))))
              · cases w
                · exact sg_M_travels_25 (iteN q2 (iteN z0 ⟨im, iteN (fun z => hl (rm.symm.trans z)) (iteN t8 ⟨ip, iteN (fun z => hr (rp.symm.trans z)) ⟨ib, iteP (rd.trans hx) i2⟩⟩)⟩))
                · exact sg_M_travels_25b (iteN q2 (iteN z0 ⟨im, iteN (fun z => hl (rm.symm.trans z)) (iteN t8 ⟨ip, iteN (fun z => hr (rp.symm.trans z)) ⟨ib, iteP (rd.trans hx) i2⟩⟩)⟩))
            · obtain ⟨v, i1, i2⟩ := ih (d + 1) n (some (1, 1)) (some (1, 1)) (by omega)
              rw [← ep] at i1 i2
              refine ⟨v, ?_, ?_⟩
              · cases u
                · exact sg_L_travels_24 (iteN q1 (iteN z0 (am_fin.call hm (sg_L_travels_52rb (iteN hl (iteN t9 (am_fin.call hq (sg_L_travels_85rb (iteN hr (am_fin.call hc (sg_L_travels_108r (iteN hx i1))))))))))))
                · exact sg_L_travels_24b (iteN q1 (iteN z0 (am_fin.call hm (sg_L_travels_52r (iteN hl (iteN t9 (am_fin.call hq (sg_L_travels_85r (iteN hr (am_fin.call hc (sg_L_travels_108r (iteN hx i1))))))))))))
              · cases w
                · exact sg_M_travels_25 (iteN q2 (iteN z0 ⟨im, iteN (fun z => hl (rm.symm.trans z)) (iteN t8 ⟨ip, iteN (fun z => hr (rp.symm.trans z)) ⟨ib, iteN (fun z => hx (rd.symm.trans z)) (by rw [Int32.add_zero]; exact i2)⟩⟩)⟩))
                · exact sg_M_travels_25b (iteN q2 (iteN z0 ⟨im, iteN (fun z => hl (rm.symm.trans z)) (iteN t8 ⟨ip, iteN (fun z => hr (rp.symm.trans z)) ⟨ib, iteN (fun z => hx (rd.symm.trans z)) (by rw [Int32.add_zero]; exact i2)⟩⟩)⟩))
theorem pr_travels (a1 a2 : Int32) (R : RI A V K T) : PRQ z_L_travels z_M_travels [.ref 1, .int a1, .int a2, .null, .null, .null, .null] [.ref 36, .int a1, .int a2, .null, .null, .null, .null] L xs A V K T := by
  by_cases c1 : a1 < 0
  · refine ⟨(-1), A, V, K, T, A, V, sg_L_travels_0 ?_, sg_M_travels_0 ?_, R⟩
    · (try simp only [lgl, lgg]); (repeat first | refine iteP (by first | assumption) ?_ | refine iteN (by first | assumption) ?_); (constructor <;> first | rfl | trivial)
    · (try simp only [lgl, lgg]); (repeat first | refine iteP (by first | assumption) ?_ | refine iteN (by first | assumption) ?_); (constructor <;> first | rfl | trivial)
  by_cases c2 : (5 : Int32) < a1
  · refine ⟨(-1), A, V, K, T, A, V, sg_L_travels_0 ?_, sg_M_travels_0 ?_, R⟩
    · (try simp only [lgl, lgg]); (repeat first | refine iteP (by first | assumption) ?_ | refine iteN (by first | assumption) ?_); (constructor <;> first | rfl | trivial)
    · (try simp only [lgl, lgg]); (repeat first | refine iteP (by first | assumption) ?_ | refine iteN (by first | assumption) ?_); (constructor <;> first | rfl | trivial)
  by_cases c3 : a2 < 0
  · refine ⟨(-1), A, V, K, T, A, V, sg_L_travels_0 ?_, sg_M_travels_0 ?_, R⟩
    · (try simp only [lgl, lgg]); (repeat first | refine iteP (by first | assumption) ?_ | refine iteN (by first | assumption) ?_); (constructor <;> first | rfl | trivial)
    · (try simp only [lgl, lgg]); (repeat first | refine iteP (by first | assumption) ?_ | refine iteN (by first | assumption) ?_); (constructor <;> first | rfl | trivial)
  by_cases c4 : (2 : Int32) < a2
  · refine ⟨(-1), A, V, K, T, A, V, sg_L_travels_0 ?_, sg_M_travels_0 ?_, R⟩
    · (try simp only [lgl, lgg]); (repeat first | refine iteP (by first | assumption) ?_ | refine iteN (by first | assumption) ?_); (constructor <;> first | rfl | trivial)
    · (try simp only [lgl, lgg]); (repeat first | refine iteP (by first | assumption) ?_ | refine iteN (by first | assumption) ?_); (constructor <;> first | rfl | trivial)
  obtain ⟨y, hy, rfl⟩ := i32_nat (m := 2) (by omega) c3 c4
  have e1 : nI y * 360 = nI (360 * y) := by rw [Nat.mul_comm]; exact nI_mul y 360
  have e2 : (360 : Int32) * nI y = nI (360 * y) := nI_mul 360 y
  obtain ⟨v, i1, i2⟩ := travels_lp (L := L) (xs := xs) (V := V) (K := K) (T := T) a1 y (by omega) R.1.1 360 (360 * y) 0 none none (by omega)
  refine ⟨v, A, V, K, T, A, V, sg_L_travels_0 ?_, sg_M_travels_0 ?_, R⟩
  · (try simp only [lgl, lgg]); (repeat first | refine iteP (by first | assumption) ?_ | refine iteN (by first | assumption) ?_)
    rw [e1]
    exact i1
  · (try simp only [lgl, lgg]); (repeat first | refine iteP (by first | assumption) ?_ | refine iteN (by first | assumption) ?_)
    rw [e2]
    exact i2
end
