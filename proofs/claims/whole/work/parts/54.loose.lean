theorem cn_srch {p : Nat → Prop} [DecidablePred p] {a : Nat} : ∀ k, cn p a k = 0 ↔ srch p k a = none
  | 0 => ⟨fun _ => rfl, fun _ => rfl⟩
  | k + 1 => by
    have ih := cn_srch (p := p) (a := a) k
    rw [srch_snoc]
    show cn p a k + (if p (a + k) then 1 else 0) = 0 ↔ _
    cases hs : srch p k a with
    | none =>
      have h0 := ih.mpr hs
      dsimp only
      by_cases c : p (a + k)
      · rw [if_pos c, if_pos c]; exact ⟨fun h => by omega, fun h => by cases h⟩
      · rw [if_neg c, if_neg c]; exact ⟨fun _ => rfl, fun _ => by omega⟩
    | some m =>
      have h0 : ¬ cn p a k = 0 := fun h => by rw [ih.mp h] at hs; cases hs
      dsimp only
      exact ⟨fun h => by omega, fun h => by cases h⟩
def ixf (f : Nat → Int32) (d : Nat) : Nat := (f d + 1).toNatClampNeg
theorem ixf_on {f : Nat → Int32} {d : Nat} (h : pl (f d)) : ixf f d < 7 ∧ f d = pn (ixf f d) := by
  unfold ixf
  rcases h with e | ⟨l, hl, e⟩
  · rw [e]; exact ⟨by decide, rfl⟩
  · rw [e, nI_1, nI_clamp (by omega), pn_s]; exact ⟨by omega, rfl⟩
theorem ot_on {i l : Nat} (h : ot i = some l) : pn i = nI l := by unfold pn; rw [h]; rfl
theorem pn_ot {i : Nat} (h0 : ¬ i = 0) : pn i = nI (i - 1) := by
  obtain ⟨l, rfl⟩ : ∃ l, i = l + 1 := ⟨i - 1, by omega⟩
  rw [pn_s, Nat.add_sub_cancel]
section
variable {L : Nat} {xs : Nat → Int32} {A V : Nat → Nat → Int32} {K : Nat → Option Nat} {T : am_H} {D H C ru : Nat → Nat → Nat} {na : Nat → Nat} {rn : Nat → Nat → Nat} {rl : Nat → Nat → Nat → Nat}

theorem L_loose_lp (f : Nat → Int32) (hA : A 4 = f) (hf : ∀ d, d < 1080 → pl (f d)) (hp1 : ∀ d l, d < 1080 → f d = nI l → 1 ≤ D l (d / 360)) (y w : Nat) (hy : y < 3) (hw : w < 2) : am_fin [(z_L_loose, 54, [.ref 1, .int (nI y), .int (nI w), .int (nI (bs (lop D H C ru na rn rl y) 7)), .int 0, .int (-2), .int (nI y * 360)], [])] (hp L xs A V K T) (some (if w = 0 then nI (cn (fun d => loq D H C ru na rn rl y (ixf f d)) (360 * y) 360) else onat (-2) (srch (fun d => loq D H C ru na rn rl y (ixf f d)) 360 (360 * y)))) (hp L xs A V K T) := by
  have el : nI y * 360 + 360 - 1 = nI (360 * y + 359) := by rw [l_360, nI_mul, nI_add, nI_m1 (by omega)]; congr 1; omega
  have ef : nI y * 360 = nI (360 * y) := by rw [l_360, nI_mul, Nat.mul_comm]
  rw [ef]
  refine am_iter (fun k => ([(z_L_loose, 54, [.ref 1, .int (nI y), .int (nI w), .int (nI (bs (lop D H C ru na rn rl y) 7)), .int (nI (cn (fun d => loq D H C ru na rn rl y (ixf f d)) (360 * y) k)), .int (onat (-2) (srch (fun d => loq D H C ru na rn rl y (ixf f d)) k (360 * y))), .int (nI (360 * y + k))], [])], hp L xs A V K T)) 360 (fun k hk ih => ?_) ?_
  · dsimp only at ih ⊢
    obtain ⟨x1, x2⟩ := ixf_on (hf (360 * y + k) (by omega))
    have hd : (360 * y + k) / 360 = y := by omega
    refine sg_L_loose_54 (iteN (by rw [el, nI_ltI (by omega) (by omega)]; omega) (am_fin.call (P_landOn_3_c (360 * y + k) (by omega)) (sg_L_loose_76r ?_)))
    rw [hA, x2, pn_1]
    rw [← Nat.add_assoc, ← nI_1, srch_snoc] at ih
    have lp : lop D H C ru na rn rl y (ixf f (360 * y + k)) ↔ loq D H C ru na rn rl y (ixf f (360 * y + k)) := by
      refine ⟨fun z => z.2, fun z => ⟨?_, z⟩⟩
      by_cases i0 : ixf f (360 * y + k) = 0
      · exact Or.inl i0
      · have := hp1 (360 * y + k) (ixf f (360 * y + k) - 1) (by omega) (x2.trans (pn_ot i0))
        rw [hd] at this
        exact Or.inr (by omega)
    by_cases q : loq D H C ru na rn rl y (ixf f (360 * y + k))
    · refine iteP ((bs_hbit7 x1).mpr (lp.mpr q)) ?_
      rw [← cn_t (p := fun d => loq D H C ru na rn rl y (ixf f d)) q] at ih
      cases hs : srch (fun d => loq D H C ru na rn rl y (ixf f d)) k (360 * y) with
      | none =>
        rw [hs] at ih
        dsimp only at ih
        rw [if_pos q] at ih
        exact iteP rfl ih
      | some m =>
        rw [hs] at ih
        have := srch_in _ _ _ _ hs
        exact iteN (nI_neg2 (a := m) (by omega)) ih
    · refine iteN (mt (bs_hbit7 x1).mp (mt lp.mp q)) ?_
      rw [← cn_f (p := fun d => loq D H C ru na rn rl y (ixf f d)) q] at ih
      cases hs : srch (fun d => loq D H C ru na rn rl y (ixf f d)) k (360 * y) with
      | none =>
        rw [hs] at ih
        dsimp only at ih
        rw [if_neg q] at ih
        exact ih
      | some m =>
        rw [hs] at ih
        exact ih
  · dsimp only
    refine sg_L_loose_54 (iteP (by rw [el, nI_ltI (by omega) (by omega)]; omega) ?_)
    by_cases w0 : w = 0
    · rw [if_pos w0]; exact iteP ((nI_z (by omega)).mpr w0) ⟨rfl, rfl⟩
    · rw [if_neg w0]; exact iteN (mt (nI_z (by omega)).mp w0) ⟨rfl, rfl⟩
theorem M_loose_lp (J : JMd A D H C) (R : JMr A ru na rn rl) (f : Nat → Int32) (hA : A 37 = f) (hf : ∀ d, d < 1080 → pl (f d)) (hp1 : ∀ d l, d < 1080 → f d = nI l → 1 ≤ D l (d / 360)) (y w : Nat) (hy : y < 3) (hw : w < 2) (hD : ∀ l, l < 6 → D l y ≤ 360) : ∀ (r k : Nat) (g : Nat → Int32), k + r = 360 → (∀ i, i < 7 → g i = 0 ∨ g i = if loq D H C ru na rn rl y i then 2 else 1) → ∃ g' : Nat → Int32, ∀ u : Option Int32, am_fin [(z_M_loose, 67, [.ref 36, .int (nI y), .int (nI w), .int (onat (-2) (lives D H C ru na rn rl y)), .int (nI (cn (fun d => loq D H C ru na rn rl y (ixf f d)) (360 * y) k)), .int (onat (-2) (srch (fun d => loq D H C ru na rn rl y (ixf f d)) k (360 * y))), .int (nI (360 * y + k)), dl u], [])] (hp L xs (upA A 49 g) V K T) (some (if w = 0 then nI (cn (fun d => loq D H C ru na rn rl y (ixf f d)) (360 * y) 360) else onat (-2) (srch (fun d => loq D H C ru na rn rl y (ixf f d)) 360 (360 * y)))) (hp L xs (upA A 49 g') V K T) := by
  have el : (360 : Int32) * nI y + 360 = nI (360 * y + 360) := by rw [l_360, nI_mul, nI_add]
  intro r
  induction r with
  | zero =>
    intro k g hk hg
    have e : k = 360 := by omega
    subst e
    refine ⟨g, fun u => ?_⟩
    have c : (360 : Int32) * nI y + 360 ≤ nI (360 * y + 360) := by rw [el]; exact Int32.le_refl _
    by_cases w0 : w = 0
    · rw [if_pos w0]
      have w1 := (nI_z (n := w) (by omega)).mpr w0
      cases u
      · exact sg_M_loose_67 (iteP c (iteP w1 ⟨rfl, rfl⟩))
      · exact sg_M_loose_67b (iteP c (iteP w1 ⟨rfl, rfl⟩))
    · rw [if_neg w0]
      have w1 := mt (nI_z (n := w) (by omega)).mp w0
      cases u
      · exact sg_M_loose_67 (iteP c (iteN w1 ⟨rfl, rfl⟩))
      · exact sg_M_loose_67b (iteP c (iteN w1 ⟨rfl, rfl⟩))
  | succ r ih =>
    intro k g hk hg
    obtain ⟨x1, x2⟩ := ixf_on (hf (360 * y + k) (by omega))
    have hd : (360 * y + k) / 360 = y := by omega
    have c : ¬ (360 : Int32) * nI y + 360 ≤ nI (360 * y + k) := by rw [el, nI_leI (by omega) (by omega)]; omega
    have ib : ¬ (nI (360 * y + k) < 0 ∨ 1080 ≤ (nI (360 * y + k)).toNatClampNeg) := nI_inb (by omega) (by omega)
    have rd : ∀ g, upA A 49 g 37 (nI (360 * y + k)).toNatClampNeg + 1 = nI (ixf f (360 * y + k)) := by
      intro g
      rw [nI_clamp (by omega), show upA A 49 g 37 = f from hA, x2, pn_1]
    have ob : ¬ (nI (ixf f (360 * y + k)) < 0 ∨ 7 ≤ (nI (ixf f (360 * y + k))).toNatClampNeg) := nI_inb (by omega) x1
    have ci := nI_clamp (n := ixf f (360 * y + k)) (by omega)
    have hs0 := cn_srch (p := fun d => loq D H C ru na rn rl y (ixf f d)) (a := 360 * y) k
    have cl := cn_le (fun d => loq D H C ru na rn rl y (ixf f d)) (360 * y) k
    -- what is left, once the place is known
    have rest : ∀ g1 : Nat → Int32, (∀ i, i < 7 → g1 i = 0 ∨ g1 i = if loq D H C ru na rn rl y i then 2 else 1) → ∃ g' : Nat → Int32, ∀ x : Int32, (if (if loq D H C ru na rn rl y (ixf f (360 * y + k)) then (2 : Int32) else 1) = 1 then am_fin [(z_M_loose, 67, [.ref 36, .int (nI y), .int (nI w), .int (onat (-2) (lives D H C ru na rn rl y)), .int (nI (cn (fun d => loq D H C ru na rn rl y (ixf f d)) (360 * y) k)), .int (onat (-2) (srch (fun d => loq D H C ru na rn rl y (ixf f d)) k (360 * y))), .int (nI (360 * y + k) + 1), .int x], [])] (hp L xs (upA A 49 g1) V K T) (some (if w = 0 then nI (cn (fun d => loq D H C ru na rn rl y (ixf f d)) (360 * y) 360) else onat (-2) (srch (fun d => loq D H C ru na rn rl y (ixf f d)) 360 (360 * y)))) (hp L xs (upA A 49 g') V K T) else if nI (cn (fun d => loq D H C ru na rn rl y (ixf f d)) (360 * y) k) = 0 then am_fin [(z_M_loose, 67, [.ref 36, .int (nI y), .int (nI w), .int (onat (-2) (lives D H C ru na rn rl y)), .int (nI (cn (fun d => loq D H C ru na rn rl y (ixf f d)) (360 * y) k) + 1), .int (nI (360 * y + k)), .int (nI (360 * y + k) + 1), .int x], [])] (hp L xs (upA A 49 g1) V K T) (some (if w = 0 then nI (cn (fun d => loq D H C ru na rn rl y (ixf f d)) (360 * y) 360) else onat (-2) (srch (fun d => loq D H C ru na rn rl y (ixf f d)) 360 (360 * y)))) (hp L xs (upA A 49 g') V K T) else am_fin [(z_M_loose, 67, [.ref 36, .int (nI y), .int (nI w), .int (onat (-2) (lives D H C ru na rn rl y)), .int (nI (cn (fun d => loq D H C ru na rn rl y (ixf f d)) (360 * y) k) + 1), .int (onat (-2) (srch (fun d => loq D H C ru na rn rl y (ixf f d)) k (360 * y))), .int (nI (360 * y + k) + 1), .int x], [])] (hp L xs (upA A 49 g1) V K T) (some (if w = 0 then nI (cn (fun d => loq D H C ru na rn rl y (ixf f d)) (360 * y) 360) else onat (-2) (srch (fun d => loq D H C ru na rn rl y (ixf f d)) 360 (360 * y)))) (hp L xs (upA A 49 g') V K T)) := by
      intro g1 hg1
      obtain ⟨g', i1⟩ := ih (k + 1) g1 (by omega) hg1
      rw [← Nat.add_assoc, ← nI_1, srch_snoc] at i1
      refine ⟨g', fun x => ?_⟩
      have i1 := i1 (some x)
      by_cases q : loq D H C ru na rn rl y (ixf f (360 * y + k))
      · rw [if_pos q]
        refine iteN (by decide) ?_
        rw [← cn_t (p := fun d => loq D H C ru na rn rl y (ixf f d)) q] at i1
        cases hs : srch (fun d => loq D H C ru na rn rl y (ixf f d)) k (360 * y) with
        | none =>
          rw [hs] at i1
          dsimp only at i1
          rw [if_pos q] at i1
          exact iteP ((nI_z (by omega)).mpr (hs0.mpr hs)) i1
        | some m =>
          rw [hs] at i1
          exact iteN (mt (nI_z (by omega)).mp (fun z => by rw [hs0.mp z] at hs; cases hs)) i1
      · rw [if_neg q]
        refine iteP rfl ?_
        rw [← cn_f (p := fun d => loq D H C ru na rn rl y (ixf f d)) q] at i1
        cases hs : srch (fun d => loq D H C ru na rn rl y (ixf f d)) k (360 * y) with
        | none =>
          rw [hs] at i1
          dsimp only at i1
          rw [if_neg q] at i1
          exact i1
        | some m =>
          rw [hs] at i1
          exact i1
    by_cases z : g (ixf f (360 * y + k)) = 0
    · -- not yet known
      have hw1 : ∀ l, ot (ixf f (360 * y + k)) = some l → 1 ≤ D l ((360 * y + k) / 360) := fun l hl => hp1 _ l (by omega) (x2.trans (ot_on hl))
      have lo := M_loosens_c (L := L) (xs := xs) (A := upA A 49 g) (V := V) (K := K) (T := T) J R (360 * y + k) (ixf f (360 * y + k)) (by omega) x1 (by rw [show upA A 49 g 37 = f from hA]; exact x2) hw1 (by rw [hd]; exact hD)
      rw [hd] at lo
      obtain ⟨g', i1⟩ := rest (upd g (ixf f (360 * y + k)) (if loq D H C ru na rn rl y (ixf f (360 * y + k)) then 2 else 1)) (by
        intro i hi
        unfold upd
        by_cases e : i = ixf f (360 * y + k)
        · rw [if_pos e, e]; exact Or.inr rfl
        · rw [if_neg e]; exact hg i hi)
      have i1 := i1 (nI (ixf f (360 * y + k)))
      have fin : am_fin [(z_M_loose, 115, [.ref 36, .int (nI y), .int (nI w), .int (onat (-2) (lives D H C ru na rn rl y)), .int (nI (cn (fun d => loq D H C ru na rn rl y (ixf f d)) (360 * y) k)), .int (onat (-2) (srch (fun d => loq D H C ru na rn rl y (ixf f d)) k (360 * y))), .int (nI (360 * y + k)), .int (nI (ixf f (360 * y + k)))], [.int (b2 (loq D H C ru na rn rl y (ixf f (360 * y + k)))), .int (nI (ixf f (360 * y + k))), .ref 49])] (hp L xs (upA A 49 g) V K T) (some (if w = 0 then nI (cn (fun d => loq D H C ru na rn rl y (ixf f d)) (360 * y) 360) else onat (-2) (srch (fun d => loq D H C ru na rn rl y (ixf f d)) 360 (360 * y)))) (hp L xs (upA A 49 g') V K T) := by
        refine sg_M_loose_115r ?_
        by_cases q : loq D H C ru na rn rl y (ixf f (360 * y + k))
        · refine iteN (mt b2_z.mp (fun z => z q)) ⟨ob, ob, ?_⟩
          rw [if_pos q] at i1
          rw [ci, upA_upA, upA_same, upA_same, updat]
          exact i1
        · refine iteP (b2_z.mpr q) ⟨ob, ob, ?_⟩
          rw [if_neg q] at i1
          rw [ci, upA_upA, upA_same, upA_same, updat]
          exact i1
      refine ⟨g', fun u => ?_⟩
      cases u
      · refine sg_M_loose_67 (iteN c ⟨ib, ?_⟩)
        rw [rd]
        exact ⟨ob, iteP (by rw [ci, upA_same]; exact z) (am_fin.call lo fin)⟩
      · refine sg_M_loose_67b (iteN c ⟨ib, ?_⟩)
        rw [rd]
        exact ⟨ob, iteP (by rw [ci, upA_same]; exact z) (am_fin.call lo fin)⟩
    · have z2 := (hg (ixf f (360 * y + k)) x1).resolve_left z
      obtain ⟨g', i1⟩ := rest g hg
      have i1 := i1 (nI (ixf f (360 * y + k)))
      rw [← z2] at i1
      refine ⟨g', fun u => ?_⟩
      cases u
      · refine sg_M_loose_67 (iteN c ⟨ib, ?_⟩)
        rw [rd]
        refine ⟨ob, iteN (by rw [ci, upA_same]; exact z) ⟨ob, ?_⟩⟩
        rw [ci, upA_same]
        exact i1
      · refine sg_M_loose_67b (iteN c ⟨ib, ?_⟩)
        rw [rd]
        refine ⟨ob, iteN (by rw [ci, upA_same]; exact z) ⟨ob, ?_⟩⟩
        rw [ci, upA_same]
        exact i1
theorem M_loose_z (y w x : Int32) : ∀ (r k : Nat) (g : Nat → Int32), k + r = 7 → (∀ i, i < k → g i = 0) → ∃ g0 : Nat → Int32, (∀ i, i < 7 → g0 i = 0) ∧ ∀ {v : Option Int32} {h' : am_H}, am_fin [(z_M_loose, 67, [.ref 36, .int y, .int w, .int x, .int 0, .int (-2), .int (360 * y), .null], [])] (hp L xs (upA A 49 g0) V K T) v h' → am_fin [(z_M_loose, 32, [.ref 36, .int y, .int w, .int x, .int (nI k), .null, .null, .null], [])] (hp L xs (upA A 49 g) V K T) v h' := by
  intro r
  induction r with
  | zero =>
    intro k g hk hg
    exact ⟨g, fun i hi => hg i (by omega), fun h => sg_M_loose_32 (iteP (by rw [l_7, nI_leI (by omega) (by omega)]; omega) h)⟩
  | succ r ih =>
    intro k g hk hg
    obtain ⟨g0, h1, h2⟩ := ih (k + 1) (upd g k 0) (by omega) (by
      intro i hi
      unfold upd
      by_cases e : i = k
      · rw [if_pos e]
      · rw [if_neg e]; exact hg i (by omega))
    refine ⟨g0, h1, fun {v h'} h => sg_M_loose_32 (iteN (by rw [l_7, nI_leI (by omega) (by omega)]; omega) ⟨nI_inb (by omega) (by omega), ?_⟩)⟩
    rw [nI_clamp (by omega), upA_upA, upA_same, nI_1]
    exact h2 h
end
section
variable {L : Nat} {xs : Nat → Int32} {A V : Nat → Nat → Int32} {K : Nat → Option Nat} {T : am_H}
theorem pr_loose (a1 a2 : Int32) (R : RI A V K T) : PRQ z_L_loose z_M_loose [.ref 1, .int a1, .int a2, .null, .null, .null, .null] [.ref 36, .int a1, .int a2, .null, .null, .null, .null, .null] L xs A V K T := by
  by_cases c1 : a1 < 0
  · refine ⟨(-1), A, V, K, T, A, V, sg_L_loose_0 ?_, sg_M_loose_0 ?_, R⟩
    · (try simp only [lgl, lgg]); (repeat first | refine iteP (by first | assumption) ?_ | refine iteN (by first | assumption) ?_); (constructor <;> first | rfl | trivial)
    · (try simp only [lgl, lgg]); (repeat first | refine iteP (by first | assumption) ?_ | refine iteN (by first | assumption) ?_); (constructor <;> first | rfl | trivial)
  by_cases c2 : (2 : Int32) < a1
  · refine ⟨(-1), A, V, K, T, A, V, sg_L_loose_0 ?_, sg_M_loose_0 ?_, R⟩
    · (try simp only [lgl, lgg]); (repeat first | refine iteP (by first | assumption) ?_ | refine iteN (by first | assumption) ?_); (constructor <;> first | rfl | trivial)
    · (try simp only [lgl, lgg]); (repeat first | refine iteP (by first | assumption) ?_ | refine iteN (by first | assumption) ?_); (constructor <;> first | rfl | trivial)
  by_cases c3 : a2 < 0
  · refine ⟨(-1), A, V, K, T, A, V, sg_L_loose_0 ?_, sg_M_loose_0 ?_, R⟩
    · (try simp only [lgl, lgg]); (repeat first | refine iteP (by first | assumption) ?_ | refine iteN (by first | assumption) ?_); (constructor <;> first | rfl | trivial)
    · (try simp only [lgl, lgg]); (repeat first | refine iteP (by first | assumption) ?_ | refine iteN (by first | assumption) ?_); (constructor <;> first | rfl | trivial)
  by_cases c4 : (1 : Int32) < a2
  · refine ⟨(-1), A, V, K, T, A, V, sg_L_loose_0 ?_, sg_M_loose_0 ?_, R⟩
    · (try simp only [lgl, lgg]); (repeat first | refine iteP (by first | assumption) ?_ | refine iteN (by first | assumption) ?_); (constructor <;> first | rfl | trivial)
    · (try simp only [lgl, lgg]); (repeat first | refine iteP (by first | assumption) ?_ | refine iteN (by first | assumption) ?_); (constructor <;> first | rfl | trivial)
  obtain ⟨y, hy, rfl⟩ := i32_nat (m := 2) (by omega) c1 c2
  obtain ⟨w, hw, rfl⟩ := i32_nat (m := 1) (by omega) c3 c4
  obtain ⟨gc, gh, gd, gm, j1, j2, j3, m1, m2, m3, RR⟩ := weighed (L := L) (xs := xs) R
  have hf := R.1.2.2.2.2.1
  have hp1 : ∀ d l, d < 1080 → A 4 d = nI l → 1 ≤ nD (A 4) l (d / 360) := fun d l hd h => nD_pos hd h
  obtain ⟨g0, z1, z2⟩ := M_loose_z (L := L) (xs := xs) (A := upA (upA (upA (upA A 29 gc) 28 gh) 27 gd) 47 gm) (V := V) (K := K) (T := T) (nI y) (nI w) (onat (-2) (lives (nD (A 4)) (nH (A 9)) (nD (A 6)) (ruA A) (naV V) (rnA A) (rlA A) y)) 7 0 (A 49) (by omega) (fun i hi => by omega)
  obtain ⟨g', lp⟩ := M_loose_lp (L := L) (xs := xs) (V := V) (K := K) (T := T) m1 m2 (A 4) R.1.1 hf hp1 y w (by omega) (by omega) (fun l _ => nD_le _ _ _) 360 0 g0 (by omega) (fun i hi => Or.inl (z1 i hi))
  have ef : (360 : Int32) * nI y = nI (360 * y) := by rw [l_360, nI_mul]
  have z2 := z2 (v := some (if w = 0 then nI (cn (fun d => loq (nD (A 4)) (nH (A 9)) (nD (A 6)) (ruA A) (naV V) (rnA A) (rlA A) y (ixf (A 4) d)) (360 * y) 360) else onat (-2) (srch (fun d => loq (nD (A 4)) (nH (A 9)) (nD (A 6)) (ruA A) (naV V) (rnA A) (rlA A) y (ixf (A 4) d)) 360 (360 * y)))) (h' := hp L xs (upA (upA (upA (upA (upA A 29 gc) 28 gh) 27 gd) 47 gm) 49 g') V K T) (by rw [ef]; exact lp none)
  have es : upA (upA (upA (upA (upA A 29 gc) 28 gh) 27 gd) 47 gm) 49 (A 49) = upA (upA (upA (upA A 29 gc) 28 gh) 27 gd) 47 gm := upA_self (upA (upA (upA (upA A 29 gc) 28 gh) 27 gd) 47 gm) 49
  rw [es] at z2
  refine ⟨if w = 0 then nI (cn (fun d => loq (nD (A 4)) (nH (A 9)) (nD (A 6)) (ruA A) (naV V) (rnA A) (rlA A) y (ixf (A 4) d)) (360 * y) 360) else onat (-2) (srch (fun d => loq (nD (A 4)) (nH (A 9)) (nD (A 6)) (ruA A) (naV V) (rnA A) (rlA A) y (ixf (A 4) d)) 360 (360 * y)), upA (upA (upA A 29 gc) 28 gh) 27 gd, V, K, T, upA (upA (upA (upA (upA A 29 gc) 28 gh) 27 gd) 47 gm) 49 g', V, sg_L_loose_0 ?_, sg_M_loose_0 ?_, R⟩
  · (try simp only [lgl, lgg]); (repeat first | refine iteP (by first | assumption) ?_ | refine iteN (by first | assumption) ?_)
    exact am_fin.call j3 (sg_L_loose_32r (am_fin.call (J_loosePlaces_c j1 j2 y (by omega) (fun l _ => nD_le _ _ _)) (sg_L_loose_40r (L_loose_lp (A := upA (upA (upA A 29 gc) 28 gh) 27 gd) (A 4) rfl hf hp1 y w (by omega) (by omega)))))
  · (try simp only [lgl, lgg]); (repeat first | refine iteP (by first | assumption) ?_ | refine iteN (by first | assumption) ?_)
    exact am_fin.call m3 (sg_M_loose_23r (am_fin.call (M_livesNow_c m1 m2 y (by omega)) (sg_M_loose_28r z2)))
end
