theorem min1080 {d n : Nat} (hd : d < 100000) (hn : n < 100000) : (if (1080 : Int32) < nI d + nI n then (1080 : Int32) else nI d + nI n) = nI (min (d + n) 1080) := by
  rw [nI_add, l_1080]
  by_cases c : 1080 < d + n
  · rw [if_pos (by rw [nI_ltI (by omega) (by omega)]; exact c), show min (d + n) 1080 = 1080 by omega]
  · rw [if_neg (by rw [nI_ltI (by omega) (by omega)]; exact c), show min (d + n) 1080 = d + n by omega]
section
variable {L : Nat} {xs : Nat → Int32} {A V : Nat → Nat → Int32} {K : Nat → Option Nat} {T : am_H}
theorem O_fu_lp {f : Nat → Int32} {x : Int32} {w m : Nat} (Q : QB A V f x w m) (w0 : w ≠ 0) (d e : Nat) (he : e ≤ 1080) (hde : e ≤ d + 360) : ∀ (r k n c : Nat) (ad : Nat → Nat) (g sh a32 : Nat → Int32) (v5 : Int32), k + r = e → d ≤ k → FR f g x d k n ad → SH f x w m d ad (k + w - 1) sh → SV f x w m d k (k + w - 1) n ad v5 → (∀ i, d ≤ i → i < k → a32 i = nI (ad i)) → ∃ sh' a32' : Nat → Int32, am_fin [(z_O_fillUp, 56, [.ref 30, .int (nI d), .int (nI e), .int (nI c), .int (nI n), .int v5, .int (nI k)], [])] (hp L xs (upA (upA A 32 a32) 33 sh) V K T) (some (nI (frg x w m r k g c))) (hp L xs (upA (upA A 32 a32') 33 sh') V K T) := by
  obtain ⟨-, q1, q2, q3, q4⟩ := id Q
  intro r
  induction r with
  | zero =>
    intro k n c ad g sh a32 v5 hk hd hF hS hV h32
    exact ⟨sh, a32, sg_O_fillUp_56 (iteP (by rw [nI_leI (by omega) (by omega)]; omega) ⟨rfl, rfl⟩)⟩
  | succ r ih =>
    intro k n c ad g sh a32 v5 hk hd hF hS hV h32
    have hn : n ≤ 360 := by have := hF.2.2.2.2.2; omega
    have Q1 : QB (upA (upA A 32 a32) 33 sh) V f x w m := Q
    obtain ⟨sh1, s1, s2⟩ := O_noteShutter_c (L := L) (xs := xs) (K := K) (T := T) Q1 sh rfl (k + w - 1) n d ad hn (by omega) (by omega) (hF.2.2.1 _ (by omega)) hS
    rw [show k + w - 1 + 1 = k + w by omega] at s1
    rw [upA_upA] at s2
    have e1 : nI k + nI w - 1 = nI (k + w - 1) := by rw [nI_add, nI_m1 (by omega)]
    have hV1 : SV f x w m d k (k + w) n ad v5 := hV.elim Or.inl (fun ⟨s, a, b, z⟩ => Or.inr ⟨s, a, b, z.elim Or.inl (fun ⟨y1, y2, y3⟩ => Or.inr ⟨y1, by omega, y3⟩)⟩)
    have e720 : (if (720 : Int32) < nI n then (720 : Int32) else nI n) = nI n := if_neg (by rw [l_720, nI_ltI (by omega) (by omega)]; omega)
    have i721 : ¬ (nI n < 0 ∨ 721 ≤ (nI n).toNatClampNeg) := nI_inb (by omega) (by omega)
    have ik : ¬ (nI k < 0 ∨ 1080 ≤ (nI k).toNatClampNeg) := nI_inb (by omega) (by omega)
    have es : upA (upA (upA A 32 a32) 33 sh1) 32 (upd a32 k (nI n)) = upA (upA A 32 (upd a32 k (nI n))) 33 sh1 := by rw [upA_swap (upA A 32 a32) 33 32 sh1 _ (by decide), upA_upA]
    have h32' : ∀ i, d ≤ i → i ≤ k → upd a32 k (nI n) i = nI (ad i) := by
      intro i h1 h2
      by_cases ei : i = k
      · rw [ei, upd_at, hF.2.2.1 k (Nat.le_refl k)]
      · rw [upd_no _ _ ei]; exact h32 i h1 (by omega)
    have Q2 : QB (upA (upA A 32 (upd a32 k (nI n))) 33 sh1) V f x w m := Q
    have kt := O_isThere_c (L := L) (xs := xs) (K := K) (T := T) Q2 k (by omega)
    have start : ∀ {y : Option Int32} {h' : am_H}, am_fin [(z_O_fillUp, 112, [.ref 30, .int (nI d), .int (nI e), .int (nI c), .int (nI n), .int (if v5 < sh1 n then sh1 n else v5), .int (nI k)], [.int (b2 (f k = x))])] (hp L xs (upA (upA A 32 (upd a32 k (nI n))) 33 sh1) V K T) y h' → am_fin [(z_O_fillUp, 56, [.ref 30, .int (nI d), .int (nI e), .int (nI c), .int (nI n), .int v5, .int (nI k)], [])] (hp L xs (upA (upA A 32 a32) 33 sh) V K T) y h' := by
      intro y h' nx
      refine sg_O_fillUp_56 (iteN (by rw [nI_leI (by omega) (by omega)]; omega) ?_)
      rw [q1, e1]
      refine am_fin.call s2 (sg_O_fillUp_77r ?_)
      rw [e720]
      refine ⟨i721, ik, ?_⟩
      rw [nI_clamp (by omega), nI_clamp (by omega), show upA (upA A 32 a32) 33 sh1 32 = a32 from rfl, show upA (upA A 32 a32) 33 sh1 33 = sh1 from rfl, es]
      exact am_fin.call kt nx
    by_cases t : f k = x
    · -- there
      have gk : g k = x := by rw [hF.2.2.2.2.1 k (Nat.le_refl k)]; exact t
      have nz : ¬ b2 (f k = x) = 0 := mt b2_z.mp (fun z => z t)
      have hV2 : SV f x w m d (k + 1) (k + 1 + w - 1) n ad (if v5 < sh1 n then sh1 n else v5) := by
        rw [show k + 1 + w - 1 = k + w by omega]
        by_cases z : v5 < sh1 n
        · rw [if_pos z]
          rcases s1.2 n (by omega) with y | ⟨s, a1, a2, a3, a4, a5, a6, a7⟩
          · exact Or.inl y
          · exact Or.inr ⟨s, a7, a3, Or.inr ⟨a1, a2, a4, a5, a6⟩⟩
        · rw [if_neg z]
          exact hV1.elim Or.inl (fun ⟨s, a, b, y⟩ => Or.inr ⟨s, a, b, y.elim (fun y => Or.inl (by omega)) Or.inr⟩)
      obtain ⟨sh', a32', i1⟩ := ih (k + 1) n (c + 1) ad g sh1 (upd a32 k (nI n)) (if v5 < sh1 n then sh1 n else v5) (by omega) (by omega) (FR_next hF) (by rw [show k + 1 + w - 1 = k + w by omega]; exact s1) hV2 (fun i h1 h2 => h32' i h1 (by omega))
      rw [← nI_1, ← nI_1] at i1
      rw [frg_1 gk]
      exact ⟨sh', a32', start (sg_O_fillUp_112r (iteN nz i1))⟩
    · have gk : ¬ g k = x := by rw [hF.2.2.2.2.1 k (Nat.le_refl k)]; exact t
      obtain ⟨hV2, hb⟩ := SH_mb hF hd (by omega) (by omega) s1 hV1 t
      have ew := FR_wc hF w k (Nat.le_refl k) (by omega)
      have hV3 : SV f x w m d (k + 1) (k + 1 + w - 1) n ad (if v5 < sh1 n then sh1 n else v5) := by
        rw [show k + 1 + w - 1 = k + w by omega]
        exact hV2.elim Or.inl (fun ⟨s, a, b, y⟩ => Or.inr ⟨s, a, b, y.elim (fun y => Or.inl (by omega)) Or.inr⟩)
      -- nothing is added
      have stay : ¬ mb g x w m k → ∃ sh' a32' : Nat → Int32, am_fin [(z_O_fillUp, 56, [.ref 30, .int (nI d), .int (nI e), .int (nI c), .int (nI n), .int (if v5 < sh1 n then sh1 n else v5), .int (nI k + 1)], [])] (hp L xs (upA (upA A 32 (upd a32 k (nI n))) 33 sh1) V K T) (some (nI (frg x w m (r + 1) k g c))) (hp L xs (upA (upA A 32 a32') 33 sh') V K T) := by
        intro nm
        obtain ⟨sh', a32', i1⟩ := ih (k + 1) n c ad g sh1 (upd a32 k (nI n)) (if v5 < sh1 n then sh1 n else v5) (by omega) (by omega) (FR_next hF) (by rw [show k + 1 + w - 1 = k + w by omega]; exact s1) hV3 (fun i h1 h2 => h32' i h1 (by omega))
        rw [← nI_1] at i1
        rw [frg_3 gk nm]
        exact ⟨sh', a32', i1⟩
      by_cases z : nI k ≤ (if v5 < sh1 n then sh1 n else v5)
      · obtain ⟨t', y1, y2, y3, y4, y5⟩ := hb.mp z
        obtain ⟨sh', a32', i1⟩ := stay (fun q => q.2 t' y1 y2 y3 ⟨y4, y5⟩)
        exact ⟨sh', a32', start (sg_O_fillUp_112r (iteP (b2_z.mpr t) (iteP z i1)))⟩
      · have hr := O_hasRoom_c (L := L) (xs := xs) (K := K) (T := T) Q2 w0 k d n ad hd (by omega) hn hF.2.2.2.1 hF.2.1 h32'
        by_cases y : wc f x w k + n < m + ad (k + 1 - w)
        · have mm : mb g x w m k := ⟨by omega, fun t' y1 y2 y3 y4 => z (hb.mpr ⟨t', y1, y2, y3, y4.1, y4.2⟩)⟩
          have eS : ∀ t', t' < k + w → (fun i => ad i + (if k < i then 1 else 0)) (t' + 1 - w) = ad (t' + 1 - w) := by
            intro t' h1
            show ad (t' + 1 - w) + (if k < t' + 1 - w then 1 else 0) = ad (t' + 1 - w)
            rw [if_neg (by omega)]
            rfl
          have hV4 : SV f x w m d (k + 1) (k + 1 + w - 1) (n + 1) (fun i => ad i + (if k < i then 1 else 0)) (if v5 < sh1 n then sh1 n else v5) := by
            rcases hV2 with q | ⟨s, a1, a2, a3⟩
            · exact Or.inl q
            · rw [a1] at z ⊢
              rw [nI_leI (by omega) (by omega)] at z
              exact Or.inr ⟨s, rfl, a2, Or.inl (by omega)⟩
          obtain ⟨sh', a32', i1⟩ := ih (k + 1) (n + 1) (c + 1) (fun i => ad i + (if k < i then 1 else 0)) (upd g k x) sh1 (upd a32 k (nI n)) (if v5 < sh1 n then sh1 n else v5) (by omega) (by omega) (FR_add hF hd gk) (by rw [show k + 1 + w - 1 = k + w by omega]; exact SH_congr s1 eS) hV4 (fun i h1 h2 => by
            rw [h32' i h1 (by omega)]
            show nI (ad i) = nI (ad i + (if k < i then 1 else 0))
            rw [if_neg (by omega)]; rfl)
          rw [← nI_1, ← nI_1, ← nI_1] at i1
          rw [frg_2 gk mm]
          exact ⟨sh', a32', start (sg_O_fillUp_112r (iteP (b2_z.mpr t) (iteN z (am_fin.call hr (sg_O_fillUp_137r (iteN (mt b2_z.mp (fun q => q y)) i1))))))⟩
        · obtain ⟨sh', a32', i1⟩ := stay (fun q => by
            have := q.1
            omega)
          exact ⟨sh', a32', start (sg_O_fillUp_112r (iteP (b2_z.mpr t) (iteN z (am_fin.call hr (sg_O_fillUp_137r (iteP (b2_z.mpr y) i1))))))⟩
theorem O_fu_in {f : Nat → Int32} {x : Int32} {w m : Nat} (Q : QB A V f x w m) (w0 : w ≠ 0) (d e : Nat) (hd : d < 1080) : ∀ (r k : Nat) (sh : Nat → Int32), k + r = d + w - 1 → d ≤ k → SH f x w m d (fun _ => 0) k sh → ∃ sh' : Nat → Int32, SH f x w m d (fun _ => 0) (d + w - 1) sh' ∧ ∀ {y : Option Int32} {h' : am_H}, am_fin [(z_O_fillUp, 56, [.ref 30, .int (nI d), .int (nI e), .int 0, .int 0, .int (-1), .int (nI d)], [])] (hp L xs (upA A 33 sh') V K T) y h' → am_fin [(z_O_fillUp, 21, [.ref 30, .int (nI d), .int (nI e), .int (nI k), .null, .null, .null], [])] (hp L xs (upA A 33 sh) V K T) y h' := by
  obtain ⟨-, q1, q2, q3, q4⟩ := id Q
  have e1 : nI d + nI w - 1 = nI (d + w - 1) := by rw [nI_add, nI_m1 (by omega)]
  intro r
  induction r with
  | zero =>
    intro k sh hk hd hS
    refine ⟨sh, by rw [← (show k = d + w - 1 by omega)]; exact hS, fun h => sg_O_fillUp_21 (iteP ?_ h)⟩
    rw [q1, e1, nI_leI (by omega) (by omega)]; omega
  | succ r ih =>
    intro k sh hk hd hS
    have Q1 : QB (upA A 33 sh) V f x w m := Q
    obtain ⟨sh1, s1, s2⟩ := O_noteShutter_c (L := L) (xs := xs) (K := K) (T := T) Q1 sh rfl k 0 d (fun _ => 0) (by omega) (by omega) hd rfl hS
    rw [upA_upA] at s2
    obtain ⟨sh', z1, z2⟩ := ih (k + 1) sh1 (by omega) (by omega) s1
    refine ⟨sh', z1, fun h => sg_O_fillUp_21 (iteN ?_ (am_fin.call s2 (sg_O_fillUp_39r ?_)))⟩
    · rw [q1, e1, nI_leI (by omega) (by omega)]; omega
    · rw [nI_1]; exact z2 h
theorem O_fillUp_c {f : Nat → Int32} {x : Int32} {w m : Nat} (Q : QB A V f x w m) (d e : Nat) (hd : d < 1080) (he : e ≤ 1080) (hde : e ≤ d + 360) (h1 : d ≤ e) : ∃ a32 sh : Nat → Int32, am_fin [(z_O_fillUp, 0, [.ref 30, .int (nI d), .int (nI e), .null, .null, .null, .null], [])] (hp L xs A V K T) (some (nI (frv f x w m d e))) (hp L xs (upA (upA A 32 a32) 33 sh) V K T) := by
  obtain ⟨-, q1, q2, q3, q4⟩ := id Q
  by_cases w0 : w = 0
  · refine ⟨A 32, A 33, ?_⟩
    rw [upA_self, upA_self]
    refine sg_O_fillUp_0 (iteP (by rw [q1, w0]; rfl) ⟨?_, rfl⟩)
    unfold frv
    rw [if_pos w0, nI_sub h1]
  · obtain ⟨sh0, s1, s2⟩ := X_fill_33_c (L := L) (xs := xs) (A := A) (V := V) (K := K) (T := T)
    have S0 : SH f x w m d (fun _ => 0) d sh0 := ⟨fun t a b => by omega, fun c hc => Or.inl (s1 c (by omega))⟩
    obtain ⟨sh1, z1, z2⟩ := O_fu_in (L := L) (xs := xs) (K := K) (T := T) Q w0 d e hd (w - 1) d sh0 (by omega) (Nat.le_refl d) S0
    have F0 : FR f f x d d 0 (fun _ => 0) := ⟨fun i _ => rfl, fun _ _ => rfl, fun _ _ => rfl, fun _ => Nat.le_refl _, fun _ _ => rfl, by omega⟩
    obtain ⟨sh', a32', lp⟩ := O_fu_lp (L := L) (xs := xs) (K := K) (T := T) Q w0 d e he hde (e - d) d 0 0 (fun _ => 0) f sh1 (A 32) (-1) (by omega) (Nat.le_refl d) F0 z1 (Or.inl rfl) (fun i a b => by omega)
    rw [upA_self] at lp
    refine ⟨a32', sh', sg_O_fillUp_0 (iteN (by rw [q1]; exact mt (nI_z (by omega)).mp w0) (am_fin.call s2 (sg_O_fillUp_19r (z2 ?_))))⟩
    unfold frv
    rw [if_neg w0]
    exact lp
/-! the reference -/
theorem M_mayBe_lp (g : Nat → Int32) (l w m k : Nat) (hk : k < 1080) (hm : m ≤ 360) (hw : w ≤ 360) (h37 : A 37 = g) (h45 : ∀ t, t < 1080 → A 45 t = nI (wc g (nI l) w t)) (y : Int32) : ∀ r t, t + r = 1080 → k < t → ((∀ s, s < 1080 → t ≤ s → s < k + w → ¬ (g s = nI l ∧ wc g (nI l) w s = m)) → y = 1) → ((¬ ∀ s, s < 1080 → t ≤ s → s < k + w → ¬ (g s = nI l ∧ wc g (nI l) w s = m)) → y = 0) → am_fin [(z_M_mayBe, 28, [.ref 36, .int (nI l), .int (nI k), .int (nI w), .int (nI m), .int (nI t)], [])] (hp L xs A V K T) (some y) (hp L xs A V K T) := by
  intro r
  induction r with
  | zero =>
    intro t ht hkt y1 y0
    rw [y1 (fun s h1 h2 h3 => by omega)]
    exact sg_M_mayBe_28 (iteP (g1080 (by omega)) ⟨rfl, rfl⟩)
  | succ r ih =>
    intro t ht hkt y1 y0
    have ib : ¬ (nI t < 0 ∨ 1080 ≤ (nI t).toNatClampNeg) := nI_inb (by omega) (by omega)
    have ck : (nI t).toNatClampNeg = t := nI_clamp (by omega)
    have wl := wc_le g (nI l) w t
    refine sg_M_mayBe_28 (iteN (l1080 (by omega)) ?_)
    by_cases c : k + w ≤ t
    · rw [y1 (fun s h1 h2 h3 => by omega)]
      exact iteP (by rw [nI_add, nI_leI (by omega) (by omega)]; exact c) ⟨rfl, rfl⟩
    · refine iteN (by rw [nI_add, nI_leI (by omega) (by omega)]; exact c) ⟨ib, ?_⟩
      by_cases e : g t = nI l ∧ wc g (nI l) w t = m
      · rw [y0 (fun z => z t (by omega) (Nat.le_refl t) (by omega) e)]
        exact iteP (by rw [ck, h37]; exact e.1) ⟨ib, iteP (by rw [ck, h45 t (by omega), e.2]) ⟨rfl, rfl⟩⟩
      · have i1 := ih (t + 1) (by omega) (by omega) (fun z => y1 (fun s h1 h2 h3 => by
          by_cases es : s = t
          · rw [es]; exact e
          · exact z s h1 (by omega) h3)) (fun z => y0 (fun q => z (fun s h1 h2 h3 => q s h1 (by omega) h3)))
        rw [← nI_1] at i1
        by_cases e1 : g t = nI l
        · exact iteP (by rw [ck, h37]; exact e1) ⟨ib, iteN (by rw [ck, h45 t (by omega), nI_eq (by omega) (by omega)]; exact fun z => e ⟨e1, z⟩) i1⟩
        · exact iteN (by rw [ck, h37]; exact e1) i1
theorem M_mayBe_c (g : Nat → Int32) (l w m k : Nat) (hl : l < 6) (hk : k < 1080) (hm : m ≤ 360) (hw : w ≤ 360) (h37 : A 37 = g) (h45 : ∀ t, t < 1080 → A 45 t = nI (wc g (nI l) w t)) (e1 : A 41 (13 * l + 1) = nI m) : am_fin [(z_M_mayBe, 0, [.ref 36, .int (nI l), .int (nI k), .int (nI w), .null, .null], [])] (hp L xs A V K T) (some (b2 (mb g (nI l) w m k))) (hp L xs A V K T) := by
  have ey : (13 : Int32) * nI l + 1 = nI (13 * l + 1) := e13 l 1
  have im : ¬ ((13 : Int32) * nI l + 1 < 0 ∨ 258 ≤ ((13 : Int32) * nI l + 1).toNatClampNeg) := by rw [ey]; exact nI_inb (by omega) (by omega)
  have cm : ((13 : Int32) * nI l + 1).toNatClampNeg = 13 * l + 1 := by rw [ey]; exact nI_clamp (by omega)
  have wl := wc_le g (nI l) w k
  have y1 : mb g (nI l) w m k → b2 (mb g (nI l) w m k) = 1 := fun h => by unfold b2; rw [if_pos h]
  have y0 : ¬ mb g (nI l) w m k → b2 (mb g (nI l) w m k) = 0 := fun h => b2_z.mpr h
  generalize b2 (mb g (nI l) w m k) = y at *
  refine sg_M_mayBe_0 ⟨im, nI_inb (by omega) (by omega), ?_⟩
  rw [cm, e1, nI_clamp (by omega), h45 k hk, nI_1]
  by_cases c : wc g (nI l) w k + 1 ≤ m
  · refine iteP (by rw [nI_leI (by omega) (by omega)]; exact c) ?_
    rw [nI_1]
    exact M_mayBe_lp g l w m k hk hm hw h37 h45 y (1080 - (k + 1)) (k + 1) (by omega) (by omega) (fun z => y1 ⟨c, fun s h1 h2 h3 => z s h1 (by omega) h3⟩) (fun z => y0 (fun q => z (fun s h1 h2 h3 => q.2 s h1 (by omega) h3)))
  · rw [y0 (fun z => c z.1)]
    exact iteN (by rw [nI_leI (by omega) (by omega)]; exact c) ⟨rfl, rfl⟩
theorem M_fo_lp (l w m : Nat) (hl : l < 6) (hm : m ≤ 360) (hw : w ≤ 360) (w0 : w ≠ 0) (e1 : A 41 (13 * l + 1) = nI m) (x2 x3 : Int32) (e : Nat) (he : e ≤ 1080) {f : Nat → Int32} (e46 : ∀ i, i < 1080 → A 46 i = f i) : ∀ (r k c : Nat) (g L0 : Nat → Int32), k + r = e → (∀ t, t < 1080 → L0 t = nI (wc g (nI l) w t)) → (∀ i, 1080 ≤ i → g i = f i) → ∃ L1 : Nat → Int32, ∀ u : Option Int32, am_fin [(z_M_freeOf, 46, [.ref 36, .int (nI l), .int x2, .int x3, .int (nI e), .int (nI w), .int (nI c), .int (nI k), dl u], [])] (hp L xs (upA (upA A 45 L0) 37 g) V K T) (some (nI (frg (nI l) w m r k g c))) (hp L xs (upA (upA A 45 L1) 37 f) V K T) := by
  intro r
  induction r with
  | zero =>
    intro k c g L0 hk h0 hz
    have kt := M_takesAside_c (L := L) (xs := xs) (A := upA (upA A 45 L0) 37 g) (V := V) (K := K) (T := T)
    have ef : (fun i => if i < 1080 then upA (upA A 45 L0) 37 g 46 i else upA (upA A 45 L0) 37 g 37 i) = f := by
      funext i
      show (if i < 1080 then A 46 i else g i) = f i
      by_cases q : i < 1080
      · rw [if_pos q]; exact e46 i q
      · rw [if_neg q]; exact hz i (by omega)
    rw [ef, upA_upA] at kt
    have c1 : nI e ≤ nI k := by rw [nI_leI (by omega) (by omega)]; omega
    refine ⟨L0, fun u => ?_⟩
    cases u
    · exact sg_M_freeOf_46 (iteP c1 (am_fin.call kt (sg_M_freeOf_159r ⟨rfl, rfl⟩)))
    · exact sg_M_freeOf_46b (iteP c1 (am_fin.call kt (sg_M_freeOf_159rb ⟨rfl, rfl⟩)))
  | succ r ih =>
    intro k c g L0 hk h0 hz
    have c1 : ¬ nI e ≤ nI k := by rw [nI_leI (by omega) (by omega)]; omega
    have ib : ¬ (nI k < 0 ∨ 1080 ≤ (nI k).toNatClampNeg) := nI_inb (by omega) (by omega)
    have ek : upA (upA A 45 L0) 37 g 37 (nI k).toNatClampNeg = g k := by rw [nI_clamp (by omega)]; rfl
    by_cases gk : g k = nI l
    · obtain ⟨L1, i1⟩ := ih (k + 1) (c + 1) g L0 (by omega) h0 hz
      rw [frg_1 gk]
      refine ⟨L1, fun u => ?_⟩
      have i1 := i1 u
      rw [← nI_1, ← nI_1] at i1
      have z : upA (upA A 45 L0) 37 g 37 (nI k).toNatClampNeg = nI l := ek.trans gk
      cases u
      · exact sg_M_freeOf_46 (iteN c1 ⟨ib, iteP z ⟨ib, iteP z i1⟩⟩)
      · exact sg_M_freeOf_46b (iteN c1 ⟨ib, iteP z ⟨ib, iteP z i1⟩⟩)
    · have z : ¬ upA (upA A 45 L0) 37 g 37 (nI k).toNatClampNeg = nI l := by rw [ek]; exact gk
      have km := M_mayBe_c (L := L) (xs := xs) (A := upA (upA A 45 L0) 37 g) (V := V) (K := K) (T := T) g l w m k hl (by omega) hm hw rfl h0 e1
      by_cases q : mb g (nI l) w m k
      · have ihx := fun (L2 : Nat → Int32) (h2 : ∀ t, t < 1080 → L2 t = nI (wc (upd g k (nI l)) (nI l) w t)) => ih (k + 1) (c + 1) (upd g k (nI l)) L2 (by omega) h2 (fun i hi => by rw [upd_no _ _ (by omega)]; exact hz i hi)
        rw [frg_2 gk q]
        -- run the counting
        have run : ∀ r' j (L3 : Nat → Int32), k + j + r' = min (k + w) 1080 → (∀ t, t < 1080 → L3 t = nI (if t < k + j then wc (upd g k (nI l)) (nI l) w t else wc g (nI l) w t)) → ∃ L1 : Nat → Int32, am_fin [(z_M_freeOf, 88, [.ref 36, .int (nI l), .int x2, .int x3, .int (nI e), .int (nI w), .int (nI c), .int (nI k), .int (nI (k + j))], [])] (hp L xs (upA (upA A 45 L3) 37 (upd g k (nI l))) V K T) (some (nI (frg (nI l) w m r (k + 1) (upd g k (nI l)) (c + 1)))) (hp L xs (upA (upA A 45 L1) 37 f) V K T) := by
          intro r'
          induction r' with
          | zero =>
            intro j L3 hj h3
            obtain ⟨L1, i1⟩ := ihx L3 (fun t ht => by
              rw [h3 t ht]
              by_cases q : t < k + j
              · rw [if_pos q]
              · rw [if_neg q, wc_upd gk, if_neg (by omega)]; rfl)
            have i1 := i1 (some (nI (k + j)))
            rw [← nI_1, ← nI_1] at i1
            have ek2 : upA (upA A 45 L3) 37 (upd g k (nI l)) 37 (nI k).toNatClampNeg = nI l := by
              rw [nI_clamp (by omega)]
              show upd g k (nI l) k = nI l
              rw [upd_at]
            refine ⟨L1, ?_⟩
            by_cases q : 1080 ≤ k + j
            · exact sg_M_freeOf_88 (iteP (by rw [l_1080, nI_leI (by omega) (by omega)]; exact q) ⟨ib, iteP ek2 i1⟩)
            · exact sg_M_freeOf_88 (iteN (by rw [l_1080, nI_leI (by omega) (by omega)]; exact q) (iteP (by rw [nI_add, nI_leI (by omega) (by omega)]; omega) ⟨ib, iteP ek2 i1⟩))
          | succ r' ih' =>
            intro j L3 hj h3
            have ib' : ¬ (nI (k + j) < 0 ∨ 1080 ≤ (nI (k + j)).toNatClampNeg) := nI_inb (by omega) (by omega)
            obtain ⟨L1, i1⟩ := ih' (j + 1) (upd L3 (k + j) (L3 (k + j) + 1)) (by omega) (fun t ht => by
              by_cases q : t = k + j
              · rw [q, upd_at, h3 (k + j) (by omega), if_neg (by omega), if_pos (by omega), wc_upd gk, if_pos (by omega), nI_1]
              · rw [upd_no _ _ q, h3 t ht]
                by_cases q2 : t < k + j
                · rw [if_pos q2, if_pos (by omega)]
                · rw [if_neg q2, if_neg (by omega)])
            rw [← Nat.add_assoc, ← nI_1] at i1
            refine ⟨L1, sg_M_freeOf_88 (iteN (by rw [l_1080, nI_leI (by omega) (by omega)]; omega) (iteN (by rw [nI_add, nI_leI (by omega) (by omega)]; omega) ⟨ib', ib', ?_⟩))⟩
            rw [nI_clamp (by omega), show upA (upA A 45 L3) 37 (upd g k (nI l)) 45 = L3 from rfl, upA_swap (upA A 45 L3) 37 45 _ _ (by decide), upA_upA]
            exact i1
        obtain ⟨L1, i1⟩ := run (min (k + w) 1080 - k) 0 L0 (by omega) (fun t ht => by
          rw [h0 t ht]
          by_cases q : t < k + 0
          · rw [if_pos q, wc_upd gk, if_neg (by omega)]; rfl
          · rw [if_neg q])
        rw [Nat.add_zero] at i1
        refine ⟨L1, fun u => ?_⟩
        have nz : ¬ b2 (mb g (nI l) w m k) = 0 := mt b2_z.mp (fun z => z q)
        have eh : upA (upA (upA A 45 L0) 37 g) 37 (upd (upA (upA A 45 L0) 37 g 37) (nI k).toNatClampNeg (nI l)) = upA (upA A 45 L0) 37 (upd g k (nI l)) := by rw [upA_upA, nI_clamp (by omega)]; rfl
        cases u
        · refine sg_M_freeOf_46 (iteN c1 ⟨ib, iteN z (am_fin.call km (sg_M_freeOf_73r (iteN nz ⟨ib, ?_⟩)))⟩)
          rw [eh]; exact i1
        · refine sg_M_freeOf_46b (iteN c1 ⟨ib, iteN z (am_fin.call km (sg_M_freeOf_73rb (iteN nz ⟨ib, ?_⟩)))⟩)
          rw [eh]; exact i1
      · obtain ⟨L1, i1⟩ := ih (k + 1) c g L0 (by omega) h0 hz
        rw [frg_3 gk q]
        refine ⟨L1, fun u => ?_⟩
        have i1 := i1 u
        rw [← nI_1] at i1
        have i1 : am_fin [(z_M_freeOf, 46, [.ref 36, .int (nI l), .int x2, .int x3, .int (nI e), .int (nI w), .int (nI c + 0), .int (nI k + 1), dl u], [])] (hp L xs (upA (upA A 45 L0) 37 g) V K T) (some (nI (frg (nI l) w m r (k + 1) g c))) (hp L xs (upA (upA A 45 L1) 37 f) V K T) := by rw [Int32.add_zero]; exact i1
        cases u
        · exact sg_M_freeOf_46 (iteN c1 ⟨ib, iteN z (am_fin.call km (sg_M_freeOf_73r (iteP (b2_z.mpr q) ⟨ib, iteN z i1⟩)))⟩)
        · exact sg_M_freeOf_46b (iteN c1 ⟨ib, iteN z (am_fin.call km (sg_M_freeOf_73rb (iteP (b2_z.mpr q) ⟨ib, iteN z i1⟩)))⟩)
theorem M_freeOf_c (l w m d n : Nat) (hl : l < 6) (hm : m ≤ 360) (hw : w ≤ 360) (hd : d < 1080) (hn : n ≤ 360) (e0 : A 41 (13 * l) = nI w) (e1 : A 41 (13 * l + 1) = nI m) : ∃ L1 S : Nat → Int32, am_fin [(z_M_freeOf, 0, [.ref 36, .int (nI l), .int (nI d), .int (nI n), .null, .null, .null, .null, .null], [])] (hp L xs A V K T) (some (nI (frv (A 37) (nI l) w m d (min (d + n) 1080)))) (hp L xs (upA (upA A 46 S) 45 L1) V K T) := by
  have ex : (13 : Int32) * nI l + 0 = nI (13 * l) := e13 l 0
  have im : ¬ ((13 : Int32) * nI l + 0 < 0 ∨ 258 ≤ ((13 : Int32) * nI l + 0).toNatClampNeg) := by rw [ex]; exact nI_inb (by omega) (by omega)
  have cm : ((13 : Int32) * nI l + 0).toNatClampNeg = 13 * l := by rw [ex]; exact nI_clamp (by omega)
  by_cases w0 : w = 0
  · refine ⟨A 45, A 46, ?_⟩
    rw [upA_self, upA_self]
    refine sg_M_freeOf_0 ?_
    rw [cm, e0, nI_add]
    unfold frv
    rw [if_pos w0]
    by_cases c : d + n ≤ 1080
    · refine iteP (by rw [l_1080, nI_leI (by omega) (by omega)]; exact c) ⟨by rw [← cm]; exact im, iteP (by rw [w0]; rfl) ⟨?_, rfl⟩⟩
      rw [nI_sub (by omega), show min (d + n) 1080 = d + n by omega]
    · refine iteN (by rw [l_1080, nI_leI (by omega) (by omega)]; exact c) ⟨by rw [← cm]; exact im, iteP (by rw [w0]; rfl) ⟨?_, rfl⟩⟩
      rw [l_1080, nI_sub (by omega), show min (d + n) 1080 = 1080 by omega]
  · have k1 := M_laysAside_c (L := L) (xs := xs) (A := A) (V := V) (K := K) (T := T)
    obtain ⟨L0, h1, h2⟩ := M_laysLast_c (L := L) (xs := xs) (A := upA A 46 (fun i => if i < 1080 then A 37 i else A 46 i)) (V := V) (K := K) (T := T) (nI l) w (by omega)
    obtain ⟨L1, lp⟩ := M_fo_lp (L := L) (xs := xs) (A := upA A 46 (fun i => if i < 1080 then A 37 i else A 46 i)) (V := V) (K := K) (T := T) l w m hl hm hw w0 e1 (nI d) (nI n) (min (d + n) 1080) (by omega) (f := A 37) (fun i hi => by show (if i < 1080 then A 37 i else A 46 i) = A 37 i; rw [if_pos hi]) (min (d + n) 1080 - d) d 0 (A 37) L0 (by omega) h1 (fun i hi => rfl)
    have es : ∀ L2 : Nat → Int32, upA (upA (upA A 46 (fun i => if i < 1080 then A 37 i else A 46 i)) 45 L2) 37 (A 37) = upA (upA A 46 (fun i => if i < 1080 then A 37 i else A 46 i)) 45 L2 := fun L2 => upA_self (upA (upA A 46 (fun i => if i < 1080 then A 37 i else A 46 i)) 45 L2) 37
    rw [es, es] at lp
    refine ⟨L1, (fun i => if i < 1080 then A 37 i else A 46 i), ?_⟩
    have nz : ¬ nI w = 0 := mt (nI_z (by omega)).mp w0
    unfold frv
    rw [if_neg w0]
    refine sg_M_freeOf_0 ?_
    rw [cm, e0, nI_add]
    rw [cm] at im
    by_cases c : d + n ≤ 1080
    · rw [show min (d + n) 1080 = d + n by omega] at lp ⊢
      exact iteP (by rw [l_1080, nI_leI (by omega) (by omega)]; exact c) ⟨im, iteN nz (am_fin.call k1 (sg_M_freeOf_33r (am_fin.call h2 (sg_M_freeOf_40r (lp none)))))⟩
    · rw [show min (d + n) 1080 = 1080 by omega] at lp ⊢
      exact iteN (by rw [l_1080, nI_leI (by omega) (by omega)]; exact c) ⟨im, iteN nz (am_fin.call k1 (sg_M_freeOf_33r (am_fin.call h2 (sg_M_freeOf_40r (lp none)))))⟩
theorem pr_free (a1 a2 a3 : Int32) (R : RI A V K T) : PRQ z_L_free z_M_free [.ref 1, .int a1, .int a2, .int a3] [.ref 36, .int a1, .int a2, .int a3] L xs A V K T := by
  by_cases c1 : a1 < 0
  · refine ⟨(-1), A, V, K, T, A, V, sg_L_free_0 ?_, sg_M_free_0 ?_, R⟩
    · (try simp only [lgl, lgg]); (repeat first | refine iteP (by first | assumption) ?_ | refine iteN (by first | assumption) ?_); (constructor <;> first | rfl | trivial)
    · (try simp only [lgl, lgg]); (repeat first | refine iteP (by first | assumption) ?_ | refine iteN (by first | assumption) ?_); (constructor <;> first | rfl | trivial)
  by_cases c2 : (5 : Int32) < a1
  · refine ⟨(-1), A, V, K, T, A, V, sg_L_free_0 ?_, sg_M_free_0 ?_, R⟩
    · (try simp only [lgl, lgg]); (repeat first | refine iteP (by first | assumption) ?_ | refine iteN (by first | assumption) ?_); (constructor <;> first | rfl | trivial)
    · (try simp only [lgl, lgg]); (repeat first | refine iteP (by first | assumption) ?_ | refine iteN (by first | assumption) ?_); (constructor <;> first | rfl | trivial)
  by_cases c3 : a2 < 0
  · refine ⟨(-1), A, V, K, T, A, V, sg_L_free_0 ?_, sg_M_free_0 ?_, R⟩
    · (try simp only [lgl, lgg]); (repeat first | refine iteP (by first | assumption) ?_ | refine iteN (by first | assumption) ?_); (constructor <;> first | rfl | trivial)
    · (try simp only [lgl, lgg]); (repeat first | refine iteP (by first | assumption) ?_ | refine iteN (by first | assumption) ?_); (constructor <;> first | rfl | trivial)
  by_cases c4 : (1079 : Int32) < a2
  · refine ⟨(-1), A, V, K, T, A, V, sg_L_free_0 ?_, sg_M_free_0 ?_, R⟩
    · (try simp only [lgl, lgg]); (repeat first | refine iteP (by first | assumption) ?_ | refine iteN (by first | assumption) ?_); (constructor <;> first | rfl | trivial)
    · (try simp only [lgl, lgg]); (repeat first | refine iteP (by first | assumption) ?_ | refine iteN (by first | assumption) ?_); (constructor <;> first | rfl | trivial)
  by_cases c5 : a3 < 1
  · refine ⟨(-1), A, V, K, T, A, V, sg_L_free_0 ?_, sg_M_free_0 ?_, R⟩
    · (try simp only [lgl, lgg]); (repeat first | refine iteP (by first | assumption) ?_ | refine iteN (by first | assumption) ?_); (constructor <;> first | rfl | trivial)
    · (try simp only [lgl, lgg]); (repeat first | refine iteP (by first | assumption) ?_ | refine iteN (by first | assumption) ?_); (constructor <;> first | rfl | trivial)
  by_cases c6 : (360 : Int32) < a3
  · refine ⟨(-1), A, V, K, T, A, V, sg_L_free_0 ?_, sg_M_free_0 ?_, R⟩
    · (try simp only [lgl, lgg]); (repeat first | refine iteP (by first | assumption) ?_ | refine iteN (by first | assumption) ?_); (constructor <;> first | rfl | trivial)
    · (try simp only [lgl, lgg]); (repeat first | refine iteP (by first | assumption) ?_ | refine iteN (by first | assumption) ?_); (constructor <;> first | rfl | trivial)
  obtain ⟨l, hl, rfl⟩ := i32_nat (m := 5) (by omega) c1 c2
  obtain ⟨d, hd, rfl⟩ := i32_nat (m := 1079) (by omega) c3 c4
  have z5 : ¬ a3 < 0 := fun z => c5 (Int32.lt_iff_toInt_lt.mpr (by rw [Int32.lt_iff_toInt_lt, Int32.toInt_zero] at z; rw [show (1 : Int32).toInt = 1 from by decide]; omega))
  obtain ⟨n, hn, rfl⟩ := i32_nat (m := 360) (by omega) z5 c6
  obtain ⟨w, m, w1, w2, w3, w4, w5, w6⟩ := wm_of R.2.2.1 l (by omega)
  obtain ⟨g, q1, q2⟩ := O_read_3_c (L := L) (xs := xs) (A := A) (V := V) (K := K) (T := T) l (by omega)
  rw [w3, w4] at q2
  have Q : QB (upA A 31 g) (upV (upV V 30 4 (nI w)) 30 5 (nI m)) (A 4) (nI l) w m := ⟨q1, rfl, rfl, w1, w2⟩
  obtain ⟨a32, sh, k1⟩ := O_fillUp_c (L := L) (xs := xs) (K := K) (T := T) Q d (min (d + n) 1080) (by omega) (by omega) (by omega) (by omega)
  obtain ⟨L1, S, k2⟩ := M_freeOf_c (L := L) (xs := xs) (A := upA (upA (upA A 31 g) 32 a32) 33 sh) (V := upV (upV V 30 4 (nI w)) 30 5 (nI m)) (K := K) (T := T) l w m d n (by omega) (by omega) w2 (by omega) hn w5 w6
  have e37 : upA (upA (upA A 31 g) 32 a32) 33 sh 37 = A 4 := R.1.1
  rw [e37] at k2
  refine ⟨nI (frv (A 4) (nI l) w m d (min (d + n) 1080)), upA (upA (upA A 31 g) 32 a32) 33 sh, upV (upV V 30 4 (nI w)) 30 5 (nI m), K, T, upA (upA (upA (upA (upA A 31 g) 32 a32) 33 sh) 46 S) 45 L1, upV (upV V 30 4 (nI w)) 30 5 (nI m), sg_L_free_0 ?_, sg_M_free_0 ?_, R⟩
  · (try simp only [lgl, lgg]); (repeat first | refine iteP (by first | assumption) ?_ | refine iteN (by first | assumption) ?_)
    refine am_fin.call q2 (sg_L_free_42r ?_)
    rw [min1080 (by omega) (by omega)]
    exact am_fin.call k1 (sg_L_free_59r ⟨(by first | rfl | trivial), (by first | rfl | trivial)⟩)
  · (try simp only [lgl, lgg]); (repeat first | refine iteP (by first | assumption) ?_ | refine iteN (by first | assumption) ?_)
    exact am_fin.call k2 (sg_M_free_28r ⟨(by first | rfl | trivial), (by first | rfl | trivial)⟩)
end
