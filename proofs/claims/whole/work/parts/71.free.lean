/-! FREE: days filled up, greedily -/
abbrev mb (g : Nat → Int32) (x : Int32) (w m k : Nat) : Prop := wc g x w k + 1 ≤ m ∧ ∀ t, t < 1080 → k < t → t < k + w → ¬ (g t = x ∧ wc g x w t = m)
def frg (x : Int32) (w m : Nat) : Nat → Nat → (Nat → Int32) → Nat → Nat
  | 0, _, _, c => c
  | r + 1, k, g, c => if g k = x then frg x w m r (k + 1) g (c + 1) else if mb g x w m k then frg x w m r (k + 1) (upd g k x) (c + 1) else frg x w m r (k + 1) g c
theorem frg_1 {x : Int32} {w m r k c : Nat} {g : Nat → Int32} (h : g k = x) : frg x w m (r + 1) k g c = frg x w m r (k + 1) g (c + 1) := by
  show (if g k = x then _ else _) = _
  rw [if_pos h]
theorem frg_2 {x : Int32} {w m r k c : Nat} {g : Nat → Int32} (h : ¬ g k = x) (h2 : mb g x w m k) : frg x w m (r + 1) k g c = frg x w m r (k + 1) (upd g k x) (c + 1) := by
  show (if g k = x then _ else if mb g x w m k then _ else _) = _
  rw [if_neg h, if_pos h2]
theorem frg_3 {x : Int32} {w m r k c : Nat} {g : Nat → Int32} (h : ¬ g k = x) (h2 : ¬ mb g x w m k) : frg x w m (r + 1) k g c = frg x w m r (k + 1) g c := by
  show (if g k = x then _ else if mb g x w m k then _ else _) = _
  rw [if_neg h, if_neg h2]
def frv (f : Nat → Int32) (x : Int32) (w m d e : Nat) : Nat := if w = 0 then e - d else frg x w m (e - d) d f 0
theorem frg_le (x : Int32) (w m : Nat) : ∀ r k g c, frg x w m r k g c ≤ c + r
  | 0, _, _, _ => Nat.le_refl _
  | r + 1, k, g, c => by
    by_cases h : g k = x
    · rw [frg_1 h]; have := frg_le x w m r (k + 1) g (c + 1); omega
    · by_cases h2 : mb g x w m k
      · rw [frg_2 h h2]; have := frg_le x w m r (k + 1) (upd g k x) (c + 1); omega
      · rw [frg_3 h h2]; have := frg_le x w m r (k + 1) g c; omega
/-- a day more -/
theorem cn_upd {g : Nat → Int32} {x : Int32} {k : Nat} (h : ¬ g k = x) : ∀ i, cn (fun d => upd g k x d = x) 0 i = cn (fun d => g d = x) 0 i + (if k < i then 1 else 0)
  | 0 => by rw [if_neg (by omega)]; rfl
  | i + 1 => by
    rw [cn_s, cn_s, cn_upd h i]
    by_cases e : i = k
    · rw [e, if_pos (upd_at _ _ _), if_neg h, if_neg (by omega), if_pos (by omega)]
    · rw [upd_no _ _ e]
      by_cases c : k < i
      · rw [if_pos c, if_pos (show k < i + 1 by omega)]; omega
      · rw [if_neg c, if_neg (show ¬ k < i + 1 by omega)]; omega
theorem wc_upd {g : Nat → Int32} {x : Int32} {k w : Nat} (h : ¬ g k = x) (t : Nat) : wc (upd g k x) x w t = wc g x w t + (if k ≤ t ∧ t < k + w then 1 else 0) := by
  have h1 := cn_upd h (t + 1)
  have h2 := cn_upd h (t + 1 - w)
  have h3 := cn_dif (fun d => g d = x) (show t + 1 - w ≤ t + 1 by omega)
  rw [wc_dif, wc_dif, h1, h2]
  by_cases c : k ≤ t ∧ t < k + w
  · rw [if_pos (by omega), if_neg (by omega), if_pos c]; omega
  · rw [if_neg c]
    by_cases c2 : k < t + 1
    · rw [if_pos c2, if_pos (by omega)]; omega
    · rw [if_neg c2, if_neg (by omega)]; omega
/-- the number of added days at which a day's window is full -/
abbrev shk (f : Nat → Int32) (x : Int32) (w m : Nat) (ad : Nat → Nat) (t : Nat) : Nat := ad (t + 1 - w) + (m - wc f x w t)
def SH (f : Nat → Int32) (x : Int32) (w m d : Nat) (ad : Nat → Nat) (U : Nat) (sh : Nat → Int32) : Prop := (∀ t, d ≤ t → t < U → t < 1080 → f t = x → wc f x w t ≤ m → ∃ s, sh (shk f x w m ad t) = nI s ∧ t ≤ s ∧ s < 1080) ∧ ∀ c, c ≤ 720 → sh c = -1 ∨ ∃ s, d ≤ s ∧ s < U ∧ s < 1080 ∧ f s = x ∧ wc f x w s ≤ m ∧ shk f x w m ad s = c ∧ sh c = nI s
theorem SH_skip {f : Nat → Int32} {x : Int32} {w m d U : Nat} {ad : Nat → Nat} {sh : Nat → Int32} (h : SH f x w m d ad U sh) (n : ¬ (U < 1080 ∧ f U = x ∧ wc f x w U ≤ m)) : SH f x w m d ad (U + 1) sh := by
  refine ⟨fun t h1 h2 h3 h4 h5 => ?_, fun c hc => (h.2 c hc).elim Or.inl (fun ⟨s, a, b, r⟩ => Or.inr ⟨s, a, by omega, r⟩)⟩
  by_cases e : t = U
  · rw [e] at h3 h4 h5; exact absurd ⟨h3, h4, h5⟩ n
  · exact h.1 t h1 (by omega) h3 h4 h5
theorem SH_add {f : Nat → Int32} {x : Int32} {w m d U : Nat} {ad : Nat → Nat} {sh : Nat → Int32} (h : SH f x w m d ad U sh) (hd : d ≤ U) (h1 : U < 1080) (h2 : f U = x) (h3 : wc f x w U ≤ m) (hk : shk f x w m ad U ≤ 720) : SH f x w m d ad (U + 1) (upd sh (shk f x w m ad U) (if sh (shk f x w m ad U) < nI U then nI U else sh (shk f x w m ad U))) := by
  have mx : ∃ s, (if sh (shk f x w m ad U) < nI U then nI U else sh (shk f x w m ad U)) = nI s ∧ U ≤ s ∧ s < 1080 ∧ (s = U ∨ sh (shk f x w m ad U) = nI s) ∧ ∀ s', sh (shk f x w m ad U) = nI s' → s' < 1080 → s' ≤ s := by
    rcases h.2 _ hk with e | ⟨s, a1, a2, a3, a4, a5, a6, a7⟩
    · refine ⟨U, ?_, Nat.le_refl _, h1, Or.inl rfl, fun s' hs hs2 => ?_⟩
      · rw [e, if_pos (by rw [Int32.lt_iff_toInt_lt, nI_toInt (by omega), show (-1 : Int32).toInt = -1 from by decide]; omega)]
      · rw [e] at hs; exact absurd hs.symm (nI_neg1 (by omega))
    · rw [a7]
      by_cases c : s < U
      · exact ⟨U, by rw [if_pos (by rw [nI_ltI (by omega) (by omega)]; exact c)], Nat.le_refl _, h1, Or.inl rfl, fun s' hs hs2 => by rw [nI_eq (by omega) (by omega)] at hs; omega⟩
      · exact ⟨s, by rw [if_neg (by rw [nI_ltI (by omega) (by omega)]; exact c)], by omega, a3, Or.inr rfl, fun s' hs hs2 => by rw [nI_eq (by omega) (by omega)] at hs; omega⟩
  obtain ⟨s0, m1, m2, m3, m4, m5⟩ := mx
  rw [m1]
  refine ⟨fun t b1 b2 b3 b4 b5 => ?_, fun c hc => ?_⟩
  · by_cases e : shk f x w m ad t = shk f x w m ad U
    · rw [e, upd_at]
      refine ⟨s0, rfl, ?_, m3⟩
      by_cases et : t = U
      · omega
      · obtain ⟨s, c1, c2, c3⟩ := h.1 t b1 (by omega) b3 b4 b5
        rw [e] at c1
        have := m5 s c1 c3
        omega
    · rw [upd_no _ _ e]
      exact h.1 t b1 (by
        have : t ≠ U := fun z => e (by rw [z])
        omega) b3 b4 b5
  · by_cases e : c = shk f x w m ad U
    · rw [e, upd_at]
      rcases m4 with z | z
      · exact Or.inr ⟨U, hd, by omega, h1, h2, h3, rfl, by rw [z]⟩
      · rcases h.2 _ hk with q | ⟨s, a1, a2, a3, a4, a5, a6, a7⟩
        · rw [z] at q; exact absurd q (nI_neg1 (by omega))
        · refine Or.inr ⟨s, a1, by omega, a3, a4, a5, a6, ?_⟩
          rw [← z]; exact a7
    · rw [upd_no _ _ e]
      exact (h.2 c hc).elim Or.inl (fun ⟨s, a, b, r⟩ => Or.inr ⟨s, a, by omega, r⟩)
theorem SH_congr {f : Nat → Int32} {x : Int32} {w m d U : Nat} {ad ad' : Nat → Nat} {sh : Nat → Int32} (h : SH f x w m d ad U sh) (e : ∀ t, t < U → ad' (t + 1 - w) = ad (t + 1 - w)) : SH f x w m d ad' U sh := by
  refine ⟨fun t h1 h2 h3 h4 h5 => ?_, fun c hc => (h.2 c hc).elim Or.inl (fun ⟨s, a, b, r1, r2, r3, r4, r5⟩ => Or.inr ⟨s, a, b, r1, r2, r3, ?_, r5⟩)⟩
  · show ∃ s, sh (ad' (t + 1 - w) + (m - wc f x w t)) = nI s ∧ t ≤ s ∧ s < 1080
    rw [e t h2]; exact h.1 t h1 h2 h3 h4 h5
  · show ad' (s + 1 - w) + (m - wc f x w s) = c
    rw [e s b]; exact r4
/-- added days: what is counted of g, against f -/
def FR (f g : Nat → Int32) (x : Int32) (d k n : Nat) (ad : Nat → Nat) : Prop := (∀ i, i ≤ 1080 → cn (fun d => g d = x) 0 i = cn (fun d => f d = x) 0 i + ad i) ∧ (∀ i, i ≤ d → ad i = 0) ∧ (∀ i, k ≤ i → ad i = n) ∧ (∀ i, ad i ≤ n) ∧ (∀ t, k ≤ t → g t = f t) ∧ n + d ≤ k
theorem FR_wc {f g : Nat → Int32} {x : Int32} {d k n : Nat} {ad : Nat → Nat} (h : FR f g x d k n ad) (w t : Nat) (ht : k ≤ t) (ht2 : t < 1080) : wc g x w t + ad (t + 1 - w) = wc f x w t + n := by
  obtain ⟨h1, h2, h3, h4, h5, h6⟩ := h
  have a1 := h1 (t + 1) (by omega)
  have a2 := h1 (t + 1 - w) (by omega)
  have a3 := h3 (t + 1) (by omega)
  have a4 := h4 (t + 1 - w)
  have a5 := cn_dif (fun d => f d = x) (show t + 1 - w ≤ t + 1 by omega)
  have a6 := cn_dif (fun d => g d = x) (show t + 1 - w ≤ t + 1 by omega)
  rw [wc_dif, wc_dif]
  omega
theorem FR_next {f g : Nat → Int32} {x : Int32} {d k n : Nat} {ad : Nat → Nat} (h : FR f g x d k n ad) : FR f g x d (k + 1) n ad := by
  obtain ⟨h1, h2, h3, h4, h5, h6⟩ := h
  exact ⟨h1, h2, fun i hi => h3 i (by omega), h4, fun t ht => h5 t (by omega), by omega⟩
theorem FR_add {f g : Nat → Int32} {x : Int32} {d k n : Nat} {ad : Nat → Nat} (h : FR f g x d k n ad) (hd : d ≤ k) (hk : ¬ g k = x) : FR f (upd g k x) x d (k + 1) (n + 1) (fun i => ad i + (if k < i then 1 else 0)) := by
  obtain ⟨h1, h2, h3, h4, h5, h6⟩ := h
  refine ⟨fun i hi => ?_, fun i hi => ?_, fun i hi => ?_, fun i => ?_, fun t ht => ?_, by omega⟩
  · rw [cn_upd hk, h1 i hi, Nat.add_assoc]
  · show ad i + (if k < i then 1 else 0) = 0
    rw [if_neg (by omega), h2 i hi]
  · show ad i + (if k < i then 1 else 0) = n + 1
    rw [if_pos (by omega), h3 i (by omega)]
  · have := h4 i
    show ad i + (if k < i then 1 else 0) ≤ n + 1
    split <;> omega
  · rw [upd_no _ _ (by omega)]; exact h5 t (by omega)
/-- shut till -/
def SV (f : Nat → Int32) (x : Int32) (w m d k U n : Nat) (ad : Nat → Nat) (v : Int32) : Prop := v = -1 ∨ ∃ s, v = nI s ∧ s < 1080 ∧ (s < k ∨ (d ≤ s ∧ s < U ∧ f s = x ∧ wc f x w s ≤ m ∧ shk f x w m ad s = n))
/-- what the shutter tells is what the reference looks for -/
theorem SH_mb {f g : Nat → Int32} {x : Int32} {w m d k n : Nat} {ad : Nat → Nat} {sh : Nat → Int32} {v : Int32} (hF : FR f g x d k n ad) (hd : d ≤ k) (hk : k < 1080) (hn : n ≤ 720) (hS : SH f x w m d ad (k + w) sh) (hV : SV f x w m d k (k + w) n ad v) (nf : ¬ f k = x) : SV f x w m d k (k + w) n ad (if v < sh n then sh n else v) ∧ (nI k ≤ (if v < sh n then sh n else v) ↔ ∃ t, t < 1080 ∧ k < t ∧ t < k + w ∧ g t = x ∧ wc g x w t = m) := by
  have m1 : (-1 : Int32).toInt = -1 := by decide
  -- the new one is one of both, and not less than each
  have hS2 := hS.2 n hn
  have ge : ∀ s, s < 1080 → sh n = nI s → ∃ s', (if v < sh n then sh n else v) = nI s' ∧ s ≤ s' ∧ s' < 1080 := by
    intro s hs e
    rcases hV with q | ⟨s', q1, q2, q3⟩
    · exact ⟨s, by rw [q, e, if_pos (by rw [Int32.lt_iff_toInt_lt, nI_toInt (by omega), m1]; omega)], Nat.le_refl _, hs⟩
    · rw [q1, e]
      by_cases c : s' < s
      · exact ⟨s, by rw [if_pos (by rw [nI_ltI (by omega) (by omega)]; exact c)], Nat.le_refl _, hs⟩
      · exact ⟨s', by rw [if_neg (by rw [nI_ltI (by omega) (by omega)]; exact c)], by omega, q2⟩
  have new : SV f x w m d k (k + w) n ad (if v < sh n then sh n else v) := by
    by_cases c : v < sh n
    · rw [if_pos c]
      rcases hS2 with q | ⟨s, a1, a2, a3, a4, a5, a6, a7⟩
      · exact Or.inl q
      · exact Or.inr ⟨s, a7, a3, Or.inr ⟨a1, a2, a4, a5, a6⟩⟩
    · rw [if_neg c]; exact hV
  refine ⟨new, fun h => ?_, fun ⟨t, t1, t2, t3, t4, t5⟩ => ?_⟩
  · rcases new with q | ⟨s, q1, q2, q3⟩
    · rw [q] at h
      rw [Int32.le_iff_toInt_le, nI_toInt (by omega), m1] at h
      omega
    · rw [q1, nI_leI (by omega) (by omega)] at h
      rcases q3 with q3 | ⟨b1, b2, b3, b4, b5⟩
      · omega
      · have ne : s ≠ k := fun z => nf (by rw [← z]; exact b3)
        have e := FR_wc hF w s (by omega) q2
        have l := hF.2.2.2.1 (s + 1 - w)
        refine ⟨s, q2, by omega, b2, by rw [hF.2.2.2.2.1 s (by omega)]; exact b3, ?_⟩
        have b5 : ad (s + 1 - w) + (m - wc f x w s) = n := b5
        omega
  · have e := FR_wc hF w t (by omega) t1
    have l := hF.2.2.2.1 (t + 1 - w)
    have ft : f t = x := by rw [← hF.2.2.2.2.1 t (by omega)]; exact t4
    obtain ⟨s, c1, c2, c3⟩ := hS.1 t (by omega) t3 t1 ft (by omega)
    rw [show shk f x w m ad t = n by show ad (t + 1 - w) + (m - wc f x w t) = n; omega] at c1
    obtain ⟨s', e1, e2, e3⟩ := ge s c3 c1
    rw [e1, nI_leI (by omega) (by omega)]
    omega
section
variable {L : Nat} {xs : Nat → Int32} {A V : Nat → Nat → Int32} {K : Nat → Option Nat} {T : am_H}
theorem X_fill_33_c : ∃ g : Nat → Int32, (∀ i, i < 721 → g i = -1) ∧ am_fin [(z_X_fill, 0, [.ref 33, .int (-1), .null, .null], [])] (hp L xs A V K T) none (hp L xs (upA A 33 g) V K T) := by
  refine ⟨fl (A 33) 0 721 (-1), fun i hi => by unfold fl; rw [if_pos (by omega)], sg_X_fill_33_0 ?_⟩
  have key := am_iter (fun k => ([(z_X_fill, 5, [.ref 33, .int (-1), .int (nI k), .int (nI 721)], [])], hp L xs (upA A 33 (fl (A 33) 0 k (-1))) V K T)) 721 (v := none) (h' := hp L xs (upA A 33 (fl (A 33) 0 721 (-1))) V K T) (fun k hk ih => ?_) ?_
  · rw [fl_0, upA_self] at key
    exact key
  · dsimp only at ih ⊢
    refine sg_X_fill_33_5 (iteN (by rw [nI_leI (by omega) (by omega)]; omega) ⟨nI_inb (by omega) hk, ?_⟩)
    rw [nI_clamp (by omega), upA_same, upA_upA]
    have e := fl_s (A 33) 0 k (-1)
    rw [Nat.zero_add] at e
    rw [e, nI_1]
    exact ih
  · exact sg_X_fill_33_5 (iteP (Int32.le_refl _) ⟨rfl, rfl⟩)
theorem O_between_b (a1 : Int32) (t : Nat) (ht : 1080 ≤ t) (ht2 : t < 100000) : am_fin [(z_O_between, 0, [.ref 30, .int a1, .int (nI t), .null], [])] (hp L xs A V K T) (some 0) (hp L xs A V K T) := by
  refine sg_O_between_0 ?_
  by_cases c : nI t < (if a1 < 0 then (0 : Int32) else a1)
  · exact iteP c ⟨rfl, rfl⟩
  · exact iteN c (iteP (by rw [l_1080, nI_leI (by omega) (by omega)]; exact ht) ⟨rfl, rfl⟩)
theorem O_noteShutter_c {f : Nat → Int32} {x : Int32} {w m : Nat} (Q : QB A V f x w m) (sh : Nat → Int32) (h33 : A 33 = sh) (t n d : Nat) (ad : Nat → Nat) (hn : n ≤ 360) (ht : t < 5000) (hd : d ≤ t) (ha : ad (t + 1 - w) = n) (hS : SH f x w m d ad t sh) : ∃ sh' : Nat → Int32, SH f x w m d ad (t + 1) sh' ∧ am_fin [(z_O_noteShutter, 0, [.ref 30, .int (nI t), .int (nI n), .null, .null], [])] (hp L xs A V K T) none (hp L xs (upA A 33 sh') V K T) := by
  obtain ⟨-, q1, q2, q3, q4⟩ := id Q
  by_cases c : 1080 ≤ t
  · refine ⟨sh, SH_skip hS (fun z => by omega), ?_⟩
    rw [← h33, upA_self]
    refine sg_O_noteShutter_0 (am_fin.call (O_between_b _ t c (by omega)) (sg_O_noteShutter_17r (iteP (by rw [l_1080, nI_leI (by omega) (by omega)]; exact c) ⟨rfl, rfl⟩)))
  · have kb := O_between_c (L := L) (xs := xs) (K := K) (T := T) Q (nI t - nI w + 1) (t + 1 - w) (t + 1) (winI (by omega) (by omega)) (by omega) (by omega)
    rw [nI_m1 (by omega), Nat.add_sub_cancel] at kb
    have kb : am_fin [(z_O_between, 0, [.ref 30, .int (nI t - nI w + 1), .int (nI t), .null], [])] (hp L xs A V K T) (some (nI (wc f x w t))) (hp L xs A V K T) := kb
    have wl := wc_le f x w t
    have c1 : ¬ (1080 : Int32) ≤ nI t := by rw [l_1080, nI_leI (by omega) (by omega)]; exact c
    have go : ∀ sh' : Nat → Int32, am_fin [(z_O_noteShutter, 36, [.ref 30, .int (nI t), .int (nI n), .int (nI m - nI (wc f x w t)), .int (nI n + (nI m - nI (wc f x w t)))], [.int (b2 (f t = x))])] (hp L xs A V K T) none (hp L xs (upA A 33 sh') V K T) → am_fin [(z_O_noteShutter, 0, [.ref 30, .int (nI t), .int (nI n), .null, .null], [])] (hp L xs A V K T) none (hp L xs (upA A 33 sh') V K T) := by
      intro sh' nx
      refine sg_O_noteShutter_0 ?_
      rw [q1, q2]
      exact am_fin.call kb (sg_O_noteShutter_17r (iteN c1 (am_fin.call (O_isThere_c Q t (by omega)) nx)))
    by_cases e : f t = x
    · have nz : ¬ b2 (f t = x) = 0 := mt b2_z.mp (fun z => z e)
      by_cases r : wc f x w t ≤ m
      · have ek : shk f x w m ad t = n + (m - wc f x w t) := by show ad (t + 1 - w) + _ = _; rw [ha]
        have e1 : nI m - nI (wc f x w t) = nI (m - wc f x w t) := nI_sub r
        have h720 : shk f x w m ad t ≤ 720 := by rw [ek]; omega
        refine ⟨_, SH_add hS hd (by omega) e r h720, go _ (sg_O_noteShutter_36r ?_)⟩
        rw [e1, nI_add, ← ek]
        have ib : ¬ (nI (shk f x w m ad t) < 0 ∨ 721 ≤ (nI (shk f x w m ad t)).toNatClampNeg) := nI_inb (by omega) (by omega)
        refine iteN nz (iteN (nI_lt0 (by omega)) (iteN (by rw [show Int32.ofNat 721 = nI 721 from rfl, nI_leI (by omega) (by omega)]; omega) ⟨ib, ib, rfl, ?_⟩))
        rw [nI_clamp (by omega), h33]
      · refine ⟨sh, SH_skip hS (fun z => r z.2.2), go _ (sg_O_noteShutter_36r (iteN nz (iteP ?_ ⟨rfl, ?_⟩)))⟩
        · rw [Int32.lt_iff_toInt_lt, nI_sub_toInt (by omega) (by omega), Int32.toInt_zero]; omega
        · rw [← h33, upA_self]
    · refine ⟨sh, SH_skip hS (fun z => e z.2.1), go _ (sg_O_noteShutter_36r (iteP (b2_z.mpr e) ⟨rfl, ?_⟩))⟩
      rw [← h33, upA_self]
theorem O_hasRoom_c {f : Nat → Int32} {x : Int32} {w m : Nat} (Q : QB A V f x w m) (w0 : w ≠ 0) (k d n : Nat) (ad : Nat → Nat) (hd : d ≤ k) (hk : k < 1080) (hn : n ≤ 360) (had : ∀ i, ad i ≤ n) (h0 : ∀ i, i ≤ d → ad i = 0) (h32 : ∀ i, d ≤ i → i ≤ k → A 32 i = nI (ad i)) : am_fin [(z_O_hasRoom, 0, [.ref 30, .int (nI k), .int (nI d), .int (nI n), .null, .null], [])] (hp L xs A V K T) (some (b2 (wc f x w k + n < m + ad (k + 1 - w)))) (hp L xs A V K T) := by
  obtain ⟨-, q1, q2, q3, q4⟩ := id Q
  have kb := O_between_c (L := L) (xs := xs) (K := K) (T := T) Q (nI k - nI w + 1) (k + 1 - w) (k + 1) (winI (by omega) (by omega)) (by omega) (by omega)
  rw [nI_m1 (by omega), Nat.add_sub_cancel] at kb
  have kb : am_fin [(z_O_between, 0, [.ref 30, .int (nI k - nI w + 1), .int (nI k), .null], [])] (hp L xs A V K T) (some (nI (wc f x w k))) (hp L xs A V K T) := kb
  have wl := wc_le f x w k
  have al := had (k + 1 - w)
  have fin : ∀ (v4 : Int32) (z : Nat), z = ad (k + 1 - w) → am_fin [(z_O_hasRoom, 36, [.ref 30, .int (nI k), .int (nI d), .int (nI n), .int v4, .int (nI z)], [.int (nI (wc f x w k))])] (hp L xs A V K T) (some (b2 (wc f x w k + n < m + ad (k + 1 - w)))) (hp L xs A V K T) := by
    intro v4 z hz
    refine sg_O_hasRoom_36r ?_
    rw [q2, nI_add, nI_sub (by omega), hz]
    by_cases c : wc f x w k + n < m + ad (k + 1 - w)
    · rw [show b2 (wc f x w k + n < m + ad (k + 1 - w)) = 1 by unfold b2; rw [if_pos c]]
      exact iteN (by rw [nI_leI (by omega) (by omega)]; omega) ⟨rfl, rfl⟩
    · rw [b2_z.mpr c]
      exact iteP (by rw [nI_leI (by omega) (by omega)]; omega) ⟨rfl, rfl⟩
  refine sg_O_hasRoom_0 ?_
  rw [q1]
  by_cases c : k + 1 - w ≤ d
  · have c1 : nI k - nI w + 1 ≤ nI d := by
      rw [Int32.le_iff_toInt_le, i32_sub1 (by omega) (by omega), nI_toInt (by omega)]; omega
    exact iteP c1 (am_fin.call kb (fin _ 0 (h0 _ c).symm))
  · have es : nI k - nI w + 1 = nI (k + 1 - w) := by
      apply Int32.toInt_inj.mp
      rw [i32_sub1 (by omega) (by omega), nI_toInt (by omega)]; omega
    rw [es] at kb ⊢
    refine iteN (by rw [nI_leI (by omega) (by omega)]; exact c) ⟨nI_inb (by omega) (by omega), ?_⟩
    rw [nI_clamp (by omega), h32 (k + 1 - w) (by omega) (by omega)]
    exact am_fin.call kb (fin _ _ rfl)
end
