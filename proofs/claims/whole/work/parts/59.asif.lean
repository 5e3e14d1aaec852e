theorem JCd_congr {A : Nat → Nat → Int32} {D D' H C : Nat → Nat → Nat} (J : JCd A D H C) (h : ∀ l y, l < 6 → y < 3 → D l y = D' l y) : JCd A D' H C := by
  intro l y hl hy
  have := J l y hl hy
  rw [h l y hl hy] at this
  exact this
theorem nD_congr {f g : Nat → Int32} (e : ∀ d, d < 1080 → f d = g d) (l y : Nat) (hy : y < 3) : nD f l y = nD g l y := cn_congr (fun i h1 h2 => by rw [e i (by omega)])
theorem fw_congr {p q : Nat → Prop} [DecidablePred p] [DecidablePred q] : ∀ r d, (∀ i, d ≤ i → i < d + r → (p i ↔ q i)) → fw p r d = fw q r d
  | 0, _, _ => rfl
  | r + 1, d, h => by
    unfold fw
    rw [fw_congr r (d + 1) (fun i h1 h2 => h i (by omega) (by omega))]
    by_cases c : p d
    · rw [if_pos c, if_pos ((h d (by omega) (by omega)).mp c)]
    · rw [if_neg c, if_neg (mt (h d (by omega) (by omega)).mpr c)]
theorem dn_congr {p q : Nat → Prop} [DecidablePred p] [DecidablePred q] : ∀ r d, r ≤ d → (∀ i, i ≤ d → (p i ↔ q i)) → dn p r d = dn q r d
  | 0, _, _, _ => rfl
  | r + 1, d, h0, h => by
    unfold dn
    rw [dn_congr r (d - 1) (by omega) (fun i h1 => h i (by omega))]
    by_cases c : p d
    · rw [if_pos c, if_pos ((h d (by omega)).mp c)]
    · rw [if_neg c, if_neg (mt (h d (by omega)).mpr c)]
theorem bnd_congr {f g h : Nat → Int32} {l d : Nat} (e : f d = g d) : bnd f h l d ↔ bnd g h l d := by
  unfold bnd; rw [e]
theorem sF_congr {D H ru : Nat → Nat → Nat} {f g h : Nat → Int32} (e : ∀ d, d < 1080 → f d = g d) (l y : Nat) (hy : y < 3) : sF D H ru f h l y = sF D H ru g h l y := by
  unfold sF
  rw [fw_congr (p := bnd f h l) (q := bnd g h l) 359 (360 * y) (fun i h1 h2 => bnd_congr (e i (by omega)))]
theorem sT_congr {D H ru : Nat → Nat → Nat} {f g h : Nat → Int32} (e : ∀ d, d < 1080 → f d = g d) (l y : Nat) (hy : y < 3) : sT D H ru f h l y = sT D H ru g h l y := by
  unfold sT
  rw [dn_congr (p := bnd f h l) (q := bnd g h l) 359 (360 * y + 359) (by omega) (fun i h1 => bnd_congr (e i (by omega)))]
theorem ows_congr {tx : Nat → Nat} {lv : Option Nat} {a b : Nat} {f g : Nat → Int32} {y : Nat} (e : ∀ d, d < 1080 → f d = g d) (hy : y < 3) : ∀ k, k ≤ 360 → ows tx lv a b f y k = ows tx lv a b g y k
  | 0, _ => rfl
  | k + 1, h => by
    show ows tx lv a b f y k + txo tx (owl lv a b f (360 * y + k)) = ows tx lv a b g y k + txo tx (owl lv a b g (360 * y + k))
    rw [ows_congr e hy k (by omega)]
    congr 2
    unfold owl
    rw [e (360 * y + k) (by omega)]
theorem owv_congr {D H C ru : Nat → Nat → Nat} {na : Nat → Nat} {rn : Nat → Nat → Nat} {rl : Nat → Nat → Nat → Nat} {tx : Nat → Nat} {f g h : Nat → Int32} (e : ∀ d, d < 1080 → f d = g d) (y : Nat) (hy : y < 3) : owv D H C ru na rn rl tx f h y = owv D H C ru na rn rl tx g h y := by
  unfold owv
  cases lives D H C ru na rn rl y with
  | none => exact ows_congr e hy 360 (Nat.le_refl _)
  | some l =>
    dsimp only
    rw [sF_congr e l y hy, sT_congr e l y hy]
    exact ows_congr e hy 360 (Nat.le_refl _)
/-- what one owes of the first n years -/
def owa (D H C ru : Nat → Nat → Nat) (na : Nat → Nat) (rn : Nat → Nat → Nat) (rl : Nat → Nat → Nat → Nat) (tx : Nat → Nat) (f h : Nat → Int32) : Nat → Nat
  | 0 => 0
  | n + 1 => owa D H C ru na rn rl tx f h n + owv D H C ru na rn rl tx f h n
theorem owa_congr {D H C ru : Nat → Nat → Nat} {na : Nat → Nat} {rn : Nat → Nat → Nat} {rl : Nat → Nat → Nat → Nat} {tx : Nat → Nat} {f g h : Nat → Int32} (e : ∀ d, d < 1080 → f d = g d) : ∀ n, n ≤ 3 → owa D H C ru na rn rl tx f h n = owa D H C ru na rn rl tx g h n
  | 0, _ => rfl
  | n + 1, hn => by
    show owa D H C ru na rn rl tx f h n + _ = owa D H C ru na rn rl tx g h n + _
    rw [owa_congr e n (by omega), owv_congr e n (by omega)]
theorem up3 (X : Nat → Nat → Int32) : upA (upA (upA X 29 (X 29)) 28 (X 28)) 27 (X 27) = X := by rw [upA_self, upA_self, upA_self]
theorem upv2 (V : Nat → Nat → Int32) : upV (upV V 30 4 (V 30 4)) 30 5 (V 30 5) = V := by rw [upV_self, upV_self]
section
variable {L : Nat} {xs : Nat → Int32} {A V : Nat → Nat → Int32} {K : Nat → Option Nat} {T : am_H} {D H C ru : Nat → Nat → Nat} {na : Nat → Nat} {rn : Nat → Nat → Nat} {rl : Nat → Nat → Nat → Nat} {tx : Nat → Nat}

theorem L_owedAsIf_c (J : JCd A D H C) (R : JCr A V ru na rn rl) (tt : JCt A tx) (hf : ∀ d, d < 1080 → pl (A 35 d)) : am_fin [(z_L_owedAsIf, 0, [.ref 1, .null, .null], [])] (hp L xs A V K T) (some (nI (owa D H C ru na rn rl tx (A 35) (A 9) 3))) (hp L xs A V K T) := by
  refine sg_L_owedAsIf_0 ?_
  refine am_iter (fun k => ([(z_L_owedAsIf, 4, [.ref 1, .int (nI (owa D H C ru na rn rl tx (A 35) (A 9) k)), .int (nI k)], [])], hp L xs A V K T)) 3 (fun k hk ih => ?_) ?_
  · dsimp only at ih ⊢
    rw [← nI_1, show owa D H C ru na rn rl tx (A 35) (A 9) (k + 1) = owa D H C ru na rn rl tx (A 35) (A 9) k + owv D H C ru na rn rl tx (A 35) (A 9) k from rfl, ← nI_add] at ih
    exact sg_L_owedAsIf_4 (iteN (by rw [l_3, nI_leI (by omega) (by omega)]; omega) (am_fin.call (J_owedIn_34_c J R tt hf k hk) (sg_L_owedAsIf_22r ih)))
  · dsimp only
    exact sg_L_owedAsIf_4 (iteP (by decide) ⟨rfl, rfl⟩)
theorem M_owesAll_c (R : JMr A ru na rn rl) (tt : JMt A tx) (hf : ∀ d, d < 1080 → pl (A 37 d)) : ∃ gm : Nat → Int32, am_fin [(z_M_owesAll, 0, [.ref 36, .null, .null], [])] (hp L xs A V K T) (some (nI (owa (nD (A 37)) (nH (A 38)) (nD (A 39)) ru na rn rl tx (A 37) (A 38) 3))) (hp L xs (upA A 47 gm) V K T) := by
  obtain ⟨gm, m1, m2⟩ := M_laysCounts_c (L := L) (xs := xs) (A := A) (V := V) (K := K) (T := T)
  refine ⟨gm, sg_M_owesAll_0 (am_fin.call m2 (sg_M_owesAll_4r ?_))⟩
  have R1 : JMr (upA A 47 gm) ru na rn rl := R
  have t1 : JMt (upA A 47 gm) tx := tt
  refine am_iter (fun k => ([(z_M_owesAll, 8, [.ref 36, .int (nI (owa (nD (A 37)) (nH (A 38)) (nD (A 39)) ru na rn rl tx (A 37) (A 38) k)), .int (nI k)], [])], hp L xs (upA A 47 gm) V K T)) 3 (fun k hk ih => ?_) ?_
  · dsimp only at ih ⊢
    rw [← nI_1, show owa (nD (A 37)) (nH (A 38)) (nD (A 39)) ru na rn rl tx (A 37) (A 38) (k + 1) = owa (nD (A 37)) (nH (A 38)) (nD (A 39)) ru na rn rl tx (A 37) (A 38) k + owv (nD (A 37)) (nH (A 38)) (nD (A 39)) ru na rn rl tx (A 37) (A 38) k from rfl, ← nI_add] at ih
    exact sg_M_owesAll_8 (iteN (by rw [l_3, nI_leI (by omega) (by omega)]; omega) (am_fin.call (M_owes_c m1 R1 t1 hf k hk) (sg_M_owesAll_19r ih)))
  · dsimp only
    exact sg_M_owesAll_8 (iteP (by decide) ⟨rfl, rfl⟩)
end
def ocv (A V : Nat → Nat → Int32) (F : Nat → Int32) (t : Nat) : Int32 := if t = 4 then nI (ova F (wA A) (mA A) 6) else if t = 3 then nI (owa (nD F) (nH (A 9)) (nD (A 6)) (ruA A) (naV V) (rnA A) (rlA A) (txA A) F (A 9) 3) else onat (-2) (lives (nD F) (nH (A 9)) (nD (A 6)) (ruA A) (naV V) (rnA A) (rlA A) t)
section
variable {L : Nat} {xs : Nat → Int32} {A V B W : Nat → Nat → Int32} {K : Nat → Option Nat} {T : am_H}
theorem L_outcome_c (R : Rr A V) (hc : ∀ d, d < 1080 → pl (A 6 d)) (hh : ∀ d, d < 1080 → ∃ b, b < 64 ∧ A 9 d = nI b) (F G : Nat → Int32) (hF : ∀ d, d < 1080 → pl (F d)) (hG : ∀ d, d < 1080 → F d = G d) (t : Nat) (ht : t < 5) : ∃ (gc gh gd g : Nat → Int32) (a b : Int32), am_fin [(z_L_outcome, 0, [.ref 1, .int (nI t)], [])] (hp L xs (upA A 35 F) V K T) (some (ocv A V G t)) (hp L xs (upA (upA (upA (upA (upA A 35 F) 29 gc) 28 gh) 27 gd) 31 g) (upV (upV V 30 4 a) 30 5 b) K T) := by
  have R35 : Rr (upA A 35 F) V := R
  unfold ocv
  by_cases t4 : t = 4
  · obtain ⟨g, a, b, k⟩ := L_overstaysInAll_34_c (L := L) (xs := xs) (K := K) (T := T) R35
    refine ⟨upA A 35 F 29, upA A 35 F 28, upA A 35 F 27, g, a, b, ?_⟩
    rw [up3, if_pos t4, ← ova_congr hG]
    exact sg_L_outcome_0 (iteP (by rw [t4]; rfl) (am_fin.call k (sg_L_outcome_13r ⟨rfl, rfl⟩)))
  · have n4 : ¬ nI t = 4 := by rw [l_4, nI_eq (by omega) (by omega)]; exact t4
    obtain ⟨gc, gh, gd, j1, j2⟩ := J_weigh_34_c (L := L) (xs := xs) (A := upA A 35 F) (V := V) (K := K) (T := T) hF hc hh
    refine ⟨gc, gh, gd, upA (upA (upA (upA A 35 F) 29 gc) 28 gh) 27 gd 31, V 30 4, V 30 5, ?_⟩
    rw [upA_self, upv2, if_neg t4]
    have J : JCd (upA (upA (upA (upA A 35 F) 29 gc) 28 gh) 27 gd) (nD G) (nH (A 9)) (nD (A 6)) := JCd_congr j1 (fun l y hl hy => nD_congr hG l y hy)
    have JR : JCr (upA (upA (upA (upA A 35 F) 29 gc) 28 gh) 27 gd) V (ruA A) (naV V) (rnA A) (rlA A) := JCr_of R
    have JT : JCt (upA (upA (upA (upA A 35 F) 29 gc) 28 gh) 27 gd) (txA A) := JCt_of R
    by_cases t3 : t = 3
    · rw [if_pos t3, ← owa_congr hG 3 (Nat.le_refl _)]
      exact sg_L_outcome_0 (iteN n4 (am_fin.call j2 (sg_L_outcome_25r (iteP (by rw [t3]; rfl) (am_fin.call (L_owedAsIf_c J JR JT hF) (sg_L_outcome_34r ⟨rfl, rfl⟩))))))
    · rw [if_neg t3]
      exact sg_L_outcome_0 (iteN n4 (am_fin.call j2 (sg_L_outcome_25r (iteN (by rw [l_3, nI_eq (by omega) (by omega)]; exact t3) (am_fin.call (J_livesIn_c J JR t (by omega)) (sg_L_outcome_45r ⟨rfl, rfl⟩))))))
theorem M_asked_c (R : Rr A V) (e41 : B 41 = A 41) (e38 : B 38 = A 9) (e39 : B 39 = A 6) (G : Nat → Int32) (e37 : B 37 = G) (hG : ∀ d, d < 1080 → pl (G d)) (t : Nat) (ht : t < 5) : ∃ (gm g : Nat → Int32), am_fin [(z_M_asked, 0, [.ref 36, .int (nI t)], [])] (hp L xs B W K T) (some (ocv A V G t)) (hp L xs (upA (upA B 47 gm) 45 g) W K T) := by
  have MR : JMr B (ruA A) (naV V) (rnA A) (rlA A) := by
    have := JMr_of R
    unfold JMr at this ⊢
    rw [e41]
    exact this
  have MT : JMt B (txA A) := by
    have := JMt_of R
    unfold JMt at this ⊢
    rw [e41]
    exact this
  unfold ocv
  by_cases t4 : t = 4
  · obtain ⟨g, k⟩ := M_allOverstays_c (L := L) (xs := xs) (A := B) (V := W) (K := K) (T := T) (wA A) (mA A) (fun l hl => by
      obtain ⟨h1, h2, h3, h4, h5, h6⟩ := wm_A R l hl
      rw [e41]
      exact ⟨h1, h2, h5, h6⟩)
    rw [e37] at k
    refine ⟨B 47, g, ?_⟩
    rw [upA_self, if_pos t4]
    exact sg_M_asked_0 (iteP (by rw [t4]; rfl) (am_fin.call k (sg_M_asked_9r ⟨rfl, rfl⟩)))
  · have n4 : ¬ nI t = 4 := by rw [l_4, nI_eq (by omega) (by omega)]; exact t4
    by_cases t3 : t = 3
    · obtain ⟨gm, k⟩ := M_owesAll_c (L := L) (xs := xs) (V := W) (K := K) (T := T) MR MT (by rw [e37]; exact hG)
      rw [e37, e38, e39] at k
      refine ⟨gm, upA B 47 gm 45, ?_⟩
      rw [upA_self, if_neg t4, if_pos t3]
      exact sg_M_asked_0 (iteN n4 (iteP (by rw [t3]; rfl) (am_fin.call k (sg_M_asked_19r ⟨rfl, rfl⟩))))
    · obtain ⟨gm, m1, m2⟩ := M_laysCounts_c (L := L) (xs := xs) (A := B) (V := W) (K := K) (T := T)
      rw [e37, e38, e39] at m1
      refine ⟨gm, upA B 47 gm 45, ?_⟩
      rw [upA_self, if_neg t4, if_neg t3]
      have MR1 : JMr (upA B 47 gm) (ruA A) (naV V) (rnA A) (rlA A) := MR
      exact sg_M_asked_0 (iteN n4 (iteN (by rw [l_3, nI_eq (by omega) (by omega)]; exact t3) (am_fin.call m2 (sg_M_asked_24r (am_fin.call (M_livesNow_c m1 MR1 t (by omega)) (sg_M_asked_29r ⟨rfl, rfl⟩))))))
end
/-- days from a on, n of them: one land for another -/
def rp (f : Nat → Int32) (x z : Int32) (a n : Nat) : Nat → Int32 := fun i => if a ≤ i ∧ i < a + n ∧ f i = x then z else f i
theorem rp_0 (f : Nat → Int32) (x z : Int32) (a : Nat) : rp f x z a 0 = f := by
  funext i; unfold rp; rw [if_neg (by omega)]
theorem rp_at (f : Nat → Int32) (x z : Int32) (a n : Nat) : rp f x z a n (a + n) = f (a + n) := by
  unfold rp; rw [if_neg (by omega)]
theorem rp_t {f : Nat → Int32} {x z : Int32} {a n : Nat} (h : f (a + n) = x) : upd (rp f x z a n) (a + n) z = rp f x z a (n + 1) := by
  funext i
  unfold upd rp
  by_cases e : i = a + n
  · rw [if_pos e, if_pos ⟨by omega, by omega, by rw [e]; exact h⟩]
  · rw [if_neg e]
    by_cases c : a ≤ i ∧ i < a + n ∧ f i = x
    · rw [if_pos c, if_pos ⟨c.1, by omega, c.2.2⟩]
    · rw [if_neg c, if_neg (fun q => c ⟨q.1, by omega, q.2.2⟩)]
theorem rp_f {f : Nat → Int32} {x z : Int32} {a n : Nat} (h : ¬ f (a + n) = x) : rp f x z a n = rp f x z a (n + 1) := by
  funext i
  unfold rp
  by_cases c : a ≤ i ∧ i < a + n ∧ f i = x
  · rw [if_pos c, if_pos ⟨c.1, by omega, c.2.2⟩]
  · rw [if_neg c, if_neg (fun q => c ⟨q.1, by
      have := q.2.1
      have : i ≠ a + n := fun e => h (by rw [← e]; exact q.2.2)
      omega, q.2.2⟩)]
theorem rp_pl {f : Nat → Int32} {x z : Int32} {a n : Nat} (hz : pl z) (hf : ∀ d, d < 1080 → pl (f d)) : ∀ d, d < 1080 → pl (rp f x z a n d) := by
  intro d hd
  unfold rp
  split
  · exact hz
  · exact hf d hd
theorem rp_congr {f g : Nat → Int32} {x z : Int32} {a n : Nat} (e : ∀ d, d < 1080 → f d = g d) : ∀ d, d < 1080 → rp f x z a n d = rp g x z a n d := by
  intro d hd
  unfold rp
  rw [e d hd]
theorem cpy4 (f g : Nat → Int32) : ∀ d, d < 1080 → va_cpy f g (0 : Int32).toNatClampNeg (0 : Int32).toNatClampNeg (1080 : Int32).toNatClampNeg d = f d := by
  intro k hk
  show (if 0 ≤ k ∧ k < 0 + 1080 then f (0 + (k - 0)) else g k) = f k
  rw [if_pos (by omega)]; congr 1; omega
section
variable {L : Nat} {xs : Nat → Int32} {A V : Nat → Nat → Int32} {K : Nat → Option Nat} {T : am_H}
theorem L_in_lp (x z t : Int32) (f : Nat → Int32) (a b : Nat) (hb : b < 1080) {v : Option Int32} {h' : am_H} (cont : am_fin [(z_L_outcome, 0, [.ref 1, .int t], []), (z_L_instead, 99, [.ref 1, .int x, .int z, .int (nI a), .int (nI b), .int t, .int (nI (b + 1))], [])] (hp L xs (upA A 35 (rp f x z a (b + 1 - a))) V K T) v h') : ∀ r k, a + k + r = b + 1 → am_fin [(z_L_instead, 55, [.ref 1, .int x, .int z, .int (nI a), .int (nI b), .int t, .int (nI (a + k))], [])] (hp L xs (upA A 35 (rp f x z a k)) V K T) v h' := by
  intro r
  induction r with
  | zero =>
    intro k hk
    rw [show a + k = b + 1 by omega, show k = b + 1 - a by omega]
    exact sg_L_instead_55 (iteP (by rw [nI_ltI (by omega) (by omega)]; omega) cont)
  | succ r ih =>
    intro k hk
    have i1 := ih (k + 1) (by omega)
    rw [← Nat.add_assoc, ← nI_1] at i1
    have ib : ¬ (nI (a + k) < 0 ∨ 1080 ≤ (nI (a + k)).toNatClampNeg) := nI_inb (by omega) (by omega)
    have ck : (nI (a + k)).toNatClampNeg = a + k := nI_clamp (by omega)
    refine sg_L_instead_55 (iteN (by rw [nI_ltI (by omega) (by omega)]; omega) ⟨ib, ?_⟩)
    rw [ck, upA_same, rp_at, upA_upA]
    rw [ck] at ib
    by_cases c : f (a + k) = x
    · rw [rp_t c]
      exact iteP c ⟨ib, i1⟩
    · rw [← rp_f c] at i1
      exact iteN c i1
theorem M_in_lp (x z t : Int32) (f : Nat → Int32) (a b : Nat) (hb : b < 1080) {v : Option Int32} {h' : am_H} (cont : am_fin [(z_M_asked, 0, [.ref 36, .int t], []), (z_M_instead, 98, [.ref 36, .int x, .int z, .int (nI a), .int (nI b), .int t, .int (nI (b + 1))], [])] (hp L xs (upA A 37 (rp f x z a (b + 1 - a))) V K T) v h') : ∀ r k, a + k + r = b + 1 → am_fin [(z_M_instead, 50, [.ref 36, .int x, .int z, .int (nI a), .int (nI b), .int t, .int (nI (a + k))], [])] (hp L xs (upA A 37 (rp f x z a k)) V K T) v h' := by
  intro r
  induction r with
  | zero =>
    intro k hk
    rw [show a + k = b + 1 by omega, show k = b + 1 - a by omega]
    exact sg_M_instead_50 (iteP (by rw [nI_ltI (by omega) (by omega)]; omega) cont)
  | succ r ih =>
    intro k hk
    have i1 := ih (k + 1) (by omega)
    rw [← Nat.add_assoc, ← nI_1] at i1
    have ib : ¬ (nI (a + k) < 0 ∨ 1080 ≤ (nI (a + k)).toNatClampNeg) := nI_inb (by omega) (by omega)
    have ck : (nI (a + k)).toNatClampNeg = a + k := nI_clamp (by omega)
    refine sg_M_instead_50 (iteN (by rw [nI_ltI (by omega) (by omega)]; omega) ⟨ib, ?_⟩)
    rw [ck, upA_same, upA_upA, upA_upA, upd_id]
    rw [ck] at ib
    by_cases c : f (a + k) = x
    · rw [rp_t c]
      exact iteP (by rw [rp_at]; exact c) ⟨ib, i1⟩
    · rw [← rp_f c] at i1
      exact iteN (by rw [rp_at]; exact c) ⟨ib, ib, i1⟩
theorem pr_instead (a1 a2 a3 a4 a5 : Int32) (R : RI A V K T) : PRQ z_L_instead z_M_instead [.ref 1, .int a1, .int a2, .int a3, .int a4, .int a5, .null] [.ref 36, .int a1, .int a2, .int a3, .int a4, .int a5, .null] L xs A V K T := by
  by_cases c1 : a1 < 0
  · refine ⟨(-1), A, V, K, T, A, V, sg_L_instead_0 ?_, sg_M_instead_0 ?_, R⟩
    · (try simp only [lgl, lgg]); (repeat first | refine iteP (by first | assumption) ?_ | refine iteN (by first | assumption) ?_); (constructor <;> first | rfl | trivial)
    · (try simp only [lgl, lgg]); (repeat first | refine iteP (by first | assumption) ?_ | refine iteN (by first | assumption) ?_); (constructor <;> first | rfl | trivial)
  by_cases c2 : (5 : Int32) < a1
  · refine ⟨(-1), A, V, K, T, A, V, sg_L_instead_0 ?_, sg_M_instead_0 ?_, R⟩
    · (try simp only [lgl, lgg]); (repeat first | refine iteP (by first | assumption) ?_ | refine iteN (by first | assumption) ?_); (constructor <;> first | rfl | trivial)
    · (try simp only [lgl, lgg]); (repeat first | refine iteP (by first | assumption) ?_ | refine iteN (by first | assumption) ?_); (constructor <;> first | rfl | trivial)
  by_cases c3 : a2 < -1
  · refine ⟨(-1), A, V, K, T, A, V, sg_L_instead_0 ?_, sg_M_instead_0 ?_, R⟩
    · (try simp only [lgl, lgg]); (repeat first | refine iteP (by first | assumption) ?_ | refine iteN (by first | assumption) ?_); (constructor <;> first | rfl | trivial)
    · (try simp only [lgl, lgg]); (repeat first | refine iteP (by first | assumption) ?_ | refine iteN (by first | assumption) ?_); (constructor <;> first | rfl | trivial)
  by_cases c4 : (5 : Int32) < a2
  · refine ⟨(-1), A, V, K, T, A, V, sg_L_instead_0 ?_, sg_M_instead_0 ?_, R⟩
    · (try simp only [lgl, lgg]); (repeat first | refine iteP (by first | assumption) ?_ | refine iteN (by first | assumption) ?_); (constructor <;> first | rfl | trivial)
    · (try simp only [lgl, lgg]); (repeat first | refine iteP (by first | assumption) ?_ | refine iteN (by first | assumption) ?_); (constructor <;> first | rfl | trivial)
  by_cases c5 : a1 = a2
  · refine ⟨(-1), A, V, K, T, A, V, sg_L_instead_0 ?_, sg_M_instead_0 ?_, R⟩
    · (try simp only [lgl, lgg]); (repeat first | refine iteP (by first | assumption) ?_ | refine iteN (by first | assumption) ?_); (constructor <;> first | rfl | trivial)
    · (try simp only [lgl, lgg]); (repeat first | refine iteP (by first | assumption) ?_ | refine iteN (by first | assumption) ?_); (constructor <;> first | rfl | trivial)
  by_cases c6 : a3 < 0
  · refine ⟨(-1), A, V, K, T, A, V, sg_L_instead_0 ?_, sg_M_instead_0 ?_, R⟩
    · (try simp only [lgl, lgg]); (repeat first | refine iteP (by first | assumption) ?_ | refine iteN (by first | assumption) ?_); (constructor <;> first | rfl | trivial)
    · (try simp only [lgl, lgg]); (repeat first | refine iteP (by first | assumption) ?_ | refine iteN (by first | assumption) ?_); (constructor <;> first | rfl | trivial)
  by_cases c7 : (1079 : Int32) < a3
  · refine ⟨(-1), A, V, K, T, A, V, sg_L_instead_0 ?_, sg_M_instead_0 ?_, R⟩
    · (try simp only [lgl, lgg]); (repeat first | refine iteP (by first | assumption) ?_ | refine iteN (by first | assumption) ?_); (constructor <;> first | rfl | trivial)
    · (try simp only [lgl, lgg]); (repeat first | refine iteP (by first | assumption) ?_ | refine iteN (by first | assumption) ?_); (constructor <;> first | rfl | trivial)
  by_cases c8 : a4 < 0
  · refine ⟨(-1), A, V, K, T, A, V, sg_L_instead_0 ?_, sg_M_instead_0 ?_, R⟩
    · (try simp only [lgl, lgg]); (repeat first | refine iteP (by first | assumption) ?_ | refine iteN (by first | assumption) ?_); (constructor <;> first | rfl | trivial)
    · (try simp only [lgl, lgg]); (repeat first | refine iteP (by first | assumption | (simp only [Int32.lt_iff_toInt_lt, Int32.le_iff_toInt_le, ← Int32.toInt_inj, Int32.reduceToInt] at *; omega)) ?_ | refine iteN (by first | assumption | (simp only [Int32.lt_iff_toInt_lt, Int32.le_iff_toInt_le, ← Int32.toInt_inj, Int32.reduceToInt] at *; omega)) ?_); (constructor <;> first | rfl | trivial)
  by_cases c9 : (1079 : Int32) < a4
  · refine ⟨(-1), A, V, K, T, A, V, sg_L_instead_0 ?_, sg_M_instead_0 ?_, R⟩
    · (try simp only [lgl, lgg]); (repeat first | refine iteP (by first | assumption) ?_ | refine iteN (by first | assumption) ?_); (constructor <;> first | rfl | trivial)
    · (try simp only [lgl, lgg]); (repeat first | refine iteP (by first | assumption | (simp only [Int32.lt_iff_toInt_lt, Int32.le_iff_toInt_le, ← Int32.toInt_inj, Int32.reduceToInt] at *; omega)) ?_ | refine iteN (by first | assumption | (simp only [Int32.lt_iff_toInt_lt, Int32.le_iff_toInt_le, ← Int32.toInt_inj, Int32.reduceToInt] at *; omega)) ?_); (constructor <;> first | rfl | trivial)
  by_cases c10 : a4 < a3
  · refine ⟨(-1), A, V, K, T, A, V, sg_L_instead_0 ?_, sg_M_instead_0 ?_, R⟩
    · (try simp only [lgl, lgg]); (repeat first | refine iteP (by first | assumption) ?_ | refine iteN (by first | assumption) ?_); (constructor <;> first | rfl | trivial)
    · (try simp only [lgl, lgg]); (repeat first | refine iteP (by first | assumption) ?_ | refine iteN (by first | assumption) ?_); (constructor <;> first | rfl | trivial)
  by_cases c11 : a5 < 0
  · refine ⟨(-1), A, V, K, T, A, V, sg_L_instead_0 ?_, sg_M_instead_0 ?_, R⟩
    · (try simp only [lgl, lgg]); (repeat first | refine iteP (by first | assumption) ?_ | refine iteN (by first | assumption) ?_); (constructor <;> first | rfl | trivial)
    · (try simp only [lgl, lgg]); (repeat first | refine iteP (by first | assumption) ?_ | refine iteN (by first | assumption) ?_); (constructor <;> first | rfl | trivial)
  by_cases c12 : (4 : Int32) < a5
  · refine ⟨(-1), A, V, K, T, A, V, sg_L_instead_0 ?_, sg_M_instead_0 ?_, R⟩
    · (try simp only [lgl, lgg]); (repeat first | refine iteP (by first | assumption) ?_ | refine iteN (by first | assumption) ?_); (constructor <;> first | rfl | trivial)
    · (try simp only [lgl, lgg]); (repeat first | refine iteP (by first | assumption) ?_ | refine iteN (by first | assumption) ?_); (constructor <;> first | rfl | trivial)
  have pz : pl a2 := i32_pl c3 c4
  obtain ⟨a, ha, rfl⟩ := i32_nat (m := 1079) (by omega) c6 c7
  obtain ⟨b, hb, rfl⟩ := i32_nat (m := 1079) (by omega) c8 c9
  have hab : a ≤ b := by rw [nI_ltI (by omega) (by omega)] at c10; omega
  obtain ⟨t, ht, rfl⟩ := i32_nat (m := 4) (by omega) c11 c12
  obtain ⟨r1, r2, r3, r4, r5, r6, r7, r8⟩ := id R.1
  have pF := cpy4 (A 4) (A 35)
  generalize hF0 : va_cpy (A 4) (A 35) (0 : Int32).toNatClampNeg (0 : Int32).toNatClampNeg (1080 : Int32).toNatClampNeg = F0 at pF
  have pl0 : ∀ d, d < 1080 → pl (F0 d) := fun d hd => by rw [pF d hd]; exact r5 d hd
  obtain ⟨gc, gh, gd, g, va, vb, k1⟩ := L_outcome_c (L := L) (xs := xs) (K := K) (T := T) R.2.2.1 r6 r8 (rp F0 a1 a2 a (b + 1 - a)) (rp (A 4) a1 a2 a (b + 1 - a)) (rp_pl pz pl0) (rp_congr pF) t (by omega)
  generalize hA1 : upA (upA (upA (upA (upA A 35 (rp F0 a1 a2 a (b + 1 - a))) 29 gc) 28 gh) 27 gd) 31 g = A1 at k1
  have e37 : A1 37 = A 4 := by rw [← hA1]; exact r1
  have m1 := M_laysAside_c (L := L) (xs := xs) (A := A1) (V := upV (upV V 30 4 va) 30 5 vb) (K := K) (T := T)
  rw [e37] at m1
  obtain ⟨gm, g2, m2⟩ := M_asked_c (L := L) (xs := xs) (B := upA (upA A1 46 (fun i => if i < 1080 then A 4 i else A1 46 i)) 37 (rp (A 4) a1 a2 a (b + 1 - a))) (W := upV (upV V 30 4 va) 30 5 vb) (K := K) (T := T) R.2.2.1 (by rw [← hA1]; rfl) (by rw [← hA1]; exact r2) (by rw [← hA1]; exact r3) (rp (A 4) a1 a2 a (b + 1 - a)) rfl (rp_pl pz r5) t (by omega)
  have m4 := M_takesAside_c (L := L) (xs := xs) (A := upA (upA (upA (upA A1 46 (fun i => if i < 1080 then A 4 i else A1 46 i)) 37 (rp (A 4) a1 a2 a (b + 1 - a))) 47 gm) 45 g2) (V := upV (upV V 30 4 va) 30 5 vb) (K := K) (T := T)
  have ef : (fun i => if i < 1080 then upA (upA (upA (upA A1 46 (fun i => if i < 1080 then A 4 i else A1 46 i)) 37 (rp (A 4) a1 a2 a (b + 1 - a))) 47 gm) 45 g2 46 i else upA (upA (upA (upA A1 46 (fun i => if i < 1080 then A 4 i else A1 46 i)) 37 (rp (A 4) a1 a2 a (b + 1 - a))) 47 gm) 45 g2 37 i) = A 4 := by
    funext i
    show (if i < 1080 then (if i < 1080 then A 4 i else A1 46 i) else rp (A 4) a1 a2 a (b + 1 - a) i) = A 4 i
    by_cases c : i < 1080
    · rw [if_pos c, if_pos c]
    · rw [if_neg c]; unfold rp; rw [if_neg (by omega)]
  rw [ef] at m4
  refine ⟨ocv A V (rp (A 4) a1 a2 a (b + 1 - a)) t, A1, upV (upV V 30 4 va) 30 5 vb, K, T, upA (upA (upA (upA (upA A1 46 (fun i => if i < 1080 then A 4 i else A1 46 i)) 37 (rp (A 4) a1 a2 a (b + 1 - a))) 47 gm) 45 g2) 37 (A 4), upV (upV V 30 4 va) 30 5 vb, sg_L_instead_0 ?_, sg_M_instead_0 ?_, ?_⟩
  · (try simp only [lgl, lgg]); (repeat first | refine iteP (by first | assumption) ?_ | refine iteN (by first | assumption) ?_)
    rw [hF0]
    have lp := L_in_lp (L := L) (xs := xs) (A := A) (V := V) (K := K) (T := T) a1 a2 (nI t) F0 a b (by omega) (am_fin.call k1 (sg_L_instead_99r ⟨rfl, rfl⟩)) (b + 1 - a) 0 (by omega)
    rw [rp_0, Nat.add_zero] at lp
    exact lp
  · (try simp only [lgl, lgg]); (repeat first | refine iteP (by first | assumption) ?_ | refine iteN (by first | assumption) ?_)
    refine am_fin.call m1 (sg_M_instead_47r ?_)
    have lp := M_in_lp (L := L) (xs := xs) (A := upA A1 46 (fun i => if i < 1080 then A 4 i else A1 46 i)) (V := upV (upV V 30 4 va) 30 5 vb) (K := K) (T := T) a1 a2 (nI t) (A 4) a b (by omega) (am_fin.call m2 (sg_M_instead_98r (am_fin.call m4 (sg_M_instead_104r ⟨rfl, rfl⟩)))) (b + 1 - a) 0 (by omega)
    rw [rp_0, Nat.add_zero, show upA (upA A1 46 (fun i => if i < 1080 then A 4 i else A1 46 i)) 37 (A 4) = upA A1 46 (fun i => if i < 1080 then A 4 i else A1 46 i) from by rw [← e37]; exact upA_self (upA A1 46 (fun i => if i < 1080 then A1 37 i else A1 46 i)) 37] at lp
    exact lp
  · rw [← hA1]
    exact ⟨⟨rfl, R.1.2⟩, R.2⟩
end
