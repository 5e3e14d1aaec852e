/-- what a day's land takes -/
def txo (tx : Nat → Nat) (x : Int32) : Nat := if x = -1 then 0 else tx x.toNatClampNeg
/-- where a day counts -/
def owl (lv : Option Nat) (a b : Nat) (f : Nat → Int32) (d : Nat) : Int32 := match lv with
  | none => f d
  | some l => if a ≤ d ∧ d ≤ b then nI l else f d
def ows (tx : Nat → Nat) (lv : Option Nat) (a b : Nat) (f : Nat → Int32) (y : Nat) : Nat → Nat
  | 0 => 0
  | k + 1 => ows tx lv a b f y k + txo tx (owl lv a b f (360 * y + k))
def fromv (lv : Option Nat) (a : Nat) : Int32 := match lv with
  | none => 1080
  | some _ => nI a
def tillv (lv : Option Nat) (b : Nat) : Int32 := match lv with
  | none => -1
  | some _ => nI b
/-- what one owes of a year -/
def owv (D H C ru : Nat → Nat → Nat) (na : Nat → Nat) (rn : Nat → Nat → Nat) (rl : Nat → Nat → Nat → Nat) (tx : Nat → Nat) (f h : Nat → Int32) (y : Nat) : Nat := match lives D H C ru na rn rl y with
  | none => ows tx none 0 0 f y 360
  | some l => ows tx (some l) (sF D H ru f h l y) (sT D H ru f h l y) f y 360
def JCt (A : Nat → Nat → Int32) (tx : Nat → Nat) : Prop := ∀ l, l < 6 → A 14 l = nI (tx l) ∧ tx l ≤ 60
def JMt (A : Nat → Nat → Int32) (tx : Nat → Nat) : Prop := ∀ l, l < 6 → A 41 (13 * l + 5) = nI (tx l) ∧ tx l ≤ 60
def txA (A : Nat → Nat → Int32) (l : Nat) : Nat := (A 14 l).toNatClampNeg
theorem JCt_of {A V : Nat → Nat → Int32} (R : Rr A V) : JCt A (txA A) := by
  intro l hl
  obtain ⟨-, -, -, -, -, -, -, -, ⟨r, hr, e⟩, -⟩ := R.1 l hl
  unfold txA
  rw [e, nI_clamp (by omega)]
  exact ⟨rfl, hr⟩
theorem JMt_of {A V : Nat → Nat → Int32} (R : Rr A V) : JMt A (txA A) := by
  intro l hl
  obtain ⟨-, -, -, h, -, -, -, -, ⟨r, hr, e⟩, -⟩ := R.1 l hl
  have h : A 41 (13 * l + 5) = A 14 l := h
  unfold txA
  rw [h, e, nI_clamp (by omega)]
  exact ⟨rfl, hr⟩
theorem txo_le {tx : Nat → Nat} (ht : ∀ l, l < 6 → tx l ≤ 60) {x : Int32} (hx : pl x) : txo tx x ≤ 60 := by
  unfold txo
  rcases hx with e | ⟨l, hl, e⟩
  · rw [if_pos e]; omega
  · rw [e, if_neg (nI_neg1 (by omega)), nI_clamp (by omega)]; exact ht l hl
theorem owl_pl {lv : Option Nat} {a b : Nat} {f : Nat → Int32} {d : Nat} (hl : ∀ l, lv = some l → l < 6) (hf : pl (f d)) : pl (owl lv a b f d) := by
  unfold owl
  cases lv with
  | none => exact hf
  | some l =>
    dsimp only
    split
    · exact Or.inr ⟨l, hl l rfl, rfl⟩
    · exact hf
theorem ows_le {tx : Nat → Nat} {lv : Option Nat} {a b : Nat} {f : Nat → Int32} {y : Nat} (ht : ∀ l, l < 6 → tx l ≤ 60) (hl : ∀ l, lv = some l → l < 6) (hf : ∀ d, d < 1080 → pl (f d)) (hy : y < 3) : ∀ k, k ≤ 360 → ows tx lv a b f y k ≤ 60 * k
  | 0, _ => Nat.le_refl _
  | k + 1, h => by
    have i := ows_le ht hl hf hy (a := a) (b := b) k (by omega)
    have j := txo_le ht (owl_pl (a := a) (b := b) hl (hf (360 * y + k) (by omega)))
    show ows tx lv a b f y k + txo tx (owl lv a b f (360 * y + k)) ≤ 60 * (k + 1)
    omega
theorem lives_lt {D H C ru : Nat → Nat → Nat} {na : Nat → Nat} {rn : Nat → Nat → Nat} {rl : Nat → Nat → Nat → Nat} {y l : Nat} (h : lives D H C ru na rn rl y = some l) : l < 6 := by
  have := srch_in _ _ _ _ h
  omega
section
variable {L : Nat} {xs : Nat → Int32} {A V : Nat → Nat → Int32} {K : Nat → Option Nat} {T : am_H} {tx : Nat → Nat} {D H C ru : Nat → Nat → Nat} {na : Nat → Nat} {rn : Nat → Nat → Nat} {rl : Nat → Nat → Nat → Nat}
theorem M_between_d (x : Int32) (a b : Nat) (hb : b < 1080) (ha : a < 1080) : am_fin [(z_M_between, 0, [.ref 36, .int x, .int (nI a), .int (nI b), .null, .null], [])] (hp L xs A V K T) (some (nI (cn (fun d => A 37 d = x) a (b + 1 - a)))) (hp L xs A V K T) := by
  by_cases h : a ≤ b + 1
  · exact M_between_c x a b hb h
  · rw [show b + 1 - a = 0 by omega]
    exact sg_M_between_0 (iteP (nI_ge0 (by omega)) (sg_M_between_10 (iteP ((nI_ltI (by omega) (by omega)).mpr (by omega)) ⟨rfl, rfl⟩)))
theorem J_ow_3_lp (tt : JCt A tx) (hf : ∀ d, d < 1080 → pl (A 4 d)) (lv : Option Nat) (hlv : ∀ l, lv = some l → l < 6) (a b y : Nat) (ha : a < 1080) (hb : b < 1080) (hy : y < 3) : am_fin [(z_J_owedIn, 55, [.ref 26, .int (nI y), .ref 3, .int (onat (-2) lv), .int (fromv lv a), .int (tillv lv b), .int 0, .int (nI y * 360), .null], [])] (hp L xs A V K T) (some (nI (ows tx lv a b (A 4) y 360))) (hp L xs A V K T) := by
  have el : nI y * 360 + 360 - 1 = nI (360 * y + 359) := by rw [l_360, nI_mul, nI_add, nI_m1 (by omega)]; congr 1; omega
  have ef : nI y * 360 = nI (360 * y) := by rw [l_360, nI_mul, Nat.mul_comm]
  rw [ef]
  refine am_iterU (U := Option Int32) (fun k u => ([(z_J_owedIn, 55, [.ref 26, .int (nI y), .ref 3, .int (onat (-2) lv), .int (fromv lv a), .int (tillv lv b), .int (nI (ows tx lv a b (A 4) y k)), .int (nI (360 * y + k)), dl u], [])], hp L xs A V K T)) 360 (fun k u hk ih => ?_) (fun u => ?_) none
  · dsimp only at ih ⊢
    rw [← Nat.add_assoc] at ih
    cases u
    case none =>
      refine sg_J_owedIn_3_55 (iteN (by rw [el, nI_ltI (by omega) (by omega)]; omega) ?_)
      by_cases c : lv.isSome ∧ a ≤ 360 * y + k ∧ 360 * y + k ≤ b
      · obtain ⟨c0, c1, c2⟩ := c
        obtain ⟨l, rfl⟩ := Option.isSome_iff_exists.mp c0
        have hl := hlv l rfl
        obtain ⟨t1, t2⟩ := tt l hl
        have e : txo tx (owl (some l) a b (A 4) (360 * y + k)) = tx l := by unfold owl; dsimp only; rw [if_pos ⟨c1, c2⟩]; unfold txo; rw [if_neg (nI_neg1 (by omega)), nI_clamp (by omega)]
        have ih := ih (some (nI l))
        rw [show ows tx (some l) a b (A 4) y (k + 1) = ows tx (some l) a b (A 4) y k + txo tx (owl (some l) a b (A 4) (360 * y + k)) from rfl, e, ← nI_add, ← t1] at ih
        refine iteN (mt (nI_ltI (by omega) (by omega)).mp (by omega)) (iteN ?_ (iteN (nI_lt0 (a := l) (by omega)) (iteN (by unfold onat; rw [l_5, nI_ltI (by omega) (by omega)]; omega) ⟨nI_inb (a := l) (by omega) hl, ?_⟩)))
        · have h : tillv (some l) b = nI b := rfl
          rw [h, nI_ltI (by omega) (by omega)]; omega
        · rw [show (onat (-2) (some l)).toNatClampNeg = l from nI_clamp (by omega), nI_1]
          exact ih
      · have eo : owl lv a b (A 4) (360 * y + k) = A 4 (360 * y + k) := by
          cases lv with
          | none => rfl
          | some l => unfold owl; dsimp only; rw [if_neg (fun z => c ⟨rfl, z⟩)]
        have land : am_fin [(z_P_landOn, 0, [.ref 3, .int (nI (360 * y + k))], []), (z_J_owedIn, 86, [.ref 26, .int (nI y), .ref 3, .int (onat (-2) lv), .int (fromv lv a), .int (tillv lv b), .int (nI (ows tx lv a b (A 4) y k)), .int (nI (360 * y + k)), .null], [])] (hp L xs A V K T) (some (nI (ows tx lv a b (A 4) y 360))) (hp L xs A V K T) := by
          refine am_fin.call (P_landOn_3_c (360 * y + k) (by omega)) (sg_J_owedIn_3_86r ?_)
          have ih := ih (some (A 4 (360 * y + k)))
          rw [show ows tx lv a b (A 4) y (k + 1) = ows tx lv a b (A 4) y k + txo tx (owl lv a b (A 4) (360 * y + k)) from rfl, eo] at ih
          rcases hf (360 * y + k) (by omega) with e | ⟨l, hl, e⟩
          · rw [e] at ih ⊢
            have e0 : txo tx (-1) = 0 := if_pos rfl
            rw [e0, Nat.add_zero] at ih
            refine iteP (by decide) ?_
            rw [Int32.add_zero, nI_1]
            exact ih
          · obtain ⟨t1, t2⟩ := tt l hl
            rw [e] at ih ⊢
            have e0 : txo tx (nI l) = tx l := by unfold txo; rw [if_neg (nI_neg1 (by omega)), nI_clamp (by omega)]
            rw [e0, ← nI_add, ← t1] at ih
            refine iteN (nI_lt0 (by omega)) (iteN (by rw [l_5, nI_ltI (by omega) (by omega)]; omega) ⟨nI_inb (by omega) hl, ?_⟩)
            rw [nI_clamp (by omega), nI_1]
            exact ih
        by_cases c1 : nI (360 * y + k) < fromv lv a
        · exact iteP c1 land
        · refine iteN c1 (iteP ?_ land)
          cases lv with
          | none => exact absurd ((nI_ltI (a := 360 * y + k) (b := 1080) (by omega) (by omega)).mpr (by omega)) c1
          | some l =>
            have h1 : fromv (some l) a = nI a := rfl
            have h2 : tillv (some l) b = nI b := rfl
            rw [h1, nI_ltI (by omega) (by omega)] at c1
            rw [h2, nI_ltI (by omega) (by omega)]
            exact Nat.lt_of_not_le (fun z => c ⟨rfl, by omega, z⟩)
    case some w =>
      refine sg_J_owedIn_3_55b (iteN (by rw [el, nI_ltI (by omega) (by omega)]; omega) ?_)
      by_cases c : lv.isSome ∧ a ≤ 360 * y + k ∧ 360 * y + k ≤ b
      · obtain ⟨c0, c1, c2⟩ := c
        obtain ⟨l, rfl⟩ := Option.isSome_iff_exists.mp c0
        have hl := hlv l rfl
        obtain ⟨t1, t2⟩ := tt l hl
        have e : txo tx (owl (some l) a b (A 4) (360 * y + k)) = tx l := by unfold owl; dsimp only; rw [if_pos ⟨c1, c2⟩]; unfold txo; rw [if_neg (nI_neg1 (by omega)), nI_clamp (by omega)]
        have ih := ih (some (nI l))
        rw [show ows tx (some l) a b (A 4) y (k + 1) = ows tx (some l) a b (A 4) y k + txo tx (owl (some l) a b (A 4) (360 * y + k)) from rfl, e, ← nI_add, ← t1] at ih
        refine iteN (mt (nI_ltI (by omega) (by omega)).mp (by omega)) (iteN ?_ (iteN (nI_lt0 (a := l) (by omega)) (iteN (by unfold onat; rw [l_5, nI_ltI (by omega) (by omega)]; omega) ⟨nI_inb (a := l) (by omega) hl, ?_⟩)))
        · have h : tillv (some l) b = nI b := rfl
          rw [h, nI_ltI (by omega) (by omega)]; omega
        · rw [show (onat (-2) (some l)).toNatClampNeg = l from nI_clamp (by omega), nI_1]
          exact ih
      · have eo : owl lv a b (A 4) (360 * y + k) = A 4 (360 * y + k) := by
          cases lv with
          | none => rfl
          | some l => unfold owl; dsimp only; rw [if_neg (fun z => c ⟨rfl, z⟩)]
        have land : am_fin [(z_P_landOn, 0, [.ref 3, .int (nI (360 * y + k))], []), (z_J_owedIn, 86, [.ref 26, .int (nI y), .ref 3, .int (onat (-2) lv), .int (fromv lv a), .int (tillv lv b), .int (nI (ows tx lv a b (A 4) y k)), .int (nI (360 * y + k)), .int w], [])] (hp L xs A V K T) (some (nI (ows tx lv a b (A 4) y 360))) (hp L xs A V K T) := by
          refine am_fin.call (P_landOn_3_c (360 * y + k) (by omega)) (sg_J_owedIn_3_86rb ?_)
          have ih := ih (some (A 4 (360 * y + k)))
          rw [show ows tx lv a b (A 4) y (k + 1) = ows tx lv a b (A 4) y k + txo tx (owl lv a b (A 4) (360 * y + k)) from rfl, eo] at ih
          rcases hf (360 * y + k) (by omega) with e | ⟨l, hl, e⟩
          · rw [e] at ih ⊢
            have e0 : txo tx (-1) = 0 := if_pos rfl
            rw [e0, Nat.add_zero] at ih
            refine iteP (by decide) ?_
            rw [Int32.add_zero, nI_1]
            exact ih
          · obtain ⟨t1, t2⟩ := tt l hl
            rw [e] at ih ⊢
            have e0 : txo tx (nI l) = tx l := by unfold txo; rw [if_neg (nI_neg1 (by omega)), nI_clamp (by omega)]
            rw [e0, ← nI_add, ← t1] at ih
            refine iteN (nI_lt0 (by omega)) (iteN (by rw [l_5, nI_ltI (by omega) (by omega)]; omega) ⟨nI_inb (by omega) hl, ?_⟩)
            rw [nI_clamp (by omega), nI_1]
            exact ih
        by_cases c1 : nI (360 * y + k) < fromv lv a
        · exact iteP c1 land
        · refine iteN c1 (iteP ?_ land)
          cases lv with
          | none => exact absurd ((nI_ltI (a := 360 * y + k) (b := 1080) (by omega) (by omega)).mpr (by omega)) c1
          | some l =>
            have h1 : fromv (some l) a = nI a := rfl
            have h2 : tillv (some l) b = nI b := rfl
            rw [h1, nI_ltI (by omega) (by omega)] at c1
            rw [h2, nI_ltI (by omega) (by omega)]
            exact Nat.lt_of_not_le (fun z => c ⟨rfl, by omega, z⟩)
  · dsimp only
    cases u
    · exact sg_J_owedIn_3_55 (iteP (by rw [el, nI_ltI (by omega) (by omega)]; omega) ⟨rfl, rfl⟩)
    · exact sg_J_owedIn_3_55b (iteP (by rw [el, nI_ltI (by omega) (by omega)]; omega) ⟨rfl, rfl⟩)
theorem J_owedIn_3_c (J : JCd A D H C) (R : JCr A V ru na rn rl) (tt : JCt A tx) (hf : ∀ d, d < 1080 → pl (A 4 d)) (y : Nat) (hy : y < 3) : am_fin [(z_J_owedIn, 0, [.ref 26, .int (nI y), .ref 3, .null, .null, .null, .null, .null, .null], [])] (hp L xs A V K T) (some (nI (owv D H C ru na rn rl tx (A 4) (A 9) y))) (hp L xs A V K T) := by
  refine sg_J_owedIn_3_0 (am_fin.call (J_livesIn_c J R y hy) (sg_J_owedIn_3_5r ?_))
  unfold owv
  cases hl : lives D H C ru na rn rl y with
  | none =>
    exact iteP rfl (iteP rfl (J_ow_3_lp tt hf none (fun l h => by cases h) 0 0 y (by omega) (by omega) hy))
  | some l =>
    have l6 := lives_lt hl
    have s1 := sF_in D H ru (A 4) (A 9) l y
    have s2 := sT_in D H ru (A 4) (A 9) l y
    have n2 : ¬ nI l = -2 := nI_neg2 (by omega)
    exact iteN n2 (am_fin.call (J_splitFrom_3_c J R l y l6 hy) (sg_J_owedIn_3_25r (iteN n2 (am_fin.call (J_splitTill_3_c J R l y l6 hy) (sg_J_owedIn_3_44r (J_ow_3_lp tt hf (some l) (fun m h => by cases h; exact l6) _ _ y (by omega) (by omega) hy))))))
theorem J_ow_34_lp (tt : JCt A tx) (hf : ∀ d, d < 1080 → pl (A 35 d)) (lv : Option Nat) (hlv : ∀ l, lv = some l → l < 6) (a b y : Nat) (ha : a < 1080) (hb : b < 1080) (hy : y < 3) : am_fin [(z_J_owedIn, 55, [.ref 26, .int (nI y), .ref 34, .int (onat (-2) lv), .int (fromv lv a), .int (tillv lv b), .int 0, .int (nI y * 360), .null], [])] (hp L xs A V K T) (some (nI (ows tx lv a b (A 35) y 360))) (hp L xs A V K T) := by
  have el : nI y * 360 + 360 - 1 = nI (360 * y + 359) := by rw [l_360, nI_mul, nI_add, nI_m1 (by omega)]; congr 1; omega
  have ef : nI y * 360 = nI (360 * y) := by rw [l_360, nI_mul, Nat.mul_comm]
  rw [ef]
  refine am_iterU (U := Option Int32) (fun k u => ([(z_J_owedIn, 55, [.ref 26, .int (nI y), .ref 34, .int (onat (-2) lv), .int (fromv lv a), .int (tillv lv b), .int (nI (ows tx lv a b (A 35) y k)), .int (nI (360 * y + k)), dl u], [])], hp L xs A V K T)) 360 (fun k u hk ih => ?_) (fun u => ?_) none
  · dsimp only at ih ⊢
    rw [← Nat.add_assoc] at ih
    cases u
    case none =>
      refine sg_J_owedIn_34_55 (iteN (by rw [el, nI_ltI (by omega) (by omega)]; omega) ?_)
      by_cases c : lv.isSome ∧ a ≤ 360 * y + k ∧ 360 * y + k ≤ b
      · obtain ⟨c0, c1, c2⟩ := c
        obtain ⟨l, rfl⟩ := Option.isSome_iff_exists.mp c0
        have hl := hlv l rfl
        obtain ⟨t1, t2⟩ := tt l hl
        have e : txo tx (owl (some l) a b (A 35) (360 * y + k)) = tx l := by unfold owl; dsimp only; rw [if_pos ⟨c1, c2⟩]; unfold txo; rw [if_neg (nI_neg1 (by omega)), nI_clamp (by omega)]
        have ih := ih (some (nI l))
        rw [show ows tx (some l) a b (A 35) y (k + 1) = ows tx (some l) a b (A 35) y k + txo tx (owl (some l) a b (A 35) (360 * y + k)) from rfl, e, ← nI_add, ← t1] at ih
        refine iteN (mt (nI_ltI (by omega) (by omega)).mp (by omega)) (iteN ?_ (iteN (nI_lt0 (a := l) (by omega)) (iteN (by unfold onat; rw [l_5, nI_ltI (by omega) (by omega)]; omega) ⟨nI_inb (a := l) (by omega) hl, ?_⟩)))
        · have h : tillv (some l) b = nI b := rfl
          rw [h, nI_ltI (by omega) (by omega)]; omega
        · rw [show (onat (-2) (some l)).toNatClampNeg = l from nI_clamp (by omega), nI_1]
          exact ih
      · have eo : owl lv a b (A 35) (360 * y + k) = A 35 (360 * y + k) := by
          cases lv with
          | none => rfl
          | some l => unfold owl; dsimp only; rw [if_neg (fun z => c ⟨rfl, z⟩)]
        have land : am_fin [(z_P_landOn, 0, [.ref 34, .int (nI (360 * y + k))], []), (z_J_owedIn, 86, [.ref 26, .int (nI y), .ref 34, .int (onat (-2) lv), .int (fromv lv a), .int (tillv lv b), .int (nI (ows tx lv a b (A 35) y k)), .int (nI (360 * y + k)), .null], [])] (hp L xs A V K T) (some (nI (ows tx lv a b (A 35) y 360))) (hp L xs A V K T) := by
          refine am_fin.call (P_landOn_34_c (360 * y + k) (by omega)) (sg_J_owedIn_34_86r ?_)
          have ih := ih (some (A 35 (360 * y + k)))
          rw [show ows tx lv a b (A 35) y (k + 1) = ows tx lv a b (A 35) y k + txo tx (owl lv a b (A 35) (360 * y + k)) from rfl, eo] at ih
          rcases hf (360 * y + k) (by omega) with e | ⟨l, hl, e⟩
          · rw [e] at ih ⊢
            have e0 : txo tx (-1) = 0 := if_pos rfl
            rw [e0, Nat.add_zero] at ih
            refine iteP (by decide) ?_
            rw [Int32.add_zero, nI_1]
            exact ih
          · obtain ⟨t1, t2⟩ := tt l hl
            rw [e] at ih ⊢
            have e0 : txo tx (nI l) = tx l := by unfold txo; rw [if_neg (nI_neg1 (by omega)), nI_clamp (by omega)]
            rw [e0, ← nI_add, ← t1] at ih
            refine iteN (nI_lt0 (by omega)) (iteN (by rw [l_5, nI_ltI (by omega) (by omega)]; omega) ⟨nI_inb (by omega) hl, ?_⟩)
            rw [nI_clamp (by omega), nI_1]
            exact ih
        by_cases c1 : nI (360 * y + k) < fromv lv a
        · exact iteP c1 land
        · refine iteN c1 (iteP ?_ land)
          cases lv with
          | none => exact absurd ((nI_ltI (a := 360 * y + k) (b := 1080) (by omega) (by omega)).mpr (by omega)) c1
          | some l =>
            have h1 : fromv (some l) a = nI a := rfl
            have h2 : tillv (some l) b = nI b := rfl
            rw [h1, nI_ltI (by omega) (by omega)] at c1
            rw [h2, nI_ltI (by omega) (by omega)]
            exact Nat.lt_of_not_le (fun z => c ⟨rfl, by omega, z⟩)
    case some w =>
      refine sg_J_owedIn_34_55b (iteN (by rw [el, nI_ltI (by omega) (by omega)]; omega) ?_)
      by_cases c : lv.isSome ∧ a ≤ 360 * y + k ∧ 360 * y + k ≤ b
      · obtain ⟨c0, c1, c2⟩ := c
        obtain ⟨l, rfl⟩ := Option.isSome_iff_exists.mp c0
        have hl := hlv l rfl
        obtain ⟨t1, t2⟩ := tt l hl
        have e : txo tx (owl (some l) a b (A 35) (360 * y + k)) = tx l := by unfold owl; dsimp only; rw [if_pos ⟨c1, c2⟩]; unfold txo; rw [if_neg (nI_neg1 (by omega)), nI_clamp (by omega)]
        have ih := ih (some (nI l))
        rw [show ows tx (some l) a b (A 35) y (k + 1) = ows tx (some l) a b (A 35) y k + txo tx (owl (some l) a b (A 35) (360 * y + k)) from rfl, e, ← nI_add, ← t1] at ih
        refine iteN (mt (nI_ltI (by omega) (by omega)).mp (by omega)) (iteN ?_ (iteN (nI_lt0 (a := l) (by omega)) (iteN (by unfold onat; rw [l_5, nI_ltI (by omega) (by omega)]; omega) ⟨nI_inb (a := l) (by omega) hl, ?_⟩)))
        · have h : tillv (some l) b = nI b := rfl
          rw [h, nI_ltI (by omega) (by omega)]; omega
        · rw [show (onat (-2) (some l)).toNatClampNeg = l from nI_clamp (by omega), nI_1]
          exact ih
      · have eo : owl lv a b (A 35) (360 * y + k) = A 35 (360 * y + k) := by
          cases lv with
          | none => rfl
          | some l => unfold owl; dsimp only; rw [if_neg (fun z => c ⟨rfl, z⟩)]
        have land : am_fin [(z_P_landOn, 0, [.ref 34, .int (nI (360 * y + k))], []), (z_J_owedIn, 86, [.ref 26, .int (nI y), .ref 34, .int (onat (-2) lv), .int (fromv lv a), .int (tillv lv b), .int (nI (ows tx lv a b (A 35) y k)), .int (nI (360 * y + k)), .int w], [])] (hp L xs A V K T) (some (nI (ows tx lv a b (A 35) y 360))) (hp L xs A V K T) := by
          refine am_fin.call (P_landOn_34_c (360 * y + k) (by omega)) (sg_J_owedIn_34_86rb ?_)
          have ih := ih (some (A 35 (360 * y + k)))
          rw [show ows tx lv a b (A 35) y (k + 1) = ows tx lv a b (A 35) y k + txo tx (owl lv a b (A 35) (360 * y + k)) from rfl, eo] at ih
          rcases hf (360 * y + k) (by omega) with e | ⟨l, hl, e⟩
          · rw [e] at ih ⊢
            have e0 : txo tx (-1) = 0 := if_pos rfl
            rw [e0, Nat.add_zero] at ih
            refine iteP (by decide) ?_
            rw [Int32.add_zero, nI_1]
            exact ih
          · obtain ⟨t1, t2⟩ := tt l hl
            rw [e] at ih ⊢
            have e0 : txo tx (nI l) = tx l := by unfold txo; rw [if_neg (nI_neg1 (by omega)), nI_clamp (by omega)]
            rw [e0, ← nI_add, ← t1] at ih
            refine iteN (nI_lt0 (by omega)) (iteN (by rw [l_5, nI_ltI (by omega) (by omega)]; omega) ⟨nI_inb (by omega) hl, ?_⟩)
            rw [nI_clamp (by omega), nI_1]
            exact ih
        by_cases c1 : nI (360 * y + k) < fromv lv a
        · exact iteP c1 land
        · refine iteN c1 (iteP ?_ land)
          cases lv with
          | none => exact absurd ((nI_ltI (a := 360 * y + k) (b := 1080) (by omega) (by omega)).mpr (by omega)) c1
          | some l =>
            have h1 : fromv (some l) a = nI a := rfl
            have h2 : tillv (some l) b = nI b := rfl
            rw [h1, nI_ltI (by omega) (by omega)] at c1
            rw [h2, nI_ltI (by omega) (by omega)]
            exact Nat.lt_of_not_le (fun z => c ⟨rfl, by omega, z⟩)
  · dsimp only
    cases u
    · exact sg_J_owedIn_34_55 (iteP (by rw [el, nI_ltI (by omega) (by omega)]; omega) ⟨rfl, rfl⟩)
    · exact sg_J_owedIn_34_55b (iteP (by rw [el, nI_ltI (by omega) (by omega)]; omega) ⟨rfl, rfl⟩)
theorem J_owedIn_34_c (J : JCd A D H C) (R : JCr A V ru na rn rl) (tt : JCt A tx) (hf : ∀ d, d < 1080 → pl (A 35 d)) (y : Nat) (hy : y < 3) : am_fin [(z_J_owedIn, 0, [.ref 26, .int (nI y), .ref 34, .null, .null, .null, .null, .null, .null], [])] (hp L xs A V K T) (some (nI (owv D H C ru na rn rl tx (A 35) (A 9) y))) (hp L xs A V K T) := by
  refine sg_J_owedIn_34_0 (am_fin.call (J_livesIn_c J R y hy) (sg_J_owedIn_34_5r ?_))
  unfold owv
  cases hl : lives D H C ru na rn rl y with
  | none =>
    exact iteP rfl (iteP rfl (J_ow_34_lp tt hf none (fun l h => by cases h) 0 0 y (by omega) (by omega) hy))
  | some l =>
    have l6 := lives_lt hl
    have s1 := sF_in D H ru (A 35) (A 9) l y
    have s2 := sT_in D H ru (A 35) (A 9) l y
    have n2 : ¬ nI l = -2 := nI_neg2 (by omega)
    exact iteN n2 (am_fin.call (J_splitFrom_34_c J R l y l6 hy) (sg_J_owedIn_34_25r (iteN n2 (am_fin.call (J_splitTill_34_c J R l y l6 hy) (sg_J_owedIn_34_44r (J_ow_34_lp tt hf (some l) (fun m h => by cases h; exact l6) _ _ y (by omega) (by omega) hy))))))
theorem M_ow_lp (tt : JMt A tx) (hf : ∀ d, d < 1080 → pl (A 37 d)) (lv : Option Nat) (hlv : ∀ l, lv = some l → l < 6) (a b y : Nat) (ha : a < 1080) (hb : b < 1080) (hy : y < 3) : am_fin [(z_M_owes, 55, [.ref 36, .int (nI y), .int (onat (-2) lv), .int (fromv lv a), .int (fromv lv b), .int 0, .int (360 * nI y), .null], [])] (hp L xs A V K T) (some (nI (ows tx lv a b (A 37) y 360))) (hp L xs A V K T) := by
  have el : (360 : Int32) * nI y + 360 = nI (360 * y + 360) := by rw [l_360, nI_mul, nI_add]
  have ef : (360 : Int32) * nI y = nI (360 * y) := by rw [l_360, nI_mul]
  rw [ef]
  refine am_iterU (U := Option Int32) (fun k u => ([(z_M_owes, 55, [.ref 36, .int (nI y), .int (onat (-2) lv), .int (fromv lv a), .int (fromv lv b), .int (nI (ows tx lv a b (A 37) y k)), .int (nI (360 * y + k)), dl u], [])], hp L xs A V K T)) 360 (fun k u hk ih => ?_) (fun u => ?_) none
  · dsimp only at ih ⊢
    rw [← Nat.add_assoc] at ih
    cases u
    case none =>
      refine sg_M_owes_55 (iteN (by rw [el, nI_leI (by omega) (by omega)]; omega) ?_)
      simp only [lgl, lgg]
      have ib : ¬ (nI (360 * y + k) < 0 ∨ 1080 ≤ (nI (360 * y + k)).toNatClampNeg) := nI_inb (by omega) (by omega)
      by_cases c : lv.isSome ∧ a ≤ 360 * y + k ∧ 360 * y + k ≤ b
      · obtain ⟨c0, c1, c2⟩ := c
        obtain ⟨l, rfl⟩ := Option.isSome_iff_exists.mp c0
        have hl := hlv l rfl
        obtain ⟨t1, t2⟩ := tt l hl
        have e : txo tx (owl (some l) a b (A 37) (360 * y + k)) = tx l := by unfold owl; dsimp only; rw [if_pos ⟨c1, c2⟩]; unfold txo; rw [if_neg (nI_neg1 (by omega)), nI_clamp (by omega)]
        have ih := ih (some (nI l))
        rw [show ows tx (some l) a b (A 37) y (k + 1) = ows tx (some l) a b (A 37) y k + txo tx (owl (some l) a b (A 37) (360 * y + k)) from rfl, e, ← nI_add, ← t1] at ih
        have ix : (13 : Int32) * onat (-2) (some l) + 5 = nI (13 * l + 5) := by unfold onat; rw [l_13, l_5, nI_mul, nI_add]
        refine iteN (mt (nI_ltI (by omega) (by omega)).mp (by omega)) (iteN ?_ (iteN (nI_neg1 (a := l) (by omega)) ⟨by rw [ix]; exact nI_inb (by omega) (by omega), ?_⟩))
        · have h : fromv (some l) b = nI b := rfl
          rw [h, nI_ltI (by omega) (by omega)]; omega
        · rw [ix, nI_clamp (by omega), nI_1]
          exact ih
      · have eo : owl lv a b (A 37) (360 * y + k) = A 37 (360 * y + k) := by
          cases lv with
          | none => rfl
          | some l => unfold owl; dsimp only; rw [if_neg (fun z => c ⟨rfl, z⟩)]
        have land : ¬ (nI (360 * y + k) < 0 ∨ 1080 ≤ (nI (360 * y + k)).toNatClampNeg) ∧ (if A 37 (nI (360 * y + k)).toNatClampNeg = -1 then am_fin [(z_M_owes, 55, [.ref 36, .int (nI y), .int (onat (-2) lv), .int (fromv lv a), .int (fromv lv b), .int (nI (ows tx lv a b (A 37) y k) + 0), .int (nI (360 * y + k) + 1), .int (A 37 (nI (360 * y + k)).toNatClampNeg)], [])] (hp L xs A V K T) (some (nI (ows tx lv a b (A 37) y 360))) (hp L xs A V K T) else ¬ ((13 : Int32) * A 37 (nI (360 * y + k)).toNatClampNeg + 5 < 0 ∨ 258 ≤ ((13 : Int32) * A 37 (nI (360 * y + k)).toNatClampNeg + 5).toNatClampNeg) ∧ am_fin [(z_M_owes, 55, [.ref 36, .int (nI y), .int (onat (-2) lv), .int (fromv lv a), .int (fromv lv b), .int (nI (ows tx lv a b (A 37) y k) + A 41 ((13 : Int32) * A 37 (nI (360 * y + k)).toNatClampNeg + 5).toNatClampNeg), .int (nI (360 * y + k) + 1), .int (A 37 (nI (360 * y + k)).toNatClampNeg)], [])] (hp L xs A V K T) (some (nI (ows tx lv a b (A 37) y 360))) (hp L xs A V K T)) := by
          refine ⟨ib, ?_⟩
          rw [nI_clamp (by omega)]
          have ih := ih (some (A 37 (360 * y + k)))
          rw [show ows tx lv a b (A 37) y (k + 1) = ows tx lv a b (A 37) y k + txo tx (owl lv a b (A 37) (360 * y + k)) from rfl, eo] at ih
          rcases hf (360 * y + k) (by omega) with e | ⟨l, hl, e⟩
          · rw [e] at ih ⊢
            have e0 : txo tx (-1) = 0 := if_pos rfl
            rw [e0, Nat.add_zero] at ih
            refine iteP rfl ?_
            rw [Int32.add_zero, nI_1]
            exact ih
          · obtain ⟨t1, t2⟩ := tt l hl
            rw [e] at ih ⊢
            have e0 : txo tx (nI l) = tx l := by unfold txo; rw [if_neg (nI_neg1 (by omega)), nI_clamp (by omega)]
            rw [e0, ← nI_add, ← t1] at ih
            have ix : (13 : Int32) * nI l + 5 = nI (13 * l + 5) := by rw [l_13, l_5, nI_mul, nI_add]
            refine iteN (nI_neg1 (by omega)) ⟨by rw [ix]; exact nI_inb (by omega) (by omega), ?_⟩
            rw [ix, nI_clamp (by omega), nI_1]
            exact ih
        by_cases c1 : nI (360 * y + k) < fromv lv a
        · exact iteP c1 land
        · refine iteN c1 (iteP ?_ land)
          cases lv with
          | none => exact absurd ((nI_ltI (a := 360 * y + k) (b := 1080) (by omega) (by omega)).mpr (by omega)) c1
          | some l =>
            have h1 : fromv (some l) a = nI a := rfl
            have h2 : fromv (some l) b = nI b := rfl
            rw [h1, nI_ltI (by omega) (by omega)] at c1
            rw [h2, nI_ltI (by omega) (by omega)]
            exact Nat.lt_of_not_le (fun z => c ⟨rfl, by omega, z⟩)
    case some w =>
      refine sg_M_owes_55b (iteN (by rw [el, nI_leI (by omega) (by omega)]; omega) ?_)
      simp only [lgl, lgg]
      have ib : ¬ (nI (360 * y + k) < 0 ∨ 1080 ≤ (nI (360 * y + k)).toNatClampNeg) := nI_inb (by omega) (by omega)
      by_cases c : lv.isSome ∧ a ≤ 360 * y + k ∧ 360 * y + k ≤ b
      · obtain ⟨c0, c1, c2⟩ := c
        obtain ⟨l, rfl⟩ := Option.isSome_iff_exists.mp c0
        have hl := hlv l rfl
        obtain ⟨t1, t2⟩ := tt l hl
        have e : txo tx (owl (some l) a b (A 37) (360 * y + k)) = tx l := by unfold owl; dsimp only; rw [if_pos ⟨c1, c2⟩]; unfold txo; rw [if_neg (nI_neg1 (by omega)), nI_clamp (by omega)]
        have ih := ih (some (nI l))
        rw [show ows tx (some l) a b (A 37) y (k + 1) = ows tx (some l) a b (A 37) y k + txo tx (owl (some l) a b (A 37) (360 * y + k)) from rfl, e, ← nI_add, ← t1] at ih
        have ix : (13 : Int32) * onat (-2) (some l) + 5 = nI (13 * l + 5) := by unfold onat; rw [l_13, l_5, nI_mul, nI_add]
        refine iteN (mt (nI_ltI (by omega) (by omega)).mp (by omega)) (iteN ?_ (iteN (nI_neg1 (a := l) (by omega)) ⟨by rw [ix]; exact nI_inb (by omega) (by omega), ?_⟩))
        · have h : fromv (some l) b = nI b := rfl
          rw [h, nI_ltI (by omega) (by omega)]; omega
        · rw [ix, nI_clamp (by omega), nI_1]
          exact ih
      · have eo : owl lv a b (A 37) (360 * y + k) = A 37 (360 * y + k) := by
          cases lv with
          | none => rfl
          | some l => unfold owl; dsimp only; rw [if_neg (fun z => c ⟨rfl, z⟩)]
        have land : ¬ (nI (360 * y + k) < 0 ∨ 1080 ≤ (nI (360 * y + k)).toNatClampNeg) ∧ (if A 37 (nI (360 * y + k)).toNatClampNeg = -1 then am_fin [(z_M_owes, 55, [.ref 36, .int (nI y), .int (onat (-2) lv), .int (fromv lv a), .int (fromv lv b), .int (nI (ows tx lv a b (A 37) y k) + 0), .int (nI (360 * y + k) + 1), .int (A 37 (nI (360 * y + k)).toNatClampNeg)], [])] (hp L xs A V K T) (some (nI (ows tx lv a b (A 37) y 360))) (hp L xs A V K T) else ¬ ((13 : Int32) * A 37 (nI (360 * y + k)).toNatClampNeg + 5 < 0 ∨ 258 ≤ ((13 : Int32) * A 37 (nI (360 * y + k)).toNatClampNeg + 5).toNatClampNeg) ∧ am_fin [(z_M_owes, 55, [.ref 36, .int (nI y), .int (onat (-2) lv), .int (fromv lv a), .int (fromv lv b), .int (nI (ows tx lv a b (A 37) y k) + A 41 ((13 : Int32) * A 37 (nI (360 * y + k)).toNatClampNeg + 5).toNatClampNeg), .int (nI (360 * y + k) + 1), .int (A 37 (nI (360 * y + k)).toNatClampNeg)], [])] (hp L xs A V K T) (some (nI (ows tx lv a b (A 37) y 360))) (hp L xs A V K T)) := by
          refine ⟨ib, ?_⟩
          rw [nI_clamp (by omega)]
          have ih := ih (some (A 37 (360 * y + k)))
          rw [show ows tx lv a b (A 37) y (k + 1) = ows tx lv a b (A 37) y k + txo tx (owl lv a b (A 37) (360 * y + k)) from rfl, eo] at ih
          rcases hf (360 * y + k) (by omega) with e | ⟨l, hl, e⟩
          · rw [e] at ih ⊢
            have e0 : txo tx (-1) = 0 := if_pos rfl
            rw [e0, Nat.add_zero] at ih
            refine iteP rfl ?_
            rw [Int32.add_zero, nI_1]
            exact ih
          · obtain ⟨t1, t2⟩ := tt l hl
            rw [e] at ih ⊢
            have e0 : txo tx (nI l) = tx l := by unfold txo; rw [if_neg (nI_neg1 (by omega)), nI_clamp (by omega)]
            rw [e0, ← nI_add, ← t1] at ih
            have ix : (13 : Int32) * nI l + 5 = nI (13 * l + 5) := by rw [l_13, l_5, nI_mul, nI_add]
            refine iteN (nI_neg1 (by omega)) ⟨by rw [ix]; exact nI_inb (by omega) (by omega), ?_⟩
            rw [ix, nI_clamp (by omega), nI_1]
            exact ih
        by_cases c1 : nI (360 * y + k) < fromv lv a
        · exact iteP c1 land
        · refine iteN c1 (iteP ?_ land)
          cases lv with
          | none => exact absurd ((nI_ltI (a := 360 * y + k) (b := 1080) (by omega) (by omega)).mpr (by omega)) c1
          | some l =>
            have h1 : fromv (some l) a = nI a := rfl
            have h2 : fromv (some l) b = nI b := rfl
            rw [h1, nI_ltI (by omega) (by omega)] at c1
            rw [h2, nI_ltI (by omega) (by omega)]
            exact Nat.lt_of_not_le (fun z => c ⟨rfl, by omega, z⟩)
  · dsimp only
    cases u
    · exact sg_M_owes_55 (iteP (by rw [el]; exact Int32.le_refl _) ⟨rfl, rfl⟩)
    · exact sg_M_owes_55b (iteP (by rw [el]; exact Int32.le_refl _) ⟨rfl, rfl⟩)
theorem M_owes_c (J : JMd A D H C) (R : JMr A ru na rn rl) (tt : JMt A tx) (hf : ∀ d, d < 1080 → pl (A 37 d)) (y : Nat) (hy : y < 3) : am_fin [(z_M_owes, 0, [.ref 36, .int (nI y), .null, .null, .null, .null, .null, .null], [])] (hp L xs A V K T) (some (nI (owv D H C ru na rn rl tx (A 37) (A 38) y))) (hp L xs A V K T) := by
  refine sg_M_owes_0 (am_fin.call (M_livesNow_c J R y hy) (sg_M_owes_5r ?_))
  unfold owv
  cases hl : lives D H C ru na rn rl y with
  | none =>
    exact iteP rfl (iteP rfl (M_ow_lp tt hf none (fun l h => by cases h) 0 0 y (by omega) (by omega) hy))
  | some l =>
    have l6 := lives_lt hl
    have s1 := sF_in D H ru (A 37) (A 38) l y
    have s2 := sT_in D H ru (A 37) (A 38) l y
    have n2 : ¬ nI l = -2 := nI_neg2 (by omega)
    exact iteN n2 (am_fin.call (M_fromOf_c J R l y l6 hy) (sg_M_owes_24r (iteN n2 (am_fin.call (M_tillOf_c J R l y l6 hy) (sg_M_owes_43r (M_ow_lp tt hf (some l) (fun m h => by cases h; exact l6) _ _ y (by omega) (by omega) hy))))))
theorem owv_le (D H C ru : Nat → Nat → Nat) (na : Nat → Nat) (rn : Nat → Nat → Nat) (rl : Nat → Nat → Nat → Nat) (ht : ∀ l, l < 6 → tx l ≤ 60) {f h : Nat → Int32} (hf : ∀ d, d < 1080 → pl (f d)) (y : Nat) (hy : y < 3) : owv D H C ru na rn rl tx f h y ≤ 21600 := by
  unfold owv
  cases hl : lives D H C ru na rn rl y with
  | none => exact ows_le ht (fun l h => by cases h) hf hy 360 (Nat.le_refl _)
  | some l => exact ows_le ht (fun m h => by cases h; exact lives_lt hl) hf hy 360 (Nat.le_refl _)
end
section
variable {L : Nat} {xs : Nat → Int32} {A V : Nat → Nat → Int32} {K : Nat → Option Nat} {T : am_H}
theorem pr_owed (a1 : Int32) (R : RI A V K T) : PRQ z_L_owed z_M_owed [.ref 1, .int a1] [.ref 36, .int a1] L xs A V K T := by
  by_cases c1 : a1 < 0
  · refine ⟨(-1), A, V, K, T, A, V, sg_L_owed_0 ?_, sg_M_owed_0 ?_, R⟩
    · (try simp only [lgl, lgg]); (repeat first | refine iteP (by first | assumption) ?_ | refine iteN (by first | assumption) ?_); (constructor <;> first | rfl | trivial)
    · (try simp only [lgl, lgg]); (repeat first | refine iteP (by first | assumption) ?_ | refine iteN (by first | assumption) ?_); (constructor <;> first | rfl | trivial)
  by_cases c2 : (2 : Int32) < a1
  · refine ⟨(-1), A, V, K, T, A, V, sg_L_owed_0 ?_, sg_M_owed_0 ?_, R⟩
    · (try simp only [lgl, lgg]); (repeat first | refine iteP (by first | assumption) ?_ | refine iteN (by first | assumption) ?_); (constructor <;> first | rfl | trivial)
    · (try simp only [lgl, lgg]); (repeat first | refine iteP (by first | assumption) ?_ | refine iteN (by first | assumption) ?_); (constructor <;> first | rfl | trivial)
  obtain ⟨y, hy, rfl⟩ := i32_nat (m := 2) (by omega) c1 c2
  obtain ⟨gc, gh, gd, gm, j1, j2, j3, m1, m2, m3, RR⟩ := weighed (L := L) (xs := xs) R
  refine ⟨nI (owv (nD (A 4)) (nH (A 9)) (nD (A 6)) (ruA A) (naV V) (rnA A) (rlA A) (txA A) (A 4) (A 9) y), upA (upA (upA A 29 gc) 28 gh) 27 gd, V, K, T, upA (upA (upA (upA A 29 gc) 28 gh) 27 gd) 47 gm, V, sg_L_owed_0 ?_, sg_M_owed_0 ?_, RR⟩
  · (try simp only [lgl, lgg]); (repeat first | refine iteP (by first | assumption) ?_ | refine iteN (by first | assumption) ?_)
    exact am_fin.call j3 (sg_L_owed_23r (am_fin.call (J_owedIn_3_c j1 j2 (JCt_of R.2.2.1) R.1.2.2.2.2.1 y (by omega)) (sg_L_owed_38r ⟨(by first | rfl | trivial), (by first | rfl | trivial)⟩)))
  · (try simp only [lgl, lgg]); (repeat first | refine iteP (by first | assumption) ?_ | refine iteN (by first | assumption) ?_)
    have k := M_owes_c (L := L) (xs := xs) (V := V) (K := K) (T := T) m1 m2 (JMt_of R.2.2.1) (by have := R.1.2.2.2.2.1; rw [← R.1.1] at this; exact this) y (by omega)
    have e1 : upA (upA (upA (upA A 29 gc) 28 gh) 27 gd) 47 gm 37 = A 4 := R.1.1
    have e2 : upA (upA (upA (upA A 29 gc) 28 gh) 27 gd) 47 gm 38 = A 9 := R.1.2.1
    rw [e1, e2] at k
    exact am_fin.call m3 (sg_M_owed_13r (am_fin.call k (sg_M_owed_18r ⟨(by first | rfl | trivial), (by first | rfl | trivial)⟩)))
theorem pr_split (a1 a2 a3 : Int32) (R : RI A V K T) : PRQ z_L_split z_M_split [.ref 1, .int a1, .int a2, .int a3, .null, .null] [.ref 36, .int a1, .int a2, .int a3] L xs A V K T := by
  by_cases c1 : a1 < 0
  · refine ⟨(-1), A, V, K, T, A, V, sg_L_split_0 ?_, sg_M_split_0 ?_, R⟩
    · (try simp only [lgl, lgg]); (repeat first | refine iteP (by first | assumption) ?_ | refine iteN (by first | assumption) ?_); (constructor <;> first | rfl | trivial)
    · (try simp only [lgl, lgg]); (repeat first | refine iteP (by first | assumption) ?_ | refine iteN (by first | assumption) ?_); (constructor <;> first | rfl | trivial)
  by_cases c2 : (5 : Int32) < a1
  · refine ⟨(-1), A, V, K, T, A, V, sg_L_split_0 ?_, sg_M_split_0 ?_, R⟩
    · (try simp only [lgl, lgg]); (repeat first | refine iteP (by first | assumption) ?_ | refine iteN (by first | assumption) ?_); (constructor <;> first | rfl | trivial)
    · (try simp only [lgl, lgg]); (repeat first | refine iteP (by first | assumption) ?_ | refine iteN (by first | assumption) ?_); (constructor <;> first | rfl | trivial)
  by_cases c3 : a2 < 0
  · refine ⟨(-1), A, V, K, T, A, V, sg_L_split_0 ?_, sg_M_split_0 ?_, R⟩
    · (try simp only [lgl, lgg]); (repeat first | refine iteP (by first | assumption) ?_ | refine iteN (by first | assumption) ?_); (constructor <;> first | rfl | trivial)
    · (try simp only [lgl, lgg]); (repeat first | refine iteP (by first | assumption) ?_ | refine iteN (by first | assumption) ?_); (constructor <;> first | rfl | trivial)
  by_cases c4 : (2 : Int32) < a2
  · refine ⟨(-1), A, V, K, T, A, V, sg_L_split_0 ?_, sg_M_split_0 ?_, R⟩
    · (try simp only [lgl, lgg]); (repeat first | refine iteP (by first | assumption) ?_ | refine iteN (by first | assumption) ?_); (constructor <;> first | rfl | trivial)
    · (try simp only [lgl, lgg]); (repeat first | refine iteP (by first | assumption) ?_ | refine iteN (by first | assumption) ?_); (constructor <;> first | rfl | trivial)
  by_cases c5 : a3 < 0
  · refine ⟨(-1), A, V, K, T, A, V, sg_L_split_0 ?_, sg_M_split_0 ?_, R⟩
    · (try simp only [lgl, lgg]); (repeat first | refine iteP (by first | assumption) ?_ | refine iteN (by first | assumption) ?_); (constructor <;> first | rfl | trivial)
    · (try simp only [lgl, lgg]); (repeat first | refine iteP (by first | assumption) ?_ | refine iteN (by first | assumption) ?_); (constructor <;> first | rfl | trivial)
  by_cases c6 : (2 : Int32) < a3
  · refine ⟨(-1), A, V, K, T, A, V, sg_L_split_0 ?_, sg_M_split_0 ?_, R⟩
    · (try simp only [lgl, lgg]); (repeat first | refine iteP (by first | assumption) ?_ | refine iteN (by first | assumption) ?_); (constructor <;> first | rfl | trivial)
    · (try simp only [lgl, lgg]); (repeat first | refine iteP (by first | assumption) ?_ | refine iteN (by first | assumption) ?_); (constructor <;> first | rfl | trivial)
  obtain ⟨l, hl, rfl⟩ := i32_nat (m := 5) (by omega) c1 c2
  obtain ⟨y, hy, rfl⟩ := i32_nat (m := 2) (by omega) c3 c4
  obtain ⟨w, hw, rfl⟩ := i32_nat (m := 2) (by omega) c5 c6
  obtain ⟨gc, gh, gd, gm, j1, j2, j3, m1, m2, m3, RR⟩ := weighed (L := L) (xs := xs) R
  have s1 := sF_in (nD (A 4)) (nH (A 9)) (ruA A) (A 4) (A 9) l y
  have s2 := sT_in (nD (A 4)) (nH (A 9)) (ruA A) (A 4) (A 9) l y
  have e1 : upA (upA (upA (upA A 29 gc) 28 gh) 27 gd) 47 gm 37 = A 4 := R.1.1
  have e2 : upA (upA (upA (upA A 29 gc) 28 gh) 27 gd) 47 gm 38 = A 9 := R.1.2.1
  have kf := M_fromOf_c (L := L) (xs := xs) (V := V) (K := K) (T := T) m1 m2 l y (by omega) (by omega)
  have kt := M_tillOf_c (L := L) (xs := xs) (V := V) (K := K) (T := T) m1 m2 l y (by omega) (by omega)
  rw [e1, e2] at kf kt
  have kc := J_isClaiming_c (L := L) (xs := xs) (K := K) (T := T) j1 j2 l y (by omega) (by omega)
  have km := M_isClaimed_c (L := L) (xs := xs) (V := V) (K := K) (T := T) m1 m2 l y (by omega) (by omega)
  have jf := J_splitFrom_3_c (L := L) (xs := xs) (K := K) (T := T) j1 j2 l y (by omega) (by omega)
  have jt := J_splitTill_3_c (L := L) (xs := xs) (K := K) (T := T) j1 j2 l y (by omega) (by omega)
  by_cases q : clm (nD (A 4)) (nH (A 9)) (ruA A) y l
  · have nz : ¬ b2 (clm (nD (A 4)) (nH (A 9)) (ruA A) y l) = 0 := mt b2_z.mp (fun z => z q)
    rcases (by omega : w = 0 ∨ w = 1 ∨ w = 2) with rfl | rfl | rfl
    · refine ⟨nI (sF (nD (A 4)) (nH (A 9)) (ruA A) (A 4) (A 9) l y), upA (upA (upA A 29 gc) 28 gh) 27 gd, V, K, T, upA (upA (upA (upA A 29 gc) 28 gh) 27 gd) 47 gm, V, sg_L_split_0 ?_, sg_M_split_0 ?_, RR⟩
      · (try simp only [lgl, lgg]); (repeat first | refine iteP (by first | assumption) ?_ | refine iteN (by first | assumption) ?_)
        exact am_fin.call j3 (sg_L_split_39r (am_fin.call kc (sg_L_split_48r (iteN nz (am_fin.call jf (sg_L_split_70r (am_fin.call jt (sg_L_split_88r (iteN (by decide) (iteP rfl ⟨(by first | rfl | trivial), (by first | rfl | trivial)⟩))))))))))
      · (try simp only [lgl, lgg]); (repeat first | refine iteP (by first | assumption) ?_ | refine iteN (by first | assumption) ?_)
        exact am_fin.call m3 (sg_M_split_32r (am_fin.call km (sg_M_split_38r (iteN nz (iteP rfl (am_fin.call kf (sg_M_split_54r ⟨(by first | rfl | trivial), (by first | rfl | trivial)⟩)))))))
    · refine ⟨nI (sT (nD (A 4)) (nH (A 9)) (ruA A) (A 4) (A 9) l y), upA (upA (upA A 29 gc) 28 gh) 27 gd, V, K, T, upA (upA (upA (upA A 29 gc) 28 gh) 27 gd) 47 gm, V, sg_L_split_0 ?_, sg_M_split_0 ?_, RR⟩
      · (try simp only [lgl, lgg]); (repeat first | refine iteP (by first | assumption) ?_ | refine iteN (by first | assumption) ?_)
        exact am_fin.call j3 (sg_L_split_39r (am_fin.call kc (sg_L_split_48r (iteN nz (am_fin.call jf (sg_L_split_70r (am_fin.call jt (sg_L_split_88r (iteN (by decide) (iteN (by decide) ⟨(by first | rfl | trivial), (by first | rfl | trivial)⟩))))))))))
      · (try simp only [lgl, lgg]); (repeat first | refine iteP (by first | assumption) ?_ | refine iteN (by first | assumption) ?_)
        exact am_fin.call m3 (sg_M_split_32r (am_fin.call km (sg_M_split_38r (iteN nz (iteN (by decide) (iteP rfl (am_fin.call kt (sg_M_split_68r ⟨(by first | rfl | trivial), (by first | rfl | trivial)⟩))))))))
    · refine ⟨nI (cn (fun d => A 4 d = nI l) (sF (nD (A 4)) (nH (A 9)) (ruA A) (A 4) (A 9) l y) ((sT (nD (A 4)) (nH (A 9)) (ruA A) (A 4) (A 9) l y) + 1 - (sF (nD (A 4)) (nH (A 9)) (ruA A) (A 4) (A 9) l y))), upA (upA (upA A 29 gc) 28 gh) 27 gd, V, K, T, upA (upA (upA (upA A 29 gc) 28 gh) 27 gd) 47 gm, V, sg_L_split_0 ?_, sg_M_split_0 ?_, RR⟩
      · (try simp only [lgl, lgg]); (repeat first | refine iteP (by first | assumption) ?_ | refine iteN (by first | assumption) ?_)
        exact am_fin.call j3 (sg_L_split_39r (am_fin.call kc (sg_L_split_48r (iteN nz (am_fin.call jf (sg_L_split_70r (am_fin.call jt (sg_L_split_88r (iteP rfl (am_fin.call (P_countOf_3_d (nI l) (sF (nD (A 4)) (nH (A 9)) (ruA A) (A 4) (A 9) l y) (sT (nD (A 4)) (nH (A 9)) (ruA A) (A 4) (A 9) l y) (by omega) (by omega)) (sg_L_split_110r ⟨(by first | rfl | trivial), (by first | rfl | trivial)⟩)))))))))))
      · (try simp only [lgl, lgg]); (repeat first | refine iteP (by first | assumption) ?_ | refine iteN (by first | assumption) ?_)
        have kb := M_between_d (L := L) (xs := xs) (A := upA (upA (upA (upA A 29 gc) 28 gh) 27 gd) 47 gm) (V := V) (K := K) (T := T) (nI l) (sF (nD (A 4)) (nH (A 9)) (ruA A) (A 4) (A 9) l y) (sT (nD (A 4)) (nH (A 9)) (ruA A) (A 4) (A 9) l y) (by omega) (by omega)
        rw [e1] at kb
        exact am_fin.call m3 (sg_M_split_32r (am_fin.call km (sg_M_split_38r (iteN nz (iteN (by decide) (iteN (by decide) (am_fin.call kf (sg_M_split_79r (am_fin.call kt (sg_M_split_85r (am_fin.call kb (sg_M_split_88r ⟨(by first | rfl | trivial), (by first | rfl | trivial)⟩))))))))))))
  · refine ⟨(-2), upA (upA (upA A 29 gc) 28 gh) 27 gd, V, K, T, upA (upA (upA (upA A 29 gc) 28 gh) 27 gd) 47 gm, V, sg_L_split_0 ?_, sg_M_split_0 ?_, RR⟩
    · (try simp only [lgl, lgg]); (repeat first | refine iteP (by first | assumption) ?_ | refine iteN (by first | assumption) ?_)
      exact am_fin.call j3 (sg_L_split_39r (am_fin.call kc (sg_L_split_48r (iteP (b2_z.mpr q) ⟨(by first | rfl | trivial), (by first | rfl | trivial)⟩))))
    · (try simp only [lgl, lgg]); (repeat first | refine iteP (by first | assumption) ?_ | refine iteN (by first | assumption) ?_)
      exact am_fin.call m3 (sg_M_split_32r (am_fin.call km (sg_M_split_38r (iteP (b2_z.mpr q) ⟨(by first | rfl | trivial), (by first | rfl | trivial)⟩))))
end
