/-! READING: blanks, days -/
def sk (b : Nat → Nat) (n : Nat) : Nat → Nat → Nat
  | 0, p => p
  | r + 1, p => if p < n ∧ b p = 32 then sk b n r (p + 1) else p
abbrev skp (b : Nat → Nat) (n p : Nat) : Nat := sk b n (n - p) p
theorem sk_in (b : Nat → Nat) (n : Nat) : ∀ r p, p + r ≤ n → p ≤ sk b n r p ∧ sk b n r p ≤ n
  | 0, p, h => ⟨Nat.le_refl _, by unfold sk; omega⟩
  | r + 1, p, h => by
    have := sk_in b n r (p + 1) (by omega)
    unfold sk
    split <;> omega
theorem sk_stop (b : Nat → Nat) (n : Nat) : ∀ r p, p + r = n → ¬ (sk b n r p < n ∧ b (sk b n r p) = 32)
  | 0, p, h => by unfold sk; omega
  | r + 1, p, h => by
    have := sk_stop b n r (p + 1) (by omega)
    unfold sk
    split
    · exact this
    · assumption
theorem skp_in (b : Nat → Nat) {n p : Nat} (h : p ≤ n) : p ≤ skp b n p ∧ skp b n p ≤ n := sk_in b n (n - p) p (by omega)
theorem skp_stop (b : Nat → Nat) {n p : Nat} (h : p ≤ n) : ¬ (skp b n p < n ∧ b (skp b n p) = 32) := sk_stop b n (n - p) p (by omega)
theorem skp_id (b : Nat → Nat) {n p : Nat} (h : ¬ (p < n ∧ b p = 32)) : skp b n p = p := by
  unfold skp
  cases n - p with
  | zero => rfl
  | succ r => unfold sk; rw [if_neg h]
theorem skp_skp (b : Nat → Nat) {n p : Nat} (h : p ≤ n) : skp b n (skp b n p) = skp b n p := skp_id b (skp_stop b h)
abbrev dgt (b : Nat → Nat) (n p : Nat) : Prop := p < n ∧ 48 ≤ b p ∧ b p ≤ 57
/-- digits: so many at most, from p on, behind the value v -/
def rdp (b : Nat → Nat) (n : Nat) : Nat → Nat → Nat → Nat × Nat
  | 0, p, v => (p, v)
  | r + 1, p, v => if dgt b n p then rdp b n r (p + 1) (v * 10 + (b p - 48)) else (p, v)
theorem rdp_t {b : Nat → Nat} {n r p v : Nat} (h : dgt b n p) : rdp b n (r + 1) p v = rdp b n r (p + 1) (v * 10 + (b p - 48)) := by
  show (if dgt b n p then _ else _) = _
  rw [if_pos h]
theorem rdp_f {b : Nat → Nat} {n r p v : Nat} (h : ¬ dgt b n p) : rdp b n (r + 1) p v = (p, v) := by
  show (if dgt b n p then _ else _) = _
  rw [if_neg h]
theorem rdp_in (b : Nat → Nat) (n : Nat) : ∀ r p v, p ≤ n → p ≤ (rdp b n r p v).1 ∧ (rdp b n r p v).1 ≤ n ∧ (rdp b n r p v).1 ≤ p + r ∧ (rdp b n r p v).2 < (v + 1) * 10 ^ r
  | 0, p, v, h => by unfold rdp; exact ⟨Nat.le_refl _, h, Nat.le_refl _, by dsimp only; omega⟩
  | r + 1, p, v, h => by
    by_cases c : dgt b n p
    · rw [rdp_t c]
      obtain ⟨h1, h2, h3, h4⟩ := rdp_in b n r (p + 1) (v * 10 + (b p - 48)) c.1
      refine ⟨by omega, h2, by omega, Nat.lt_of_lt_of_le h4 ?_⟩
      rw [Nat.pow_succ, Nat.mul_comm (10 ^ r) 10, ← Nat.mul_assoc]
      exact Nat.mul_le_mul_right _ (by omega)
    · rw [rdp_f c]
      refine ⟨Nat.le_refl _, h, by dsimp only; omega, ?_⟩
      have : 0 < 10 ^ (r + 1) := Nat.pow_pos (by omega)
      show v < (v + 1) * 10 ^ (r + 1)
      exact Nat.lt_of_lt_of_le (Nat.lt_succ_self v) (Nat.le_mul_of_pos_right _ this)
/-- what is wrong with a day that was read from s to p, its value v; 0: nothing -/
def dFv (b : Nat → Nat) (n least s p v : Nat) : Int32 := if p = s ∨ dgt b n p then (-1000) * 1 - nI p else if 1080 ≤ v ∨ v < least then (-1000) * 2 - nI s else 0
def nf (F x : Int32) : Int32 := if F = 0 then x else F
theorem f1_ne {p : Nat} (h : p ≤ 320) : ¬ ((-1000 : Int32) * 1 - nI p) = 0 := by
  intro e
  have : nI p = (-1000 : Int32) * 1 := by
    have := congrArg (· + nI p) e
    simp only [Int32.sub_add_cancel, Int32.zero_add] at this
    exact this.symm
  have := congrArg Int32.toInt this
  rw [nI_toInt (by omega), show ((-1000 : Int32) * 1).toInt = -1000 from by decide] at this
  omega
theorem f2_ne {p : Nat} (h : p ≤ 320) : ¬ ((-1000 : Int32) * 2 - nI p) = 0 := by
  intro e
  have : nI p = (-1000 : Int32) * 2 := by
    have := congrArg (· + nI p) e
    simp only [Int32.sub_add_cancel, Int32.zero_add] at this
    exact this.symm
  have := congrArg Int32.toInt this
  rw [nI_toInt (by omega), show ((-1000 : Int32) * 2).toInt = -2000 from by decide] at this
  omega
theorem f1_neg {p : Nat} (h : p ≤ 320) : ((-1000 : Int32) * 1 - nI p) < 0 := by
  rw [Int32.lt_iff_toInt_lt, Int32.toInt_sub, nI_toInt (by omega), show ((-1000 : Int32) * 1).toInt = -1000 from by decide, Int32.toInt_zero, Int.bmod_eq_of_le (n := (-1000 : Int) - (p : Int)) (by omega) (by omega)]
  omega
theorem f2_neg {p : Nat} (h : p ≤ 320) : ((-1000 : Int32) * 2 - nI p) < 0 := by
  rw [Int32.lt_iff_toInt_lt, Int32.toInt_sub, nI_toInt (by omega), show ((-1000 : Int32) * 2).toInt = -2000 from by decide, Int32.toInt_zero, Int.bmod_eq_of_le (n := (-2000 : Int) - (p : Int)) (by omega) (by omega)]
  omega
theorem dFv_0 {b : Nat → Nat} {n least s p v : Nat} (hs : s ≤ 320) (hp : p ≤ 320) (h : dFv b n least s p v = 0) : ¬ p = s ∧ ¬ dgt b n p ∧ v < 1080 ∧ least ≤ v := by
  unfold dFv at h
  by_cases c : p = s ∨ dgt b n p
  · rw [if_pos c] at h; exact absurd h (f1_ne hp)
  · rw [if_neg c] at h
    by_cases d : 1080 ≤ v ∨ v < least
    · rw [if_pos d] at h; exact absurd h (f2_ne hs)
    · exact ⟨fun z => c (Or.inl z), fun z => c (Or.inr z), by omega, by omega⟩
theorem dFv_neg {b : Nat → Nat} {n least s p v : Nat} (hs : s ≤ 320) (hp : p ≤ 320) (h : ¬ dFv b n least s p v = 0) : dFv b n least s p v < 0 := by
  unfold dFv at h ⊢
  by_cases c : p = s ∨ dgt b n p
  · rw [if_pos c]; exact f1_neg hp
  · rw [if_neg c] at h ⊢
    by_cases d : 1080 ≤ v ∨ v < least
    · rw [if_pos d]; exact f2_neg hs
    · rw [if_neg d] at h; exact absurd rfl h
/-- the class's reader: length, stays, place, fault -/
def rv (V : Nat → Nat → Int32) (n st p F : Int32) : Nat → Nat → Int32 := upV (upV (upV (upV V 21 4 n) 21 5 st) 21 6 p) 21 7 F
theorem rv4 (V : Nat → Nat → Int32) (n st p F : Int32) : rv V n st p F 21 4 = n := rfl
theorem rv5 (V : Nat → Nat → Int32) (n st p F : Int32) : rv V n st p F 21 5 = st := rfl
theorem rv6 (V : Nat → Nat → Int32) (n st p F : Int32) : rv V n st p F 21 6 = p := rfl
theorem rv7 (V : Nat → Nat → Int32) (n st p F : Int32) : rv V n st p F 21 7 = F := rfl
theorem upV_swap (V : Nat → Nat → Int32) (a k k' : Nat) (x y : Int32) (h : k ≠ k') : upV (upV V a k x) a k' y = upV (upV V a k' y) a k x := by
  funext i j
  unfold upV
  cases h1 : Nat.beq i a
  · rfl
  · cases h2 : Nat.beq j k
    · cases h3 : Nat.beq j k' <;> rfl
    · cases h3 : Nat.beq j k'
      · rfl
      · exact absurd ((Nat.eq_of_beq_eq_true h2).symm.trans (Nat.eq_of_beq_eq_true h3)) h
theorem rvu7 (V : Nat → Nat → Int32) (n st p F x : Int32) : upV (rv V n st p F) 21 7 x = rv V n st p x := by
  unfold rv; rw [upV_upV]
theorem rvu6 (V : Nat → Nat → Int32) (n st p F x : Int32) : upV (rv V n st p F) 21 6 x = rv V n st x F := by
  unfold rv; rw [upV_swap _ 21 7 6 F x (by decide), upV_upV]
theorem rvu5 (V : Nat → Nat → Int32) (n st p F x : Int32) : upV (rv V n st p F) 21 5 x = rv V n x p F := by
  unfold rv; rw [upV_swap _ 21 7 5 F x (by decide), upV_swap _ 21 6 5 p x (by decide), upV_upV]
/-- the reference's reader: length, place, fault, number -/
def mv (V : Nat → Nat → Int32) (n p F z : Int32) : Nat → Nat → Int32 := upV (upV (upV (upV V 36 9 n) 36 8 p) 36 10 F) 36 11 z
theorem mv9 (V : Nat → Nat → Int32) (n p F z : Int32) : mv V n p F z 36 9 = n := rfl
theorem mv8 (V : Nat → Nat → Int32) (n p F z : Int32) : mv V n p F z 36 8 = p := rfl
theorem mv10 (V : Nat → Nat → Int32) (n p F z : Int32) : mv V n p F z 36 10 = F := rfl
theorem mv11 (V : Nat → Nat → Int32) (n p F z : Int32) : mv V n p F z 36 11 = z := rfl
theorem mvu11 (V : Nat → Nat → Int32) (n p F z x : Int32) : upV (mv V n p F z) 36 11 x = mv V n p F x := by
  unfold mv; rw [upV_upV]
theorem mvu10 (V : Nat → Nat → Int32) (n p F z x : Int32) : upV (mv V n p F z) 36 10 x = mv V n p x z := by
  unfold mv; rw [upV_swap _ 36 11 10 z x (by decide), upV_upV]
theorem mvu8 (V : Nat → Nat → Int32) (n p F z x : Int32) : upV (mv V n p F z) 36 8 x = mv V n x F z := by
  unfold mv; rw [upV_swap _ 36 11 8 z x (by decide), upV_swap _ 36 10 8 F x (by decide), upV_upV]
def oc20 (A : Nat → Nat → Int32) (b : Nat → Nat) : Prop := ∀ k, k < 320 → A 20 k = nI (b k) ∧ b k < 256
def oc42 (A : Nat → Nat → Int32) (b : Nat → Nat) : Prop := ∀ k, k < 320 → A 42 k = (nI (b k)).toInt8.toInt32 ∧ b k < 256
theorem by8b : ∀ b, b < 256 → ((nI b).toInt8.toInt32 = 32 ↔ b = 32) ∧ ((nI b).toInt8.toInt32 = 46 ↔ b = 46) ∧ ((nI b).toInt8.toInt32 < 48 ↔ (b < 48 ∨ 128 ≤ b)) ∧ (57 < (nI b).toInt8.toInt32 ↔ (57 < b ∧ b < 128)) ∧ (b < 128 → (nI b).toInt8.toInt32 = nI b) := by decide +kernel
theorem sc8 : ∀ n, n < 256 → (nI n).toInt8.toInt32 &&& 255 = nI n := by decide +kernel
section
variable {L : Nat} {xs : Nat → Int32} {A V : Nat → Nat → Int32} {K : Nat → Option Nat} {T : am_H}
theorem D_sk_lp (b : Nat → Nat) (ok : oc20 A b) (n : Nat) (hn : n ≤ 320) (st F : Int32) : ∀ r p, p + r = n → am_fin [(z_D_skipBlanks, 5, [.ref 21, .int (nI p)], [])] (hp L xs A (rv V (nI n) st (nI p) F) K T) none (hp L xs A (rv V (nI n) st (nI (sk b n r p)) F) K T) := by
  intro r
  induction r with
  | zero =>
    intro p hp
    refine sg_D_skipBlanks_5 ?_
    rw [rv4]
    exact iteP (by rw [nI_leI (by omega) (by omega)]; omega) ⟨rfl, rfl⟩
  | succ r ih =>
    intro p hp
    have i1 := ih (p + 1) (by omega)
    rw [← nI_1] at i1
    obtain ⟨o1, o2⟩ := ok p (by omega)
    refine sg_D_skipBlanks_5 ?_
    rw [rv4, nI_clamp (by omega), o1, rvu6]
    refine iteN (by rw [nI_leI (by omega) (by omega)]; omega) ⟨fun z => z.elim (nI_lt0 (by omega)) (by omega), ?_⟩
    by_cases c : b p = 32
    · rw [show sk b n (r + 1) p = sk b n r (p + 1) by show (if p < n ∧ b p = 32 then _ else _) = _; rw [if_pos ⟨by omega, c⟩]]
      exact iteP (by rw [c]; rfl) i1
    · rw [show sk b n (r + 1) p = p by show (if p < n ∧ b p = 32 then _ else _) = _; rw [if_neg (fun z => c z.2)]]
      exact iteN (by rw [show (32 : Int32) = nI 32 from rfl, nI_eq (by omega) (by omega)]; exact c) ⟨rfl, rfl⟩
theorem D_skipBlanks_c (b : Nat → Nat) (ok : oc20 A b) (n : Nat) (hn : n ≤ 320) (st F : Int32) (p : Nat) (hpn : p ≤ n) : am_fin [(z_D_skipBlanks, 0, [.ref 21, .null], [])] (hp L xs A (rv V (nI n) st (nI p) F) K T) none (hp L xs A (rv V (nI n) st (nI (skp b n p)) F) K T) := by
  refine sg_D_skipBlanks_0 ?_
  rw [rv6]
  exact D_sk_lp b ok n hn st F (n - p) p (by omega)
/-- the day's end: no digit more is read -/
theorem D_rd_end (b : Nat → Nat) (ok : oc20 A b) (n : Nat) (hn : n ≤ 320) (st F : Int32) (least s p v k : Nat) (hk : k ≤ 4) (hpn : p ≤ n) (hs : p = s + k) (hv : v < 100000) (hl : least < 100000) (he : k = 4 ∨ ¬ dgt b n p) : am_fin [(z_D_readDay, 10, [.ref 21, .int (nI least), .int (nI s), .int (nI v), .int (nI k)], [])] (hp L xs A (rv V (nI n) st (nI p) F) K T) (some (nI v)) (hp L xs A (rv V (nI n) st (nI p) (nf F (dFv b n least s p v))) K T) := by
  have c4 : ((4 : Int32) ≤ nI k) ↔ 4 ≤ k := by rw [l_4, nI_leI (by omega) (by omega)]
  have cn : (nI n ≤ nI p) ↔ n ≤ p := nI_leI (by omega) (by omega)
  have ce : (nI p = nI s) ↔ p = s := nI_eq (by omega) (by omega)
  have cr : ((1080 : Int32) ≤ nI v) ↔ 1080 ≤ v := by rw [l_1080, nI_leI (by omega) (by omega)]
  have cl : (nI least ≤ nI v) ↔ least ≤ v := nI_leI (by omega) (by omega)
  have ck : (nI p).toNatClampNeg = p := nI_clamp (by omega)
  refine sg_D_readDay_10 ?_
  simp only [rv4, rv6, rv7, rvu7, ck, c4, cn, ce, cr, cl]
  -- the answer by cases
  have fz : ∀ x, F = 0 → nf F x = x := fun x h => by unfold nf; rw [if_pos h]
  have fn : ∀ x, ¬ F = 0 → nf F x = F := fun x h => by unfold nf; rw [if_neg h]
  have d1 : (p = s ∨ dgt b n p) → dFv b n least s p v = (-1000) * 1 - nI p := fun h => by unfold dFv; rw [if_pos h]
  have d2 : ¬ (p = s ∨ dgt b n p) → (1080 ≤ v ∨ v < least) → dFv b n least s p v = (-1000) * 2 - nI s := fun h g => by unfold dFv; rw [if_neg h, if_pos g]
  have d3 : ¬ (p = s ∨ dgt b n p) → ¬ (1080 ≤ v ∨ v < least) → dFv b n least s p v = 0 := fun h g => by unfold dFv; rw [if_neg h, if_neg g]
  have f3 : nf F 0 = F := by
    unfold nf
    by_cases z : F = 0
    · rw [if_pos z, z]
    · rw [if_neg z]
  generalize dFv b n least s p v = dd at *
  -- what the next sign is
  by_cases h1 : n ≤ p
  · have nd : ¬ dgt b n p := fun z => by omega
    by_cases h5 : p = s
    · have e := d1 (Or.inl h5)
      have h4 : ¬ 4 ≤ k := by omega
      by_cases z : F = 0
      · rw [e, fz _ z]; (repeat first | refine iteP (by assumption) ?_ | refine iteN (by assumption) ?_ | refine And.intro (by assumption) ?_); (constructor <;> first | rfl | trivial)
      · rw [fn _ z]; (repeat first | refine iteP (by assumption) ?_ | refine iteN (by assumption) ?_ | refine And.intro (by assumption) ?_); (constructor <;> first | rfl | trivial)
    · have no : ¬ (p = s ∨ dgt b n p) := fun z => z.elim h5 nd
      by_cases g : 1080 ≤ v ∨ v < least
      · have e := d2 no g
        by_cases h4 : 4 ≤ k <;> by_cases g1 : 1080 ≤ v <;> by_cases g2 : least ≤ v <;> by_cases z : F = 0
        all_goals first | omega | skip
        all_goals first | (rw [e, fz _ z]; (repeat first | refine iteP (by assumption) ?_ | refine iteN (by assumption) ?_ | refine And.intro (by assumption) ?_); (constructor <;> first | rfl | trivial)) | (rw [fn _ z]; (repeat first | refine iteP (by assumption) ?_ | refine iteN (by assumption) ?_ | refine And.intro (by assumption) ?_); (constructor <;> first | rfl | trivial))
      · have e := d3 no g
        have g1 : ¬ 1080 ≤ v := by omega
        have g2 : least ≤ v := by omega
        rw [e, f3]
        by_cases h4 : 4 ≤ k
        · (repeat first | refine iteP (by assumption) ?_ | refine iteN (by assumption) ?_ | refine And.intro (by assumption) ?_); (constructor <;> first | rfl | trivial)
        · (repeat first | refine iteP (by assumption) ?_ | refine iteN (by assumption) ?_ | refine And.intro (by assumption) ?_); (constructor <;> first | rfl | trivial)
  · obtain ⟨o1, o2⟩ := ok p (by omega)
    have ib : ¬ (nI p < 0 ∨ 320 ≤ p) := fun z => z.elim (nI_lt0 (by omega)) (by omega)
    have c48 : (nI (b p) < 48) ↔ b p < 48 := by rw [show (48 : Int32) = nI 48 from rfl, nI_ltI (by omega) (by omega)]
    have c57 : ((57 : Int32) < nI (b p)) ↔ 57 < b p := by rw [show (57 : Int32) = nI 57 from rfl, nI_ltI (by omega) (by omega)]
    simp only [o1, c48, c57]
    by_cases dg : dgt b n p
    · have h4 : 4 ≤ k := by
        rcases he with h | h
        · omega
        · exact absurd dg h
      have h5 : ¬ p = s := by omega
      have e := d1 (Or.inr dg)
      have h6 : ¬ b p < 48 := by omega
      have h7 : ¬ 57 < b p := by omega
      by_cases z : F = 0
      · rw [e, fz _ z]; (repeat first | refine iteP (by assumption) ?_ | refine iteN (by assumption) ?_ | refine And.intro (by assumption) ?_); (constructor <;> first | rfl | trivial)
      · rw [fn _ z]; (repeat first | refine iteP (by assumption) ?_ | refine iteN (by assumption) ?_ | refine And.intro (by assumption) ?_); (constructor <;> first | rfl | trivial)
    · by_cases h5 : p = s
      · have e := d1 (Or.inl h5)
        have h4 : ¬ 4 ≤ k := by omega
        by_cases h6 : b p < 48
        · by_cases z : F = 0
          · rw [e, fz _ z]; (repeat first | refine iteP (by assumption) ?_ | refine iteN (by assumption) ?_ | refine And.intro (by assumption) ?_); (constructor <;> first | rfl | trivial)
          · rw [fn _ z]; (repeat first | refine iteP (by assumption) ?_ | refine iteN (by assumption) ?_ | refine And.intro (by assumption) ?_); (constructor <;> first | rfl | trivial)
        · have h7 : 57 < b p := by
            have : ¬ (p < n ∧ 48 ≤ b p ∧ b p ≤ 57) := dg
            omega
          by_cases z : F = 0
          · rw [e, fz _ z]; (repeat first | refine iteP (by assumption) ?_ | refine iteN (by assumption) ?_ | refine And.intro (by assumption) ?_); (constructor <;> first | rfl | trivial)
          · rw [fn _ z]; (repeat first | refine iteP (by assumption) ?_ | refine iteN (by assumption) ?_ | refine And.intro (by assumption) ?_); (constructor <;> first | rfl | trivial)
      · have no : ¬ (p = s ∨ dgt b n p) := fun z => z.elim h5 dg
        by_cases g : 1080 ≤ v ∨ v < least
        · have e := d2 no g
          by_cases h6 : b p < 48
          · by_cases h4 : 4 ≤ k <;> by_cases g1 : 1080 ≤ v <;> by_cases g2 : least ≤ v <;> by_cases z : F = 0
            all_goals first | omega | skip
            all_goals first | (rw [e, fz _ z]; (repeat first | refine iteP (by assumption) ?_ | refine iteN (by assumption) ?_ | refine And.intro (by assumption) ?_); (constructor <;> first | rfl | trivial)) | (rw [fn _ z]; (repeat first | refine iteP (by assumption) ?_ | refine iteN (by assumption) ?_ | refine And.intro (by assumption) ?_); (constructor <;> first | rfl | trivial))
          · have h7 : 57 < b p := by
              have : ¬ (p < n ∧ 48 ≤ b p ∧ b p ≤ 57) := dg
              omega
            by_cases h4 : 4 ≤ k <;> by_cases g1 : 1080 ≤ v <;> by_cases g2 : least ≤ v <;> by_cases z : F = 0
            all_goals first | omega | skip
            all_goals first | (rw [e, fz _ z]; (repeat first | refine iteP (by assumption) ?_ | refine iteN (by assumption) ?_ | refine And.intro (by assumption) ?_); (constructor <;> first | rfl | trivial)) | (rw [fn _ z]; (repeat first | refine iteP (by assumption) ?_ | refine iteN (by assumption) ?_ | refine And.intro (by assumption) ?_); (constructor <;> first | rfl | trivial))
        · have e := d3 no g
          have g1 : ¬ 1080 ≤ v := by omega
          have g2 : least ≤ v := by omega
          rw [e, f3]
          by_cases h6 : b p < 48
          · by_cases h4 : 4 ≤ k
            · (repeat first | refine iteP (by assumption) ?_ | refine iteN (by assumption) ?_ | refine And.intro (by assumption) ?_); (constructor <;> first | rfl | trivial)
            · (repeat first | refine iteP (by assumption) ?_ | refine iteN (by assumption) ?_ | refine And.intro (by assumption) ?_); (constructor <;> first | rfl | trivial)
          · have h7 : 57 < b p := by
              have : ¬ (p < n ∧ 48 ≤ b p ∧ b p ≤ 57) := dg
              omega
            by_cases h4 : 4 ≤ k
            · (repeat first | refine iteP (by assumption) ?_ | refine iteN (by assumption) ?_ | refine And.intro (by assumption) ?_); (constructor <;> first | rfl | trivial)
            · (repeat first | refine iteP (by assumption) ?_ | refine iteN (by assumption) ?_ | refine And.intro (by assumption) ?_); (constructor <;> first | rfl | trivial)
end
