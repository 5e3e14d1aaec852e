/-! SPELLING: a writer that catches one sign -/
abbrev wst : Type := Int32 × Int32
def wr (k : Int32) (s : wst) (c : Int32) : wst := (s.1 + 1, if s.1 = k then c else s.2)
theorem wr_p {k : Int32} {s : wst} {c : Int32} (h : s.1 = k) : wr k s c = (s.1 + 1, c) := by unfold wr; rw [if_pos h]
theorem wr_n {k : Int32} {s : wst} {c : Int32} (h : ¬ s.1 = k) : wr k s c = (s.1 + 1, s.2) := by unfold wr; rw [if_neg h]
def wu (k v u : Int32) (s : wst) : wst := if u ≤ v ∨ u = 1 then wr k s (48 + (v / u - v / u / 10 * 10)) else s
def wnum (k v : Int32) (s : wst) : wst := wu k v 1 (wu k v 10 (wu k v 100 (wu k v 1000 s)))
def pst0 (k l : Int32) (s : wst) : wst := wr k (if s.1 ≤ 0 then s else wr k s 44) (97 + l)
def pst (k l a b : Int32) (s : wst) : wst := if b ≤ a then wnum k a (pst0 k l s) else wnum k b (wr k (wr k (wnum k a (pst0 k l s)) 46) 46)
/-- the two writers tell the same -/
def wrel (k : Int32) (b : Nat) (s t : wst) : Prop := t.1 = s.1 ∧ ∃ n, n ≤ b ∧ s.1 = nI n ∧ ∀ j, j < 2 ^ 31 → k = nI j → j < n → s.2 = t.2
theorem wrel_wr {k : Int32} {b : Nat} {s t : wst} (h : wrel k b s t) (hb : b < 1000000) (c : Int32) : wrel k (b + 1) (wr k s c) (wr k t c) := by
  obtain ⟨h1, n, h2, h3, h4⟩ := h
  unfold wr
  refine ⟨by rw [h1], n + 1, by omega, by rw [h3, nI_1], fun j hj hk hn => ?_⟩
  rw [h1]
  by_cases c : s.1 = k
  · rw [if_pos c, if_pos c]
  · rw [if_neg c, if_neg c]
    have : j ≠ n := fun e => c (by rw [h3, hk, e])
    exact h4 j hj hk (by omega)
theorem wrel_mono {k : Int32} {b b' : Nat} {s t : wst} (h : wrel k b s t) (hb : b ≤ b') : wrel k b' s t := by
  obtain ⟨h1, n, h2, h3⟩ := h
  exact ⟨h1, n, by omega, h3⟩
theorem wrel_wu {k : Int32} {b : Nat} {s t : wst} (h : wrel k b s t) (hb : b < 1000000) (v u : Int32) : wrel k (b + 1) (wu k v u s) (wu k v u t) := by
  unfold wu
  by_cases c : u ≤ v ∨ u = 1
  · rw [if_pos c, if_pos c]; exact wrel_wr h hb _
  · rw [if_neg c, if_neg c]; exact wrel_mono h (by omega)
theorem wrel_wnum {k : Int32} {b : Nat} {s t : wst} (h : wrel k b s t) (hb : b < 900000) (v : Int32) : wrel k (b + 4) (wnum k v s) (wnum k v t) :=
  wrel_wu (wrel_wu (wrel_wu (wrel_wu h (by omega) v 1000) (by omega) v 100) (by omega) v 10) (by omega) v 1
theorem wrel_pst0 {k : Int32} {b : Nat} {s t : wst} (h : wrel k b s t) (hb : b < 900000) (l : Int32) : wrel k (b + 2) (pst0 k l s) (pst0 k l t) := by
  unfold pst0
  rw [h.1]
  by_cases c : s.1 ≤ 0
  · rw [if_pos c, if_pos c]; exact wrel_mono (wrel_wr h (by omega) _) (by omega)
  · rw [if_neg c, if_neg c]; exact wrel_wr (wrel_wr h (by omega) _) (by omega) _
theorem wrel_pst {k : Int32} {b : Nat} {s t : wst} (h : wrel k b s t) (hb : b < 800000) (l x y : Int32) : wrel k (b + 12) (pst k l x y s) (pst k l x y t) := by
  unfold pst
  by_cases c : y ≤ x
  · rw [if_pos c, if_pos c]; exact wrel_mono (wrel_wnum (wrel_pst0 h (by omega) l) (by omega) x) (by omega)
  · rw [if_neg c, if_neg c]; exact wrel_wnum (wrel_wr (wrel_wr (wrel_wnum (wrel_pst0 h (by omega) l) (by omega) x) (by omega) _) (by omega) _) (by omega) y
def vs25 (V : Nat → Nat → Int32) (s : wst) (k : Int32) : Nat → Nat → Int32 := upV (upV (upV V 25 1 k) 25 0 s.1) 25 2 s.2
theorem rd250 (V : Nat → Nat → Int32) (s : wst) (k : Int32) : vs25 V s k 25 0 = s.1 := rfl
theorem rd251 (V : Nat → Nat → Int32) (s : wst) (k : Int32) : vs25 V s k 25 1 = k := rfl
theorem rd252 (V : Nat → Nat → Int32) (s : wst) (k : Int32) : vs25 V s k 25 2 = s.2 := rfl
theorem e25c (V : Nat → Nat → Int32) (s : wst) (k c : Int32) : upV (upV (vs25 V s k) 25 2 c) 25 0 ((upV (vs25 V s k) 25 2 c) 25 0 + 1) = vs25 V (s.1 + 1, c) k := by
  have e : (upV (vs25 V s k) 25 2 c) 25 0 = s.1 := rfl
  rw [e]
  funext i j
  unfold vs25 upV
  cases h1 : Nat.beq i 25
  · rfl
  · cases h2 : Nat.beq j 0
    · cases h3 : Nat.beq j 2 <;> rfl
    · have h4 : Nat.beq j 2 = false := by rw [Nat.eq_of_beq_eq_true h2]; rfl
      rw [h4]; rfl
theorem e25n (V : Nat → Nat → Int32) (s : wst) (k : Int32) : upV (vs25 V s k) 25 0 (s.1 + 1) = vs25 V (s.1 + 1, s.2) k := by
  funext i j
  unfold vs25 upV
  cases h1 : Nat.beq i 25
  · rfl
  · cases h2 : Nat.beq j 0
    · cases h3 : Nat.beq j 2 <;> rfl
    · have h4 : Nat.beq j 2 = false := by rw [Nat.eq_of_beq_eq_true h2]; rfl
      rw [h4]; rfl
theorem e25m (V : Nat → Nat → Int32) (p f k : Int32) : upV (vs25 V (p, f) k) 25 0 (p + 1) = vs25 V (p + 1, f) k := e25n V (p, f) k
def vs36 (V : Nat → Nat → Int32) (s : wst) (k : Int32) : Nat → Nat → Int32 := upV (upV (upV V 36 15 k) 36 14 s.1) 36 16 s.2
theorem rd360 (V : Nat → Nat → Int32) (s : wst) (k : Int32) : vs36 V s k 36 14 = s.1 := rfl
theorem rd361 (V : Nat → Nat → Int32) (s : wst) (k : Int32) : vs36 V s k 36 15 = k := rfl
theorem rd362 (V : Nat → Nat → Int32) (s : wst) (k : Int32) : vs36 V s k 36 16 = s.2 := rfl
theorem e36c (V : Nat → Nat → Int32) (s : wst) (k c : Int32) : upV (upV (vs36 V s k) 36 16 c) 36 14 ((upV (vs36 V s k) 36 16 c) 36 14 + 1) = vs36 V (s.1 + 1, c) k := by
  have e : (upV (vs36 V s k) 36 16 c) 36 14 = s.1 := rfl
  rw [e]
  funext i j
  unfold vs36 upV
  cases h1 : Nat.beq i 36
  · rfl
  · cases h2 : Nat.beq j 14
    · cases h3 : Nat.beq j 16 <;> rfl
    · have h4 : Nat.beq j 16 = false := by rw [Nat.eq_of_beq_eq_true h2]; rfl
      rw [h4]; rfl
theorem e36n (V : Nat → Nat → Int32) (s : wst) (k : Int32) : upV (vs36 V s k) 36 14 (s.1 + 1) = vs36 V (s.1 + 1, s.2) k := by
  funext i j
  unfold vs36 upV
  cases h1 : Nat.beq i 36
  · rfl
  · cases h2 : Nat.beq j 14
    · cases h3 : Nat.beq j 16 <;> rfl
    · have h4 : Nat.beq j 16 = false := by rw [Nat.eq_of_beq_eq_true h2]; rfl
      rw [h4]; rfl
theorem e36m (V : Nat → Nat → Int32) (p f k : Int32) : upV (vs36 V (p, f) k) 36 14 (p + 1) = vs36 V (p + 1, f) k := e36n V (p, f) k
section
variable {L : Nat} {xs : Nat → Int32} {A V : Nat → Nat → Int32} {K : Nat → Option Nat} {T : am_H}
theorem E_putNumber_u1000 (v k : Int32) (s : wst) {x : Option Int32} {h' : am_H} (c : am_fin [(z_E_putNumber, 4, [.ref 25, .int v, .int 100], [])] (hp L xs A (vs25 V (wu k v 1000 s) k) K T) x h') : am_fin [(z_E_putNumber, 4, [.ref 25, .int v, .int 1000], [])] (hp L xs A (vs25 V s k) K T) x h' := by
  refine sg_E_putNumber_4 (iteN (by decide) ?_)
  rw [rd250, rd251, e25c, e25n, show (1000 : Int32) / 10 = 100 from by decide]
  unfold wu at c
  by_cases h1 : (1000 : Int32) ≤ v
  · rw [if_pos (Or.inl h1)] at c
    refine iteP h1 ⟨by decide, ?_⟩
    by_cases h2 : s.1 = k
    · rw [wr_p h2] at c; exact iteP h2 c
    · rw [wr_n h2] at c; exact iteN h2 c
  · rw [if_neg (fun z => z.elim h1 (by decide))] at c
    exact iteN h1 (iteN (by decide) c)
theorem E_putNumber_u100 (v k : Int32) (s : wst) {x : Option Int32} {h' : am_H} (c : am_fin [(z_E_putNumber, 4, [.ref 25, .int v, .int 10], [])] (hp L xs A (vs25 V (wu k v 100 s) k) K T) x h') : am_fin [(z_E_putNumber, 4, [.ref 25, .int v, .int 100], [])] (hp L xs A (vs25 V s k) K T) x h' := by
  refine sg_E_putNumber_4 (iteN (by decide) ?_)
  rw [rd250, rd251, e25c, e25n, show (100 : Int32) / 10 = 10 from by decide]
  unfold wu at c
  by_cases h1 : (100 : Int32) ≤ v
  · rw [if_pos (Or.inl h1)] at c
    refine iteP h1 ⟨by decide, ?_⟩
    by_cases h2 : s.1 = k
    · rw [wr_p h2] at c; exact iteP h2 c
    · rw [wr_n h2] at c; exact iteN h2 c
  · rw [if_neg (fun z => z.elim h1 (by decide))] at c
    exact iteN h1 (iteN (by decide) c)
theorem E_putNumber_u10 (v k : Int32) (s : wst) {x : Option Int32} {h' : am_H} (c : am_fin [(z_E_putNumber, 4, [.ref 25, .int v, .int 1], [])] (hp L xs A (vs25 V (wu k v 10 s) k) K T) x h') : am_fin [(z_E_putNumber, 4, [.ref 25, .int v, .int 10], [])] (hp L xs A (vs25 V s k) K T) x h' := by
  refine sg_E_putNumber_4 (iteN (by decide) ?_)
  rw [rd250, rd251, e25c, e25n, show (10 : Int32) / 10 = 1 from by decide]
  unfold wu at c
  by_cases h1 : (10 : Int32) ≤ v
  · rw [if_pos (Or.inl h1)] at c
    refine iteP h1 ⟨by decide, ?_⟩
    by_cases h2 : s.1 = k
    · rw [wr_p h2] at c; exact iteP h2 c
    · rw [wr_n h2] at c; exact iteN h2 c
  · rw [if_neg (fun z => z.elim h1 (by decide))] at c
    exact iteN h1 (iteN (by decide) c)
theorem E_putNumber_u1 (v k : Int32) (s : wst) {x : Option Int32} {h' : am_H} (c : am_fin [(z_E_putNumber, 4, [.ref 25, .int v, .int 0], [])] (hp L xs A (vs25 V (wu k v 1 s) k) K T) x h') : am_fin [(z_E_putNumber, 4, [.ref 25, .int v, .int 1], [])] (hp L xs A (vs25 V s k) K T) x h' := by
  refine sg_E_putNumber_4 (iteN (by decide) ?_)
  rw [rd250, rd251, e25c, e25n, show (1 : Int32) / 10 = 0 from by decide]
  unfold wu at c
  by_cases h1 : (1 : Int32) ≤ v
  · rw [if_pos (Or.inl h1)] at c
    refine iteP h1 ⟨by decide, ?_⟩
    by_cases h2 : s.1 = k
    · rw [wr_p h2] at c; exact iteP h2 c
    · rw [wr_n h2] at c; exact iteN h2 c
  · rw [if_pos (Or.inr rfl)] at c
    refine iteN h1 (iteP rfl ⟨by decide, ?_⟩)
    by_cases h2 : s.1 = k
    · rw [wr_p h2] at c; exact iteP h2 c
    · rw [wr_n h2] at c; exact iteN h2 c
theorem E_putNumber_c (v k : Int32) (s : wst) : am_fin [(z_E_putNumber, 0, [.ref 25, .int v, .null], [])] (hp L xs A (vs25 V s k) K T) none (hp L xs A (vs25 V (wnum k v s) k) K T) :=
  sg_E_putNumber_0 (E_putNumber_u1000 v k s (E_putNumber_u100 v k _ (E_putNumber_u10 v k _ (E_putNumber_u1 v k _ (sg_E_putNumber_4 (iteP (by decide) ⟨rfl, rfl⟩))))))
theorem M_writesNumber_u1000 (v k : Int32) (s : wst) {x : Option Int32} {h' : am_H} (c : am_fin [(z_M_writesNumber, 4, [.ref 36, .int v, .int 100], [])] (hp L xs A (vs36 V (wu k v 1000 s) k) K T) x h') : am_fin [(z_M_writesNumber, 4, [.ref 36, .int v, .int 1000], [])] (hp L xs A (vs36 V s k) K T) x h' := by
  refine sg_M_writesNumber_4 (iteN (by decide) ?_)
  rw [rd360, rd361, e36c, e36n, show (1000 : Int32) / 10 = 100 from by decide]
  unfold wu at c
  by_cases h1 : (1000 : Int32) ≤ v
  · rw [if_pos (Or.inl h1)] at c
    refine iteP h1 ⟨by decide, ?_⟩
    by_cases h2 : s.1 = k
    · rw [wr_p h2] at c; exact iteP h2 c
    · rw [wr_n h2] at c; exact iteN h2 c
  · rw [if_neg (fun z => z.elim h1 (by decide))] at c
    exact iteN h1 (iteN (by decide) c)
theorem M_writesNumber_u100 (v k : Int32) (s : wst) {x : Option Int32} {h' : am_H} (c : am_fin [(z_M_writesNumber, 4, [.ref 36, .int v, .int 10], [])] (hp L xs A (vs36 V (wu k v 100 s) k) K T) x h') : am_fin [(z_M_writesNumber, 4, [.ref 36, .int v, .int 100], [])] (hp L xs A (vs36 V s k) K T) x h' := by
  refine sg_M_writesNumber_4 (iteN (by decide) ?_)
  rw [rd360, rd361, e36c, e36n, show (100 : Int32) / 10 = 10 from by decide]
  unfold wu at c
  by_cases h1 : (100 : Int32) ≤ v
  · rw [if_pos (Or.inl h1)] at c
    refine iteP h1 ⟨by decide, ?_⟩
    by_cases h2 : s.1 = k
    · rw [wr_p h2] at c; exact iteP h2 c
    · rw [wr_n h2] at c; exact iteN h2 c
  · rw [if_neg (fun z => z.elim h1 (by decide))] at c
    exact iteN h1 (iteN (by decide) c)
theorem M_writesNumber_u10 (v k : Int32) (s : wst) {x : Option Int32} {h' : am_H} (c : am_fin [(z_M_writesNumber, 4, [.ref 36, .int v, .int 1], [])] (hp L xs A (vs36 V (wu k v 10 s) k) K T) x h') : am_fin [(z_M_writesNumber, 4, [.ref 36, .int v, .int 10], [])] (hp L xs A (vs36 V s k) K T) x h' := by
  refine sg_M_writesNumber_4 (iteN (by decide) ?_)
  rw [rd360, rd361, e36c, e36n, show (10 : Int32) / 10 = 1 from by decide]
  unfold wu at c
  by_cases h1 : (10 : Int32) ≤ v
  · rw [if_pos (Or.inl h1)] at c
    refine iteP h1 ⟨by decide, ?_⟩
    by_cases h2 : s.1 = k
    · rw [wr_p h2] at c; exact iteP h2 c
    · rw [wr_n h2] at c; exact iteN h2 c
  · rw [if_neg (fun z => z.elim h1 (by decide))] at c
    exact iteN h1 (iteN (by decide) c)
theorem M_writesNumber_u1 (v k : Int32) (s : wst) {x : Option Int32} {h' : am_H} (c : am_fin [(z_M_writesNumber, 4, [.ref 36, .int v, .int 0], [])] (hp L xs A (vs36 V (wu k v 1 s) k) K T) x h') : am_fin [(z_M_writesNumber, 4, [.ref 36, .int v, .int 1], [])] (hp L xs A (vs36 V s k) K T) x h' := by
  refine sg_M_writesNumber_4 (iteN (by decide) ?_)
  rw [rd360, rd361, e36c, e36n, show (1 : Int32) / 10 = 0 from by decide]
  unfold wu at c
  by_cases h1 : (1 : Int32) ≤ v
  · rw [if_pos (Or.inl h1)] at c
    refine iteP h1 ⟨by decide, ?_⟩
    by_cases h2 : s.1 = k
    · rw [wr_p h2] at c; exact iteP h2 c
    · rw [wr_n h2] at c; exact iteN h2 c
  · rw [if_pos (Or.inr rfl)] at c
    refine iteN h1 (iteP rfl ⟨by decide, ?_⟩)
    by_cases h2 : s.1 = k
    · rw [wr_p h2] at c; exact iteP h2 c
    · rw [wr_n h2] at c; exact iteN h2 c
theorem M_writesNumber_c (v k : Int32) (s : wst) : am_fin [(z_M_writesNumber, 0, [.ref 36, .int v, .null], [])] (hp L xs A (vs36 V s k) K T) none (hp L xs A (vs36 V (wnum k v s) k) K T) :=
  sg_M_writesNumber_0 (M_writesNumber_u1000 v k s (M_writesNumber_u100 v k _ (M_writesNumber_u10 v k _ (M_writesNumber_u1 v k _ (sg_M_writesNumber_4 (iteP (by decide) ⟨rfl, rfl⟩))))))
theorem E_putStay_c (l a b k : Int32) (s : wst) : am_fin [(z_E_putStay, 0, [.ref 25, .int l, .int a, .int b], [])] (hp L xs A (vs25 V s k) K T) none (hp L xs A (vs25 V (pst k l a b s) k) K T) := by
  have fin : am_fin [(z_E_putNumber, 0, [.ref 25, .int a, .null], []), (z_E_putStay, 26, [.ref 25, .int l, .int a, .int b], [])] (hp L xs A (vs25 V (pst0 k l s) k) K T) none (hp L xs A (vs25 V (pst k l a b s) k) K T) := by
    refine am_fin.call (E_putNumber_c a k (pst0 k l s)) (sg_E_putStay_26r ?_)
    by_cases c : b ≤ a
    · rw [show pst k l a b s = wnum k a (pst0 k l s) by unfold pst; rw [if_pos c]]; exact iteP c ⟨rfl, rfl⟩
    · rw [show pst k l a b s = wnum k b (wr k (wr k (wnum k a (pst0 k l s)) 46) 46) by unfold pst; rw [if_neg c]]
      generalize wnum k a (pst0 k l s) = t
      refine iteN c ?_
      simp only [rd250, rd251, e25c, e25n, e25m]
      by_cases h1 : t.1 = k
      · rw [wr_p h1]
        refine iteP h1 ?_
        by_cases h2 : t.1 + 1 = k
        · rw [wr_p (s := (t.1 + 1, (46 : Int32))) h2]
          exact iteP h2 (am_fin.call (E_putNumber_c b k _) (sg_E_putStay_48r ⟨rfl, rfl⟩))
        · rw [wr_n (s := (t.1 + 1, (46 : Int32))) h2]
          exact iteN h2 (am_fin.call (E_putNumber_c b k _) (sg_E_putStay_48r ⟨rfl, rfl⟩))
      · rw [wr_n h1]
        refine iteN h1 ?_
        by_cases h2 : t.1 + 1 = k
        · rw [wr_p (s := (t.1 + 1, t.2)) h2]
          exact iteP h2 (am_fin.call (E_putNumber_c b k _) (sg_E_putStay_48r ⟨rfl, rfl⟩))
        · rw [wr_n (s := (t.1 + 1, t.2)) h2]
          exact iteN h2 (am_fin.call (E_putNumber_c b k _) (sg_E_putStay_48r ⟨rfl, rfl⟩))
  refine sg_E_putStay_0 ?_
  simp only [rd250, rd251, e25c, e25n, e25m]
  generalize vs25 V (pst k l a b s) k = VE at fin ⊢
  unfold pst0 at fin
  by_cases c : s.1 ≤ 0
  · rw [if_pos c] at fin
    refine iteP c ?_
    by_cases h1 : s.1 = k
    · rw [wr_p h1] at fin; exact iteP h1 fin
    · rw [wr_n h1] at fin; exact iteN h1 fin
  · rw [if_neg c] at fin
    refine iteN c ?_
    by_cases h1 : s.1 = k
    · rw [wr_p h1] at fin
      refine iteP h1 ?_
      by_cases h2 : s.1 + 1 = k
      · rw [wr_p (s := (s.1 + 1, (44 : Int32))) h2] at fin; exact iteP h2 fin
      · rw [wr_n (s := (s.1 + 1, (44 : Int32))) h2] at fin; exact iteN h2 fin
    · rw [wr_n h1] at fin
      refine iteN h1 ?_
      by_cases h2 : s.1 + 1 = k
      · rw [wr_p (s := (s.1 + 1, s.2)) h2] at fin; exact iteP h2 fin
      · rw [wr_n (s := (s.1 + 1, s.2)) h2] at fin; exact iteN h2 fin
/-- a day of the reference's letter(), on which a stay begins -/
theorem M_le_st (k : Int32) (d : Nat) (hd : d < 1080) (s : wst) {x : Option Int32} {h' : am_H} (nx : am_fin [(z_M_letter, 19, [.ref 36, .int k, .int (nI d + 1)], [])] (hp L xs A (vs36 V (pst k (A 37 d) (nI d) (nI (en (A 37) d)) s) k) K T) x h') : am_fin [(z_M_letter, 31, [.ref 36, .int k, .int (nI d)], [.int 1])] (hp L xs A (vs36 V s k) K T) x h' := by
  have ib : ¬ (nI d < 0 ∨ 1080 ≤ d) := fun z => z.elim (nI_lt0 (by omega)) (by omega)
  have ck : (nI d).toNatClampNeg = d := nI_clamp (by omega)
  obtain ⟨n1, n2, -⟩ := en_in (A 37) d hd
  have fin : am_fin [(z_M_writesNumber, 0, [.ref 36, .int (nI d), .null], []), (z_M_letter, 68, [.ref 36, .int k, .int (nI d)], [])] (hp L xs A (vs36 V (pst0 k (A 37 d) s) k) K T) x h' := by
    refine am_fin.call (M_writesNumber_c (nI d) k _) (sg_M_letter_68r (am_fin.call (M_endOf_c d hd) (sg_M_letter_73r ?_)))
    unfold pst at nx
    by_cases c : en (A 37) d = d
    · rw [if_pos (by rw [nI_leI (by omega) (by omega)]; omega)] at nx
      exact iteP (by rw [c]) nx
    · rw [if_neg (by rw [nI_leI (by omega) (by omega)]; omega)] at nx
      generalize wnum k (nI d) (pst0 k (A 37 d) s) = t at nx ⊢
      refine iteN (by rw [nI_eq (by omega) (by omega)]; exact c) ?_
      simp only [rd360, rd361, e36c, e36n, e36m]
      by_cases h1 : t.1 = k
      · rw [wr_p h1] at nx
        refine iteP h1 ?_
        by_cases h2 : t.1 + 1 = k
        · rw [wr_p (s := (t.1 + 1, (46 : Int32))) h2] at nx
          exact iteP h2 (am_fin.call (M_endOf_c d hd) (sg_M_letter_98r (am_fin.call (M_writesNumber_c _ k _) (sg_M_letter_101r nx))))
        · rw [wr_n (s := (t.1 + 1, (46 : Int32))) h2] at nx
          exact iteN h2 (am_fin.call (M_endOf_c d hd) (sg_M_letter_98r (am_fin.call (M_writesNumber_c _ k _) (sg_M_letter_101r nx))))
      · rw [wr_n h1] at nx
        refine iteN h1 ?_
        by_cases h2 : t.1 + 1 = k
        · rw [wr_p (s := (t.1 + 1, t.2)) h2] at nx
          exact iteP h2 (am_fin.call (M_endOf_c d hd) (sg_M_letter_98r (am_fin.call (M_writesNumber_c _ k _) (sg_M_letter_101r nx))))
        · rw [wr_n (s := (t.1 + 1, t.2)) h2] at nx
          exact iteN h2 (am_fin.call (M_endOf_c d hd) (sg_M_letter_98r (am_fin.call (M_writesNumber_c _ k _) (sg_M_letter_101r nx))))
  refine sg_M_letter_31r (iteN (by decide) ?_)
  simp only [ck, rd360, rd361, e36c, e36n, e36m]
  unfold pst0 at fin
  by_cases c : s.1 ≤ 0
  · rw [if_pos c] at fin
    refine iteP c ⟨ib, ?_⟩
    by_cases h1 : s.1 = k
    · rw [wr_p h1] at fin; exact iteP h1 fin
    · rw [wr_n h1] at fin; exact iteN h1 fin
  · rw [if_neg c] at fin
    refine iteN c ?_
    by_cases h1 : s.1 = k
    · rw [wr_p h1] at fin
      refine iteP h1 ⟨ib, ?_⟩
      by_cases h2 : s.1 + 1 = k
      · rw [wr_p (s := (s.1 + 1, (44 : Int32))) h2] at fin; exact iteP h2 fin
      · rw [wr_n (s := (s.1 + 1, (44 : Int32))) h2] at fin; exact iteN h2 fin
    · rw [wr_n h1] at fin
      refine iteN h1 ⟨ib, ?_⟩
      by_cases h2 : s.1 + 1 = k
      · rw [wr_p (s := (s.1 + 1, s.2)) h2] at fin; exact iteP h2 fin
      · rw [wr_n (s := (s.1 + 1, s.2)) h2] at fin; exact iteN h2 fin
/-- what is written by the days from d on -/
def spl (f : Nat → Int32) (k : Int32) : Nat → Nat → wst → wst
  | 0, _, s => s
  | r + 1, d, s => spl f k r (d + 1) (if beg f d then pst k (f d) (nI d) (nI (en f d)) s else s)
theorem wrel_spl {f : Nat → Int32} {k : Int32} : ∀ r d b s t, wrel k b s t → b + 12 * r < 700000 → wrel k (b + 12 * r) (spl f k r d s) (spl f k r d t)
  | 0, _, b, _, _, h, _ => h
  | r + 1, d, b, s, t, h, hb => by
    unfold spl
    rw [show b + 12 * (r + 1) = (b + 12) + 12 * r by omega]
    by_cases c : beg f d
    · rw [if_pos c, if_pos c]; exact wrel_spl r (d + 1) (b + 12) _ _ (wrel_pst h (by omega) _ _ _) (by omega)
    · rw [if_neg c, if_neg c]; exact wrel_spl r (d + 1) (b + 12) _ _ (wrel_mono h (by omega)) (by omega)
theorem E_sp_lp (k : Int32) : ∀ r d (s : wst), d + r = 1080 → am_fin [(z_E_spell, 18, [.ref 25, .ref 3, .int k, .int (nI d)], [])] (hp L xs A (vs25 V s k) K T) none (hp L xs A (vs25 V (spl (A 4) k r d s) k) K T) := by
  intro r
  induction r with
  | zero =>
    intro d s hd
    exact sg_E_spell_3_18 (iteP (g1080 (by omega)) ⟨rfl, rfl⟩)
  | succ r ih =>
    intro d s hd
    have hd0 : d < 1080 := by omega
    refine sg_E_spell_3_18 (iteN (l1080 hd0) (am_fin.call (P_startsStay_3_c d hd0) (sg_E_spell_3_30r ?_)))
    by_cases c : beg (A 4) d
    · rw [show spl (A 4) k (r + 1) d s = spl (A 4) k r (d + 1) (pst k (A 4 d) (nI d) (nI (en (A 4) d)) s) by show spl (A 4) k r (d + 1) (if beg (A 4) d then pst k (A 4 d) (nI d) (nI (en (A 4) d)) s else s) = _; rw [if_pos c]]
      have i1 := ih (d + 1) (pst k (A 4 d) (nI d) (nI (en (A 4) d)) s) (by omega)
      rw [← nI_1] at i1
      exact iteN (mt b2_z.mp (fun z => z c)) (am_fin.call (P_landOn_3_c d hd0) (sg_E_spell_3_39r (am_fin.call (P_lastOfStay_3_c d hd0) (sg_E_spell_3_45r (am_fin.call (E_putStay_c _ _ _ k s) (sg_E_spell_3_48r i1))))))
    · rw [show spl (A 4) k (r + 1) d s = spl (A 4) k r (d + 1) s by show spl (A 4) k r (d + 1) (if beg (A 4) d then pst k (A 4 d) (nI d) (nI (en (A 4) d)) s else s) = _; rw [if_neg c]]
      have i1 := ih (d + 1) s (by omega)
      rw [← nI_1] at i1
      exact iteP (b2_z.mpr c) i1
theorem M_le_lp (k : Int32) {x : Option Int32} {h' : am_H} : ∀ r d (s : wst), d + r = 1080 → am_fin [(z_M_letter, 19, [.ref 36, .int k, .int 1080], [])] (hp L xs A (vs36 V (spl (A 37) k r d s) k) K T) x h' → am_fin [(z_M_letter, 19, [.ref 36, .int k, .int (nI d)], [])] (hp L xs A (vs36 V s k) K T) x h' := by
  intro r
  induction r with
  | zero =>
    intro d s hd h
    rw [show d = 1080 by omega]
    exact h
  | succ r ih =>
    intro d s hd h
    have hd0 : d < 1080 := by omega
    have kb := M_begins_c (L := L) (xs := xs) (A := A) (V := vs36 V s k) (K := K) (T := T) d hd0
    refine sg_M_letter_19 (iteN (l1080 hd0) ?_)
    unfold spl at h
    by_cases c : beg (A 37) d
    · rw [if_pos c] at h
      have i1 := ih (d + 1) _ (by omega) h
      rw [← nI_1] at i1
      rw [show b2 (beg (A 37) d) = 1 by unfold b2; rw [if_pos c]] at kb
      exact am_fin.call kb (M_le_st k d hd0 s i1)
    · rw [if_neg c] at h
      have i1 := ih (d + 1) _ (by omega) h
      rw [← nI_1] at i1
      exact am_fin.call kb (sg_M_letter_31r (iteP (b2_z.mpr c) i1))
theorem pr_letter (a1 : Int32) (R : RI A V K T) : PRQ z_L_letter z_M_letter [.ref 1, .int a1] [.ref 36, .int a1, .null] L xs A V K T := by
  by_cases c : (-1 : Int32) ≤ a1
  · have r1 := R.1.1
    have lp := E_sp_lp (L := L) (xs := xs) (A := A) (V := V) (K := K) (T := T) a1 1080 0 (0, -2) (by omega)
    have w0 : wrel a1 0 ((0, -2) : wst) ((0, V 36 16) : wst) := ⟨rfl, 0, Nat.le_refl _, rfl, fun j _ _ h => absurd h (by omega)⟩
    have w1 := wrel_spl (f := A 4) 1080 0 0 _ _ w0 (by omega)
    have es : upV (upV (upV V 25 0 0) 25 1 a1) 25 2 (-2) = vs25 V (0, -2) a1 := by
      funext i j
      unfold vs25 upV
      cases h1 : Nat.beq i 25
      · rfl
      · cases h2 : Nat.beq j 0
        · cases h3 : Nat.beq j 1 <;> rfl
        · have h4 : Nat.beq j 1 = false := by rw [Nat.eq_of_beq_eq_true h2]; rfl
          rw [h4]; rfl
    have k1 : am_fin [(z_E_spell, 0, [.ref 25, .ref 3, .int a1, .null], [])] (hp L xs A V K T) none (hp L xs A (vs25 V (spl (A 4) a1 1080 0 (0, -2)) a1) K T) := by
      refine sg_E_spell_3_0 ?_
      rw [es]
      exact lp
    have em : upV (upV (vs25 V (spl (A 4) a1 1080 0 (0, -2)) a1) 36 14 0) 36 15 a1 = vs36 (vs25 V (spl (A 4) a1 1080 0 (0, -2)) a1) (0, V 36 16) a1 := by
      generalize hW : vs25 V (spl (A 4) a1 1080 0 (0, -2)) a1 = W
      have e16 : V 36 16 = W 36 16 := by rw [← hW]; rfl
      rw [e16]
      funext i j
      unfold vs36 upV
      cases h1 : Nat.beq i 36
      · rfl
      · cases h2 : Nat.beq j 14
        · cases h3 : Nat.beq j 16
          · cases h5 : Nat.beq j 15 <;> rfl
          · have h4 : Nat.beq j 15 = false := by rw [Nat.eq_of_beq_eq_true h3]; rfl
            rw [h4, Nat.eq_of_beq_eq_true h1, Nat.eq_of_beq_eq_true h3]; rfl
        · have h4 : Nat.beq j 15 = false := by rw [Nat.eq_of_beq_eq_true h2]; rfl
          have h5 : Nat.beq j 16 = false := by rw [Nat.eq_of_beq_eq_true h2]; rfl
          rw [h4, h5]; rfl
    have ml := fun {x : Option Int32} {h' : am_H} => M_le_lp (L := L) (xs := xs) (A := A) (V := vs25 V (spl (A 4) a1 1080 0 (0, -2)) a1) (K := K) (T := T) a1 (x := x) (h' := h') 1080 0 (0, V 36 16) (by omega)
    rw [r1] at ml
    obtain ⟨p1, n, p2, p3, p4⟩ := w1
    generalize spl (A 4) a1 1080 0 (0, -2) = s at *
    generalize spl (A 4) a1 1080 0 (0, V 36 16) = t at *
    have fin : ∀ v : Int32, (if a1 = -1 then v = s.1 else if s.1 ≤ a1 then v = -2 else v = s.2) → (if a1 = -1 then v = t.1 else if t.1 ≤ a1 then v = -2 else v = t.2) → PRQ z_L_letter z_M_letter [.ref 1, .int a1] [.ref 36, .int a1, .null] L xs A V K T := by
      intro v hv hw
      refine ⟨v, A, vs25 V s a1, K, T, A, vs36 (vs25 V s a1) t a1, sg_L_letter_0 (iteP c (am_fin.call k1 (sg_L_letter_22r ?_))), sg_M_letter_0 (iteP c ?_), R⟩
      · rw [rd250, rd252]
        by_cases q1 : a1 = -1
        · rw [if_pos q1] at hv; exact iteP q1 ⟨by rw [hv], rfl⟩
        · rw [if_neg q1] at hv
          refine iteN q1 ?_
          by_cases q2 : s.1 ≤ a1
          · rw [if_pos q2] at hv; exact iteP q2 ⟨by rw [hv], rfl⟩
          · rw [if_neg q2] at hv; exact iteN q2 ⟨by rw [hv], rfl⟩
      · rw [em]
        refine ml (sg_M_letter_19 (iteP (Int32.le_refl _) ?_))
        rw [rd360, rd362]
        by_cases q1 : a1 = -1
        · rw [if_pos q1] at hw; exact iteP q1 ⟨by rw [hw], rfl⟩
        · rw [if_neg q1] at hw
          refine iteN q1 ?_
          by_cases q2 : t.1 ≤ a1
          · rw [if_pos q2] at hw; exact iteP q2 ⟨by rw [hw], rfl⟩
          · rw [if_neg q2] at hw; exact iteN q2 ⟨by rw [hw], rfl⟩
    by_cases q1 : a1 = -1
    · exact fin s.1 (by rw [if_pos q1]) (by rw [if_pos q1, p1])
    · by_cases q2 : s.1 ≤ a1
      · exact fin (-2) (by rw [if_neg q1, if_pos q2]) (by rw [if_neg q1, p1, if_pos q2])
      · refine fin s.2 (by rw [if_neg q1, if_neg q2]) (by
          rw [if_neg q1, p1, if_neg q2]
          have h0 : ¬ a1 < 0 := fun z => q1 (Int32.toInt_inj.mp (by
            rw [Int32.lt_iff_toInt_lt, Int32.toInt_zero] at z
            rw [Int32.le_iff_toInt_le, show (-1 : Int32).toInt = -1 from by decide] at c
            rw [show (-1 : Int32).toInt = -1 from by decide]
            omega))
          obtain ⟨j, hj, ej⟩ := i32_nn h0
          refine p4 j hj ej ?_
          rw [ej, p3, nI_leI (by omega) (by omega)] at q2
          omega)
  · exact ⟨-1, A, V, K, T, A, V, sg_L_letter_0 (iteN c ⟨rfl, rfl⟩), sg_M_letter_0 (iteN c ⟨rfl, rfl⟩), R⟩
end
