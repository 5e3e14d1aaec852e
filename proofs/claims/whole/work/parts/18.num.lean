/-! numbers, counts, fills: what both sides are tied to -/
theorem nI_lt0 {a : Nat} (ha : a < 2 ^ 31) : ¬ nI a < 0 := by
  rw [Int32.lt_iff_toInt_lt, nI_toInt ha, Int32.toInt_zero]; omega
theorem nI_ge0 {a : Nat} (ha : a < 2 ^ 31) : (0 : Int32) ≤ nI a := by
  rw [Int32.le_iff_toInt_le, nI_toInt ha, Int32.toInt_zero]; omega
theorem nI_oob {a n : Nat} (ha : a < 2 ^ 31) : (nI a < 0 ∨ n ≤ (nI a).toNatClampNeg) ↔ n ≤ a := by
  rw [nI_clamp ha]
  exact ⟨fun h => h.elim (fun h => absurd h (nI_lt0 ha)) id, Or.inr⟩
theorem nI_inb {a n : Nat} (ha : a < 2 ^ 31) (h : a < n) : ¬ (nI a < 0 ∨ n ≤ (nI a).toNatClampNeg) := by
  rw [nI_oob ha]; omega
theorem nI_neg1 {a : Nat} (ha : a < 2 ^ 31) : ¬ nI a = -1 := by
  rw [← Int32.toInt_inj, nI_toInt ha, show (-1 : Int32).toInt = -1 from by decide]; omega
theorem nI_neg2 {a : Nat} (ha : a < 2 ^ 31) : ¬ nI a = -2 := by
  rw [← Int32.toInt_inj, nI_toInt ha, show (-2 : Int32).toInt = -2 from by decide]; omega
/-- an int between 0 and m -/
theorem i32_nat {x : Int32} {m : Nat} (hm : m < 2 ^ 31) (h1 : ¬ x < 0) (h2 : ¬ nI m < x) : ∃ n, n ≤ m ∧ x = nI n := by
  rw [Int32.lt_iff_toInt_lt, Int32.toInt_zero] at h1
  rw [Int32.lt_iff_toInt_lt, nI_toInt hm] at h2
  refine ⟨x.toInt.toNat, by omega, Int32.toInt_inj.mp ?_⟩
  rw [nI_toInt (by omega)]
  omega
theorem lgl (x y : Int32) : (lg_cmp x.toInt64 y.toInt64 < 0) ↔ x < y := by
  have h : x < y ↔ x.toInt64 < y.toInt64 := by rw [Int32.lt_iff_toInt_lt, Int64.lt_iff_toInt_lt, Int32.toInt_toInt64, Int32.toInt_toInt64]
  rw [h]
  unfold lg_cmp
  split
  · rename_i h1
    refine ⟨fun h => absurd h (by decide), fun h => absurd h1 (lg_lt_not h)⟩
  · rename_i h1
    split
    · rename_i h2
      refine ⟨fun h => absurd h (by decide), fun h => absurd h (by rw [h2]; exact Int64.lt_irrefl)⟩
    · rename_i h2
      refine ⟨fun _ => ?_, fun _ => by decide⟩
      rw [gt_iff_lt, Int64.lt_iff_toInt_lt] at h1
      rw [Int64.lt_iff_toInt_lt]
      rw [← Int64.toInt_inj] at h2
      omega
theorem lgg (x y : Int32) : (0 < lg_cmp x.toInt64 y.toInt64) ↔ y < x := by
  have h : y < x ↔ y.toInt64 < x.toInt64 := by rw [Int32.lt_iff_toInt_lt, Int64.lt_iff_toInt_lt, Int32.toInt_toInt64, Int32.toInt_toInt64]
  rw [h]
  unfold lg_cmp
  split
  · rename_i h1
    exact ⟨fun _ => h1, fun _ => by decide⟩
  · rename_i h1
    refine ⟨fun h => ?_, fun h => absurd h h1⟩
    split at h
    · exact absurd h (by decide)
    · exact absurd h (by decide)
/-- loops: from a state to the next, N times -/
theorem am_iter (S : Nat → List am_F × am_H) (N : Nat) {v : Option Int32} {h' : am_H} (step : ∀ k, k < N → am_fin (S (k + 1)).1 (S (k + 1)).2 v h' → am_fin (S k).1 (S k).2 v h') (done : am_fin (S N).1 (S N).2 v h') : am_fin (S 0).1 (S 0).2 v h' := by
  have key : ∀ r k, k + r = N → am_fin (S k).1 (S k).2 v h' := by
    intro r
    induction r with
    | zero => intro k hk; rw [Nat.add_zero] at hk; subst hk; exact done
    | succ r ih => intro k hk; exact step k (by omega) (ih (k + 1) (by omega))
  exact key N 0 (by omega)
/-- how many of the n numbers from a on -/
def cn (p : Nat → Prop) [DecidablePred p] (a : Nat) : Nat → Nat
  | 0 => 0
  | n + 1 => cn p a n + (if p (a + n) then 1 else 0)
theorem cn_le (p : Nat → Prop) [DecidablePred p] (a : Nat) : ∀ n, cn p a n ≤ n
  | 0 => Nat.le_refl _
  | n + 1 => by
    have := cn_le p a n
    unfold cn
    split <;> omega
theorem cn_t {p : Nat → Prop} [DecidablePred p] {a n : Nat} (h : p (a + n)) : nI (cn p a n) + 1 = nI (cn p a (n + 1)) := by
  rw [nI_1, show cn p a (n + 1) = cn p a n + (if p (a + n) then 1 else 0) from rfl, if_pos h]
theorem cn_f {p : Nat → Prop} [DecidablePred p] {a n : Nat} (h : ¬ p (a + n)) : nI (cn p a n) = nI (cn p a (n + 1)) := by
  rw [show cn p a (n + 1) = cn p a n + (if p (a + n) then 1 else 0) from rfl, if_neg h]; rfl
theorem cn_T {p : Nat → Prop} [DecidablePred p] {a n : Nat} (h : p (a + n)) : cn p a n + 1 = cn p a (n + 1) := by
  rw [show cn p a (n + 1) = cn p a n + (if p (a + n) then 1 else 0) from rfl, if_pos h]
theorem cn_F {p : Nat → Prop} [DecidablePred p] {a n : Nat} (h : ¬ p (a + n)) : cn p a n = cn p a (n + 1) := by
  rw [show cn p a (n + 1) = cn p a n + (if p (a + n) then 1 else 0) from rfl, if_neg h, Nat.add_zero]
theorem cn_congr {p q : Nat → Prop} [DecidablePred p] [DecidablePred q] {a : Nat} : ∀ {n : Nat}, (∀ i, a ≤ i → i < a + n → (p i ↔ q i)) → cn p a n = cn q a n
  | 0, _ => rfl
  | n + 1, h => by
    unfold cn
    rw [cn_congr (n := n) (fun i h1 h2 => h i h1 (by omega))]
    by_cases hp : p (a + n)
    · rw [if_pos hp, if_pos ((h _ (by omega) (by omega)).mp hp)]
    · rw [if_neg hp, if_neg (fun z => hp ((h _ (by omega) (by omega)).mpr z))]
/-- a row of like numbers -/
def fl (f : Nat → Int32) (a n : Nat) (x : Int32) : Nat → Int32 := fun i => if a ≤ i ∧ i < a + n then x else f i
theorem fl_0 (f : Nat → Int32) (a : Nat) (x : Int32) : fl f a 0 x = f := by
  funext i; unfold fl; rw [if_neg (by omega)]
theorem fl_new (f : Nat → Int32) (a n : Nat) (x : Int32) : fl f a n x (a + n) = f (a + n) := by
  unfold fl; rw [if_neg (by omega)]
theorem fl_s (f : Nat → Int32) (a n : Nat) (x : Int32) : upd (fl f a n x) (a + n) x = fl f a (n + 1) x := by
  funext i
  unfold upd fl
  by_cases h : i = a + n
  · rw [if_pos h, if_pos (by omega)]
  · rw [if_neg h]
    by_cases h2 : a ≤ i ∧ i < a + n
    · rw [if_pos h2, if_pos (by omega)]
    · rw [if_neg h2, if_neg (by omega)]
theorem fl_same {f : Nat → Int32} {a n : Nat} {x : Int32} (h : f (a + n) = x) : fl f a n x = fl f a (n + 1) x := by
  rw [← fl_s]
  funext i
  unfold upd
  by_cases hi : i = a + n
  · rw [if_pos hi, hi, fl_new, h]
  · rw [if_neg hi]
theorem upA_same (A : Nat → Nat → Int32) (a : Nat) (f : Nat → Int32) : upA A a f a = f := by
  unfold upA; simp
theorem upA_upA (A : Nat → Nat → Int32) (a : Nat) (f g : Nat → Int32) : upA (upA A a f) a g = upA A a g := by
  funext i; unfold upA; cases Nat.beq i a <;> rfl
theorem upA_self (A : Nat → Nat → Int32) (a : Nat) : upA A a (A a) = A := by
  funext i; unfold upA
  cases h : Nat.beq i a with
  | false => rfl
  | true => rw [Nat.eq_of_beq_eq_true h]; rfl
theorem upA_ne (A : Nat → Nat → Int32) {a b : Nat} (f : Nat → Int32) (h : Nat.beq b a = false) : upA A a f b = A b := by
  unfold upA; rw [h]; rfl
theorem upV_same (V : Nat → Nat → Int32) (a k : Nat) (x : Int32) : upV V a k x a k = x := by
  unfold upV; simp
theorem upV_ne (V : Nat → Nat → Int32) {a k i j : Nat} (x : Int32) (h : (Nat.beq i a && Nat.beq j k) = false) : upV V a k x i j = V i j := by
  unfold upV; rw [h]; rfl
theorem upV_self (V : Nat → Nat → Int32) (a k : Nat) : upV V a k (V a k) = V := by
  funext i j; unfold upV
  cases h : (Nat.beq i a && Nat.beq j k) with
  | false => rfl
  | true =>
    obtain ⟨h1, h2⟩ := Bool.and_eq_true_iff.mp h
    rw [Nat.eq_of_beq_eq_true h1, Nat.eq_of_beq_eq_true h2]; rfl
theorem upV_upV (V : Nat → Nat → Int32) (a k : Nat) (x y : Int32) : upV (upV V a k x) a k y = upV V a k y := by
  funext i j; unfold upV; cases (Nat.beq i a && Nat.beq j k) <;> rfl
theorem l_0 : (0 : Int32) = nI 0 := rfl
theorem l_1 : (1 : Int32) = nI 1 := rfl
theorem l_2 : (2 : Int32) = nI 2 := rfl
theorem l_3 : (3 : Int32) = nI 3 := rfl
theorem l_4 : (4 : Int32) = nI 4 := rfl
theorem l_5 : (5 : Int32) = nI 5 := rfl
theorem l_6 : (6 : Int32) = nI 6 := rfl
theorem l_7 : (7 : Int32) = nI 7 := rfl
theorem l_8 : (8 : Int32) = nI 8 := rfl
theorem l_9 : (9 : Int32) = nI 9 := rfl
theorem l_10 : (10 : Int32) = nI 10 := rfl
theorem l_11 : (11 : Int32) = nI 11 := rfl
theorem l_13 : (13 : Int32) = nI 13 := rfl
theorem l_18 : (18 : Int32) = nI 18 := rfl
theorem l_20 : (20 : Int32) = nI 20 := rfl
theorem l_24 : (24 : Int32) = nI 24 := rfl
theorem l_30 : (30 : Int32) = nI 30 := rfl
theorem l_31 : (31 : Int32) = nI 31 := rfl
theorem l_35 : (35 : Int32) = nI 35 := rfl
theorem l_60 : (60 : Int32) = nI 60 := rfl
theorem l_78 : (78 : Int32) = nI 78 := rfl
theorem l_100 : (100 : Int32) = nI 100 := rfl
theorem l_160 : (160 : Int32) = nI 160 := rfl
theorem l_255 : (255 : Int32) = nI 255 := rfl
theorem l_258 : (258 : Int32) = nI 258 := rfl
theorem l_320 : (320 : Int32) = nI 320 := rfl
theorem l_359 : (359 : Int32) = nI 359 := rfl
theorem l_360 : (360 : Int32) = nI 360 := rfl
theorem l_720 : (720 : Int32) = nI 720 := rfl
theorem l_1000 : (1000 : Int32) = nI 1000 := rfl
theorem l_1079 : (1079 : Int32) = nI 1079 := rfl
theorem l_1080 : (1080 : Int32) = nI 1080 := rfl
theorem l_2160 : (2160 : Int32) = nI 2160 := rfl
theorem iteP {c : Prop} {i : Decidable c} {P Q : Prop} (h : c) (k : P) : @ite Prop c i P Q := by rw [if_pos h]; exact k
theorem iteN {c : Prop} {i : Decidable c} {P Q : Prop} (h : ¬ c) (k : Q) : @ite Prop c i P Q := by rw [if_neg h]; exact k
