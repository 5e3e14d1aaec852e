def mini (m : Nat) (g1 g2 g3 : Nat → Int32) : am_H := [.inr (9, [.ref (m + 1 + 1), .ref (m + 1 + 2), .ref (m + 1 + 3), .ref (m + 1 + 4), .ref (m + 1 + 5), .int 0, .ref (m + 1 + 6), .int 0, .int 0, .int 0, .int 0, .int 0, .ref (m + 1 + 7), .int 0, .int 0, .int 0, .int 0, .ref (m + 1 + 8), .ref (m + 1 + 9), .ref (m + 1 + 10), .ref (m + 1 + 11), .ref (m + 1 + 12), .ref (m + 1 + 13), .int 0, .ref (m + 1 + 14), .ref (m + 1 + 15), .ref (m + 1 + 16)]), .inl (0, 1080, .inl g1), .inl (0, 1080, .inl (fun _ => 0)), .inl (0, 1080, .inl g2), .inl (0, 1080, .inl g3), .inl (0, 258, .inl (fun _ => 0)), .inl (1, 320, .inl (fun _ => 0)), .inl (0, 240, .inl (fun _ => 0)), .inl (0, 4, .inl (fun _ => 0)), .inl (0, 1080, .inl (fun _ => 0)), .inl (0, 1080, .inl (fun _ => 0)), .inl (0, 54, .inl (fun _ => 0)), .inl (0, 1081, .inl (fun _ => 0)), .inl (0, 7, .inl (fun _ => 0)), .inl (0, 8640, .inl (fun _ => 0)), .inl (0, 2064, .inl (fun _ => 0)), .inl (2, 8, .inl (fun _ => 0))]
def lands0 : Nat → Int32 := (upd (upd (upd (upd (upd (upd (upd (upd (upd (upd (upd (upd (upd (upd (upd (upd (upd (upd (upd (upd (upd (upd (upd (upd (upd (upd (upd (upd (upd (upd (fun _ => 0) ((13 * 0) + 8 : Int32).toNatClampNeg 4) ((13 * 0) + (9 + 0) : Int32).toNatClampNeg 0) ((13 * 0) + (9 + (0 + 1)) : Int32).toNatClampNeg (0 + 1)) ((13 * 0) + (9 + ((0 + 1) + 1)) : Int32).toNatClampNeg ((0 + 1) + 1)) ((13 * 0) + (9 + (((0 + 1) + 1) + 1)) : Int32).toNatClampNeg (((0 + 1) + 1) + 1)) ((13 * (0 + 1)) + 8 : Int32).toNatClampNeg 4) ((13 * (0 + 1)) + (9 + 0) : Int32).toNatClampNeg 0) ((13 * (0 + 1)) + (9 + (0 + 1)) : Int32).toNatClampNeg (0 + 1)) ((13 * (0 + 1)) + (9 + ((0 + 1) + 1)) : Int32).toNatClampNeg ((0 + 1) + 1)) ((13 * (0 + 1)) + (9 + (((0 + 1) + 1) + 1)) : Int32).toNatClampNeg (((0 + 1) + 1) + 1)) ((13 * ((0 + 1) + 1)) + 8 : Int32).toNatClampNeg 4) ((13 * ((0 + 1) + 1)) + (9 + 0) : Int32).toNatClampNeg 0) ((13 * ((0 + 1) + 1)) + (9 + (0 + 1)) : Int32).toNatClampNeg (0 + 1)) ((13 * ((0 + 1) + 1)) + (9 + ((0 + 1) + 1)) : Int32).toNatClampNeg ((0 + 1) + 1)) ((13 * ((0 + 1) + 1)) + (9 + (((0 + 1) + 1) + 1)) : Int32).toNatClampNeg (((0 + 1) + 1) + 1)) ((13 * (((0 + 1) + 1) + 1)) + 8 : Int32).toNatClampNeg 4) ((13 * (((0 + 1) + 1) + 1)) + (9 + 0) : Int32).toNatClampNeg 0) ((13 * (((0 + 1) + 1) + 1)) + (9 + (0 + 1)) : Int32).toNatClampNeg (0 + 1)) ((13 * (((0 + 1) + 1) + 1)) + (9 + ((0 + 1) + 1)) : Int32).toNatClampNeg ((0 + 1) + 1)) ((13 * (((0 + 1) + 1) + 1)) + (9 + (((0 + 1) + 1) + 1)) : Int32).toNatClampNeg (((0 + 1) + 1) + 1)) ((13 * ((((0 + 1) + 1) + 1) + 1)) + 8 : Int32).toNatClampNeg 4) ((13 * ((((0 + 1) + 1) + 1) + 1)) + (9 + 0) : Int32).toNatClampNeg 0) ((13 * ((((0 + 1) + 1) + 1) + 1)) + (9 + (0 + 1)) : Int32).toNatClampNeg (0 + 1)) ((13 * ((((0 + 1) + 1) + 1) + 1)) + (9 + ((0 + 1) + 1)) : Int32).toNatClampNeg ((0 + 1) + 1)) ((13 * ((((0 + 1) + 1) + 1) + 1)) + (9 + (((0 + 1) + 1) + 1)) : Int32).toNatClampNeg (((0 + 1) + 1) + 1)) ((13 * (((((0 + 1) + 1) + 1) + 1) + 1)) + 8 : Int32).toNatClampNeg 4) ((13 * (((((0 + 1) + 1) + 1) + 1) + 1)) + (9 + 0) : Int32).toNatClampNeg 0) ((13 * (((((0 + 1) + 1) + 1) + 1) + 1)) + (9 + (0 + 1)) : Int32).toNatClampNeg (0 + 1)) ((13 * (((((0 + 1) + 1) + 1) + 1) + 1)) + (9 + ((0 + 1) + 1)) : Int32).toNatClampNeg ((0 + 1) + 1)) ((13 * (((((0 + 1) + 1) + 1) + 1) + 1)) + (9 + (((0 + 1) + 1) + 1)) : Int32).toNatClampNeg (((0 + 1) + 1) + 1))
def mo (m : Nat) (g1 g2 g3 : Nat → Int32) : am_H := [.inr (9, [.ref (m + 1 + 1), .ref (m + 1 + 2), .ref (m + 1 + 3), .ref (m + 1 + 4), .ref (m + 1 + 5), .int 0, .ref (m + 1 + 6), .int 0, .int 0, .int 0, .int 0, .int 0, .ref (m + 1 + 7), .int 0, .int 0, .int 0, .int 0, .ref (m + 1 + 8), .ref (m + 1 + 9), .ref (m + 1 + 10), .ref (m + 1 + 11), .ref (m + 1 + 12), .ref (m + 1 + 13), .int 0, .ref (m + 1 + 14), .ref (m + 1 + 15), .ref (m + 1 + 16)]), .inl (0, 1080, .inl g1), .inl (0, 1080, .inl (fun _ => 0)), .inl (0, 1080, .inl g2), .inl (0, 1080, .inl g3), .inl (0, 258, .inl lands0), .inl (1, 320, .inl (fun _ => 0)), .inl (0, 240, .inl (fun _ => 0)), .inl (0, 4, .inl (fun _ => 0)), .inl (0, 1080, .inl (fun _ => 0)), .inl (0, 1080, .inl (fun _ => 0)), .inl (0, 54, .inl (fun _ => 0)), .inl (0, 1081, .inl (fun _ => 0)), .inl (0, 7, .inl (fun _ => 0)), .inl (0, 8640, .inl (fun _ => 0)), .inl (0, 2064, .inl (fun _ => 0)), .inl (2, 8, .inl (fun _ => 0))]
set_option maxRecDepth 100000 in
set_option maxHeartbeats 4000000 in
theorem M_init_c {P : am_H} {m : Nat} (e1 : P.length = m + 1) : am_fin [(z_M_init, 0, [.ref (m + 1), .null, .null], [])] (P ++ [.inr (9, am_dv 9)]) none (P ++ mo m (fl (fun _ => 0) 0 1080 (-1)) (fl (fun _ => 0) 0 1080 (-1)) (fl (fun _ => 0) 0 1080 (-1))) := by
  refine sc_M_init_0 e1 ?_
  have key := am_iter (fun n => ([(z_M_init, 145, [.ref (m + 1), .int (nI n), .null], [])], P ++ mini m (fl (fun _ => 0) 0 n (-1)) (fl (fun _ => 0) 0 n (-1)) (fl (fun _ => 0) 0 n (-1)))) 1080 (v := none) (h' := P ++ mo m (fl (fun _ => 0) 0 1080 (-1)) (fl (fun _ => 0) 0 1080 (-1)) (fl (fun _ => 0) 0 1080 (-1))) (fun n hn ih => by
    refine sc_M_init_145 e1 (iteN (fun h => by have := (nI_leI (a := 1080) (by omega) (by omega)).mp h; omega) ⟨nI_inb (by omega) hn, nI_inb (by omega) hn, nI_inb (by omega) hn, ?_⟩)
    rw [nI_clamp (by omega), nI_1]
    have e : upd (fl (fun _ => 0) 0 n (-1)) n (-1) = fl (fun _ => 0) 0 (n + 1) (-1) := by
      have := fl_s (fun _ => 0) 0 n (-1)
      rw [Nat.zero_add] at this
      exact this
    rw [e]
    exact ih) (by
    refine sc_M_init_145 e1 (iteP (by decide +kernel) ?_)
    exact sc_M_init_179 e1 ⟨rfl, rfl⟩)
  dsimp only at key
  rw [fl_0] at key
  exact key
def A0 : Nat → Nat → Int32 := fun a => match a with
  | 4 => (fl (fun _ => 0) 0 1080 (-1))
  | 6 => (fl (fun _ => 0) 0 1080 (-1))
  | 8 => (fl (fun _ => 0) 0 1080 (-1))
  | 16 => (fl (fun _ => 0) 0 6 1828)
  | 17 => (fl (fun _ => 0) 0 36 (-1))
  | 35 => (fl (fun _ => 0) 0 1080 (-1))
  | 37 => fl (fun _ => 0) 0 1080 (-1)
  | 39 => fl (fun _ => 0) 0 1080 (-1)
  | 40 => fl (fun _ => 0) 0 1080 (-1)
  | 41 => lands0
  | _ => fun _ => 0
def V0 : Nat → Nat → Int32 := fun a k => match a, k with
  | 25, 1 => -1
  | 25, 2 => -2
  | _, _ => 0
def hc (L : Nat) (xs : Nat → Int32) : am_H := [.inl (0, L, .inl xs)] ++ [.inr (8, [.ref 2, .ref 18, .int 0, .ref 19, .ref 21, .ref 25, .ref 26, .ref 30, .ref 34]), .inr (6, [.ref 3, .ref 5, .ref 7, .ref 9, .ref 10, .int 0]), .inr (1, [.ref 4]), .inl (0, 1080, .inl (fl (fun _ => 0) 0 1080 (-1))), .inr (1, [.ref 6]), .inl (0, 1080, .inl (fl (fun _ => 0) 0 1080 (-1))), .inr (1, [.ref 8]), .inl (0, 1080, .inl (fl (fun _ => 0) 0 1080 (-1))), .inl (0, 1080, .inl (fun _ => 0)), .inr (4, [.ref 11, .ref 12, .ref 13, .ref 14, .ref 15, .ref 16, .ref 17, .int 0]), .inl (0, 6, .inl (fun _ => 0)), .inl (0, 6, .inl (fun _ => 0)), .inl (0, 18, .inl (fun _ => 0)), .inl (0, 6, .inl (fun _ => 0)), .inl (0, 6, .inl (fun _ => 0)), .inl (0, 6, .inl (fl (fun _ => 0) 0 6 1828)), .inl (0, 36, .inl (fl (fun _ => 0) 0 36 (-1))), .inl (3, 8, .inr (.inr (.inr (.inr (fun _ => none))))), .inr (7, [.ref 20, .int 0]), .inl (0, 320, .inl (fun _ => 0)), .inr (2, [.ref 20, .ref 22, .ref 23, .ref 24, .int 0, .int 0, .int 0, .int 0]), .inl (0, 80, .inl (fun _ => 0)), .inl (0, 80, .inl (fun _ => 0)), .inl (0, 80, .inl (fun _ => 0)), .inr (5, [.int 0, .int (-1), .int (-2)]), .inr (0, [.ref 2, .ref 10, .ref 27, .ref 28, .ref 29]), .inl (0, 18, .inl (fun _ => 0)), .inl (0, 18, .inl (fun _ => 0)), .inl (0, 18, .inl (fun _ => 0)), .inr (3, [.ref 10, .ref 31, .ref 32, .ref 33, .int 0, .int 0]), .inl (0, 1081, .inl (fun _ => 0)), .inl (0, 1080, .inl (fun _ => 0)), .inl (0, 721, .inl (fun _ => 0)), .inr (1, [.ref 35]), .inl (0, 1080, .inl (fl (fun _ => 0) 0 1080 (-1)))]
set_option maxRecDepth 100000 in
set_option maxHeartbeats 4000000 in
theorem lw_new {L : Nat} {xs : Nat → Int32} {v : Option Int32} {h' : am_H} (k : am_fin [(z_W_law, 18, [.ref 0, .ref 1, .ref 36, .int 0], [])] (hp L xs A0 V0 (fun _ => none) []) v h') : am_fin [(z_W_law, 0, [.ref 0, .null, .null, .null], [])] [.inl (0, L, .inl xs)] v h' := by
  refine fn_new (n := 1) rl_W_law_0 rfl rfl (fn_dup_ref rl_W_law_3 (fn_spec (as := [.ref 1]) (r := [.ref 1]) (ls' := [.ref 1]) rl_W_law_4 rfl rfl rfl pl_L_init rfl rfl (am_fin.call (v1 := none) (h1 := hc L xs) (sc_L_init (P := [.inl (0, L, .inl xs)]) (m := 0) rfl ⟨rfl, rfl⟩) (fn_astore_n (ls' := [.ref 0, .ref 1, .null, .null]) rl_W_law_7 rfl rfl (fn_new (n := 36) rl_W_law_8 rfl rfl (fn_dup_ref rl_W_law_11 (fn_spec (as := [.ref 36]) (r := [.ref 36]) (ls' := [.ref 36, .null, .null]) rl_W_law_12 rfl rfl rfl pl_M_init rfl rfl (am_fin.call (v1 := none) (h1 := hp L xs A0 V0 (fun _ => none) []) (M_init_c (P := hc L xs) (m := 35) rfl) (fn_astore_n (ls' := [.ref 0, .ref 1, .ref 36, .null]) rl_W_law_15 rfl rfl (fn_iconst rl_W_law_16 (fn_istore_n (ls' := [.ref 0, .ref 1, .ref 36, .int 0]) rl_W_law_17 rfl rfl k)))))))))))
theorem ld_key : ∀ l, l < 6 → lands0 (13 * l + 0) = 0 ∧ lands0 (13 * l + 1) = 0 ∧ (∀ s, s < 3 → lands0 (13 * l + (2 + s)) = 0) ∧ lands0 (13 * l + 5) = 0 ∧ lands0 (13 * l + 6) = 0 ∧ lands0 (13 * l + 7) = 0 ∧ lands0 (13 * l + 8) = nI (4 + 0) ∧ ∀ k, k < 4 → lands0 (13 * l + (8 + 1 + k)) = nI k := by decide +kernel
theorem ld_ty : ∀ a, a < 6 → ∀ b, b < 6 → lands0 (78 + 5 * (6 * a + b)) = 0 := by decide +kernel
theorem ld_let : ∀ k, k < 4 → nI k = rlet 1828 k := by decide +kernel
theorem ld_na : ∀ l, l < 6 → b2 (hbit 0 (nI l)) = 0 := by decide +kernel
theorem fl_in {x : Int32} {n d : Nat} (h : d < n) : fl (fun _ => 0) 0 n x d = x := by
  unfold fl
  rw [if_pos ⟨by omega, by omega⟩]
theorem fl_out {x : Int32} {n d : Nat} (h : n ≤ d) : fl (fun _ => 0) 0 n x d = 0 := by
  unfold fl
  rw [if_neg (by omega)]
theorem RI_0 : RI A0 V0 (fun _ => none) [] := by
  refine ⟨⟨rfl, rfl, rfl, rfl, fun d hd => Or.inl (fl_in hd), fun d hd => Or.inl (fl_in hd), fun d hd => Or.inl (fl_in hd), fun d hd => ⟨0, by omega, rfl⟩⟩, ⟨rfl, Or.inl rfl⟩, ⟨fun l hl => ?_, fun a b hab hb => ?_, 0, by omega, rfl⟩, ⟨⟨0, by omega, rfl, rfl⟩, fun k hk => ⟨0, by omega, rfl, (show (0 : Int32) = (nI 0).toInt8.toInt32 by decide +kernel)⟩⟩, fun d hd => ⟨fl_out hd, fl_out hd, fl_out hd, rfl⟩, 0, 0, fun _ _ _ => 0, fun _ => 0, fun _ => 0, by omega, by omega, rfl, rfl, fun k hk => rfl, rfl, fun k hk => absurd hk (by omega)⟩
  · obtain ⟨k1, k2, k3, k4, k5, k6, k7, k8⟩ := ld_key l hl
    refine ⟨k1, k2, fun s hs => ⟨k3 s hs, 0, by omega, rfl⟩, k4, ?_, k6, ⟨4, by omega, ?_, k7, fun k hk => ⟨?_, k, hk, ?_⟩⟩, ⟨0, 0, by omega, by omega, rfl, rfl⟩, ⟨0, by omega, rfl⟩, ⟨0, by omega, rfl⟩⟩
    · exact k5.trans (ld_na l hl).symm
    · show rlen (fl (fun _ => 0) 0 6 1828 l) = nI 4
      rw [fl_in hl]; decide +kernel
    · show lands0 (13 * l + (8 + 1 + k)) = rlet (fl (fun _ => 0) 0 6 1828 l) k
      rw [fl_in hl, k8 k hk, ld_let k hk]
    · show rlet (fl (fun _ => 0) 0 6 1828 l) k = nI k
      rw [fl_in hl, ld_let k hk]
  · have e1 : A0 17 (6 * a + b) = -1 := fl_in (n := 36) (by omega)
    have e2 : A0 17 (6 * b + a) = -1 := fl_in (n := 36) (by omega)
    exact ⟨e1.trans e2.symm, Or.inl ⟨e1, ld_ty a (by omega) b hb⟩⟩
theorem and63 (x : Int32) : ∃ k, k < 64 ∧ x &&& 63 = nI k := by
  have hlt : (x.toBitVec &&& 63#32).toNat < 64 := by
    rw [BitVec.toNat_and]
    exact Nat.lt_of_le_of_lt Nat.and_le_right (by decide)
  refine ⟨(x.toBitVec &&& 63#32).toNat, hlt, ?_⟩
  apply Int32.toBitVec_inj.mp
  rw [Int32.toBitVec_and]
  show x.toBitVec &&& (63 : Int32).toBitVec = BitVec.ofNat 32 (x.toBitVec &&& 63#32).toNat
  rw [BitVec.ofNat_toNat, BitVec.setWidth_eq]
  rfl
theorem lw_m6 : ∀ L, L < 6 → nI L - 6 < 0 := by decide +kernel
theorem lw_gt {L i : Nat} (hL : L ≤ 3072) (hi : i ≤ L + 6) : nI L - 6 < nI i ↔ L < i + 6 := by
  by_cases h6 : L < 6
  · exact ⟨fun _ => by omega, fun _ => Int32.lt_of_lt_of_le (lw_m6 L h6) (nI_ge0 (by omega))⟩
  · have e : nI L - 6 = nI (L - 6) := by
      rw [show L = (L - 6) + 6 by omega, ← nI_add, show nI 6 = (6 : Int32) from rfl, Nat.add_sub_cancel]
      exact Int32.add_sub_cancel _ _
    rw [e, nI_ltI (by omega) (by omega)]
    omega
set_option maxRecDepth 100000 in
set_option maxHeartbeats 4000000 in
theorem lw_all {A V : Nat → Nat → Int32} {K : Nat → Option Nat} {T : am_H} {L : Nat} {xs : Nat → Int32} {i : Nat} (hi : i + 6 ≤ L) (hL : L < 2 ^ 31) (ih : ∀ (A V : Nat → Nat → Int32) (K : Nat → Option Nat) (T : am_H), RI A V K T → ∃ (A' V' : Nat → Nat → Int32) (K' : Nat → Option Nat) (T' : am_H), RI A' V' K' T' ∧ am_fin [(z_W_law, 18, [.ref 0, .ref 1, .ref 36, .int (nI i + 6)], [])] (hp L xs A V K T) (some 1) (hp L xs A' V' K' T')) (R : RI A V K T) : ∀ k, k < 64 → ∃ (A' V' : Nat → Nat → Int32) (K' : Nat → Option Nat) (T' : am_H), RI A' V' K' T' ∧ am_fin [(z_W_law, 33, [.ref 0, .ref 1, .ref 36, .int (nI i)], [.int (nI k)])] (hp L xs A V K T) (some 1) (hp L xs A' V' K' T')
  | 0, _ => by
    obtain ⟨A', V', K', T', R', k3⟩ := lw_0 hi hL ih R
    exact ⟨A', V', K', T', R', fn_table (t := 284) rl_W_law_33 (by decide +kernel) k3⟩
  | 1, _ => by
    obtain ⟨A', V', K', T', R', k3⟩ := lw_1 hi hL ih R
    exact ⟨A', V', K', T', R', fn_table (t := 347) rl_W_law_33 (by decide +kernel) k3⟩
  | 2, _ => by
    obtain ⟨A', V', K', T', R', k3⟩ := lw_2 hi hL ih R
    exact ⟨A', V', K', T', R', fn_table (t := 370) rl_W_law_33 (by decide +kernel) k3⟩
  | 3, _ => by
    obtain ⟨A', V', K', T', R', k3⟩ := lw_3 hi hL ih R
    exact ⟨A', V', K', T', R', fn_table (t := 413) rl_W_law_33 (by decide +kernel) k3⟩
  | 4, _ => by
    obtain ⟨A', V', K', T', R', k3⟩ := lw_4 hi hL ih R
    exact ⟨A', V', K', T', R', fn_table (t := 482) rl_W_law_33 (by decide +kernel) k3⟩
  | 5, _ => by
    obtain ⟨A', V', K', T', R', k3⟩ := lw_5 hi hL ih R
    exact ⟨A', V', K', T', R', fn_table (t := 525) rl_W_law_33 (by decide +kernel) k3⟩
  | 6, _ => by
    obtain ⟨A', V', K', T', R', k3⟩ := lw_6 hi hL ih R
    exact ⟨A', V', K', T', R', fn_table (t := 574) rl_W_law_33 (by decide +kernel) k3⟩
  | 7, _ => by
    obtain ⟨A', V', K', T', R', k3⟩ := lw_7 hi hL ih R
    exact ⟨A', V', K', T', R', fn_table (t := 617) rl_W_law_33 (by decide +kernel) k3⟩
  | 8, _ => by
    obtain ⟨A', V', K', T', R', k3⟩ := lw_8 hi hL ih R
    exact ⟨A', V', K', T', R', fn_table (t := 650) rl_W_law_33 (by decide +kernel) k3⟩
  | 9, _ => by
    obtain ⟨A', V', K', T', R', k3⟩ := lw_9 hi hL ih R
    exact ⟨A', V', K', T', R', fn_table (t := 673) rl_W_law_33 (by decide +kernel) k3⟩
  | 10, _ => by
    obtain ⟨A', V', K', T', R', k3⟩ := lw_10 hi hL ih R
    exact ⟨A', V', K', T', R', fn_table (t := 716) rl_W_law_33 (by decide +kernel) k3⟩
  | 11, _ => by
    obtain ⟨A', V', K', T', R', k3⟩ := lw_11 hi hL ih R
    exact ⟨A', V', K', T', R', fn_table (t := 759) rl_W_law_33 (by decide +kernel) k3⟩
  | 12, _ => by
    obtain ⟨A', V', K', T', R', k3⟩ := lw_12 hi hL ih R
    exact ⟨A', V', K', T', R', fn_table (t := 792) rl_W_law_33 (by decide +kernel) k3⟩
  | 13, _ => by
    obtain ⟨A', V', K', T', R', k3⟩ := lw_13 hi hL ih R
    exact ⟨A', V', K', T', R', fn_table (t := 825) rl_W_law_33 (by decide +kernel) k3⟩
  | 14, _ => by
    obtain ⟨A', V', K', T', R', k3⟩ := lw_14 hi hL ih R
    exact ⟨A', V', K', T', R', fn_table (t := 868) rl_W_law_33 (by decide +kernel) k3⟩
  | 15, _ => by
    obtain ⟨A', V', K', T', R', k3⟩ := lw_15 hi hL ih R
    exact ⟨A', V', K', T', R', fn_table (t := 911) rl_W_law_33 (by decide +kernel) k3⟩
  | 16, _ => by
    obtain ⟨A', V', K', T', R', k3⟩ := lw_16 hi hL ih R
    exact ⟨A', V', K', T', R', fn_table (t := 944) rl_W_law_33 (by decide +kernel) k3⟩
  | 17, _ => by
    obtain ⟨A', V', K', T', R', k3⟩ := lw_17 hi hL ih R
    exact ⟨A', V', K', T', R', fn_table (t := 977) rl_W_law_33 (by decide +kernel) k3⟩
  | 18, _ => by
    obtain ⟨A', V', K', T', R', k3⟩ := lw_18 hi hL ih R
    exact ⟨A', V', K', T', R', fn_table (t := 1010) rl_W_law_33 (by decide +kernel) k3⟩
  | 19, _ => by
    obtain ⟨A', V', K', T', R', k3⟩ := lw_19 hi hL ih R
    exact ⟨A', V', K', T', R', fn_table (t := 1053) rl_W_law_33 (by decide +kernel) k3⟩
  | 20, _ => by
    obtain ⟨A', V', K', T', R', k3⟩ := lw_20 hi hL ih R
    exact ⟨A', V', K', T', R', fn_table (t := 1086) rl_W_law_33 (by decide +kernel) k3⟩
  | 21, _ => by
    obtain ⟨A', V', K', T', R', k3⟩ := lw_21 hi hL ih R
    exact ⟨A', V', K', T', R', fn_table (t := 1129) rl_W_law_33 (by decide +kernel) k3⟩
  | 22, _ => by
    obtain ⟨A', V', K', T', R', k3⟩ := lw_22 hi hL ih R
    exact ⟨A', V', K', T', R', fn_table (t := 1182) rl_W_law_33 (by decide +kernel) k3⟩
  | 23, _ => by
    obtain ⟨A', V', K', T', R', k3⟩ := lw_23 hi hL ih R
    exact ⟨A', V', K', T', R', fn_table (t := 1225) rl_W_law_33 (by decide +kernel) k3⟩
  | 24, _ => by
    obtain ⟨A', V', K', T', R', k3⟩ := lw_24 hi hL ih R
    exact ⟨A', V', K', T', R', fn_table (t := 1258) rl_W_law_33 (by decide +kernel) k3⟩
  | 25, _ => by
    obtain ⟨A', V', K', T', R', k3⟩ := lw_25 hi hL ih R
    exact ⟨A', V', K', T', R', fn_table (t := 1291) rl_W_law_33 (by decide +kernel) k3⟩
  | 26, _ => by
    obtain ⟨A', V', K', T', R', k3⟩ := lw_26 hi hL ih R
    exact ⟨A', V', K', T', R', fn_table (t := 1334) rl_W_law_33 (by decide +kernel) k3⟩
  | 27, _ => by
    obtain ⟨A', V', K', T', R', k3⟩ := lw_27 hi hL ih R
    exact ⟨A', V', K', T', R', fn_table (t := 1377) rl_W_law_33 (by decide +kernel) k3⟩
  | 28, _ => by
    obtain ⟨A', V', K', T', R', k3⟩ := lw_28 hi hL ih R
    exact ⟨A', V', K', T', R', fn_table (t := 1410) rl_W_law_33 (by decide +kernel) k3⟩
  | 29, _ => by
    obtain ⟨A', V', K', T', R', k3⟩ := lw_29 hi hL ih R
    exact ⟨A', V', K', T', R', fn_table (t := 1453) rl_W_law_33 (by decide +kernel) k3⟩
  | 30, _ => by
    obtain ⟨A', V', K', T', R', k3⟩ := lw_30 hi hL ih R
    exact ⟨A', V', K', T', R', fn_table (t := 1506) rl_W_law_33 (by decide +kernel) k3⟩
  | 31, _ => by
    obtain ⟨A', V', K', T', R', k3⟩ := lw_31 hi hL ih R
    exact ⟨A', V', K', T', R', fn_table (t := 1539) rl_W_law_33 (by decide +kernel) k3⟩
  | 32, _ => by
    obtain ⟨A', V', K', T', R', k3⟩ := lw_32 hi hL ih R
    exact ⟨A', V', K', T', R', fn_table (t := 1582) rl_W_law_33 (by decide +kernel) k3⟩
  | 33, _ => by
    obtain ⟨A', V', K', T', R', k3⟩ := lw_33 hi hL ih R
    exact ⟨A', V', K', T', R', fn_table (t := 1615) rl_W_law_33 (by decide +kernel) k3⟩
  | 34, _ => by
    obtain ⟨A', V', K', T', R', k3⟩ := lw_34 hi hL ih R
    exact ⟨A', V', K', T', R', fn_table (t := 1648) rl_W_law_33 (by decide +kernel) k3⟩
  | 35, _ => by
    obtain ⟨A', V', K', T', R', k3⟩ := lw_35 hi hL ih R
    exact ⟨A', V', K', T', R', fn_table (t := 1661) rl_W_law_33 (by decide +kernel) k3⟩
  | 36, _ => by
    obtain ⟨A', V', K', T', R', k3⟩ := lw_36 hi hL ih R
    exact ⟨A', V', K', T', R', fn_table (t := 1694) rl_W_law_33 (by decide +kernel) k3⟩
  | 37, _ => by
    obtain ⟨A', V', K', T', R', k3⟩ := lw_37 hi hL ih R
    exact ⟨A', V', K', T', R', fn_table (t := 1717) rl_W_law_33 (by decide +kernel) k3⟩
  | 38, _ => by
    obtain ⟨A', V', K', T', R', k3⟩ := lw_38 hi hL ih R
    exact ⟨A', V', K', T', R', fn_table (t := 1750) rl_W_law_33 (by decide +kernel) k3⟩
  | 39, _ => by
    obtain ⟨A', V', K', T', R', k3⟩ := lw_39 hi hL ih R
    exact ⟨A', V', K', T', R', fn_table (t := 1793) rl_W_law_33 (by decide +kernel) k3⟩
  | 40, _ => by
    obtain ⟨A', V', K', T', R', k3⟩ := lw_40 hi hL ih R
    exact ⟨A', V', K', T', R', fn_table (t := 1836) rl_W_law_33 (by decide +kernel) k3⟩
  | 41, _ => by
    obtain ⟨A', V', K', T', R', k3⟩ := lw_41 hi hL ih R
    exact ⟨A', V', K', T', R', fn_table (t := 1859) rl_W_law_33 (by decide +kernel) k3⟩
  | 42, _ => by
    obtain ⟨A', V', K', T', R', k3⟩ := lw_42 hi hL ih R
    exact ⟨A', V', K', T', R', fn_table (t := 1892) rl_W_law_33 (by decide +kernel) k3⟩
  | 43, _ => by
    obtain ⟨A', V', K', T', R', k3⟩ := lw_43 hi hL ih R
    exact ⟨A', V', K', T', R', fn_table (t := 1935) rl_W_law_33 (by decide +kernel) k3⟩
  | 44, _ => by
    obtain ⟨A', V', K', T', R', k3⟩ := lw_44 hi hL ih R
    exact ⟨A', V', K', T', R', fn_table (t := 1958) rl_W_law_33 (by decide +kernel) k3⟩
  | 45, _ => by
    obtain ⟨A', V', K', T', R', k3⟩ := lw_45 hi hL ih R
    exact ⟨A', V', K', T', R', fn_table (t := 2001) rl_W_law_33 (by decide +kernel) k3⟩
  | 46, _ => by
    obtain ⟨A', V', K', T', R', k3⟩ := lw_46 hi hL ih R
    exact ⟨A', V', K', T', R', fn_table (t := 2034) rl_W_law_33 (by decide +kernel) k3⟩
  | 47, _ => by
    obtain ⟨A', V', K', T', R', k3⟩ := lw_47 hi hL ih R
    exact ⟨A', V', K', T', R', fn_table (t := 2077) rl_W_law_33 (by decide +kernel) k3⟩
  | 48, _ => by
    obtain ⟨A', V', K', T', R', k3⟩ := lw_48 hi hL ih R
    exact ⟨A', V', K', T', R', fn_table (t := 2110) rl_W_law_33 (by decide +kernel) k3⟩
  | 49, _ => by
    obtain ⟨A', V', K', T', R', k3⟩ := lw_49 hi hL ih R
    exact ⟨A', V', K', T', R', fn_table (t := 2153) rl_W_law_33 (by decide +kernel) k3⟩
  | 50, _ => by
    obtain ⟨A', V', K', T', R', k3⟩ := lw_50 hi hL ih R
    exact ⟨A', V', K', T', R', fn_table (t := 2186) rl_W_law_33 (by decide +kernel) k3⟩
  | 51, _ => by
    obtain ⟨A', V', K', T', R', k3⟩ := lw_51 hi hL ih R
    exact ⟨A', V', K', T', R', fn_table (t := 2219) rl_W_law_33 (by decide +kernel) k3⟩
  | 52, _ => by
    obtain ⟨A', V', K', T', R', k3⟩ := lw_52 hi hL ih R
    exact ⟨A', V', K', T', R', fn_table (t := 2252) rl_W_law_33 (by decide +kernel) k3⟩
  | 53, _ => by
    obtain ⟨A', V', K', T', R', k3⟩ := lw_53 hi hL ih R
    exact ⟨A', V', K', T', R', fn_table (t := 2285) rl_W_law_33 (by decide +kernel) k3⟩
  | 54, _ => by
    obtain ⟨A', V', K', T', R', k3⟩ := lw_54 hi hL ih R
    exact ⟨A', V', K', T', R', fn_table (t := 2348) rl_W_law_33 (by decide +kernel) k3⟩
  | 55, _ => by
    obtain ⟨A', V', K', T', R', k3⟩ := lw_55 hi hL ih R
    exact ⟨A', V', K', T', R', fn_table (t := 2381) rl_W_law_33 (by decide +kernel) k3⟩
  | 56, _ => by
    obtain ⟨A', V', K', T', R', k3⟩ := lw_56 hi hL ih R
    exact ⟨A', V', K', T', R', fn_table (t := 2424) rl_W_law_33 (by decide +kernel) k3⟩
  | 57, _ => by
    obtain ⟨A', V', K', T', R', k3⟩ := lw_57 hi hL ih R
    exact ⟨A', V', K', T', R', fn_table (t := 2447) rl_W_law_33 (by decide +kernel) k3⟩
  | 58, _ => by
    obtain ⟨A', V', K', T', R', k3⟩ := lw_58 hi hL ih R
    exact ⟨A', V', K', T', R', fn_table (t := 2460) rl_W_law_33 (by decide +kernel) k3⟩
  | 59, _ => by
    obtain ⟨A', V', K', T', R', k3⟩ := ih A V K T R
    exact ⟨A', V', K', T', R', fn_table (t := 2473) rl_W_law_33 (by decide +kernel) (sg_W_law_2473 k3)⟩
  | 60, _ => by
    obtain ⟨A', V', K', T', R', k3⟩ := ih A V K T R
    exact ⟨A', V', K', T', R', fn_table (t := 2473) rl_W_law_33 (by decide +kernel) (sg_W_law_2473 k3)⟩
  | 61, _ => by
    obtain ⟨A', V', K', T', R', k3⟩ := ih A V K T R
    exact ⟨A', V', K', T', R', fn_table (t := 2473) rl_W_law_33 (by decide +kernel) (sg_W_law_2473 k3)⟩
  | 62, _ => by
    obtain ⟨A', V', K', T', R', k3⟩ := ih A V K T R
    exact ⟨A', V', K', T', R', fn_table (t := 2473) rl_W_law_33 (by decide +kernel) (sg_W_law_2473 k3)⟩
  | 63, _ => by
    obtain ⟨A', V', K', T', R', k3⟩ := ih A V K T R
    exact ⟨A', V', K', T', R', fn_table (t := 2473) rl_W_law_33 (by decide +kernel) (sg_W_law_2473 k3)⟩
  | n + 64, h => absurd h (by omega)
set_option maxRecDepth 100000 in
set_option maxHeartbeats 4000000 in
theorem lw_lp {L : Nat} {xs : Nat → Int32} (hL : L ≤ 3072) : ∀ (r i : Nat), L ≤ i + r → i ≤ L + 6 → ∀ (A V : Nat → Nat → Int32) (K : Nat → Option Nat) (T : am_H), RI A V K T → ∃ (A' V' : Nat → Nat → Int32) (K' : Nat → Option Nat) (T' : am_H), RI A' V' K' T' ∧ am_fin [(z_W_law, 18, [.ref 0, .ref 1, .ref 36, .int (nI i)], [])] (hp L xs A V K T) (some 1) (hp L xs A' V' K' T') := by
  intro r
  induction r with
  | zero =>
    intro i h1 h2 A V K T R
    exact ⟨A, V, K, T, R, fn_iload_n rl_W_law_18 rfl (fn_aload_n rl_W_law_19 rfl (fn_alen rl_W_law_20 hp_0 (fn_bipush rl_W_law_21 (fn_isub rl_W_law_23 (fn_icmp_gt_t rl_W_law_24 ((lw_gt hL h2).mpr (by omega)) (fn_iconst rl_W_law_2479 (fn_reti rl_W_law_2480 rfl ⟨rfl, rfl⟩)))))))⟩
  | succ r ih =>
    intro i h1 h2 A V K T R
    by_cases hc : i + 6 ≤ L
    · obtain ⟨k, hk, hx⟩ := and63 (xs (nI i).toNatClampNeg)
      obtain ⟨A', V', K', T', R', k3⟩ := lw_all (xs := xs) hc (by omega) (fun A V K T R => by
        have := ih (i + 6) (by omega) (by omega) A V K T R
        rw [← nI_add] at this
        exact this) R k hk
      refine ⟨A', V', K', T', R', fn_iload_n rl_W_law_18 rfl (fn_aload_n rl_W_law_19 rfl (fn_alen rl_W_law_20 hp_0 (fn_bipush rl_W_law_21 (fn_isub rl_W_law_23 (fn_icmp_gt_f rl_W_law_24 (fun h => by have := (lw_gt hL h2).mp h; omega) (fn_aload_n rl_W_law_27 rfl (fn_iload_n rl_W_law_28 rfl (fn_iald (P := True) rl_W_law_29 hp_0 (fun _ => fn_bipush rl_W_law_30 (fn_iand rl_W_law_32 ?_)) ⟨nI_inb (by omega) (by omega), trivial⟩))))))))⟩
      rw [hx]
      exact k3
    · exact ⟨A, V, K, T, R, fn_iload_n rl_W_law_18 rfl (fn_aload_n rl_W_law_19 rfl (fn_alen rl_W_law_20 hp_0 (fn_bipush rl_W_law_21 (fn_isub rl_W_law_23 (fn_icmp_gt_t rl_W_law_24 ((lw_gt hL h2).mpr (by omega)) (fn_iconst rl_W_law_2479 (fn_reti rl_W_law_2480 rfl ⟨rfl, rfl⟩)))))))⟩
/-- THE LAW, on the abstract machine: it ends, and answers 1 -/
theorem law_runs (L : Nat) (xs : Nat → Int32) (hL : L ≤ 3072) : ∃ (A V : Nat → Nat → Int32) (K : Nat → Option Nat) (T : am_H), RI A V K T ∧ am_fin [(z_W_law, 0, [.ref 0, .null, .null, .null], [])] [.inl (0, L, .inl xs)] (some 1) (hp L xs A V K T) := by
  obtain ⟨A', V', K', T', R', k⟩ := lw_lp (xs := xs) hL L 0 (by omega) (by omega) A0 V0 (fun _ => none) [] RI_0
  exact ⟨A', V', K', T', R', lw_new k⟩
