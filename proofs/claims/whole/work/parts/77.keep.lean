theorem cpy_z (f g : Nat → Int32) (dp : Nat) : va_cpy f g 0 dp 0 = g := by
  funext i
  unfold va_cpy
  rw [if_neg (by omega)]
theorem cpy_s {f g : Nat → Int32} {dp n i : Nat} {x : Int32} (hi : i = dp + n) (hx : x = f n) : upd (va_cpy f g 0 dp n) i x = va_cpy f g 0 dp (n + 1) := by
  subst hi hx
  funext j
  unfold upd va_cpy
  by_cases h : j = dp + n
  · subst h
    rw [if_pos rfl, if_pos (by omega), show 0 + (dp + n - dp) = n by omega]
  · rw [if_neg h]
    by_cases h2 : dp ≤ j ∧ j < dp + n
    · rw [if_pos h2, if_pos (by omega)]
    · rw [if_neg h2, if_neg (by omega)]
theorem cpy_in {f g : Nat → Int32} {dp n i : Nat} (h : i < n) : va_cpy f g 0 dp n (dp + i) = f i := by
  unfold va_cpy
  rw [if_pos (by omega), show 0 + (dp + i - dp) = i by omega]
theorem cpy_in0 {f g : Nat → Int32} {n i : Nat} (h : i < n) : va_cpy f g 0 0 n i = f i := by
  have := cpy_in (f := f) (g := g) (dp := 0) h
  rw [Nat.zero_add] at this
  exact this
theorem cpy_out {f g : Nat → Int32} {dp n i : Nat} (h : i < dp ∨ dp + n ≤ i) : va_cpy f g 0 dp n i = g i := by
  unfold va_cpy
  rw [if_neg (by omega)]
set_option maxRecDepth 100000 in
set_option maxHeartbeats 4000000 in
theorem pk_unp : ∀ e, e < 64 → ∀ a, a < 7 → ∀ b, b < 7 → ∀ c, c < 7 → (nI (a + 8 * b + 64 * c + 512 * e) &&& 7) = nI a ∧ ((nI (a + 8 * b + 64 * c + 512 * e) >>> (3 &&& 31 : Int32)) &&& 7) = nI b ∧ ((nI (a + 8 * b + 64 * c + 512 * e) >>> (6 &&& 31 : Int32)) &&& 7) = nI c ∧ (nI (a + 8 * b + 64 * c + 512 * e) >>> (9 &&& 31 : Int32)) = nI e := by decide +kernel
/-- a day in one int -/
def pkd (x y w s : Int32) : Int32 := (((x + 1) ||| ((y + 1) <<< (3 &&& 31 : Int32))) ||| ((w + 1) <<< (6 &&& 31 : Int32))) ||| (s <<< (9 &&& 31 : Int32))
theorem pl_s {x : Int32} (h : pl x) : ∃ a, a < 7 ∧ x + 1 = nI a ∧ nI a - 1 = x := by
  rcases h with rfl | ⟨l, hl, rfl⟩
  · exact ⟨0, by omega, by decide, by decide⟩
  · refine ⟨l + 1, by omega, nI_1 l, nI_m1 ?_ ⟩
    omega
theorem pkd_un {x y w s : Int32} (hx : pl x) (hy : pl y) (hw : pl w) (hs : ∃ b, b < 64 ∧ s = nI b) : (pkd x y w s &&& 7) - 1 = x ∧ ((pkd x y w s >>> (3 &&& 31 : Int32)) &&& 7) - 1 = y ∧ ((pkd x y w s >>> (6 &&& 31 : Int32)) &&& 7) - 1 = w ∧ (pkd x y w s >>> (9 &&& 31 : Int32)) = s := by
  obtain ⟨a, ha, a1, a2⟩ := pl_s hx
  obtain ⟨b, hb, b1, b2⟩ := pl_s hy
  obtain ⟨c, hc, c1, c2⟩ := pl_s hw
  obtain ⟨e, he, rfl⟩ := hs
  unfold pkd
  rw [a1, b1, c1, pk_dec e he a ha b hb c hc]
  obtain ⟨u1, u2, u3, u4⟩ := pk_unp e he a ha b hb c hc
  rw [u1, u2, u3, u4, a2, b2, c2]
  exact ⟨rfl, rfl, rfl, rfl⟩
section
variable {L : Nat} {xs : Nat → Int32} {A V : Nat → Nat → Int32} {K : Nat → Option Nat} {T : am_H}
def kd (A : Nat → Nat → Int32) : Nat → Int32 := fun d => pkd (A 37 d) (A 39 d) (A 40 d) (A 38 d)
def k50 (A : Nat → Nat → Int32) (c n : Nat) : Nat → Nat → Int32 := upA A 50 (va_cpy (kd A) (A 50) 0 (1080 * c) n)
def k51 (A : Nat → Nat → Int32) (c n : Nat) : Nat → Nat → Int32 := upA A 51 (va_cpy (A 41) (A 51) 0 (258 * c) n)
set_option maxRecDepth 100000 in
set_option maxHeartbeats 4000000 in
theorem M_keep_c (c : Nat) (hc : c < 8) (hv : V 36 23 = nI c) (hb : V 36 5 = 0 ∨ V 36 5 = 1) : am_fin [(z_M_keep, 0, [.ref 36, .null], [])] (hp L xs A V K T) (some (nI (c + 1))) (hp L xs (upA (upA (upA A 50 (va_cpy (kd A) (A 50) 0 (1080 * c) 1080)) 51 (va_cpy (A 41) (A 51) 0 (258 * c) 258)) 52 (upd (A 52) c (V 36 5))) (upV V 36 23 (nI (c + 1))) K T) := by
  refine sg_M_keep_0 (iteN (by rw [hv, show (8 : Int32) = nI 8 from rfl, nI_eq (by omega) (by omega)]; omega) ?_)
  have k2 := am_iter (fun n => ([(z_M_keep, 84, [.ref 36, .int (nI n)], [])], hp L xs (k51 (k50 A c 1080) c n) V K T)) 258 (v := some (nI (c + 1))) (h' := hp L xs (upA (upA (upA A 50 (va_cpy (kd A) (A 50) 0 (1080 * c) 1080)) 51 (va_cpy (A 41) (A 51) 0 (258 * c) 258)) 52 (upd (A 52) c (V 36 5))) (upV V 36 23 (nI (c + 1))) K T) (fun n hn ih => by
    refine sg_M_keep_84 (iteN (fun h => by have := (nI_leI (a := 258) (by omega) (by omega)).mp h; omega) ⟨nI_inb (by omega) hn, ?_⟩)
    rw [hv, show (258 : Int32) = nI 258 from rfl, nI_mul, nI_add]
    refine ⟨nI_inb (by omega) (by omega), ?_⟩
    rw [nI_clamp (by omega), nI_clamp (by omega), nI_1]
    have e : hp L xs (upA (k51 (k50 A c 1080) c n) 51 (upd (k51 (k50 A c 1080) c n 51) (258 * c + n) (k51 (k50 A c 1080) c n 41 n))) V K T = hp L xs (k51 (k50 A c 1080) c (n + 1)) V K T := by
      show hp L xs (upA (k51 (k50 A c 1080) c n) 51 (upd (va_cpy (A 41) (A 51) 0 (258 * c) n) (258 * c + n) (A 41 n))) V K T = _
      rw [cpy_s rfl rfl, k51, upA_upA]
      rfl
    rw [e]
    exact ih) (by
    refine sg_M_keep_84 (iteP (by decide +kernel) ?_)
    rw [hv]
    refine ⟨nI_inb (by omega) hc, ?_, ?_⟩
    · rw [upV_same, nI_1]
    · rw [nI_clamp (by omega), nI_1, show vp_nar .boolean (V 36 5) = V 36 5 by rcases hb with h | h <;> rw [h] <;> rfl]
      rfl)
  have k1 := am_iter (fun n => ([(z_M_keep, 13, [.ref 36, .int (nI n)], [])], hp L xs (k50 A c n) V K T)) 1080 (v := some (nI (c + 1))) (h' := hp L xs (upA (upA (upA A 50 (va_cpy (kd A) (A 50) 0 (1080 * c) 1080)) 51 (va_cpy (A 41) (A 51) 0 (258 * c) 258)) 52 (upd (A 52) c (V 36 5))) (upV V 36 23 (nI (c + 1))) K T) (fun n hn ih => by
    refine sg_M_keep_13 (iteN (fun h => by have := (nI_leI (a := 1080) (by omega) (by omega)).mp h; omega) ⟨nI_inb (by omega) hn, nI_inb (by omega) hn, nI_inb (by omega) hn, nI_inb (by omega) hn, ?_⟩)
    rw [hv, show (1080 : Int32) = nI 1080 from rfl, nI_mul, nI_add]
    refine ⟨nI_inb (by omega) (by omega), ?_⟩
    rw [nI_clamp (by omega), nI_clamp (by omega), nI_1]
    have e : hp L xs (upA (k50 A c n) 50 (upd (k50 A c n 50) (1080 * c + n) (kd A n))) V K T = hp L xs (k50 A c (n + 1)) V K T := by
      show hp L xs (upA (k50 A c n) 50 (upd (va_cpy (kd A) (A 50) 0 (1080 * c) n) (1080 * c + n) (kd A n))) V K T = _
      rw [cpy_s rfl rfl, k50, upA_upA]
      rfl
    have ih2 := ih
    dsimp only at ih2
    rw [← e] at ih2
    exact ih2) (by
    refine sg_M_keep_13 (iteP (by decide +kernel) ?_)
    have k3 := k2
    dsimp only at k3
    rw [show hp L xs (k51 (k50 A c 1080) c 0) V K T = hp L xs (k50 A c 1080) V K T from by rw [k51, cpy_z, upA_self]] at k3
    exact k3)
  dsimp only at k1
  rw [show hp L xs (k50 A c 0) V K T = hp L xs A V K T from by rw [k50, cpy_z, upA_self]] at k1
  exact k1
/-- what undo unpacks -/
def un1 (A : Nat → Nat → Int32) (k : Nat) : Nat → Int32 := fun d => (A 50 (1080 * k + d) &&& 7) - 1
def un2 (A : Nat → Nat → Int32) (k : Nat) : Nat → Int32 := fun d => ((A 50 (1080 * k + d) >>> (3 &&& 31 : Int32)) &&& 7) - 1
def un3 (A : Nat → Nat → Int32) (k : Nat) : Nat → Int32 := fun d => ((A 50 (1080 * k + d) >>> (6 &&& 31 : Int32)) &&& 7) - 1
def un4 (A : Nat → Nat → Int32) (k : Nat) : Nat → Int32 := fun d => A 50 (1080 * k + d) >>> (9 &&& 31 : Int32)
def un5 (A : Nat → Nat → Int32) (k : Nat) : Nat → Int32 := fun i => A 51 (258 * k + i)
def u4 (A : Nat → Nat → Int32) (g1 g2 g3 g4 : Nat → Int32) : Nat → Nat → Int32 := upA (upA (upA (upA A 37 g1) 39 g2) 40 g3) 38 g4
def uD (A : Nat → Nat → Int32) (k n : Nat) : Nat → Nat → Int32 := u4 A (va_cpy (un1 A k) (A 37) 0 0 n) (va_cpy (un2 A k) (A 39) 0 0 n) (va_cpy (un3 A k) (A 40) 0 0 n) (va_cpy (un4 A k) (A 38) 0 0 n)
theorem uD_0 (k : Nat) : hp L xs (uD A k 0) V K T = hp L xs A V K T := by
  unfold uD
  rw [cpy_z, cpy_z, cpy_z, cpy_z]
  rfl
set_option maxRecDepth 100000 in
set_option maxHeartbeats 4000000 in
theorem uD_s (k n : Nat) : hp L xs (upA (upA (upA (upA (uD A k n) 37 (upd (va_cpy (un1 A k) (A 37) 0 0 n) n (un1 A k n))) 39 (upd (va_cpy (un2 A k) (A 39) 0 0 n) n (un2 A k n))) 40 (upd (va_cpy (un3 A k) (A 40) 0 0 n) n (un3 A k n))) 38 (upd (va_cpy (un4 A k) (A 38) 0 0 n) n (un4 A k n))) V K T = hp L xs (uD A k (n + 1)) V K T := by
  rw [cpy_s (by omega) rfl, cpy_s (by omega) rfl, cpy_s (by omega) rfl, cpy_s (by omega) rfl]
  rfl
set_option maxRecDepth 100000 in
set_option maxHeartbeats 4000000 in
theorem M_undo_c (k : Nat) (hk : k < 8) (hv : V 36 23 = nI (k + 1)) (hb : A 52 k = 0 ∨ A 52 k = 1) : am_fin [(z_M_undo, 0, [.ref 36, .null, .null], [])] (hp L xs A V K T) (some (nI k)) (hp L xs (upA (uD A k 1080) 41 (va_cpy (un5 A k) (A 41) 0 0 258)) (upV (upV V 36 23 (nI k)) 36 5 (A 52 k)) K T) := by
  refine sg_M_undo_0 (iteN (by rw [hv]; exact fun h => by have := (nI_eq (b := 0) (by omega) (by omega)).mp h; omega) ?_)
  rw [hv, nI_m1 (by omega), show k + 1 - 1 = k by omega]
  have hv2 : upV V 36 23 (nI k) 36 23 = nI k := upV_same _ _ _ _
  have k2 := am_iterU (fun n (w : Value) => ([(z_M_undo, 103, [.ref 36, .int (nI n), w], [])], hp L xs (upA (uD A k 1080) 41 (va_cpy (un5 A k) (A 41) 0 0 n)) (upV V 36 23 (nI k)) K T)) 258 (v := some (nI k)) (h' := hp L xs (upA (uD A k 1080) 41 (va_cpy (un5 A k) (A 41) 0 0 258)) (upV (upV V 36 23 (nI k)) 36 5 (A 52 k)) K T) (fun n w hn ih => by
    refine sg_M_undo_103 (iteN (fun h => by have := (nI_leI (a := 258) (by omega) (by omega)).mp h; omega) ?_)
    rw [hv2, show (258 : Int32) = nI 258 from rfl, nI_mul, nI_add]
    refine ⟨nI_inb (by omega) (by omega), nI_inb (by omega) hn, ?_⟩
    rw [nI_clamp (by omega), nI_clamp (by omega), nI_1]
    have e : hp L xs (upA (upA (uD A k 1080) 41 (va_cpy (un5 A k) (A 41) 0 0 n)) 41 (upd (va_cpy (un5 A k) (A 41) 0 0 n) n (un5 A k n))) (upV V 36 23 (nI k)) K T = hp L xs (upA (uD A k 1080) 41 (va_cpy (un5 A k) (A 41) 0 0 (n + 1))) (upV V 36 23 (nI k)) K T := by
      rw [cpy_s (by omega) rfl, upA_upA]
    have ih2 := ih w
    dsimp only at ih2
    rw [← e] at ih2
    exact ih2) (fun w => by
    refine sg_M_undo_103 (iteP (by decide +kernel) ?_)
    rw [hv2]
    refine ⟨nI_inb (by omega) hk, ?_⟩
    rw [nI_clamp (by omega)]
    exact ⟨hb, (show some (nI k) = some (upV (upV V 36 23 (nI k)) 36 5 (A 52 k) 36 23) from by rw [upV_ne _ _ rfl, hv2]), rfl⟩)
  have k1 := am_iterU (fun n (w : Value) => ([(z_M_undo, 21, [.ref 36, .int (nI n), w], [])], hp L xs (uD A k n) (upV V 36 23 (nI k)) K T)) 1080 (v := some (nI k)) (h' := hp L xs (upA (uD A k 1080) 41 (va_cpy (un5 A k) (A 41) 0 0 258)) (upV (upV V 36 23 (nI k)) 36 5 (A 52 k)) K T) (fun n w hn ih => by
    refine sg_M_undo_21 (iteN (fun h => by have := (nI_leI (a := 1080) (by omega) (by omega)).mp h; omega) ?_)
    rw [hv2, show (1080 : Int32) = nI 1080 from rfl, nI_mul, nI_add]
    refine ⟨nI_inb (by omega) (by omega), nI_inb (by omega) hn, nI_inb (by omega) hn, nI_inb (by omega) hn, nI_inb (by omega) hn, ?_⟩
    rw [nI_clamp (n := 1080 * k + n) (by omega), nI_clamp (by omega), nI_1]
    have ih2 := ih (.int (A 50 (1080 * k + n)))
    dsimp only at ih2
    rw [← uD_s] at ih2
    exact ih2) (fun w => by
    refine sg_M_undo_21 (iteP (by decide +kernel) ?_)
    have k3 := k2 w
    dsimp only at k3
    rw [show hp L xs (upA (uD A k 1080) 41 (va_cpy (un5 A k) (A 41) 0 0 0)) (upV V 36 23 (nI k)) K T = hp L xs (uD A k 1080) (upV V 36 23 (nI k)) K T from by rw [cpy_z]; rfl] at k3
    exact k3)
  have k4 := k1 .null
  dsimp only at k4
  rw [uD_0] at k4
  exact k4
end
