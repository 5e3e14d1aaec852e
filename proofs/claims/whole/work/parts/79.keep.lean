theorem Rr_congr {A V A' V' : Nat → Nat → Int32} (h : Rr A V) (e : ∀ i, i < 6 → A' 11 i = A 11 i ∧ A' 12 i = A 12 i ∧ A' 14 i = A 14 i ∧ A' 15 i = A 15 i ∧ A' 16 i = A 16 i) (e13 : ∀ i, i < 18 → A' 13 i = A 13 i) (e17 : ∀ i, i < 36 → A' 17 i = A 17 i) (e41 : ∀ i, i < 258 → A' 41 i = A 41 i) (ev : V' 10 7 = V 10 7) : Rr A' V' := by
  obtain ⟨h1, h2, h3⟩ := h
  refine ⟨fun l hl => ?_, fun a b hab hb => ?_, by rw [ev]; exact h3⟩
  · obtain ⟨e11, e12, e14, e15, e16⟩ := e l hl
    rw [e11, e12, e14, e15, e16, ev]
    exact RL_congr (h1 l hl) (fun s hs => e13 _ (by omega)) (fun j hj => e41 _ (by omega))
  · obtain ⟨k1, k2⟩ := h2 a b hab hb
    rw [e17 _ (by omega), e17 _ (by omega)]
    refine ⟨k1, k2.elim (fun z => Or.inl ⟨z.1, by rw [e41 _ (by omega)]; exact z.2⟩) (fun z => Or.inr (Rrow_congr z (fun j hj1 hj2 => e41 j (by omega))))⟩
section
variable {L : Nat} {xs : Nat → Int32} {A V : Nat → Nat → Int32} {K : Nat → Option Nat} {T : am_H}
/-- the reference's arrays behind keep -/
def kA (A V : Nat → Nat → Int32) (c : Nat) : Nat → Nat → Int32 := upA (upA (upA A 50 (va_cpy (kd A) (A 50) 0 (1080 * c) 1080)) 51 (va_cpy (A 41) (A 51) 0 (258 * c) 258)) 52 (upd (A 52) c (V 36 5))
theorem Rk1_old {V : Nat → Nat → Int32} {c k : Nat} {B : Nat → Nat → Int32} {pd nt : Int32} (hk : k < c) (R : Rk1 A k B pd nt) : Rk1 (kA A V c) k B pd nt := by
  obtain ⟨A0, V0, r1, r2, r3, r4, r5, r6, r7, r8, r9, r10, r11, r12⟩ := R
  refine ⟨A0, V0, r1, r2, r3, r4, r5, r6, r7, r8, r9, fun d hd => ?_, fun i hi => ?_, ?_⟩
  · rw [← r10 d hd]
    show va_cpy (kd A) (A 50) 0 (1080 * c) 1080 (1080 * k + d) = _
    exact cpy_out (by omega)
  · rw [← r11 i hi]
    show va_cpy (A 41) (A 51) 0 (258 * c) 258 (258 * k + i) = _
    exact cpy_out (by omega)
  · rw [← r12]
    show upd (A 52) c (V 36 5) k = _
    unfold upd
    rw [if_neg (by omega)]
theorem Rk1_new {c : Nat} {B : Nat → Nat → Int32} (h1 : Rd A) (h2 : Rp V) (h3 : Rr A V) : Rk1 (kA A V c) c (kB A B) (V 2 5) (V 10 7) := by
  refine ⟨A, V, h1, h2, h3, fun d hd => ⟨cpyG (by decide) (by decide) (n := 1080) (by decide +kernel) hd, cpyG (by decide) (by decide) (n := 1080) (by decide +kernel) hd, cpyG (by decide) (by decide) (n := 1080) (by decide +kernel) hd, cpyG (by decide) (by decide) (n := 1080) (by decide +kernel) hd⟩, fun d hd => ⟨cpyG (by decide) (by decide) (n := 6) (by decide +kernel) hd, cpyG (by decide) (by decide) (n := 6) (by decide +kernel) hd, cpyG (by decide) (by decide) (n := 6) (by decide +kernel) hd, cpyG (by decide) (by decide) (n := 6) (by decide +kernel) hd, cpyG (by decide) (by decide) (n := 6) (by decide +kernel) hd⟩, fun d hd => cpyG (by decide) (by decide) (n := 18) (by decide +kernel) hd, fun d hd => cpyG (by decide) (by decide) (n := 36) (by decide +kernel) hd, rfl, rfl, fun d hd => ?_, fun i hi => ?_, ?_⟩
  · show va_cpy (kd A) (A 50) 0 (1080 * c) 1080 (1080 * c + d) = _
    rw [cpy_in hd]
    obtain ⟨a1, a2, a3, a4, -⟩ := h1
    show pkd (A 37 d) (A 39 d) (A 40 d) (A 38 d) = _
    rw [a1, a2, a3, a4]
    rfl
  · show va_cpy (A 41) (A 51) 0 (258 * c) 258 (258 * c + i) = _
    exact cpy_in hi
  · show upd (A 52) c (V 36 5) c = _
    unfold upd
    rw [if_pos rfl]
    exact h2.1
set_option maxRecDepth 100000 in
set_option maxHeartbeats 4000000 in
theorem pr_keep (R : RI A V K T) : PRQ z_L_keep z_M_keep [.ref 1] [.ref 36, .null] L xs A V K T := by
  obtain ⟨R1, R2, R3, R4, R5, c, al, B, pd, nt, hca, hal, hv1, hv2, hK, hT, hR⟩ := R
  by_cases hc : c = 8
  · have hc' := hc
    refine ⟨(-1), A, V, K, T, A, V, sg_L_keep_0 (iteN ?_ ⟨rfl, rfl⟩), sg_M_keep_0 (iteP ?_ ⟨rfl, rfl⟩), R1, R2, R3, R4, R5, c, al, B, pd, nt, hca, hal, hv1, hv2, hK, hT, hR⟩
    · rw [hv1, hc']; decide
    · rw [hv2, hc']; decide
  · subst hT
    have hc8 : c < 8 := by omega
    obtain ⟨K1, al1, B1, pd1, nt1, g1, g2, g3, g4, g5⟩ := L_keep_cls (L := L) (xs := xs) (A := A) (V := V) (K := K) (B := B) (pd := pd) (nt := nt) c al hca hal hc8 hv1 hK
    obtain ⟨Q, hQ⟩ := stT_split (B := B1) (pd := pd1) (nt := nt1) (c := c) al1 g1
    have q1 := hQ B1 pd1 nt1 (fun k _ => ⟨rfl, rfl, rfl⟩)
    have q2 := hQ (fun k => if k = c then kB A (B1 c) else B1 k) (fun k => if k = c then V 2 5 else pd1 k) (fun k => if k = c then V 10 7 else nt1 k) (fun k hk => ⟨if_neg hk, if_neg hk, if_neg hk⟩)
    rw [if_pos rfl, if_pos rfl, if_pos rfl] at q2
    have hKc : K1 c = some (16 * c + 53) := by rw [g3 c hc8, if_pos g1, Nat.add_comm 53]
    have k1 := L_keep39 (L := L) (xs := xs) (A := A) (V := V) (K := K1) (T1 := stT B1 pd1 nt1 c) (Q := Q) (B := B1 c) (pd := pd1 c) (nt := nt1 c) c hc8 (stT_len _ _ _ _) hKc hv1 R2.2
    rw [← q1, ← q2] at k1
    have k2 := M_keep_c (L := L) (xs := xs) (A := A) (V := upV V 1 2 (nI (c + 1))) (K := K1) (T := stT (fun k => if k = c then kB A (B1 c) else B1 k) (fun k => if k = c then V 2 5 else pd1 k) (fun k => if k = c then V 10 7 else nt1 k) al1) c hc8 hv2 (by
      show V 36 5 = 0 ∨ V 36 5 = 1
      rw [R2.1]; exact R2.2)
    refine ⟨nI (c + 1), A, upV V 1 2 (nI (c + 1)), K1, _, kA A V c, upV (upV V 1 2 (nI (c + 1))) 36 23 (nI (c + 1)), g5 k1, k2, R1, R2, R3, R4, R5, c + 1, al1, _, _, _, by omega, g2, rfl, rfl, g3, rfl, fun k hk => ?_⟩
    by_cases hkc : k = c
    · subst hkc
      rw [if_pos rfl, if_pos rfl, if_pos rfl]
      exact Rk1_new R1 R2 R3
    · rw [if_neg hkc, if_neg hkc, if_neg hkc]
      obtain ⟨b1, b2, b3⟩ := g4 k (by omega)
      rw [b1, b2, b3]
      exact Rk1_old (by omega) (hR k (by omega))
/-- the class's arrays and the reference's behind undo -/
def oA (A B : Nat → Nat → Int32) (k : Nat) : Nat → Nat → Int32 := upA (uD (uA A B) k 1080) 41 (va_cpy (un5 (uA A B) k) (A 41) 0 0 258)
def oV (V : Nat → Nat → Int32) (pd nt x : Int32) (k : Nat) : Nat → Nat → Int32 := upV (upV (upV (upV (upV V 1 2 (nI k)) 10 7 nt) 2 5 pd) 36 23 (nI k)) 36 5 x
set_option maxRecDepth 100000 in
set_option maxHeartbeats 4000000 in
theorem RI_undo {k al : Nat} {B : Nat → Nat → Nat → Int32} {pd nt : Nat → Int32} (R1 : Rd A) (R4 : Rt A V) (R5 : Rz A) (hk : k < al) (hal : al ≤ 8) (hK : ∀ k, k < 8 → K k = if k < al then some (53 + 16 * k) else none) (hT : T = stT B pd nt al) (hR : ∀ j, j < k + 1 → Rk1 A j (B j) (pd j) (nt j)) : RI (oA A (B k) k) (oV V (pd k) (nt k) (A 52 k) k) K T := by
  obtain ⟨A0, V0, r1, r2, r3, r4, r5, r6, r7, r8, r9, r10, r11, r12⟩ := hR k (by omega)
  obtain ⟨s1, s2, s3, s4, s5, s6, s7, s8⟩ := r1
  have hu : ∀ d, d < 1080 → un1 A k d = A0 4 d ∧ un2 A k d = A0 6 d ∧ un3 A k d = A0 8 d ∧ un4 A k d = A0 9 d := fun d hd => by
    unfold un1 un2 un3 un4
    rw [r10 d hd]
    exact pkd_un (s5 d hd) (s6 d hd) (s7 d hd) (s8 d hd)
  obtain ⟨t1, t2, t3, t4, -⟩ := R1
  have e4 : ∀ d, d < 1080 → oA A (B k) k 4 d = A0 4 d := fun d hd => by rw [← (r4 d hd).1]; exact cpyG (by decide) (by decide) (n := 1080) (by decide +kernel) hd
  have e6 : ∀ d, d < 1080 → oA A (B k) k 6 d = A0 6 d := fun d hd => by rw [← (r4 d hd).2.1]; exact cpyG (by decide) (by decide) (n := 1080) (by decide +kernel) hd
  have e8 : ∀ d, d < 1080 → oA A (B k) k 8 d = A0 8 d := fun d hd => by rw [← (r4 d hd).2.2.1]; exact cpyG (by decide) (by decide) (n := 1080) (by decide +kernel) hd
  have e9 : ∀ d, d < 1080 → oA A (B k) k 9 d = A0 9 d := fun d hd => by rw [← (r4 d hd).2.2.2]; exact cpyG (by decide) (by decide) (n := 1080) (by decide +kernel) hd
  have f4 : ∀ d, 1080 ≤ d → oA A (B k) k 4 d = A 4 d := fun d hd => cpyO (by decide) (by decide) (n := 1080) (by decide +kernel) hd
  have f6 : ∀ d, 1080 ≤ d → oA A (B k) k 6 d = A 6 d := fun d hd => cpyO (by decide) (by decide) (n := 1080) (by decide +kernel) hd
  have f8 : ∀ d, 1080 ≤ d → oA A (B k) k 8 d = A 8 d := fun d hd => cpyO (by decide) (by decide) (n := 1080) (by decide +kernel) hd
  have f9 : ∀ d, 1080 ≤ d → oA A (B k) k 9 d = A 9 d := fun d hd => cpyO (by decide) (by decide) (n := 1080) (by decide +kernel) hd
  have g37 : oA A (B k) k 37 = va_cpy (un1 A k) (A 37) 0 0 1080 := rfl
  have g39 : oA A (B k) k 39 = va_cpy (un2 A k) (A 39) 0 0 1080 := rfl
  have g40 : oA A (B k) k 40 = va_cpy (un3 A k) (A 40) 0 0 1080 := rfl
  have g38 : oA A (B k) k 38 = va_cpy (un4 A k) (A 38) 0 0 1080 := rfl
  have g41 : oA A (B k) k 41 = va_cpy (un5 A k) (A 41) 0 0 258 := rfl
  refine ⟨⟨?_, ?_, ?_, ?_, fun d hd => by rw [e4 d hd]; exact s5 d hd, fun d hd => by rw [e6 d hd]; exact s6 d hd, fun d hd => by rw [e8 d hd]; exact s7 d hd, fun d hd => by rw [e9 d hd]; exact s8 d hd⟩, ⟨?_, ?_⟩, ?_, R4, fun d hd => by rw [f4 d hd, f6 d hd, f8 d hd, f9 d hd]; exact R5 d hd, k, al, B, pd, nt, by omega, hal, rfl, rfl, hK, hT, fun j hj => hR j (by omega)⟩
  · funext d
    rw [g37]
    by_cases hd : d < 1080
    · rw [cpy_in0 hd, e4 d hd, (hu d hd).1]
    · rw [cpy_out (by omega), f4 d (by omega), t1]
  · funext d
    rw [g38]
    by_cases hd : d < 1080
    · rw [cpy_in0 hd, e9 d hd, (hu d hd).2.2.2]
    · rw [cpy_out (by omega), f9 d (by omega), t2]
  · funext d
    rw [g39]
    by_cases hd : d < 1080
    · rw [cpy_in0 hd, e6 d hd, (hu d hd).2.1]
    · rw [cpy_out (by omega), f6 d (by omega), t3]
  · funext d
    rw [g40]
    by_cases hd : d < 1080
    · rw [cpy_in0 hd, e8 d hd, (hu d hd).2.2.1]
    · rw [cpy_out (by omega), f8 d (by omega), t4]
  · show A 52 k = pd k
    rw [r12, r8]
  · show pd k = 0 ∨ pd k = 1
    rw [r8]; exact r2.2
  · refine Rr_congr r3 (fun i hi => ?_) (fun i hi => ?_) (fun i hi => ?_) (fun i hi => ?_) ?_
    · obtain ⟨w1, w2, w3, w4, w5⟩ := r5 i hi
      rw [← w1, ← w2, ← w3, ← w4, ← w5]
      exact ⟨cpyG (by decide) (by decide) (n := 6) (by decide +kernel) hi, cpyG (by decide) (by decide) (n := 6) (by decide +kernel) hi, cpyG (by decide) (by decide) (n := 6) (by decide +kernel) hi, cpyG (by decide) (by decide) (n := 6) (by decide +kernel) hi, cpyG (by decide) (by decide) (n := 6) (by decide +kernel) hi⟩
    · rw [← r6 i hi]
      exact cpyG (by decide) (by decide) (n := 18) (by decide +kernel) hi
    · rw [← r7 i hi]
      exact cpyG (by decide) (by decide) (n := 36) (by decide +kernel) hi
    · rw [g41, cpy_in0 hi]
      exact r11 i hi
    · show nt k = _
      exact r9
set_option maxRecDepth 100000 in
set_option maxHeartbeats 4000000 in
theorem pr_undo (R : RI A V K T) : PRQ z_L_undo z_M_undo [.ref 1] [.ref 36, .null, .null] L xs A V K T := by
  obtain ⟨R1, R2, R3, R4, R5, c, al, B, pd, nt, hca, hal, hv1, hv2, hK, hT, hR⟩ := R
  cases c with
  | zero =>
    refine ⟨(-1), A, V, K, T, A, V, sg_L_undo_0 (iteP ?_ ⟨rfl, rfl⟩), sg_M_undo_0 (iteP ?_ ⟨rfl, rfl⟩), R1, R2, R3, R4, R5, 0, al, B, pd, nt, hca, hal, hv1, hv2, hK, hT, hR⟩
    · rw [hv1]; decide
    · rw [hv2]; rfl
  | succ k =>
    have hk8 : k < 8 := by omega
    have hRI := RI_undo (V := V) (K := K) (T := T) R1 R4 R5 (show k < al by omega) hal hK hT hR
    obtain ⟨A0, V0, r1, r2, r3, r4, r5, r6, r7, r8, r9, r10, r11, r12⟩ := hR k (by omega)
    have hpd : pd k = 0 ∨ pd k = 1 := by rw [r8]; exact r2.2
    have h52 : A 52 k = 0 ∨ A 52 k = 1 := by rw [r12]; exact r2.2
    obtain ⟨Q, hQ⟩ := stT_split (B := B) (pd := pd) (nt := nt) (c := k) al (by omega)
    have q1 := hQ B pd nt (fun k _ => ⟨rfl, rfl, rfl⟩)
    have hKc : K k = some (16 * k + 53) := by rw [hK k hk8, if_pos (by omega), Nat.add_comm 53]
    have e1 := stT_len B pd nt k
    rw [← hT] at q1
    have cl : am_fin [(z_L_undo, 0, [.ref 1], [])] (hp L xs A V K T) (some (nI k)) (hp L xs (uA A (B k)) (upV (upV (upV V 1 2 (nI k)) 10 7 (nt k)) 2 5 (pd k)) K T) := by
      refine sg_L_undo_0 (iteN ?_ ?_)
      · rw [hv1, show (0 : Int32) = nI 0 from rfl, nI_leI (by omega) (by omega)]; omega
      · rw [hv1, nI_m1 (by omega), show k + 1 - 1 = k by omega]
        refine fn_aald (P := True) rl_L_undo_17 hp_18 (fun _ => ?_) ⟨nI_inb (by omega) hk8, trivial⟩
        rw [nI_clamp (by omega), hKc]
        refine fn_nonnull (x := 16 * k + 53) rl_L_undo_18 (sg_L_undo_23 ?_)
        rw [upV_same, hv1, nI_m1 (by omega), show k + 1 - 1 = k by omega]
        refine fn_aald (P := True) rl_L_undo_45 hp_18 (fun _ => ?_) ⟨nI_inb (by omega) hk8, trivial⟩
        rw [nI_clamp (by omega), hKc, q1]
        exact fn_virt (as := [.ref 2, .ref (16 * k + 53)]) (r := []) (ls' := [.ref 2, .ref (16 * k + 53)]) rl_L_undo_46 rfl hp_2 rfl rfl pl_S_copyFrom rfl rfl (am_fin.call (sc_S_copyFrom_f e1 ⟨hpd, rfl, rfl⟩) (sg_L_undo_49 ⟨rfl, rfl⟩))
    have k2 := M_undo_c (L := L) (xs := xs) (A := uA A (B k)) (V := upV (upV (upV V 1 2 (nI k)) 10 7 (nt k)) 2 5 (pd k)) (K := K) (T := T) k hk8 hv2 h52
    exact ⟨nI k, uA A (B k), upV (upV (upV V 1 2 (nI k)) 10 7 (nt k)) 2 5 (pd k), K, T, oA A (B k) k, oV V (pd k) (nt k) (A 52 k) k, cl, k2, hRI⟩
end
