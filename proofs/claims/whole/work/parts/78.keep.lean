/-- a kept state behind copyFrom(now) -/
def kB (A B : Nat → Nat → Int32) : Nat → Nat → Int32 := (upA (upA (upA (upA (upA (upA (upA (upA (upA (upA (upA B 0 (va_cpy (A 4) (B 0) (0 : Int32).toNatClampNeg (0 : Int32).toNatClampNeg (1080 : Int32).toNatClampNeg)) 1 (va_cpy (A 6) (B 1) (0 : Int32).toNatClampNeg (0 : Int32).toNatClampNeg (1080 : Int32).toNatClampNeg)) 2 (va_cpy (A 8) (B 2) (0 : Int32).toNatClampNeg (0 : Int32).toNatClampNeg (1080 : Int32).toNatClampNeg)) 3 (va_cpy (A 9) (B 3) (0 : Int32).toNatClampNeg (0 : Int32).toNatClampNeg (1080 : Int32).toNatClampNeg)) 4 (va_cpy (A 11) (B 4) (0 : Int32).toNatClampNeg (0 : Int32).toNatClampNeg (6 : Int32).toNatClampNeg)) 5 (va_cpy (A 12) (B 5) (0 : Int32).toNatClampNeg (0 : Int32).toNatClampNeg (6 : Int32).toNatClampNeg)) 6 (va_cpy (A 13) (B 6) (0 : Int32).toNatClampNeg (0 : Int32).toNatClampNeg (18 : Int32).toNatClampNeg)) 7 (va_cpy (A 14) (B 7) (0 : Int32).toNatClampNeg (0 : Int32).toNatClampNeg (6 : Int32).toNatClampNeg)) 8 (va_cpy (A 15) (B 8) (0 : Int32).toNatClampNeg (0 : Int32).toNatClampNeg (6 : Int32).toNatClampNeg)) 9 (va_cpy (A 16) (B 9) (0 : Int32).toNatClampNeg (0 : Int32).toNatClampNeg (6 : Int32).toNatClampNeg)) 10 (va_cpy (A 17) (B 10) (0 : Int32).toNatClampNeg (0 : Int32).toNatClampNeg (36 : Int32).toNatClampNeg))
/-- now behind copyFrom(a kept state) -/
def uA (A B : Nat → Nat → Int32) : Nat → Nat → Int32 := (upA (upA (upA (upA (upA (upA (upA (upA (upA (upA (upA A 4 (va_cpy (B 0) (A 4) (0 : Int32).toNatClampNeg (0 : Int32).toNatClampNeg (1080 : Int32).toNatClampNeg)) 6 (va_cpy (B 1) (A 6) (0 : Int32).toNatClampNeg (0 : Int32).toNatClampNeg (1080 : Int32).toNatClampNeg)) 8 (va_cpy (B 2) (A 8) (0 : Int32).toNatClampNeg (0 : Int32).toNatClampNeg (1080 : Int32).toNatClampNeg)) 9 (va_cpy (B 3) (A 9) (0 : Int32).toNatClampNeg (0 : Int32).toNatClampNeg (1080 : Int32).toNatClampNeg)) 11 (va_cpy (B 4) (A 11) (0 : Int32).toNatClampNeg (0 : Int32).toNatClampNeg (6 : Int32).toNatClampNeg)) 12 (va_cpy (B 5) (A 12) (0 : Int32).toNatClampNeg (0 : Int32).toNatClampNeg (6 : Int32).toNatClampNeg)) 13 (va_cpy (B 6) (A 13) (0 : Int32).toNatClampNeg (0 : Int32).toNatClampNeg (18 : Int32).toNatClampNeg)) 14 (va_cpy (B 7) (A 14) (0 : Int32).toNatClampNeg (0 : Int32).toNatClampNeg (6 : Int32).toNatClampNeg)) 15 (va_cpy (B 8) (A 15) (0 : Int32).toNatClampNeg (0 : Int32).toNatClampNeg (6 : Int32).toNatClampNeg)) 16 (va_cpy (B 9) (A 16) (0 : Int32).toNatClampNeg (0 : Int32).toNatClampNeg (6 : Int32).toNatClampNeg)) 17 (va_cpy (B 10) (A 17) (0 : Int32).toNatClampNeg (0 : Int32).toNatClampNeg (36 : Int32).toNatClampNeg))
def stB0 : Nat → Nat → Int32 := fun i => match i with
  | 0 => fl (fun _ => 0) 0 1080 (-1)
  | 1 => fl (fun _ => 0) 0 1080 (-1)
  | 2 => fl (fun _ => 0) 0 1080 (-1)
  | 9 => fl (fun _ => 0) 0 6 1828
  | 10 => fl (fun _ => 0) 0 36 (-1)
  | _ => fun _ => 0
theorem stT_len (B : Nat → Nat → Nat → Int32) (pd nt : Nat → Int32) : ∀ n, (stT B pd nt n).length = 16 * n
  | 0 => rfl
  | n + 1 => by
    rw [stT, List.length_append, stT_len B pd nt n]
    show 16 * n + 16 = _
    omega
theorem stT_congr {B B' : Nat → Nat → Nat → Int32} {pd pd' nt nt' : Nat → Int32} : ∀ n, (∀ k, k < n → B' k = B k ∧ pd' k = pd k ∧ nt' k = nt k) → stT B' pd' nt' n = stT B pd nt n
  | 0, _ => rfl
  | n + 1, h => by
    obtain ⟨h1, h2, h3⟩ := h n (by omega)
    rw [stT, stT, stT_congr n (fun k hk => h k (by omega)), h1, h2, h3]
theorem stT_split {B : Nat → Nat → Nat → Int32} {pd nt : Nat → Int32} {c : Nat} : ∀ al, c < al → ∃ Q, ∀ (B' : Nat → Nat → Nat → Int32) (pd' nt' : Nat → Int32), (∀ k, k ≠ c → B' k = B k ∧ pd' k = pd k ∧ nt' k = nt k) → stT B' pd' nt' al = stT B pd nt c ++ (stc (16 * c + 53) (B' c) (pd' c) (nt' c) ++ Q)
  | 0, h => absurd h (by omega)
  | al + 1, h => by
    by_cases hc : c = al
    · subst hc
      refine ⟨[], fun B' pd' nt' e => ?_⟩
      rw [stT, stT_congr c (fun k hk => e k (by omega)), List.append_nil, Nat.add_comm 53]
    · obtain ⟨Q, hQ⟩ := stT_split (B := B) (pd := pd) (nt := nt) (c := c) al (by omega)
      refine ⟨Q ++ stc (53 + 16 * al) (B al) (pd al) (nt al), fun B' pd' nt' e => ?_⟩
      obtain ⟨h1, h2, h3⟩ := e al (fun x => hc x.symm)
      rw [stT, hQ B' pd' nt' e, h1, h2, h3, List.append_assoc, List.append_assoc]
theorem cpyG {f g : Nat → Int32} {a b N n d : Nat} (ha : a = 0) (hb : b = 0) (hN : N = n) (hd : d < n) : va_cpy f g a b N d = f d := by
  subst ha hb hN
  exact cpy_in0 hd
theorem cpyO {f g : Nat → Int32} {a b N n d : Nat} (ha : a = 0) (hb : b = 0) (hN : N = n) (hd : n ≤ d) : va_cpy f g a b N d = g d := by
  subst ha hb hN
  exact cpy_out (by omega)
theorem hps_18 {L : Nat} {xs : Nat → Int32} {A V : Nat → Nat → Int32} {K K' : Nat → Option Nat} {T : am_H} : (hp L xs A V K T).set 18 (.inl (3, 8, .inr (.inr (.inr (.inr K'))))) = hp L xs A V K' T := rfl
section
variable {L : Nat} {xs : Nat → Int32} {A V : Nat → Nat → Int32} {K : Nat → Option Nat} {T : am_H}
set_option maxRecDepth 100000 in
set_option maxHeartbeats 4000000 in
theorem L_keep39 {T1 Q : am_H} {B : Nat → Nat → Int32} {pd nt : Int32} (c : Nat) (hc : c < 8) (e1 : T1.length = 16 * c) (hK : K c = some (16 * c + 53)) (hv : V 1 2 = nI c) (hb : V 2 5 = 0 ∨ V 2 5 = 1) : am_fin [(z_L_keep, 39, [.ref 1], [])] (hp L xs A V K (T1 ++ (stc (16 * c + 53) B pd nt ++ Q))) (some (nI (c + 1))) (hp L xs A (upV V 1 2 (nI (c + 1))) K (T1 ++ (stc (16 * c + 53) (kB A B) (V 2 5) (V 10 7) ++ Q))) := by
  refine sg_L_keep_39 ?_
  rw [hv]
  refine fn_aald (P := True) rl_L_keep_47 hp_18 (fun _ => ?_) ⟨nI_inb (by omega) hc, trivial⟩
  rw [nI_clamp (by omega), hK]
  show am_fin [(z_L_keep, 48, [.ref 1], [.ref (16 * c + 53)])] _ _ _
  refine fn_aload_n rl_L_keep_48 rfl (fn_get rl_L_keep_49 hp_1 rfl (fn_virt (as := [.ref (16 * c + 53), .ref 2]) (r := []) (ls' := [.ref (16 * c + 53), .ref 2]) rl_L_keep_52 rfl (ht e1 0 rfl) rfl rfl pl_S_copyFrom rfl rfl (am_fin.call (sc_S_copyFrom_t e1 ⟨hb, rfl, rfl⟩) (sg_L_keep_55 ⟨?_, ?_⟩))))
  · rw [upV_same, hv, nI_1]
  · rw [hv, nI_1]
    rfl
set_option maxRecDepth 100000 in
set_option maxHeartbeats 4000000 in
theorem L_keep_cls {B : Nat → Nat → Nat → Int32} {pd nt : Nat → Int32} (c al : Nat) (hca : c ≤ al) (hal : al ≤ 8) (hc : c < 8) (hv : V 1 2 = nI c) (hK : ∀ k, k < 8 → K k = if k < al then some (53 + 16 * k) else none) : ∃ (K1 : Nat → Option Nat) (al1 : Nat) (B1 : Nat → Nat → Nat → Int32) (pd1 nt1 : Nat → Int32), c < al1 ∧ al1 ≤ 8 ∧ (∀ k, k < 8 → K1 k = if k < al1 then some (53 + 16 * k) else none) ∧ (∀ k, k < c → B1 k = B k ∧ pd1 k = pd k ∧ nt1 k = nt k) ∧ ∀ {v : Option Int32} {h' : am_H}, am_fin [(z_L_keep, 39, [.ref 1], [])] (hp L xs A V K1 (stT B1 pd1 nt1 al1)) v h' → am_fin [(z_L_keep, 0, [.ref 1], [])] (hp L xs A V K (stT B pd nt al)) v h' := by
  have h8 : V 1 2 < 8 := by rw [hv, show (8 : Int32) = nI 8 from rfl, nI_ltI (by omega) (by omega)]; exact hc
  by_cases hcl : c < al
  · refine ⟨K, al, B, pd, nt, hcl, hal, hK, fun k _ => ⟨rfl, rfl, rfl⟩, fun {v h'} k => ?_⟩
    refine sg_L_keep_0 (iteP h8 ?_)
    rw [hv]
    refine fn_aald (P := True) rl_L_keep_19 hp_18 (fun _ => ?_) ⟨nI_inb (by omega) hc, trivial⟩
    rw [nI_clamp (by omega), hK c hc, if_pos hcl]
    exact fn_nonnull rl_L_keep_20 k
  · have hce : c = al := by omega
    subst hce
    have e1 := stT_len B pd nt c
    refine ⟨va_up K c (some (16 * c + 53)), c + 1, (fun k => if k = c then stB0 else B k), (fun k => if k = c then 0 else pd k), (fun k => if k = c then 0 else nt k), by omega, by omega, fun k hk => ?_, fun k hk => ⟨if_neg (by omega), if_neg (by omega), if_neg (by omega)⟩, fun {v h'} k => ?_⟩
    · unfold va_up
      by_cases e : k = c
      · rw [if_pos e, if_pos (by omega), e, Nat.add_comm 53]
      · rw [if_neg e, hK k hk]
        by_cases h2 : k < c
        · rw [if_pos h2, if_pos (by omega)]
        · rw [if_neg h2, if_neg (by omega)]
    · refine sg_L_keep_0 (iteP h8 ?_)
      rw [hv]
      refine fn_aald (P := True) rl_L_keep_19 hp_18 (fun _ => ?_) ⟨nI_inb (by omega) hc, trivial⟩
      rw [nI_clamp (by omega), hK c hc, if_neg (by omega)]
      refine fn_null rl_L_keep_20 (sg_L_keep_23 ?_)
      rw [hv]
      refine fn_new (n := 16 * c + 53) rl_L_keep_31 (by rw [hp_len, e1]) rfl (fn_dup_ref rl_L_keep_34 (fn_spec (as := [.ref (16 * c + 53)]) (r := [.ref (16 * c + 53), .int (nI c), .ref 18]) (ls' := [.ref (16 * c + 53)]) rl_L_keep_35 rfl rfl rfl pl_S_init rfl rfl (am_fin.call (v1 := none) (h1 := hp L xs A V K (stT B pd nt c ++ (stc (16 * c + 53) stB0 0 0 ++ []))) (sc_S_init (m := 16 * c + 52) (by rw [hp_len, e1]) ⟨rfl, rfl⟩) ?_)))
      refine fn_aast (w := 16 * c + 52) (h2 := hp L xs A V (va_up K c (some (16 * c + 53))) (stT B pd nt c ++ (stc (16 * c + 53) stB0 0 0 ++ []))) rl_L_keep_38 hp_18 (ht e1 0 rfl) ?_ (nI_inb (by omega) hc) ?_
      · rw [nI_clamp (by omega)]
        rfl
      · rw [stT, stT_congr c (fun k hk => ⟨if_neg (by omega), if_neg (by omega), if_neg (by omega)⟩), if_pos rfl, if_pos rfl, if_pos rfl, Nat.add_comm 53] at k
        rw [List.append_nil]
        exact k
end
