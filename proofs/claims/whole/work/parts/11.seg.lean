/-! SEGMENTS: the abstract machine with its frames in a list, run to points that one chooses; what remains is told by am_fin -/
abbrev am_F : Type := Nat × Nat × List Value × List Value
def am_isc : List (Nat × Nat) → Nat → Nat → Bool
  | [], _, _ => false
  | (a, b) :: r, z, pc => bif Nat.beq a z && Nat.beq b pc then true else am_isc r z pc
abbrev am_O : Type := Option ((List am_F × am_H) ⊕ (Option Int32 × am_H))
def am_seg (cs : List (Nat × Nat)) : Nat → List am_F → am_H → am_O
  | 0, fs, h => some (.inl (fs, h))
  | _ + 1, [], _ => none
  | n + 1, (z, pc, ls, st) :: fs, h => match (am_pg z).2 pc with
    | none => none
    | some e => am_stepK e ls st h none
      (fun pc' ls' st' h' => bif am_isc cs z pc' then some (.inl ((z, pc', ls', st') :: fs, h')) else am_seg cs n ((z, pc', ls', st') :: fs) h')
      (fun v => match fs with
        | [] => some (.inr (v, h))
        | (z2, pc2, ls2, st2) :: fs2 => bif am_isc cs z2 pc2 then some (.inl ((z2, pc2, ls2, am_pv v st2) :: fs2, h)) else am_seg cs n ((z2, pc2, ls2, am_pv v st2) :: fs2) h)
      (fun z' as r => bif Nat.ble (am_sl as).length (am_pg z').1 then (bif am_isc cs z' 0 then some (.inl ((z', 0, am_en as (am_pg z').1, []) :: (z, e.2.1, ls, r) :: fs, h)) else am_seg cs n ((z', 0, am_en as (am_pg z').1, []) :: (z, e.2.1, ls, r) :: fs) h) else none)
def am_R (z pc : Nat) (ls st : List Value) (h : am_H) (v : Option Int32) (h' : am_H) : Prop := ∃ n, am_run am_pg n z pc ls st h = some (v, h')
def am_fin : List am_F → am_H → Option Int32 → am_H → Prop
  | [], _, _, _ => False
  | (z, pc, ls, st) :: fs, h, v, h' => match fs with
    | [] => am_R z pc ls st h v h'
    | (z2, pc2, ls2, st2) :: fs2 => ∃ v1 h1, am_R z pc ls st h v1 h1 ∧ am_fin ((z2, pc2, ls2, am_pv v1 st2) :: fs2) h1 v h'
termination_by fs => fs.length
theorem am_run_mono (pg : Nat → am_M) : ∀ (n k z pc : Nat) (ls st : List Value) (h : am_H) (r : Option Int32 × am_H), am_run pg n z pc ls st h = some r → am_run pg (n + k) z pc ls st h = some r
  | 0, k, _, _, _, _, _, _, hr => by cases hr
  | n + 1, k, z, pc, ls, st, h, r, hr => by
    rw [show n + 1 + k = (n + k) + 1 by omega]
    unfold am_run at hr ⊢
    cases he : (pg z).2 pc with
    | none => rw [he] at hr; cases hr
    | some e =>
      rw [he] at hr
      dsimp only at hr ⊢
      cases hs : am_step e ls st h with
      | none => rw [hs] at hr; cases hr
      | some x =>
        rw [hs] at hr
        match x, hs, hr with
        | .inl (pc', ls', st', h2), hs, hr => exact am_run_mono pg n k z pc' ls' st' h2 r hr
        | .inr (.inl v'), hs, hr => exact hr
        | .inr (.inr (z', as, r0)), hs, hr =>
          dsimp only at hr ⊢
          cases hb : Nat.ble (am_sl as).length (pg z').1 with
          | false => rw [hb] at hr; cases hr
          | true =>
            rw [hb] at hr
            dsimp only [cond_true] at hr ⊢
            cases hc : am_run pg n z' 0 (am_en as (pg z').1) [] h with
            | none => rw [hc] at hr; cases hr
            | some w =>
              rw [hc] at hr
              rw [am_run_mono pg n k z' 0 _ _ _ _ hc]
              exact am_run_mono pg n k z _ _ _ _ _ hr
theorem am_R.go {z pc pc' : Nat} {ls st ls' st' : List Value} {h h2 h' : am_H} {v : Option Int32} {e : am_E} (he : (am_pg z).2 pc = some e) (hs : am_step e ls st h = some (.inl (pc', ls', st', h2))) (k : am_R z pc' ls' st' h2 v h') : am_R z pc ls st h v h' := by
  obtain ⟨n, hn⟩ := k
  refine ⟨n + 1, ?_⟩
  unfold am_run
  rw [he]
  dsimp only
  rw [hs]
  exact hn
theorem am_R.rt {z pc : Nat} {ls st : List Value} {h : am_H} {v : Option Int32} {e : am_E} (he : (am_pg z).2 pc = some e) (hs : am_step e ls st h = some (.inr (.inl v))) : am_R z pc ls st h v h := by
  refine ⟨1, ?_⟩
  unfold am_run
  rw [he]
  dsimp only
  rw [hs]
theorem am_R.cl {z pc z' : Nat} {ls st as r : List Value} {h h1 h' : am_H} {v v1 : Option Int32} {e : am_E} (he : (am_pg z).2 pc = some e) (hs : am_step e ls st h = some (.inr (.inr (z', as, r)))) (hb : Nat.ble (am_sl as).length (am_pg z').1 = true) (k1 : am_R z' 0 (am_en as (am_pg z').1) [] h v1 h1) (k2 : am_R z e.2.1 ls (am_pv v1 r) h1 v h') : am_R z pc ls st h v h' := by
  obtain ⟨n1, hn1⟩ := k1
  obtain ⟨n2, hn2⟩ := k2
  refine ⟨n1 + n2 + 1, ?_⟩
  unfold am_run
  rw [he]
  dsimp only
  rw [hs]
  dsimp only
  rw [hb]
  dsimp only [cond_true]
  rw [am_run_mono am_pg n1 n2 z' 0 _ _ _ _ hn1]
  dsimp only
  rw [Nat.add_comm n1 n2]
  exact am_run_mono am_pg n2 n1 z _ _ _ _ _ hn2
/-- a change of the first frame alone -/
theorem am_fin.map {z pc z2 pc2 : Nat} {ls st ls2 st2 : List Value} {h h2 : am_H} (k : ∀ v1 h1, am_R z2 pc2 ls2 st2 h2 v1 h1 → am_R z pc ls st h v1 h1) : ∀ {fs : List am_F} {v : Option Int32} {h' : am_H}, am_fin ((z2, pc2, ls2, st2) :: fs) h2 v h' → am_fin ((z, pc, ls, st) :: fs) h v h' := by
  intro fs v h' H
  cases fs with
  | nil => unfold am_fin at H ⊢; exact k _ _ H
  | cons f fs =>
    obtain ⟨a, b, c, d⟩ := f
    unfold am_fin at H ⊢
    obtain ⟨v1, h1, p1, p2⟩ := H
    exact ⟨v1, h1, k _ _ p1, p2⟩
def am_tr (T : am_O) (v : Option Int32) (h' : am_H) : Prop := match T with
  | none => False
  | some (.inl (fs, h)) => am_fin fs h v h'
  | some (.inr (v1, h1)) => v1 = v ∧ h1 = h'
theorem am_fin_seg0 (cs : List (Nat × Nat)) : ∀ (n : Nat) (fs : List am_F) (h : am_H) (v : Option Int32) (h' : am_H), am_tr (am_seg cs n fs h) v h' → am_fin fs h v h'
  | 0, fs, h, v, h', H => H
  | n + 1, [], h, v, h', H => H.elim
  | n + 1, (z, pc, ls, st) :: fs, h, v, h', H => by
    unfold am_seg at H
    cases he : (am_pg z).2 pc with
    | none => rw [he] at H; exact H.elim
    | some e =>
      rw [he] at H
      dsimp only at H
      rw [am_stepK_eq] at H
      cases hs : am_step e ls st h with
      | none => rw [hs] at H; exact H.elim
      | some x =>
        rw [hs] at H
        match x, hs, H with
        | .inl (pc', ls', st', h2), hs, H =>
          dsimp only at H
          have H2 : am_fin ((z, pc', ls', st') :: fs) h2 v h' := by
            cases hb : am_isc cs z pc' with
            | true => rw [hb] at H; exact H
            | false => rw [hb] at H; exact am_fin_seg0 cs n _ _ _ _ H
          exact am_fin.map (fun v1 h1 k => k.go he hs) H2
        | .inr (.inl v'), hs, H =>
          cases fs with
          | nil =>
            obtain ⟨e1, e2⟩ := H
            subst e1; subst e2
            unfold am_fin
            exact am_R.rt he hs
          | cons f fs =>
            obtain ⟨z2, pc2, ls2, st2⟩ := f
            dsimp only at H
            unfold am_fin
            refine ⟨v', h, am_R.rt he hs, ?_⟩
            cases hb : am_isc cs z2 pc2 with
            | true => rw [hb] at H; exact H
            | false => rw [hb] at H; exact am_fin_seg0 cs n _ _ _ _ H
        | .inr (.inr (z', as, r)), hs, H =>
          dsimp only at H
          cases hbl : Nat.ble (am_sl as).length (am_pg z').1 with
          | false => rw [hbl] at H; exact H.elim
          | true =>
            rw [hbl] at H
            dsimp only [cond_true] at H
            have H2 : am_fin ((z', 0, am_en as (am_pg z').1, []) :: (z, e.2.1, ls, r) :: fs) h v h' := by
              cases hb : am_isc cs z' 0 with
              | true => rw [hb] at H; exact H
              | false => rw [hb] at H; exact am_fin_seg0 cs n _ _ _ _ H
            unfold am_fin at H2
            obtain ⟨v1, h1, k1, k2⟩ := H2
            exact am_fin.map (fun v2 h2 k => am_R.cl he hs hbl k1 k) k2
/-- how a printed segment is used -/
theorem am_fin.seg {cs : List (Nat × Nat)} {n : Nat} {fs : List am_F} {h : am_H} {T : am_O} {v : Option Int32} {h' : am_H} (e : am_seg cs n fs h = T) (k : am_tr T v h') : am_fin fs h v h' := am_fin_seg0 cs n fs h v h' (by rw [e]; exact k)
/-- a call whose contract is known -/
theorem am_fin.call {z pc : Nat} {ls st : List Value} {h h1 h' : am_H} {v v1 : Option Int32} {z2 pc2 : Nat} {ls2 st2 : List Value} {fs : List am_F} (k1 : am_fin [(z, pc, ls, st)] h v1 h1) (k2 : am_fin ((z2, pc2, ls2, am_pv v1 st2) :: fs) h1 v h') : am_fin ((z, pc, ls, st) :: (z2, pc2, ls2, st2) :: fs) h v h' := by
  unfold am_fin
  unfold am_fin at k1
  exact ⟨v1, h1, k1, k2⟩
theorem am_tr_ret {v : Option Int32} {h : am_H} : am_tr (some (.inr (v, h))) v h := ⟨rfl, rfl⟩
