/-! RUNS of the abstract machine are runs of the JVM -/
theorem am_br_all {o : ClassFile.Cond} {x y : Int32} {t f : Prop} (h1 : t) (h2 : f) : am_br o x y t f := by
  cases o <;> simp only [am_br] <;> split <;> assumption
theorem am_sw_all {d : Prop} {f : Nat → Prop} (h1 : d) (h2 : ∀ t, f t) (x : Int32) : ∀ (sw : List (Int32 × Nat)), am_sw sw d f x
  | [] => h1
  | (k, t) :: r => by
    simp only [am_sw]
    split
    · exact h2 t
    · exact am_sw_all h1 h2 x r
theorem am_cond_all {c : Bool} {t : Prop} (h : t) : bif c then t else True := by
  cases c
  · exact trivial
  · exact h
def am_gr (ls : List Value) (h : am_H) (ls' : List Value) (h2 : am_H) : Prop := ls'.length = ls.length ∧ h.length ≤ h2.length ∧ am_slots h ≤ am_slots h2 ∧ ∀ c, h[0]? = some c → h2[0]? = some c
theorem am_gr_id (ls : List Value) (h : am_H) : am_gr ls h ls h := ⟨rfl, Nat.le_refl _, Nat.le_refl _, fun _ h => h⟩
theorem am_gr_ls (ls : List Value) (h : am_H) (i : Nat) (v : Value) : am_gr ls h (ls.set i v) h := ⟨by simp, Nat.le_refl _, Nat.le_refl _, fun _ h => h⟩
theorem am_gr_set {ls : List Value} {h : am_H} {k : Nat} {c c' : am_C} (e : h[k + 1]? = some c) (hz : am_csz c' = am_csz c) : am_gr ls h ls (h.set (k + 1) c') := ⟨rfl, by rw [List.length_set]; exact Nat.le_refl _, by rw [am_slots_set e hz]; exact Nat.le_refl _, fun _ h => by rw [List.getElem?_set_ne (by omega)]; exact h⟩
theorem am_gr_push (ls : List Value) (h : am_H) (c : am_C) : am_gr ls h ls (h ++ [c]) := ⟨rfl, by rw [List.length_append]; omega, by rw [am_slots_push]; omega, fun _ e => by rw [List.getElem?_append_left (List.getElem?_eq_some_iff.mp e).1]; exact e⟩
set_option maxHeartbeats 4000000 in
theorem am_step_gr (e : am_E) (ls st : List Value) (h : am_H) : am_stepK e ls st h True (fun _ ls' _ h2 => am_gr ls h ls' h2) (fun _ => True) (fun _ _ _ => True) := by
  obtain ⟨i, nx, a, b, d, q, c, sw⟩ := e
  cases i <;> simp only [am_stepK] <;> (repeat' (first
    | exact trivial
    | exact am_gr_id ls h
    | exact am_gr_push ls h _
    | exact am_cond_all (am_gr_ls ls h _ _)
    | exact am_cond_all (am_gr_id ls h)
    | exact am_cond_all trivial
    | exact am_br_all (am_gr_id ls h) (am_gr_id ls h)
    | exact am_sw_all (am_gr_id ls h) (fun _ => am_gr_id ls h) _ _
    | (refine am_gr_set (by assumption) ?_; rfl)
    | (refine am_cond_all (am_gr_set (by assumption) ?_); first | rfl | simp [am_csz])
    | split))
theorem am_step_grow {e : am_E} {ls st ls' st' : List Value} {h h2 : am_H} {pc' : Nat} (hs : am_step e ls st h = some (.inl (pc', ls', st', h2))) : am_gr ls h ls' h2 := by
  have := am_step_gr e ls st h
  rw [am_stepK_eq, hs] at this
  exact this
theorem am_run_grow (pg : Nat → am_M) : ∀ (n z pc : Nat) (ls st : List Value) (h : am_H) (v : Option Int32) (h' : am_H), am_run pg n z pc ls st h = some (v, h') → h.length ≤ h'.length ∧ am_slots h ≤ am_slots h' ∧ ∀ c, h[0]? = some c → h'[0]? = some c
  | 0, _, _, _, _, _, _, _, hr => by cases hr
  | n + 1, z, pc, ls, st, h, v, h', hr => by
    unfold am_run at hr
    cases he : (pg z).2 pc with
    | none => rw [he] at hr; cases hr
    | some e =>
      rw [he] at hr
      dsimp only at hr
      cases hs : am_step e ls st h with
      | none => rw [hs] at hr; cases hr
      | some x =>
        rw [hs] at hr
        match x, hs, hr with
        | .inl (pc', ls', st', h2), hs, hr =>
          have g := am_step_grow hs
          have ih := am_run_grow pg n z pc' ls' st' h2 v h' hr
          exact ⟨Nat.le_trans g.2.1 ih.1, Nat.le_trans g.2.2.1 ih.2.1, fun c hc => ih.2.2 c (g.2.2.2 c hc)⟩
        | .inr (.inl v'), hs, hr =>
          cases hr
          exact ⟨Nat.le_refl _, Nat.le_refl _, fun _ h => h⟩
        | .inr (.inr (z', as, r)), hs, hr =>
          dsimp only at hr
          cases hb : Nat.ble (am_sl as).length (pg z').1 with
          | false => rw [hb] at hr; cases hr
          | true =>
            rw [hb] at hr
            dsimp only [cond_true] at hr
            cases hc : am_run pg n z' 0 (am_en as (pg z').1) [] h with
            | none => rw [hc] at hr; cases hr
            | some w =>
              obtain ⟨v1, h1⟩ := w
              rw [hc] at hr
              have i1 := am_run_grow pg n z' _ _ _ _ _ _ hc
              have i2 := am_run_grow pg n z _ _ _ _ _ _ hr
              exact ⟨Nat.le_trans i1.1 i2.1, Nat.le_trans i1.2.1 i2.2.1, fun c hc => i2.2.2 c (i1.2.2 c hc)⟩
def am_end (z pc : Nat) (v : Option Int32) : Prop := match v with
  | some x => decode (am_mb z) pc = .ok (.ireturn, 1) ∧ (am_mr z = some .int ∨ (am_mr z = some .boolean ∧ (x = 0 ∨ x = 1)))
  | none => decode (am_mb z) pc = .ok (.return_, 1) ∧ am_mr z = none
set_option maxHeartbeats 4000000 in
theorem am_ret_ok {pg : Nat → am_M} {z pc : Nat} {e : am_E} {ls st : List Value} {h : am_H} {v : Option Int32} (hck : am_chk pg z pc e = true) (hs : am_step e ls st h = some (.inr (.inl v))) : am_end z pc v ∧ st = am_pv v [] := by
  have key : am_stepK e ls st h True (fun _ _ _ _ => True) (fun v => am_end z pc v ∧ st = am_pv v []) (fun _ _ _ => True) := by
    obtain ⟨i, nx, a, b, d, q, c, sw⟩ := e
    cases i
    case ireturn =>
      obtain ⟨h1, h2⟩ := of_decide_eq_true hck
      simp only [am_stepK]
      split
      · rename_i x
        cases hp : am_pf d (.int x) with
        | false => exact trivial
        | true =>
          refine ⟨⟨h1, ?_⟩, rfl⟩
          rcases h2 with ⟨rfl, h2⟩ | ⟨rfl, h2⟩
          · exact Or.inl h2
          · refine Or.inr ⟨h2, ?_⟩
            simpa [am_pf] using hp
      · exact trivial
    case return_ =>
      obtain ⟨h1, h2⟩ := of_decide_eq_true hck
      simp only [am_stepK]
      split
      · exact ⟨⟨h1, h2⟩, rfl⟩
      · exact trivial
    all_goals
      simp only [am_stepK]
      repeat' (first
        | exact trivial
        | exact am_cond_all trivial
        | exact am_br_all trivial trivial
        | exact am_sw_all trivial (fun _ => trivial) _ _
        | split)
  rw [am_stepK_eq, hs] at key
  exact key
def am_ci (e : am_E) (st : List Value) (h : am_H) (z' : Nat) (as r : List Value) : Prop :=
  (∃ (n nx b d q : Nat) (c : Int32) (sw : List (Int32 × Nat)) (o : Nat) (fs : List Value), e = (.invokevirtual n, nx, z', b, d, q, c, sw) ∧ st.drop b = .ref (o + 1) :: r ∧ h[o + 1]? = some (.inr (d, fs)) ∧ am_cat8 r = true ∧ as = .ref (o + 1) :: (st.take b).reverse) ∨
  (∃ (n nx b q : Nat) (c : Int32) (sw : List (Int32 × Nat)) (o : Nat), e = (.invokespecial n, nx, z', b, 0, q, c, sw) ∧ st.drop b = .ref (o + 1) :: r ∧ am_cat8 r = true ∧ as = .ref (o + 1) :: (st.take b).reverse) ∨
  (∃ (n nx b q : Nat) (c : Int32) (sw : List (Int32 × Nat)), e = (.invokestatic n, nx, z', b, 0, q, c, sw) ∧ st.drop b = r ∧ Nat.ble b st.length = true ∧ am_cat8 r = true ∧ as = (st.take b).reverse)
set_option maxHeartbeats 4000000 in
theorem am_call_info {e : am_E} {ls st as r : List Value} {h : am_H} {z' : Nat} (hs : am_step e ls st h = some (.inr (.inr (z', as, r)))) : am_ci e st h z' as r := by
  have key : am_stepK e ls st h True (fun _ _ _ _ => True) (fun _ => True) (fun z' as r => am_ci e st h z' as r) := by
    obtain ⟨i, nx, a, b, d, q, c, sw⟩ := e
    cases i
    case invokevirtual n =>
      simp only [am_stepK]
      split
      · rename_i o r0 hst
        split
        · rename_i ci fs hoo
          cases hbo : (Nat.beq ci d && am_cat8 r0) with
          | false => exact trivial
          | true =>
            obtain ⟨h1, h2⟩ := Bool.and_eq_true_iff.mp hbo
            have h1 := Nat.eq_of_beq_eq_true h1
            subst h1
            exact Or.inl ⟨n, nx, b, ci, q, c, sw, o, fs, rfl, hst, hoo, h2, rfl⟩
        · exact trivial
      · exact trivial
    case invokespecial n =>
      simp only [am_stepK]
      split
      · split
        · rename_i o r0 hst
          cases hbo : am_cat8 r0 with
          | false => exact trivial
          | true => exact Or.inr (Or.inl ⟨n, nx, b, q, c, sw, o, rfl, hst, hbo, rfl⟩)
        · exact trivial
      · split
        · exact am_cond_all trivial
        · exact trivial
    case invokestatic n =>
      simp only [am_stepK]
      split
      · cases hbo : (Nat.ble b st.length && am_cat8 (st.drop b)) with
        | false => exact trivial
        | true =>
          obtain ⟨h1, h2⟩ := Bool.and_eq_true_iff.mp hbo
          exact Or.inr (Or.inr ⟨n, nx, b, q, c, sw, rfl, rfl, h1, h2, rfl⟩)
      all_goals
        repeat' (first
          | exact trivial
          | exact am_cond_all trivial
          | split)
    all_goals
      simp only [am_stepK]
      repeat' (first
        | exact trivial
        | exact am_cond_all trivial
        | exact am_br_all trivial trivial
        | exact am_sw_all trivial (fun _ => trivial) _ _
        | split)
  rw [am_stepK_eq, hs] at key
  exact key
