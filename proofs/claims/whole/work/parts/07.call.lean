/-- a method's start and end -/
def am_Wd (D : va_G) (tc : Nat → ClassId) (B b L : Nat) (xs : Nat → Int32) (h : am_H) (U : State) : Prop :=
  U.heap.size = B + (h.length - 1) ∧ va_P D am_cl (am_ws B b tc h) U.heap ∧ va_D (fun q => B ≤ q) (am_ws B b tc h) ∧ va_K D am_cl (am_ty tc) U ∧ va_X b L xs U U.heap ∧ (∀ x ∈ am_ML, x.2.2.2.1 ≠ 0 → va_Nw (.methodLinkNest (am_cn x.1) x.2.1 (am_my x.2.2.1) "LivingDays") U) ∧ va_AO "LivingDays$State" U
def am_vo (v : Option Int32) : Option Value := match v with
  | some x => some (.int x)
  | none => none
def am_Qc (D : va_G) (tc : Nat → ClassId) (B b L : Nat) (xs : Nat → Int32) (v : Option Int32) (h1 : am_H) : Array Value → State → Outcome → State → Prop := fun _ st oc t => (oc = .returned (am_vo v) ∧ am_Wd D tc B b L xs h1 t) ∧ va_F (fun q => B ≤ q) st t
def am_Pc (D : va_G) (tc : Nat → ClassId) (B b L : Nat) (xs : Nat → Int32) (as : List Value) (h : am_H) : Array Value → State → Prop := va_Pc (as.map (am_rv B b)) (fun U => am_Wd D tc B b L xs h U)
theorem am_Wd.moved {D : va_G} {tc : Nat → ClassId} {B b L : Nat} {xs : Nat → Int32} {h : am_H} {u U : State} (hh : U.heap = u.heap) (hW : u.WarmedH U.vm) (X : am_Wd D tc B b L xs h u) : am_Wd D tc B b L xs h U := by
  obtain ⟨x1, x2, x3, x4, x5, x6, x7⟩ := X
  refine ⟨by rw [hh]; exact x1, by rw [hh]; exact x2, x3, va_K.moved hW.alike x4, ?_, fun x hx hn => va_Nw.warmM hW (x6 x hx hn), va_AO.moved hW.alike x7⟩
  rw [hh]
  exact va_X.moved hW.alike x5
theorem am_blind (D : va_G) (tc : Nat → ClassId) (B b L : Nat) (xs : Nat → Int32) (as : List Value) (h : am_H) : FrameBlind (am_Pc D tc B b L xs as h) := by
  intro a U g mk hq
  obtain ⟨q0, x1, x2, x3, x4, x5, x6, x7⟩ := hq
  exact ⟨q0, x1, x2, x3, va_K.moved (u := U) (U := U.calling g mk a) (Vm.Alike.refl U.vm) x4, va_X.moved (u := U) (U := U.calling g mk a) (Vm.Alike.refl U.vm) x5, fun x hx hn => va_Nw.same rfl (u := U) (U := U.calling g mk a) rfl (x6 x hx hn), va_AO.moved (u := U) (U := U.calling g mk a) (Vm.Alike.refl U.vm) x7⟩
/-- behind a call -/
theorem am_back {p : Program} {l : Launch} {ev : Env} {R : Room} {s : State} {m : MethodId} {args : Array Value} {below : List Frame} {meth : Method} {c : Code} {H : Heap} {locs : List Loc} {cells slots mc ms : Nat} {Q : State → Prop} {D : va_G} {tc : Nat → ClassId} {B b L : Nat} {xs : Nat → Int32} {pc : Nat} {la : Array Slot} {st0 rest : List Value} {a : Array Value} {v : Option Int32} {h1 : am_H}
    (hr : va_Run p l ev R s m args below meth c H locs cells slots mc ms (F0 m pc la st0) rest (am_Qc D tc B b L xs v h1 a) (fun q => B ≤ q)) (hS : va_S (fun q => B ≤ q) s.heap H locs)
    (kk : ∀ (H1 : Heap) (locs1 : List Loc), va_P D am_cl (am_ws B b tc h1) H1 → va_D (fun q => B ≤ q) (am_ws B b tc h1) → va_S (fun q => B ≤ q) s.heap H1 locs1 → W p l ev R s m args below meth c H1 locs1 (cells + mc) (slots + ms) Q (F0 m (pc + 3) la ((am_vo v).toList ++ rest))) : W p l ev R s m args below meth c H locs cells slots Q (F0 m pc la st0) := by
  intro T hT X
  obtain ⟨v', st₀, t, T', L', h0, X', hL, e1, e2, ⟨⟨hv, -, hP1, hD1, -⟩, hz, hk⟩, st⟩ := hr T hT X
  cases hv
  rw [h0] at hz hk
  obtain ⟨t2, a1, b1⟩ := kk T'.heap (locs ++ L') (by rw [e1]; exact hP1) hD1
    ⟨Nat.le_trans hS.1 (by rw [e1]; exact hz), fun q h1 h2 => by rw [e1, hk q (Nat.lt_of_lt_of_le h1 hS.1) h2]; exact hS.2.1 q h1 h2, fun q hq => by
      rcases List.mem_append.mp hq with h | h
      · exact hS.2.2 q h
      · exact hL q h⟩ T' rfl X'
  exact ⟨t2, st t2 a1, b1⟩
abbrev am_wz (z : Nat) : List Cond := Cond.code (am_my z) (am_mb z) (am_ml z) (am_mr z) :: am_tb
theorem am_wz_good {z : Nat} (h : z < am_law) : GoodIn am_tb (am_wz z) := by
  intro w hw
  rcases List.mem_cons.mp hw with rfl | hw
  · exact ⟨am_in (am_mw_ok z h).1 rfl, good_of_word rfl⟩
  · exact am_tb_good w hw
theorem am_takes {B b n : Nat} {st : List Value} (h : Nat.ble n st.length = true) : ((st.take n).reverse.map (am_rv B b)).length = n := by
  have := Nat.le_of_ble_eq_true h
  simp
  omega
theorem am_stk {B b n : Nat} {st r : List Value} (h : st.drop n = r) : st.map (am_rv B b) = ((st.take n).reverse.map (am_rv B b)).reverse ++ r.map (am_rv B b) := by
  subst h
  rw [List.map_reverse, List.reverse_reverse, ← List.map_append, List.take_append_drop]
theorem am_r8 {B b : Nat} {r : List Value} (h : am_cat8 r = true) : (List.map (fun v : Value => v.category) (r.map (am_rv B b))).sum ≤ 8 := by
  have := Nat.le_of_ble_eq_true h
  rw [List.map_map]
  rw [show ((fun v : Value => v.category) ∘ am_rv B b) = (fun v => v.category) from funext (fun v => am_cat B b v)]
  exact this
set_option maxRecDepth 100000 in
set_option maxHeartbeats 4000000 in
/-- a call, by the callee's contract -/
theorem am_call {D : va_G} {tc : Nat → ClassId} {B b L : Nat} {xs : Nat → Int32} {pg : Nat → am_M} {z pc z' : Nat} {e : am_E} {ls st as r : List Value} {h h1 : am_H} {v : Option Int32} {p : Program} {l : Launch} {ev : Env} {R : Room} {s : State} {m : MethodId} {args : Array Value} {below : List Frame} {meth : Method} {c : Code} {H : Heap} {locs : List Loc} {cells slots mc ms : Nat} {Q : State → Prop} {la : Array Slot}
    (C : am_Ctx D tc B b L xs z p R s m args meth c) (hck : am_chk pg z pc e = true) (hs : am_ci e st h z' as r) (hml : c.maxLocals = ls.length) (X : am_Wo D tc B b L xs s.heap h H locs la ls) (hH : H.size = B + (h.length - 1))
    (hM : z' < am_law → am_ml z' = (pg z').1 → Met l (am_my z') (am_wz z') ({ frames := am_fr z', cells := mc, slots := ms, locals := am_lo z' }) (am_Pc D tc B b L xs as h) (am_Qc D tc B b L xs v h1) mc ms (fun q => B ≤ q)) (hroom : cells + mc ≤ R.cells ∧ slots + ms ≤ R.slots)
    (kk : ∀ (H1 : Heap) (locs1 : List Loc), va_P D am_cl (am_ws B b tc h1) H1 → va_D (fun q => B ≤ q) (am_ws B b tc h1) → va_S (fun q => B ≤ q) s.heap H1 locs1 → W p l ev R s m args below meth c H1 locs1 (cells + mc) (slots + ms) Q (F0 m e.2.1 la ((am_vo v).toList ++ r.map (am_rv B b)))) :
    W p l ev R s m args below meth c H locs cells slots Q (F0 m pc la (st.map (am_rv B b))) := by
  obtain ⟨hx, hb, hown, hts, hnw, hao, hK, hX, hbB, hBs, hmn, hfr, hlo⟩ := C
  obtain ⟨hP, hD, hS, hLR, hsc⟩ := id X
  have hbl : b < s.heap.size := Nat.lt_of_lt_of_le hbB hBs
  have hbA : ¬ (fun q : Nat => B ≤ q) b := Nat.not_le.mpr hbB
  have hsz : la.size = ls.length := hLR.1
  have hpre : ∀ U : State, U.heap = H → s.WarmedH U.vm → am_Wd D tc B b L xs h U := fun U hU hW => by
    refine ⟨by rw [hU]; exact hH, by rw [hU]; exact hP, hD, va_K.moved hW.alike hK, ?_, fun x hx hn => va_Nw.warmM hW (hnw x hx hn), va_AO.moved hW.alike hao⟩
    rw [hU]
    exact va_X.moved hW.alike (hX.kept (hS.2.1 b hbl hbA))
  have fix : CallFix p m c (am_mb z) ls.length s args am_tb (am_cn (am_mo z)) := ⟨hx, hb, hml, hown, hts⟩
  have hlinks : ∀ (n q : Nat), (am_ML[q]?).map (fun x => (x.1, x.2.1, x.2.2.1)) = some (am_mo z, n, z') → z' < am_law ∧ ((Cond.methodLink (am_cn (am_mo z)) n (am_my z')).before args s = true ∨ va_Nw (.methodLinkNest (am_cn (am_mo z)) n (am_my z') "LivingDays") s) := by
    intro n q hv
    obtain ⟨⟨x1, x2, x3, x4, x5⟩, hm, he⟩ := am_map2 hv
    simp only [Prod.mk.injEq] at he
    obtain ⟨h1, h2, h3⟩ := he
    obtain ⟨hz, hlk⟩ := am_ML_ok _ hm
    have hnw' := hnw _ hm
    dsimp only at hz hlk hnw'
    rw [h1, h2, h3] at hlk hnw'
    rw [h3] at hz
    refine ⟨hz, ?_⟩
    cases hx4 : Nat.beq x4 0 with
    | true =>
      rw [hx4] at hlk
      exact Or.inl (hts _ (am_in hlk rfl))
    | false => exact Or.inr (hnw' (fun e => by rw [e] at hx4; cases hx4))
  rcases hs with ⟨n, nx, bb, d, q, cc, sw, o, fs, rfl, hst, hoo, h8, rfl⟩ | ⟨n, nx, bb, q, cc, sw, o, rfl, hst, h8, rfl⟩ | ⟨n, nx, bb, q, cc, sw, rfl, hst, hlt, h8, rfl⟩
  · obtain ⟨hd, rfl, hv, hna, hpl, hf, ho, hmk, hmo, hd10⟩ := of_decide_eq_true hck
    obtain ⟨hz, hlk⟩ := hlinks n q hv
    obtain ⟨w1, w2, w3, w4, w5, w6, w7, w8, w9, w10, w11⟩ := am_mw_ok z' hz
    have hlt : bb ≤ st.length := by
      have := congrArg List.length hst
      simp at this
      omega
    have hrc := va_recv hK hP (am_cl_at d hd10) (am_ws_get hoo)
    have hcls : am_cn d = (am_my z').cls := by rw [← hmo]; exact w3.symm
    have hg := hts _ (am_in w2 rfl)
    have hw9 := hts _ (am_in (w9 (fun e => absurd (e.symm.trans hmk) (by decide))) rfl)
    have hw10 := hts _ (am_in (w10 hmk) rfl)
    have hR : am_fr z' + 1 ≤ R.frames ∧ 8 + (am_ml z' + 11) + am_lo z' ≤ R.locals := ⟨by omega, by omega⟩
    have hlen : ((st.take bb).reverse.map (am_rv B b)).length = am_na z' := by rw [am_takes (Nat.ble_eq_true_of_le hlt)]; exact hna.symm
    have hp : PreV s H (am_my z').cls (B + o) (am_Pc D tc B b L xs (.ref (o + 1) :: (st.take bb).reverse) h) ((st.take bb).reverse.map (am_rv B b)) := ⟨am_blind D tc B b L xs _ h, by rw [← hcls]; exact hrc, fun U hU hW => ⟨rfl, hpre U hU hW⟩⟩
    rw [am_stk hst]
    rcases hlk with hlk | hlk
    · exact am_back (va_runV (C := (am_my z').cls) (n := am_na z') (As := (st.take bb).reverse.map (am_rv B b)) fix (hM hz hpl) ⟨callB_of (am_na z') hts (am_wz_good hz) rfl rfl rfl hg hlk ⟨w5, w6, w7⟩ hR, hw9, hw10⟩ hp rfl hlen hsz rfl (lv_room (am_r8 h8)) hd hroom) hS kk
    · exact am_back (va_runVN (C := (am_my z').cls) (n := am_na z') (As := (st.take bb).reverse.map (am_rv B b)) fix (hM hz hpl) ⟨va_cnB (am_na z') hts (am_wz_good hz) rfl rfl rfl hlk hg ⟨w5, w6, w7⟩ hR, hw9, hw10⟩ hp rfl hlen hsz rfl (lv_room (am_r8 h8)) hd hroom) hS kk
  · obtain ⟨hd, rfl, hv, hna, hpl, hf, ho, hmk⟩ := of_decide_eq_true hck
    obtain ⟨hz, hlk⟩ := hlinks n q hv
    obtain ⟨w1, w2, w3, w4, w5, w6, w7, w8, w9, w10, w11⟩ := am_mw_ok z' hz
    have hlt : bb ≤ st.length := by
      have := congrArg List.length hst
      simp at this
      omega
    have hg := hts _ (am_in w2 rfl)
    have hw9 := hts _ (am_in (w9 (fun e => absurd (e.symm.trans hmk) (by decide))) rfl)
    have hR : am_fr z' + 1 ≤ R.frames ∧ 8 + (am_ml z' + 11) + am_lo z' ≤ R.locals := ⟨by omega, by omega⟩
    have hlen : ((st.take bb).reverse.map (am_rv B b)).length = am_na z' := by rw [am_takes (Nat.ble_eq_true_of_le hlt)]; exact hna.symm
    have hp : PreS s H (am_Pc D tc B b L xs (.ref (o + 1) :: (st.take bb).reverse) h) (.ref (B + o) :: (st.take bb).reverse.map (am_rv B b)) := ⟨am_blind D tc B b L xs _ h, fun U hU hW => ⟨rfl, hpre U hU hW⟩⟩
    obtain ⟨g1, g2⟩ := w11 hmk
    have hM := hM hz hpl
    have hgood := am_wz_good hz
    unfold am_wz at hM hgood
    rw [show am_mr z' = none from g2] at hM hgood
    rw [am_stk hst]
    rcases hlk with hlk | hlk
    · exact am_back (va_runI (n := am_na z') (As := (st.take bb).reverse.map (am_rv B b)) fix hM (cwI (am_na z') hts hgood rfl rfl rfl hg hlk hw9 g1 ⟨w5, w6, w7⟩ hR) hp rfl hlen hsz rfl (lv_room (am_r8 h8)) hd hroom) hS kk
    · exact am_back (va_runIN (n := am_na z') (As := (st.take bb).reverse.map (am_rv B b)) fix hM ⟨va_cnB (am_na z') hts hgood rfl rfl rfl hlk hg ⟨w5, w6, w7⟩ hR, g1, hw9⟩ hp rfl hlen hsz rfl (lv_room (am_r8 h8)) hd hroom) hS kk
  · obtain ⟨hd, rfl, hv, hna, hpl, hf, ho, hmk⟩ := of_decide_eq_true hck
    obtain ⟨hz, hlk⟩ := hlinks n q hv
    obtain ⟨w1, w2, w3, w4, w5, w6, w7, w8, w9, w10, w11⟩ := am_mw_ok z' hz
    have hg := hts _ (am_in w2 rfl)
    have hw8 := hts _ (am_in (w8 hmk) rfl)
    have hR : am_fr z' + 1 ≤ R.frames ∧ 8 + (am_ml z' + 11) + am_lo z' ≤ R.locals := ⟨by omega, by omega⟩
    have hlen : ((st.take bb).reverse.map (am_rv B b)).length = am_na z' := by rw [am_takes hlt]; exact hna.symm
    have hp : PreS s H (am_Pc D tc B b L xs ((st.take bb).reverse) h) ((st.take bb).reverse.map (am_rv B b)) := ⟨am_blind D tc B b L xs _ h, fun U hU hW => ⟨rfl, hpre U hU hW⟩⟩
    rw [am_stk hst]
    rcases hlk with hlk | hlk
    · exact am_back (va_runS (n := am_na z') (As := (st.take bb).reverse.map (am_rv B b)) fix (hM hz hpl) ⟨callB_of (am_na z') hts (am_wz_good hz) rfl rfl rfl hg hlk ⟨w5, w6, w7⟩ hR, hw8⟩ hp rfl hlen hsz rfl (lv_room (am_r8 h8)) hd hroom) hS kk
    · exact am_back (va_runSN (n := am_na z') (As := (st.take bb).reverse.map (am_rv B b)) fix (hM hz hpl) ⟨va_cnB (am_na z') hts (am_wz_good hz) rfl rfl rfl hlk hg ⟨w5, w6, w7⟩ hR, hw8, trivial⟩ hp rfl hlen hsz rfl (lv_room (am_r8 h8)) hd hroom) hS kk
