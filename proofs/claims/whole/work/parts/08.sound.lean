theorem am_vo_pv (B b : Nat) (v : Option Int32) (r : List Value) : (am_vo v).toList ++ r.map (am_rv B b) = (am_pv v r).map (am_rv B b) := by
  cases v <;> rfl
set_option maxRecDepth 100000 in
set_option maxHeartbeats 4000000 in
/-- RUNS of the abstract machine are runs of the JVM -/
theorem am_sound {pg : Nat → am_M} (OK : ∀ (z pc : Nat) (e : am_E), (pg z).2 pc = some e → am_chk pg z pc e = true) {l : Launch} {D : va_G} {tc : Nat → ClassId} {B b L : Nat} {xs : Nat → Int32} :
    ∀ (n z pc : Nat) (ls st : List Value) (h : am_H) (v : Option Int32) (h' : am_H), am_run pg n z pc ls st h = some (v, h') →
    ∀ (p : Program) (ev : Env) (R : Room) (s : State) (m : MethodId) (args : Array Value) (below : List Frame) (meth : Method) (c : Code) (H : Heap) (locs : List Loc) (cells slots : Nat) (Q : State → Prop) (la : Array Slot),
    am_Ctx D tc B b L xs z p R s m args meth c → c.maxLocals = ls.length → am_Wo D tc B b L xs s.heap h H locs la ls → s.heap.size + cells = B + (h.length - 1) → cells + h'.length ≤ R.cells + h.length → slots + am_slots h' ≤ R.slots + am_slots h →
    (∀ (H2 : Heap) (locs2 : List Loc) (c2 s2 : Nat) (la2 : Array Slot) (pc2 : Nat) (ls2 : List Value), c2 + h.length = cells + h'.length → s2 + am_slots h = slots + am_slots h' → am_Wo D tc B b L xs s.heap h' H2 locs2 la2 ls2 → H2.size = B + (h'.length - 1) → am_end z pc2 v → W p l ev R s m args below meth c H2 locs2 c2 s2 Q (F0 m pc2 la2 (am_pv v []))) →
    W p l ev R s m args below meth c H locs cells slots Q (F0 m pc la (st.map (am_rv B b)))
  | 0, _, _, _, _, _, _, _, hr => by cases hr
  | n + 1, z, pc, ls, st, h, v, h', hr => by
    intro p ev R s m args below meth c H locs cells slots Q la C hml X hcnt hR1 hR2 hfin
    have hlen : 1 ≤ h.length := by have := (List.getElem?_eq_some_iff.mp X.2.2.2.2).1; omega
    have hBs : B ≤ s.heap.size := C.2.2.2.2.2.2.2.2.2.1
    have hsize : ∀ T : State, T.heap = H → Stand p l ev R s m args below meth c T locs cells slots → H.size = B + (h.length - 1) := fun T hT XT => by
      have h1 := XT.heapSize
      rw [hT] at h1
      have h2 := am_low X.1 (Nat.le_trans hBs X.2.2.1.1)
      omega
    unfold am_run at hr
    cases he : (pg z).2 pc with
    | none => rw [he] at hr; cases hr
    | some e =>
      rw [he] at hr
      dsimp only at hr
      have hck := OK z pc e he
      cases hs : am_step e ls st h with
      | none => rw [hs] at hr; cases hr
      | some x =>
        rw [hs] at hr
        match x, hs, hr with
        | .inl (pc', ls', st', h2), hs, hr =>
          have g := am_step_grow hs
          have g2 := am_run_grow pg n z pc' ls' st' h2 v h' hr
          have hll := g.1
          have hgl := g.2.1
          have hgs := g.2.2.1
          have hgr := g2.2.1
          refine am_one (l := l) C hck hs hml X hcnt (by omega) (by omega) (fun H2 locs2 c2 s2 la2 e1 e2 X2 => ?_)
          exact am_sound OK n z pc' ls' st' h2 v h' hr p ev R s m args below meth c H2 locs2 c2 s2 Q la2 C (by rw [hml, g.1]) X2 (by omega) (by omega) (by omega) (fun H3 locs3 c3 s3 la3 pc3 ls3 f1 f2 X3 f3 f4 => hfin H3 locs3 c3 s3 la3 pc3 ls3 (by omega) (by omega) X3 f3 f4)
        | .inr (.inl v'), hs, hr =>
          cases hr
          obtain ⟨g1, g2⟩ := am_ret_ok hck hs
          intro T hT XT
          have hst : st.map (am_rv B b) = am_pv v [] := by rw [g2]; cases v <;> rfl
          rw [hst]
          exact hfin H locs cells slots la pc ls rfl rfl X (hsize T hT XT) g1 T hT XT
        | .inr (.inr (z', as, r)), hs, hr =>
          dsimp only at hr
          cases hb : Nat.ble (am_sl as).length (pg z').1 with
          | false => rw [hb] at hr; cases hr
          | true =>
            rw [hb] at hr
            dsimp only [cond_true] at hr
            cases hc : am_run pg n z' 0 (am_en as (pg z').1) [] h with
            | none => rw [hc] at hr; cases hr
            | some w =>
              obtain ⟨v1, h1⟩ := w
              rw [hc] at hr
              dsimp only at hr
              have i1 := am_run_grow pg n z' _ _ _ _ _ _ hc
              have i2 := am_run_grow pg n z _ _ _ _ _ _ hr
              have hbl := Nat.le_of_ble_eq_true hb
              have j1 := i1.2.1
              have j2 := i2.2.1
              intro T hT XT
              refine am_call (l := l) (mc := h1.length - h.length) (ms := am_slots h1 - am_slots h) (v := v1) (h1 := h1) C hck (am_call_info hs) hml X (hsize T hT XT) (fun hz hpl => ?_) ⟨by omega, by omega⟩ (fun H1 locs1 k1 k2 k3 => ?_) T hT XT
              · obtain ⟨w1, w2, w3, w4, w5, w6, w7, w8, w9, w10, w11⟩ := am_mw_ok z' hz
                refine Met.ofW (cc := am_mb z') (maxL := am_ml z') (ret := am_mr z') w4 rfl ?_
                intro p ev s m args below meth c s₁ Bd hml hv
                obtain ⟨rfl, y1, y2, y3, y4, y5, y6, y7⟩ := hv
                have hts := atoms_spec (ws := am_wz z') Bd.pre
                have hown : s.vm.findClass (am_my z').cls = some m.cls := findClass_of_methodNamed Bd.named
                have hnm : meth.name = (am_my z').name := (name_of_methodNamed Bd.named Bd.method).1
                rw [lg_entry_eq]
                have hLR := am_LR_entry (B := B) (b := b) as (n := am_ml z') (by rw [hpl]; exact hbl)
                rw [← hpl] at hc
                have hsc : h[0]? = some (.inl (0, L, .inl xs)) := X.2.2.2.2
                have hbB : b < B := C.2.2.2.2.2.2.2.2.1
                refine am_sound OK n z' 0 (am_en as (am_ml z')) [] h v1 h1 hc p ev _ s m _ below meth c s.heap [] 0 0 _ _ ⟨Bd.exec, Bd.bytes, (by rw [← w3]; exact hown), fun w hw => hts w (List.mem_cons_of_mem _ hw), y6, y7, y4, y5, hbB, (by omega), hnm, Nat.le_refl _, Nat.le_refl _⟩ (by rw [hml, am_en_len (by rw [hpl]; exact hbl)]) ⟨y2, y3, va_S.rf, hLR, hsc⟩ (by omega) (by show 0 + _ ≤ (h1.length - h.length) + _; omega) (by show 0 + _ ≤ (am_slots h1 - am_slots h) + _; omega) ?_
                intro H2 locs2 c2 s2 la2 pc2 ls2 e1 e2 X2 hz2 hend
                have e1 : c2 = h1.length - h.length := by omega
                have e2 : s2 = am_slots h1 - am_slots h := by omega
                subst e1
                subst e2
                obtain ⟨z1, z2, z3, z4, z5⟩ := X2
                have hbl2 : b < s.heap.size := by omega
                have hq : ∀ t : State, t.heap = H2 → s.WarmedH t.vm → am_Qc D tc B b L xs v1 h1 (List.map (am_rv B b) as).toArray s (.returned (am_vo v1)) t := fun t ht hW => by
                  refine ⟨⟨rfl, by rw [ht]; exact hz2, by rw [ht]; exact z1, z2, va_K.moved hW.alike y4, ?_, fun x hx hn => va_Nw.warmM hW (y6 x hx hn), va_AO.moved hW.alike y7⟩, z3.F ht⟩
                  rw [ht]
                  exact va_X.moved hW.alike (y5.kept (z3.2.1 b hbl2 (Nat.not_le.mpr hbB)))
                cases v1 with
                | none =>
                  obtain ⟨g1, g2⟩ := hend
                  exact W.vret Bd.exec Bd.bytes (by rw [Bd.returns]; exact g2) hq z3.2.2 g1 Bd.notSynchronized
                | some x =>
                  obtain ⟨g1, g2⟩ := hend
                  rcases g2 with g2 | ⟨g2, g3⟩
                  · exact W.iret Bd.exec Bd.bytes (by rw [Bd.returns]; exact g2) hq z3.2.2 g1 Bd.notSynchronized
                  · exact W.zret (ty := .boolean) Bd.exec Bd.bytes (by rw [Bd.returns]; exact g2) (by rcases g3 with rfl | rfl <;> rfl) hq z3.2.2 g1 Bd.notSynchronized
              · rw [am_vo_pv]
                exact am_sound OK n z e.2.1 ls (am_pv v1 r) h1 v h' hr p ev R s m args below meth c H1 locs1 _ _ Q la C hml ⟨k1, k2, k3, X.2.2.2.1, i1.2.2 _ X.2.2.2.2⟩ (by omega) (by omega) (by omega) (fun H3 locs3 c3 s3 la3 pc3 ls3 f1 f2 X3 f3 f4 => hfin H3 locs3 c3 s3 la3 pc3 ls3 (by omega) (by omega) X3 f3 f4)
