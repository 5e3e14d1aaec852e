/-! THE CLAIM OUT OF ONE WALK OF THE LAW'S BODY. Your part is whole_start (and what it stands on); all else here is the same for every law, but numbers. -/
def R_law : String := "LivingDaysLaw"
def lw_P (b : Addr) (xs : List Int32) (args : Array Value) (s : State) : Prop := args = #[.ref b] ∧ s.IntsAt b xs ∧ xs.length ≤ 3072 ∧ (Jvm.Cond.and given_1 narrow_1).before args s = true
def lw_Q (_ : Array Value) (s : State) (o : Outcome) (t : State) : Prop := o = .returned (some (.int 1)) ∧ Framed s o t [] 82860 8853670
def lw_Z (below : List Frame) (a : Array Value) (s : State) : State → Prop := fun t => ∃ o, t.status = .running ∧ Ended t below o ∧ lw_Q a s o t
/-- the law's own end, with 1 on the stack, nothing written that was there before, its room as the claim has it -/
theorem lw_ret {p : Program} {l : Launch} {e : Env} {s : State} {m : MethodId} {below : List Frame} {meth : Method} {c : Code} {b : Nat} (hx : p.tables.exec = Jvm.exec) (hb : c.code = code) (hr : meth.sig.returnType = ret) (hlocks : meth.locks = false) {pc : Nat} {H : Heap} {ls : Array Slot} (hdg : decode code pc = .ok (.ireturn, 1)) : W p l e room_1 s m #[Value.ref b] below meth c H [] 82860 8853670 (lw_Z below #[Value.ref b] s) (F0 m pc ls [.int 1]) := by
  intro T hT X
  obtain ⟨fs, hret, hrun, hended, hW, hframe⟩ := X.leave (v := some (.int 1)) (hlocks := hlocks) (fun h => by rw [hr] at h; cases h)
  have hmeth' : T.vm.method? m = some meth := X.method'
  refine ⟨T.setFrames fs, ?_, .returned (some (.int 1)), hrun, hended, rfl, ⟨_, rfl⟩, hW, hframe⟩
  jvm_step X.here [X.here.top, hx, hb, hdg, hmeth', hr, ret, narrow_b1]
  (try refine ⟨rfl, ?_⟩); (try refine ⟨rfl, ?_⟩)
  first | (intro acts; rw [hret _ acts rfl rfl rfl]) | rw [hret _ _ rfl rfl rfl]
  exact Steps.refl _
/-- what holds at the law's entry: the machine, the code, the tables' words (any of lw_tbl by 'hts w (by decide +kernel)'), the script of L ints xs at the cell b, what the Statement gives of the start (any of its parts by flat_of_before) -/
def lw_At (p : Program) (s : State) (m : MethodId) (meth : Method) (c : Code) (b L : Nat) (xs : Nat → Int32) : Prop :=
  p.tables.exec = Jvm.exec ∧ c.code = code ∧ meth.sig.returnType = ret ∧ c.maxLocals = 4 ∧ s.vm.findClass R_law = some m.cls ∧ (∀ w ∈ lw_tbl, w.before #[Value.ref b] s = true) ∧ va_X b L xs s s.heap ∧ b < s.heap.size ∧ meth.locks = false ∧ (Jvm.Cond.and given_1 narrow_1).before #[Value.ref b] s = true
theorem am_mb_law : am_mb z_W_law = code := rfl
theorem sl_app (h g : am_H) : am_slots (h ++ g) = am_slots h + am_slots g := by
  unfold am_slots
  rw [List.map_append, List.sum_append]
theorem sl_stc (o : Nat) (B : Nat → Nat → Int32) (pd nt : Int32) : am_slots (stc o B pd nt) = 4421 := by
  have h : am_slots (stc o B pd nt) ≤ 4421 ∧ 4421 ≤ am_slots (stc o B pd nt) := by
    simp only [stc, am_slots, List.map_cons, List.map_nil, List.sum_cons, List.sum_nil, am_csz, List.length_cons, List.length_nil]
    omega
  omega
theorem sl_stT (B : Nat → Nat → Nat → Int32) (pd nt : Nat → Int32) : ∀ n, am_slots (stT B pd nt n) = 4421 * n
  | 0 => rfl
  | n + 1 => by
    rw [stT, sl_app, sl_stT B pd nt n]
    have := sl_stc (53 + 16 * n) (B n) (pd n) (nt n)
    omega
theorem sl_hp {L : Nat} {xs : Nat → Int32} {A V : Nat → Nat → Int32} {K : Nat → Option Nat} {T : am_H} : am_slots (hp L xs A V K T) ≤ L + 100000 + am_slots T := by
  simp only [hp, am_slots, List.map_cons, List.sum_cons, am_csz, List.length_cons, List.length_nil]
  omega
theorem RI_room {L : Nat} {xs : Nat → Int32} {A V : Nat → Nat → Int32} {K : Nat → Option Nat} {T : am_H} (R : RI A V K T) : (hp L xs A V K T).length ≤ 200 ∧ am_slots (hp L xs A V K T) ≤ L + 200000 := by
  obtain ⟨-, -, -, -, -, c, al, B, pd, nt, -, hal, -, -, -, hT, -⟩ := R
  subst hT
  have h1 := sl_hp (L := L) (xs := xs) (A := A) (V := V) (K := K) (T := stT B pd nt al)
  rw [sl_stT] at h1
  rw [hp_len, stT_len]
  omega
set_option maxHeartbeats 4000000 in
theorem whole_start {p : Program} {e : Env} {s : State} {m : MethodId} {below : List Frame} {meth : Method} {c : Code} (l : Launch) (hflags : l.flags = flags0) {b L : Nat} {xs : Nat → Int32} (hL : L ≤ 3072) (hnm : meth.name = x.name) (C0 : lw_At p s m meth c b L xs) : W p l e room_1 s m #[Value.ref b] below meth c s.heap [] 0 0 (lw_Z below #[Value.ref b] s) (entryFrame m ([Value.ref b] : List Value).toArray 4) := by
  obtain ⟨hx, hb, hr, hml, hown, hts, hX, hbl, hlocks, hgv⟩ := C0
  obtain ⟨A, V, K, T, R, k⟩ := law_runs L xs hL
  unfold am_fin at k
  obtain ⟨n, hn⟩ := k
  obtain ⟨hr1, hr2⟩ := RI_room (L := L) (xs := xs) R
  have hkn : ∀ ci, ci < 10 → ∃ (cC : ClassId) (iS : Nat → Nat), u_Kn s (am_cn ci) (cs_T ci) (cs_N ci) cC iS := fun ci hci => u_known (n := cs_N ci) hts (fun w hw => by
    obtain ⟨k, hk, rfl⟩ := List.mem_map.mp hw
    exact List.mem_of_getElem? (cs_pos ci hci k (List.mem_range.mp hk))) (hts _ (List.mem_of_getElem? (cs_ini ci hci).1))
  obtain ⟨D, hD⟩ : ∃ D : va_G, ∀ (c : Nat) (q : vw_C), am_cl[c]? = some q → u_Kn s q.1 q.2.1 q.2.2 (D.1 c) (D.2 c) := by
    refine ⟨(fun c => if h : c < 10 then (hkn c h).choose else (hkn 0 (by omega)).choose, fun c => if h : c < 10 then (hkn c h).choose_spec.choose else fun _ => 0), fun c q hq => ?_⟩
    have hc : c < 10 := (List.getElem?_eq_some_iff.mp hq).1
    rw [am_cl_at c hc] at hq
    cases hq
    simp only [dif_pos hc]
    exact (hkn c hc).choose_spec.choose_spec
  obtain ⟨w0, w1, w2, w3⟩ := am_aw
  obtain ⟨cI, kI, pI, i1, i2, i3⟩ := Cond.arrayClass_spec (hts _ (List.mem_of_getElem? w0))
  obtain ⟨cB, kB, pB, j1, j2, j3⟩ := Cond.arrayClass_spec (hts _ (List.mem_of_getElem? w1))
  obtain ⟨cZ, kZ, pZ, z1, z2, z3⟩ := Cond.arrayClass_spec (hts _ (List.mem_of_getElem? w2))
  obtain ⟨pO, cO, kO, o1, -, o3, o4, o5⟩ := Cond.arrayOver_spec (hts _ (List.mem_of_getElem? w3))
  have hK : va_K D am_cl (am_ty (fun t => match t with | 0 => cI | 1 => cB | 2 => cZ | _ => cO)) s := ⟨hD, fun k q hq => by
    match k, hq with
    | 0, hq => cases hq; exact ⟨fun n z => ⟨fun k h => (by cases h), kI, i2, pI, i3⟩, i1⟩
    | 1, hq => cases hq; exact ⟨fun n z => ⟨fun k h => (by cases h), kB, j2, pB, j3⟩, j1⟩
    | 2, hq => cases hq; exact ⟨fun n z => ⟨fun k h => (by cases h), kZ, z2, pZ, z3⟩, z1⟩
    | 3, hq => cases hq; exact ⟨fun n z => ⟨fun k h => (by cases h), kO, o3, pO, o4⟩, kO, pO, o3, o4, o1, o5⟩
    | k + 4, hq => simp [am_ty] at hq⟩
  have hNw : ∀ x ∈ am_ML, x.2.2.2.1 ≠ 0 → va_Nw (.methodLinkNest (am_cn x.1) x.2.1 (am_my x.2.2.1) "LivingDays") s := fun x hx hne => by
    have h1 := (am_ML_ok x hx).2
    have h2 : Nat.beq x.2.2.2.1 0 = false := by
      cases h : Nat.beq x.2.2.2.1 0 with
      | false => rfl
      | true => exact absurd (Nat.eq_of_beq_eq_true h) hne
    rw [h2] at h1
    exact va_Nw.of rfl (hts _ (List.mem_of_getElem? h1))
  rw [lg_entry_eq]
  have hLR := am_LR_entry (B := s.heap.size) (b := b) [.ref 0] (n := 4) (by decide)
  refine am_sound am_OK (D := D) (B := s.heap.size) (b := b) (L := L) (xs := xs) n z_W_law 0 [.ref 0, .null, .null, .null] [] [.inl (0, L, .inl xs)] (some 1) (hp L xs A V K T) hn p e room_1 s m #[Value.ref b] below meth c s.heap [] 0 0 _ _ ⟨hx, hb.trans am_mb_law.symm, hown, fun w hw => hts w (List.mem_filter.mp hw).1, hNw, va_AO.of (hts _ (List.mem_of_getElem? w3)), hK, hX, hbl, Nat.le_refl _, hnm, ?_, ?_⟩ hml ⟨fun k q h => by simp [am_ws, am_wk] at h, ⟨fun i j p q h => by simp [am_ws, am_wk] at h, fun k q h => by simp [am_ws, am_wk] at h⟩, va_S.rf, hLR, rfl⟩ rfl ?_ ?_ ?_
  · show am_fr z_W_law ≤ 13
    decide +kernel
  · show am_lo z_W_law ≤ 526
    decide +kernel
  · show 0 + _ ≤ 82860 + 1
    omega
  · show 0 + _ ≤ 8853670 + (L + 0)
    omega
  · intro H2 locs2 c2 s2 la2 pc2 ls2 e1 e2 X2 hz hend
    have e1 : c2 + 1 = 0 + _ := e1
    have e2 : s2 + (L + 0) = 0 + _ := e2
    refine va_forget (fun q hq => X2.2.2.1.2.2 q hq) (W.widen (k := 82860) (n := 8853670) (by omega) (by omega) ?_)
    exact lw_ret hx hb hr hlocks hend.1
set_option maxHeartbeats 4000000 in
theorem lw_walk (l : Launch) (hflags : l.flags = flags0) (b : Addr) (xs : List Int32) : MetFree l x (headSpec (Jvm.Cond.code x code maxLocals ret :: tables_1) room_1) (lw_P b xs) (fun _ _ _ _ _ => True) lw_Q := by
  refine MetFree.of_bodyS (code := code) (maxLocals := maxLocals) (ret := ret) (by decide) ?_ ?_
  · intro args s m h hn
    obtain ⟨meth, c, h1, h2, h3, h4, h5, h6, -, -⟩ := Cond.code_spec hn (atoms_spec (ws := Jvm.Cond.code x code maxLocals ret :: tables_1) h _ List.mem_cons_self)
    exact ⟨meth, c, h1, h2, h3, h4, h5, h6⟩
  · intro p e s m args below meth c s₁ B hml0 hP _
    obtain ⟨rfl, hx, hbd, hgv⟩ := hP
    obtain ⟨scr, harrAt, hlist, hof, hsmall⟩ := hx
    obtain ⟨hcb, hkn, -, -⟩ := State.arrayAt?_spec harrAt
    have hown : s.vm.findClass R_law = some m.cls := findClass_of_methodNamed B.named
    have hts0 : ∀ c ∈ (Jvm.Cond.code x code maxLocals ret :: tables_1), c.before #[Value.ref b] s = true := atoms_spec (ws := Jvm.Cond.code x code maxLocals ret :: tables_1) B.pre
    have hts : ∀ w ∈ lw_tbl, w.before #[Value.ref b] s = true := k2_hts_sels lw_privs (fun w hw => hts0 w (List.mem_cons_of_mem _ hw)) lw_privs_ok
    have hml : c.maxLocals = 4 := B.maxLocals_eq (hts0 _ List.mem_cons_self)
    have X₀ : Stand p l e room_1 s m #[Value.ref b] below meth c s₁ [] 0 0 := Stand.of_body B
    have hh0 : s₁.heap = s.heap := by rw [B.state]; rfl
    have hsz : scr.slots.size = xs.length := by rw [← Array.length_toList, hlist, List.length_map]
    have hval : ∀ j : Nat, j < xs.length → scr.slots[j]? = some (.int (xs.getD j 0)) := fun j hj => by
      rw [← Array.getElem?_toList, hlist]
      simp [hj]
    have hbl : b < s.heap.size := (Array.getElem?_eq_some_iff.mp hcb).1
    have hX : va_X b xs.length (fun j => xs.getD j 0) s s.heap := ⟨scr, hcb, hof, hkn, hsz, hval⟩
    have K : W p l e room_1 s m #[Value.ref b] below meth c s₁.heap [] 0 0 (lw_Z below #[Value.ref b] s) (entryFrame m ([Value.ref b] : List Value).toArray 4) := by
      rw [hh0]
      exact whole_start l hflags hbd (name_of_methodNamed B.named B.method).1 ⟨B.exec, B.bytes, B.returns, hml, hown, hts, hX, hbl, B.notSynchronized, hgv⟩
    obtain ⟨t, a1, o, b1, b2, b3⟩ := K s₁ rfl X₀
    exact ⟨t, o, a1, b1, b2, b3⟩
theorem lw_pre_spec {args : Array Value} {s : State} (h : (Jvm.Cond.and given_1 narrow_1).before args s = true) (hr : rest_1_c.before args s = true) : ∃ (b : Addr) (xs : List Int32), lw_P b xs args s := by
  have hs := flat_of_before _ h
  have hq := flat_of_before _ hr
  have hc : (Cond.count 1).before args s = true := hs _ (by decide +kernel)
  have harr : (Cond.arrayOf (.arg 0) .int).before args s = true := hs _ (by decide +kernel)
  have hle : (Cond.le (.length (.arg 0)) (.int 3072)).before args s = true := hs _ (by decide +kernel)
  have hlen : (Cond.isInt (.length (.arg 0))).before args s = true := hq _ (by decide +kernel)
  have hall : (Cond.all (.arg 0) (.isInt (.elem (.arg 0) (.index 0)))).before args s = true := hq _ (by decide +kernel)
  obtain ⟨b, xs, hb, hx⟩ := State.ints_of_pre rfl harr hlen hall
  have hsm : xs.length < 2 ^ 31 := hx.choose_spec.2.2.2
  have hev : (Term.length (.arg 0)).eval args s none [] s = some (.int xs.length.toInt32) := hx.length_eval hb
  have hv := Cond.le_ints hev (show (Term.int 3072).eval args s none [] s = some (.int 3072) from rfl)
  have hd : xs.length.toInt32 ≤ 3072 := by
    simpa [Cond.before, Cond.holds, hv] using hle
  have hN : xs.length ≤ 3072 := (Int32.ofNat_le_ofNat hsm (by decide)).mp (show Int32.ofNat xs.length ≤ Int32.ofNat 3072 from hd)
  exact ⟨b, xs, Cond.one_arg hc (show args[0]? = some (.ref b) from hb), hx, hN, h⟩
theorem lw_comes (l : Launch) (hflags : l.flags = flags0) : Comes l x (Jvm.Cond.code x code maxLocals ret :: tables_1) room_1 (fun tb e args s => Calls_1 tb e args s ∧ rest_1 tb e args s ∧ Pre_1 tb e args s)
    (fun _ _ args s o t => lw_Q args s o t) := by
  intro p e ha hc hk s m args below hf hfit hheap happ hpre
  obtain ⟨b, xs, hP⟩ := lw_pre_spec hpre.2.2 hpre.2.1
  obtain ⟨k, o, h1, h2, h3, hQ⟩ := lw_walk l hflags b xs p e ha hc hk s m args below hf ((Spec.applies_iff_loose hf).mp happ).1 hP trivial
  exact ⟨k, o, h1, h2, h3, hQ⟩
theorem lw_frame {s t : State} {o : Outcome} {args : Array Value} (h : Framed s o t [] 82860 8853670) :
    Framed s o t (fieldLocs frame_1_writes args s ++ arrayLocs frame_1_arrays args s ++ staticLocs frame_1_statics s) 82860 8853670 := h
theorem lw_limb (L : Cond) (hL : ∀ (args : Array Value) (s t : State), L.after args s (.returned (some (.int 1))) t = true) :
    ArmFor flags0 classFile x code maxLocals ret World_1 tables_1 room_1 Calls_1 rest_1 Pre_1
      (fun tb e a s o t => postC L tb e a s o t ∧ Framed s o t (fieldLocs frame_1_writes a s ++ arrayLocs frame_1_arrays a s ++ staticLocs frame_1_statics s) 82860 8853670) := by
  intro l hflags _ _ p e ha hc hk s m args below hf hfit hheap happ hpre
  obtain ⟨k, o, h1, h2, h3, rfl, hF⟩ := lw_comes l hflags p e ha hc hk s m args below hf hfit hheap happ hpre
  exact ⟨k, _, h1, h2, h3, hL args s _, lw_frame hF⟩
theorem i_vc : Claimed_1_1 ∧ Claimed_1_2 := ⟨lw_limb limb_1_1 (fun args s t => by simp [limb_1_1, Cond.after, Cond.holds, Cond.value]), lw_limb limb_1_2 (fun args s t => Cond.after_iff.mpr (by
  first | (rw [show limb_1_2 = Cond.eq .result (.int 1) from rfl, Cond.eq_ints (x := 1) (y := 1) rfl rfl]; simp; done) | (simp [limb_1_2, Cond.value, Term.eval]; done)))⟩
