/-! ONE INSTRUCTION of the abstract machine is one of the JVM -/
def am_ty (tc : Nat → ClassId) : List (ClassId × FieldType) := [(tc 0, .int), (tc 1, .byte), (tc 2, .boolean), (tc 3, .object "LivingDays$State")]
/-- what stands around a method's run -/
def am_Ctx (D : va_G) (tc : Nat → ClassId) (B b L : Nat) (xs : Nat → Int32) (z : Nat) (p : Program) (R : Room) (s : State) (m : MethodId) (args : Array Value) (meth : Method) (c : Code) : Prop :=
  p.tables.exec = Jvm.exec ∧ c.code = am_mb z ∧ s.vm.findClass (am_cn (am_mo z)) = some m.cls ∧ (∀ w ∈ am_tb, w.before args s = true) ∧ (∀ x ∈ am_ML, x.2.2.2.1 ≠ 0 → va_Nw (.methodLinkNest (am_cn x.1) x.2.1 (am_my x.2.2.1) "LivingDays") s) ∧ va_AO "LivingDays$State" s ∧ va_K D am_cl (am_ty tc) s ∧ va_X b L xs s s.heap ∧ b < B ∧ B ≤ s.heap.size ∧ meth.name = (am_my z).name ∧ am_fr z ≤ R.frames ∧ am_lo z ≤ R.locals
/-- the cells and locals at a moment -/
def am_Wo (D : va_G) (tc : Nat → ClassId) (B b L : Nat) (xs : Nat → Int32) (H0 : Heap) (h : am_H) (H : Heap) (locs : List Loc) (la : Array Slot) (ls : List Value) : Prop :=
  va_P D am_cl (am_ws B b tc h) H ∧ va_D (fun q => B ≤ q) (am_ws B b tc h) ∧ va_S (fun q => B ≤ q) H0 H locs ∧ am_LR B b la ls ∧ h[0]? = some (.inl (0, L, .inl xs))
def am_swT (pc : Nat) (lo : Int) : List Int → List (Int32 × Nat) → Bool
  | [], [] => true
  | o :: os, (k, t) :: sw => decide (k.toInt = lo) && decide ((pc : Int) + o = (t : Int)) && am_swT pc (lo + 1) os sw
  | _, _ => false
def am_swL (pc : Nat) : List (Int × Int) → List (Int32 × Nat) → Bool
  | [], [] => true
  | (a, o) :: os, (k, t) :: sw => decide (k.toInt = a) && decide ((pc : Int) + o = (t : Int)) && am_swL pc os sw
  | _, _ => false
/-- a row of the table is what stands in the code -/
def am_chk (pg : Nat → am_M) (z pc : Nat) (e : am_E) : Bool :=
  match e with
  | (i, nx, a, b, d, q, c, sw) =>
    match i with
    | .iconst n => decide (decode (am_mb z) pc = .ok (.iconst n, 1) ∧ nx = pc + 1 ∧ Int32.ofInt n = c)
    | .bipush n => decide (decode (am_mb z) pc = .ok (.bipush n, 2) ∧ nx = pc + 2 ∧ (Int8.ofInt n).toInt32 = c)
    | .sipush n => decide (decode (am_mb z) pc = .ok (.sipush n, 3) ∧ nx = pc + 3 ∧ (Int16.ofInt n).toInt32 = c)
    | .ldc n => decide (decode (am_mb z) pc = .ok (.ldc n, 2) ∧ nx = pc + 2 ∧ (am_CL[q]?).map (fun x => (x.1, x.2.1, x.2.2.1)) = some (am_mo z, n, c))
    | .ldc_w n => decide (decode (am_mb z) pc = .ok (.ldc_w n, 3) ∧ nx = pc + 3 ∧ (am_CL[q]?).map (fun x => (x.1, x.2.1, x.2.2.1)) = some (am_mo z, n, c))
    | .lconst n => decide (decode (am_mb z) pc = .ok (.lconst n, 1) ∧ nx = pc + 1 ∧ Int64.ofNat (n : Nat) = c.toInt64)
    | .ldc2_w n => decide (decode (am_mb z) pc = .ok (.ldc2_w n, 3) ∧ nx = pc + 3 ∧ (am_LL[q]?).map (fun x => (x.1, x.2.1, x.2.2.1)) = some (am_mo z, n, c))
    | .iload n => decide (decode (am_mb z) pc = .ok (.iload n, 2) ∧ nx = pc + 2 ∧ n = a)
    | .iload_n n => decide (decode (am_mb z) pc = .ok (.iload_n n, 1) ∧ nx = pc + 1 ∧ (n : Nat) = a)
    | .lload n => decide (decode (am_mb z) pc = .ok (.lload n, 2) ∧ nx = pc + 2 ∧ n = a)
    | .lload_n n => decide (decode (am_mb z) pc = .ok (.lload_n n, 1) ∧ nx = pc + 1 ∧ (n : Nat) = a)
    | .aload n => decide (decode (am_mb z) pc = .ok (.aload n, 2) ∧ nx = pc + 2 ∧ n = a)
    | .aload_n n => decide (decode (am_mb z) pc = .ok (.aload_n n, 1) ∧ nx = pc + 1 ∧ (n : Nat) = a)
    | .istore n => decide (decode (am_mb z) pc = .ok (.istore n, 2) ∧ nx = pc + 2 ∧ n = a)
    | .istore_n n => decide (decode (am_mb z) pc = .ok (.istore_n n, 1) ∧ nx = pc + 1 ∧ (n : Nat) = a)
    | .astore n => decide (decode (am_mb z) pc = .ok (.astore n, 2) ∧ nx = pc + 2 ∧ n = a)
    | .astore_n n => decide (decode (am_mb z) pc = .ok (.astore_n n, 1) ∧ nx = pc + 1 ∧ (n : Nat) = a)
    | .iinc n k => decide (decode (am_mb z) pc = .ok (.iinc n k, 3) ∧ nx = pc + 3 ∧ n = a ∧ Int32.ofInt k = c)
    | .iadd => decide (decode (am_mb z) pc = .ok (.iadd, 1) ∧ nx = pc + 1)
    | .isub => decide (decode (am_mb z) pc = .ok (.isub, 1) ∧ nx = pc + 1)
    | .imul => decide (decode (am_mb z) pc = .ok (.imul, 1) ∧ nx = pc + 1)
    | .iand => decide (decode (am_mb z) pc = .ok (.iand, 1) ∧ nx = pc + 1)
    | .ior => decide (decode (am_mb z) pc = .ok (.ior, 1) ∧ nx = pc + 1)
    | .ixor => decide (decode (am_mb z) pc = .ok (.ixor, 1) ∧ nx = pc + 1)
    | .ishl => decide (decode (am_mb z) pc = .ok (.ishl, 1) ∧ nx = pc + 1)
    | .ishr => decide (decode (am_mb z) pc = .ok (.ishr, 1) ∧ nx = pc + 1)
    | .iushr => decide (decode (am_mb z) pc = .ok (.iushr, 1) ∧ nx = pc + 1)
    | .idiv => decide (decode (am_mb z) pc = .ok (.idiv, 1) ∧ nx = pc + 1)
    | .irem => decide (decode (am_mb z) pc = .ok (.irem, 1) ∧ nx = pc + 1)
    | .ineg => decide (decode (am_mb z) pc = .ok (.ineg, 1) ∧ nx = pc + 1)
    | .ladd => decide (decode (am_mb z) pc = .ok (.ladd, 1) ∧ nx = pc + 1)
    | .lcmp => decide (decode (am_mb z) pc = .ok (.lcmp, 1) ∧ nx = pc + 1)
    | .i2l => decide (decode (am_mb z) pc = .ok (.i2l, 1) ∧ nx = pc + 1)
    | .i2b => decide (decode (am_mb z) pc = .ok (.i2b, 1) ∧ nx = pc + 1)
    | .dup => decide (decode (am_mb z) pc = .ok (.dup, 1) ∧ nx = pc + 1)
    | .dup2 => decide (decode (am_mb z) pc = .ok (.dup2, 1) ∧ nx = pc + 1)
    | .pop => decide (decode (am_mb z) pc = .ok (.pop, 1) ∧ nx = pc + 1)
    | .iaload => decide (decode (am_mb z) pc = .ok (.iaload, 1) ∧ nx = pc + 1)
    | .baload => decide (decode (am_mb z) pc = .ok (.baload, 1) ∧ nx = pc + 1)
    | .aaload => decide (decode (am_mb z) pc = .ok (.aaload, 1) ∧ nx = pc + 1)
    | .iastore => decide (decode (am_mb z) pc = .ok (.iastore, 1) ∧ nx = pc + 1)
    | .bastore => decide (decode (am_mb z) pc = .ok (.bastore, 1) ∧ nx = pc + 1)
    | .aastore => decide (decode (am_mb z) pc = .ok (.aastore, 1) ∧ nx = pc + 1)
    | .arraylength => decide (decode (am_mb z) pc = .ok (.arraylength, 1) ∧ nx = pc + 1)
    | .goto o => decide (decode (am_mb z) pc = .ok (.goto o, 3) ∧ (pc : Int) + o = (a : Int))
    | .if_icmp k o => decide (decode (am_mb z) pc = .ok (.if_icmp k o, 3) ∧ nx = pc + 3 ∧ (pc : Int) + o = (a : Int))
    | .ifCond k o => decide (decode (am_mb z) pc = .ok (.ifCond k o, 3) ∧ nx = pc + 3 ∧ (pc : Int) + o = (a : Int))
    | .ifnonnull o => decide (decode (am_mb z) pc = .ok (.ifnonnull o, 3) ∧ nx = pc + 3 ∧ (pc : Int) + o = (a : Int))
    | .tableswitch df lo hi os => decide (decode (am_mb z) pc = .ok (.tableswitch df lo hi os, nx - pc) ∧ (pc : Int) + df = (a : Int) ∧ hi = lo + (os.size : Int) - 1 ∧ am_swT pc lo os.toList sw = true)
    | .lookupswitch df ps => decide (decode (am_mb z) pc = .ok (.lookupswitch df ps, nx - pc) ∧ (pc : Int) + df = (a : Int) ∧ (ps.toList.zip (ps.toList.drop 1)).all (fun (a, next) => a.1 < next.1) = true ∧ am_swL pc ps.toList sw = true)
    | .getfield n => decide (decode (am_mb z) pc = .ok (.getfield n, 3) ∧ nx = pc + 3 ∧ (am_FL[q]?).map (fun x => (x.1, x.2.1, x.2.2.1, x.2.2.2.1)) = some (am_mo z, n, a, b))
    | .putfield n => decide (decode (am_mb z) pc = .ok (.putfield n, 3) ∧ nx = pc + 3 ∧ (am_FL[q]?).map (fun x => (x.1, x.2.1, x.2.2.1, x.2.2.2.1)) = some (am_mo z, n, a, b) ∧ d = am_fk (cs_ty a b) ∧ ((cs_T a b).2.2.2 = true → (am_my z).name = "<init>" ∧ am_mo z = a))
    | .newarray t => decide (decode (am_mb z) pc = .ok (.newarray t, 2) ∧ nx = pc + 2 ∧ ((t = .int ∧ a = 0) ∨ (t = .byte ∧ a = 1) ∨ (t = .boolean ∧ a = 2)))
    | .anewarray n => decide (decode (am_mb z) pc = .ok (.anewarray n, 3) ∧ nx = pc + 3 ∧ (am_KL[q]?).map (fun x => (x.1, x.2.1, x.2.2.1)) = some (am_mo z, n, 6))
    | .new n => decide (decode (am_mb z) pc = .ok (.new n, 3) ∧ nx = pc + 3 ∧ a < 10 ∧ (am_KL[q]?).map (fun x => (x.1, x.2.1, x.2.2.1)) = some (am_mo z, n, a))
    | .ireturn => decide (decode (am_mb z) pc = .ok (.ireturn, 1) ∧ ((d = 0 ∧ am_mr z = some .int) ∨ (d = 1 ∧ am_mr z = some .boolean)))
    | .return_ => decide (decode (am_mb z) pc = .ok (.return_, 1) ∧ am_mr z = none)
    | .invokevirtual n => decide (decode (am_mb z) pc = .ok (.invokevirtual n, 3) ∧ nx = pc + 3 ∧ (am_ML[q]?).map (fun x => (x.1, x.2.1, x.2.2.1)) = some (am_mo z, n, a) ∧ am_na a = b ∧ am_ml a = (pg a).1 ∧ am_fr a + 1 ≤ am_fr z ∧ 8 + (am_ml a + 11) + am_lo a ≤ am_lo z ∧ am_mk a = 1 ∧ am_mo a = d ∧ d < 10)
    | .invokespecial n => (match d with
      | 0 => decide (decode (am_mb z) pc = .ok (.invokespecial n, 3) ∧ nx = pc + 3 ∧ (am_ML[q]?).map (fun x => (x.1, x.2.1, x.2.2.1)) = some (am_mo z, n, a) ∧ am_na a = b ∧ am_ml a = (pg a).1 ∧ am_fr a + 1 ≤ am_fr z ∧ 8 + (am_ml a + 11) + am_lo a ≤ am_lo z ∧ am_mk a = 2)
      | _ + 1 => decide (decode (am_mb z) pc = .ok (.invokespecial n, 3) ∧ nx = pc + 3 ∧ (am_OL[q]?).map (fun x => (x.1, x.2.1)) = some (am_mo z, n) ∧ 1 ≤ am_fr z ∧ 20 ≤ am_lo z))
    | .invokestatic n => (match d with
      | 0 => decide (decode (am_mb z) pc = .ok (.invokestatic n, 3) ∧ nx = pc + 3 ∧ (am_ML[q]?).map (fun x => (x.1, x.2.1, x.2.2.1)) = some (am_mo z, n, a) ∧ am_na a = b ∧ am_ml a = (pg a).1 ∧ am_fr a + 1 ≤ am_fr z ∧ 8 + (am_ml a + 11) + am_lo a ≤ am_lo z ∧ am_mk a = 0)
      | 1 => decide (decode (am_mb z) pc = .ok (.invokestatic n, 3) ∧ nx = pc + 3 ∧ (am_AL[q]?).map (fun x => (x.1, x.2.1)) = some (am_mo z, n) ∧ 1 ≤ am_fr z ∧ 8 + (nativeFrameWords "java/lang/System" "arraycopy" 5 + 11) ≤ am_lo z)
      | 2 => decide (decode (am_mb z) pc = .ok (.invokestatic n, 3) ∧ nx = pc + 3 ∧ (am_XL[q]?).map (fun x => (x.1, x.2.1, x.2.2.1)) = some (am_mo z, n, 2) ∧ 1 ≤ am_fr z ∧ 21 ≤ am_lo z)
      | _ + 3 => decide (decode (am_mb z) pc = .ok (.invokestatic n, 3) ∧ nx = pc + 3 ∧ (am_XL[q]?).map (fun x => (x.1, x.2.1, x.2.2.1)) = some (am_mo z, n, 3) ∧ 1 ≤ am_fr z ∧ 21 ≤ am_lo z))
    | _ => false
theorem am_map2 {α β : Type} {l : List α} {q : Nat} {f : α → β} {y : β} (h : (l[q]?).map f = some y) : ∃ x ∈ l, f x = y := by
  cases hx : l[q]? with
  | none => rw [hx] at h; cases h
  | some x => rw [hx] at h; exact ⟨x, List.mem_of_getElem? hx, Option.some.inj h⟩
theorem am_sw_tab {pc : Nat} {α : Type} (f : Nat → α) (x : Int32) : ∀ (os : List Int) (sw : List (Int32 × Nat)) (lo : Int) (d : α), am_swT pc lo os sw = true →
    ((x.toInt < lo ∨ lo + (os.length : Int) - 1 < x.toInt) → am_sw sw d f x = d) ∧ (¬ x.toInt < lo → ¬ lo + (os.length : Int) - 1 < x.toInt → ∃ (o : Int) (t : Nat), os[(x.toInt - lo).toNat]? = some o ∧ (pc : Int) + o = (t : Int) ∧ am_sw sw d f x = f t)
  | [], [], lo, d, _ => ⟨fun _ => rfl, fun h1 h2 => by simp at h2; omega⟩
  | o :: os, (k, t) :: sw, lo, d, h => by
    simp only [am_swT, Bool.and_eq_true, decide_eq_true_eq] at h
    obtain ⟨⟨hk, ht⟩, hr⟩ := h
    obtain ⟨i1, i2⟩ := am_sw_tab f x os sw (lo + 1) d hr
    have hxk : x = k ↔ x.toInt = lo := by rw [← hk]; exact Int32.toInt_inj.symm
    refine ⟨fun h => ?_, fun h1 h2 => ?_⟩
    · simp only [am_sw]
      rw [if_neg (by rw [hxk]; simp at h; omega)]
      refine i1 ?_
      simp at h
      omega
    · simp only [am_sw]
      by_cases hx : x.toInt = lo
      · rw [if_pos (hxk.mpr hx)]
        exact ⟨o, t, by rw [hx, Int.sub_self]; rfl, ht, rfl⟩
      · rw [if_neg (fun z => hx (hxk.mp z))]
        obtain ⟨o', t', g1, g2, g3⟩ := i2 (by omega) (by simp at h2; omega)
        refine ⟨o', t', ?_, g2, g3⟩
        rw [show (x.toInt - lo).toNat = (x.toInt - (lo + 1)).toNat + 1 by omega]
        exact g1
  | [], _ :: _, _, _, h => by simp [am_swT] at h
  | _ :: _, [], _, _, h => by simp [am_swT] at h
theorem am_sw_look {pc : Nat} {α : Type} (f : Nat → α) (x : Int32) (df : Int) (a : Nat) (hdf : (pc : Int) + df = (a : Int)) : ∀ (os : List (Int × Int)) (sw : List (Int32 × Nat)), am_swL pc os sw = true →
    ∃ (t : Nat), (pc : Int) + Op.lookupswitch.offset os df x.toInt = (t : Int) ∧ am_sw sw (f a) f x = f t
  | [], [], _ => ⟨a, hdf, rfl⟩
  | (k, o) :: os, (k', t) :: sw, h => by
    simp only [am_swL, Bool.and_eq_true, decide_eq_true_eq] at h
    obtain ⟨⟨hk, ht⟩, hr⟩ := h
    obtain ⟨t', g1, g2⟩ := am_sw_look f x df a hdf os sw hr
    have hxk : x = k' ↔ k = x.toInt := by
      rw [← hk]
      exact ⟨fun h => by rw [h], fun h => (Int32.toInt_inj.mp h).symm⟩
    by_cases hx : x = k'
    · exact ⟨t, by rw [Op.lookupswitch.offset_cons, if_pos (hxk.mp hx)]; exact ht, by simp only [am_sw]; rw [if_pos hx]⟩
    · exact ⟨t', by rw [Op.lookupswitch.offset_cons, if_neg (fun z => hx (hxk.mpr z))]; exact g1, by simp only [am_sw]; rw [if_neg hx]; exact g2⟩
  | [], _ :: _, h => by simp [am_swL] at h
  | _ :: _, [], h => by simp [am_swL] at h

set_option maxRecDepth 100000 in
set_option maxHeartbeats 40000000 in
theorem am_one {D : va_G} {tc : Nat → ClassId} {B b L : Nat} {xs : Nat → Int32} {pg : Nat → am_M} {z pc pc' : Nat} {e : am_E} {ls st ls' st' : List Value} {h h2 : am_H} {p : Program} {l : Launch} {ev : Env} {R : Room} {s : State} {m : MethodId} {args : Array Value} {below : List Frame} {meth : Method} {c : Code} {H : Heap} {locs : List Loc} {cells slots : Nat} {Q : State → Prop} {la : Array Slot}
    (C : am_Ctx D tc B b L xs z p R s m args meth c) (hck : am_chk pg z pc e = true) (hs : am_step e ls st h = some (.inl (pc', ls', st', h2))) (hml : c.maxLocals = ls.length) (X : am_Wo D tc B b L xs s.heap h H locs la ls) (hcnt : s.heap.size + cells = B + (h.length - 1)) (hR1 : cells + h2.length ≤ R.cells + h.length) (hR2 : slots + am_slots h2 ≤ R.slots + am_slots h)
    (kk : ∀ (H2 : Heap) (locs2 : List Loc) (c2 s2 : Nat) (la2 : Array Slot), c2 + h.length = cells + h2.length → s2 + am_slots h = slots + am_slots h2 → am_Wo D tc B b L xs s.heap h2 H2 locs2 la2 ls' → W p l ev R s m args below meth c H2 locs2 c2 s2 Q (F0 m pc' la2 (st'.map (am_rv B b)))) :
    W p l ev R s m args below meth c H locs cells slots Q (F0 m pc la (st.map (am_rv B b))) := by
  obtain ⟨hx, hb, hown, hts, hnw, hao, hK, hX, hbB, hBs, hmn, hfr, hlo⟩ := C
  obtain ⟨hP, hD, hS, hLR, hsc⟩ := id X
  have hA : ∀ q : Nat, s.heap.size ≤ q → (fun q => B ≤ q) q := fun q h => Nat.le_trans hBs h
  have hbl : b < s.heap.size := Nat.lt_of_lt_of_le hbB hBs
  have hbA : ¬ (fun q : Nat => B ≤ q) b := Nat.not_le.mpr hbB
  have hlen : 1 ≤ h.length := by have := (List.getElem?_eq_some_iff.mp hsc).1; omega
  have hsz : la.size = ls.length := hLR.1
  obtain ⟨i, nx, a, bb, d, q, cc, sw⟩ := e
  unfold am_step am_stepK at hs
  dsimp only at hs
  split at hs
  · obtain ⟨hd, rfl, hv⟩ := of_decide_eq_true hck
    cases hs
    exact lv_iconst hx hb hd hv (kk H locs cells slots la rfl rfl X)
  · obtain ⟨hd, rfl, hv⟩ := of_decide_eq_true hck
    cases hs
    exact lv_bipush hx hb hd hv (kk H locs cells slots la rfl rfl X)
  · obtain ⟨hd, rfl, hv⟩ := of_decide_eq_true hck
    cases hs
    exact lv_sipush hx hb hd hv (kk H locs cells slots la rfl rfl X)
  · obtain ⟨hd, rfl, hv⟩ := of_decide_eq_true hck
    cases hs
    obtain ⟨⟨x1, x2, x3, x4⟩, hm, he⟩ := am_map2 hv
    simp only [Prod.mk.injEq] at he
    obtain ⟨rfl, rfl, rfl⟩ := he
    exact lv_ldc hx hb hown (hts _ (am_in (am_CL_ok _ hm) rfl)) hd (kk H locs cells slots la rfl rfl X)
  · obtain ⟨hd, rfl, hv⟩ := of_decide_eq_true hck
    cases hs
    obtain ⟨⟨x1, x2, x3, x4⟩, hm, he⟩ := am_map2 hv
    simp only [Prod.mk.injEq] at he
    obtain ⟨rfl, rfl, rfl⟩ := he
    exact lv_ldcw hx hb hown (hts _ (am_in (am_CL_ok _ hm) rfl)) hd (kk H locs cells slots la rfl rfl X)
  · obtain ⟨hd, rfl, hv⟩ := of_decide_eq_true hck
    cases hs
    exact lv_lconst hx hb hd hv (kk H locs cells slots la rfl rfl X)
  · obtain ⟨hd, rfl, hv⟩ := of_decide_eq_true hck
    cases hs
    obtain ⟨⟨x1, x2, x3, x4⟩, hm, he⟩ := am_map2 hv
    simp only [Prod.mk.injEq] at he
    obtain ⟨rfl, rfl, rfl⟩ := he
    exact lv_ldc2 hx hb hown (hts _ (am_in (am_LL_ok _ hm) rfl)) hd (kk H locs cells slots la rfl rfl X)
  · obtain ⟨hd, rfl, hv⟩ := of_decide_eq_true hck
    split at hs
    · rename_i x hl
      cases hs
      exact lv_iload hx hb hd  (by rw [hv]; exact hLR.at hl (fun z => by cases z)) (kk H locs cells slots la rfl rfl X)
    · cases hs
  · obtain ⟨hd, rfl, hv⟩ := of_decide_eq_true hck
    split at hs
    · rename_i x hl
      cases hs
      exact lv_iload_n hx hb hd hv (by rw [← hv, hv]; exact hLR.at hl (fun z => by cases z)) (kk H locs cells slots la rfl rfl X)
    · cases hs
  · obtain ⟨hd, rfl, hv⟩ := of_decide_eq_true hck
    split at hs
    · rename_i x hl
      cases hs
      exact lv_lload hx hb hd  (by rw [hv]; exact hLR.at hl (fun z => by cases z)) (kk H locs cells slots la rfl rfl X)
    · cases hs
  · obtain ⟨hd, rfl, hv⟩ := of_decide_eq_true hck
    split at hs
    · rename_i x hl
      cases hs
      exact lv_lload_n hx hb hd hv (by rw [← hv, hv]; exact hLR.at hl (fun z => by cases z)) (kk H locs cells slots la rfl rfl X)
    · cases hs
  · obtain ⟨hd, rfl, hv⟩ := of_decide_eq_true hck
    split at hs
    · rename_i x hl
      cases hs
      exact lv_aload hx hb hd  (by rw [hv]; exact hLR.at hl (fun z => by cases z)) (kk H locs cells slots la rfl rfl X)
    · cases hs
  · obtain ⟨hd, rfl, hv⟩ := of_decide_eq_true hck
    split at hs
    · rename_i x hl
      cases hs
      exact lv_aload_n hx hb hd hv (by rw [← hv, hv]; exact hLR.at hl (fun z => by cases z)) (kk H locs cells slots la rfl rfl X)
    · cases hs
  · obtain ⟨hd, rfl, hv⟩ := of_decide_eq_true hck
    split at hs
    · rename_i x r
      cases hbo : (am_free ls a && Nat.blt a ls.length) with
      | false => rw [hbo] at hs; cases hs
      | true =>
        rw [hbo] at hs
        cases hs
        obtain ⟨hf, hlt⟩ := Bool.and_eq_true_iff.mp hbo
        have hlt := Nat.le_of_ble_eq_true hlt
        subst hv
        exact lv_istore hx hb hd  hLR.has hlt rfl (fun la2 h2 => kk H locs cells slots la2 rfl rfl ⟨hP, hD, hS, hLR.set hf hlt h2, hsc⟩)
    · cases hs
  · obtain ⟨hd, rfl, hv⟩ := of_decide_eq_true hck
    split at hs
    · rename_i x r
      cases hbo : (am_free ls a && Nat.blt a ls.length) with
      | false => rw [hbo] at hs; cases hs
      | true =>
        rw [hbo] at hs
        cases hs
        obtain ⟨hf, hlt⟩ := Bool.and_eq_true_iff.mp hbo
        have hlt := Nat.le_of_ble_eq_true hlt
        subst hv
        exact lv_istore_n hx hb hd rfl hLR.has hlt rfl (fun la2 h2 => kk H locs cells slots la2 rfl rfl ⟨hP, hD, hS, hLR.set hf hlt h2, hsc⟩)
    · cases hs
  · obtain ⟨hd, rfl, hv⟩ := of_decide_eq_true hck
    split at hs
    · rename_i x r
      cases hbo : (am_free ls a && Nat.blt a ls.length) with
      | false => rw [hbo] at hs; cases hs
      | true =>
        rw [hbo] at hs
        cases hs
        obtain ⟨hf, hlt⟩ := Bool.and_eq_true_iff.mp hbo
        have hlt := Nat.le_of_ble_eq_true hlt
        subst hv
        exact lv_astore hx hb hd  hLR.has hlt rfl (fun la2 h2 => kk H locs cells slots la2 rfl rfl ⟨hP, hD, hS, hLR.set hf hlt h2, hsc⟩)
    · cases hs
  · obtain ⟨hd, rfl, hv⟩ := of_decide_eq_true hck
    split at hs
    · rename_i x r
      cases hbo : (am_free ls a && Nat.blt a ls.length) with
      | false => rw [hbo] at hs; cases hs
      | true =>
        rw [hbo] at hs
        cases hs
        obtain ⟨hf, hlt⟩ := Bool.and_eq_true_iff.mp hbo
        have hlt := Nat.le_of_ble_eq_true hlt
        subst hv
        exact lv_astore_n hx hb hd rfl hLR.has hlt rfl (fun la2 h2 => kk H locs cells slots la2 rfl rfl ⟨hP, hD, hS, hLR.set hf hlt h2, hsc⟩)
    · cases hs
  · obtain ⟨hd, rfl, hv, hn⟩ := of_decide_eq_true hck
    split at hs
    · rename_i x hl
      cases hbo : (am_free ls a && Nat.blt a ls.length) with
      | false => rw [hbo] at hs; cases hs
      | true =>
        rw [hbo] at hs
        cases hs
        obtain ⟨hf, hlt⟩ := Bool.and_eq_true_iff.mp hbo
        have hlt := Nat.le_of_ble_eq_true hlt
        subst hv
        obtain ⟨k, hk⟩ := List.getElem?_of_mem (am_lv_mem (B := B) (b := b) hl (fun z => by cases z))
        exact lv_iinc (x := x) hx hb hd hLR.has hk (by rw [hn]) hlt rfl (fun la2 h2 => kk H locs cells slots la2 rfl rfl ⟨hP, hD, hS, hLR.set hf hlt h2, hsc⟩)
    · cases hs
  · obtain ⟨hd, rfl⟩ := of_decide_eq_true hck
    split at hs
    · rename_i y x r
      cases hs
      exact lv_iadd hx hb hd (kk H locs cells slots la rfl rfl X)
    · cases hs
  · obtain ⟨hd, rfl⟩ := of_decide_eq_true hck
    split at hs
    · rename_i y x r
      cases hs
      exact lv_isub hx hb hd (kk H locs cells slots la rfl rfl X)
    · cases hs
  · obtain ⟨hd, rfl⟩ := of_decide_eq_true hck
    split at hs
    · rename_i y x r
      cases hs
      exact lv_imul hx hb hd (kk H locs cells slots la rfl rfl X)
    · cases hs
  · obtain ⟨hd, rfl⟩ := of_decide_eq_true hck
    split at hs
    · rename_i y x r
      cases hs
      exact lv_iand hx hb hd (kk H locs cells slots la rfl rfl X)
    · cases hs
  · obtain ⟨hd, rfl⟩ := of_decide_eq_true hck
    split at hs
    · rename_i y x r
      cases hs
      exact lv_ior hx hb hd (kk H locs cells slots la rfl rfl X)
    · cases hs
  · obtain ⟨hd, rfl⟩ := of_decide_eq_true hck
    split at hs
    · rename_i y x r
      cases hs
      exact lv_ixor hx hb hd (kk H locs cells slots la rfl rfl X)
    · cases hs
  · obtain ⟨hd, rfl⟩ := of_decide_eq_true hck
    split at hs
    · rename_i y x r
      cases hs
      exact lv_ishl hx hb hd (kk H locs cells slots la rfl rfl X)
    · cases hs
  · obtain ⟨hd, rfl⟩ := of_decide_eq_true hck
    split at hs
    · rename_i y x r
      cases hs
      exact lv_ishr hx hb hd (kk H locs cells slots la rfl rfl X)
    · cases hs
  · obtain ⟨hd, rfl⟩ := of_decide_eq_true hck
    split at hs
    · rename_i y x r
      cases hs
      exact lv_iushr hx hb hd rfl (kk H locs cells slots la rfl rfl X)
    · cases hs
  · obtain ⟨hd, rfl⟩ := of_decide_eq_true hck
    split at hs
    · rename_i y x r
      split at hs
      · cases hs
      · rename_i hne
        cases hs
        exact lv_idiv hx hb hd hne (kk H locs cells slots la rfl rfl X)
    · cases hs
  · obtain ⟨hd, rfl⟩ := of_decide_eq_true hck
    split at hs
    · rename_i y x r
      split at hs
      · cases hs
      · rename_i hne
        cases hs
        exact lv_irem hx hb hd hne (kk H locs cells slots la rfl rfl X)
    · cases hs
  · obtain ⟨hd, rfl⟩ := of_decide_eq_true hck
    split at hs
    · rename_i x r
      cases hs
      exact lv_ineg hx hb hd (kk H locs cells slots la rfl rfl X)
    · cases hs
  · obtain ⟨hd, rfl⟩ := of_decide_eq_true hck
    split at hs
    · rename_i y x r
      cases hs
      exact lv_ladd hx hb hd (kk H locs cells slots la rfl rfl X)
    · cases hs
  · obtain ⟨hd, rfl⟩ := of_decide_eq_true hck
    split at hs
    · rename_i y x r
      cases hs
      exact W.lcmp hx hb hd (kk H locs cells slots la rfl rfl X)
    · cases hs
  · obtain ⟨hd, rfl⟩ := of_decide_eq_true hck
    split at hs
    · rename_i x r
      cases hs
      exact lv_i2l hx hb hd rfl (kk H locs cells slots la rfl rfl X)
    · cases hs
  · obtain ⟨hd, rfl⟩ := of_decide_eq_true hck
    split at hs
    · rename_i x r
      cases hs
      exact lv_i2b hx hb hd rfl (kk H locs cells slots la rfl rfl X)
    · cases hs
  · obtain ⟨hd, rfl⟩ := of_decide_eq_true hck
    split at hs
    · cases hs
      exact lv_dup hx hb hd rfl (kk H locs cells slots la rfl rfl X)
    · cases hs
      exact lv_dup hx hb hd rfl (kk H locs cells slots la rfl rfl X)
    · cases hs
  · obtain ⟨hd, rfl⟩ := of_decide_eq_true hck
    split at hs
    · cases hs
      exact lv_dup2_11 hx hb hd rfl rfl (kk H locs cells slots la rfl rfl X)
    · cases hs
  · obtain ⟨hd, rfl⟩ := of_decide_eq_true hck
    split at hs
    · cases hs
      exact lv_pop hx hb hd rfl (kk H locs cells slots la rfl rfl X)
    · cases hs
      exact lv_pop hx hb hd rfl (kk H locs cells slots la rfl rfl X)
    · cases hs
  · obtain ⟨hd, ht⟩ := of_decide_eq_true hck
    cases hs
    exact lv_goto hx hb hd ht (kk H locs cells slots la rfl rfl X)
  · obtain ⟨hd, rfl, ht⟩ := of_decide_eq_true hck
    rename_i o off
    split at hs
    · rename_i y x r
      cases o with
      | eq =>
        refine lv_icmp_eq hx hb hd ht (fun hcond => ?_) (fun hcond => ?_)
        · simp only [am_br] at hs
          split at hs
          · cases hs
            first | exact kk H locs cells slots la rfl rfl X | (exact absurd (by assumption) hcond)
          · cases hs
            first | exact kk H locs cells slots la rfl rfl X | (rename_i hn; first | (exact absurd hcond hn) | (exact absurd (Int32.not_lt.mp hcond) hn) | (exact absurd (Int32.not_le.mp hcond) hn))
        · simp only [am_br] at hs
          split at hs
          · cases hs
            first | (exact absurd (by assumption) hcond) | exact kk H locs cells slots la rfl rfl X
          · cases hs
            exact kk H locs cells slots la rfl rfl X
      | ne =>
        refine lv_icmp_ne hx hb hd ht (fun hcond => ?_) (fun hcond => ?_)
        · simp only [am_br] at hs
          split at hs
          · cases hs
            first | exact kk H locs cells slots la rfl rfl X | (exact absurd (by assumption) hcond)
          · cases hs
            first | exact kk H locs cells slots la rfl rfl X | (rename_i hn; first | (exact absurd hcond hn) | (exact absurd (Int32.not_lt.mp hcond) hn) | (exact absurd (Int32.not_le.mp hcond) hn))
        · simp only [am_br] at hs
          split at hs
          · cases hs
            first | (exact absurd (by assumption) hcond) | exact kk H locs cells slots la rfl rfl X
          · cases hs
            exact kk H locs cells slots la rfl rfl X
      | lt =>
        refine lv_icmp_lt hx hb hd ht (fun hcond => ?_) (fun hcond => ?_)
        · simp only [am_br] at hs
          split at hs
          · cases hs
            first | exact kk H locs cells slots la rfl rfl X | (exact absurd (by assumption) hcond)
          · cases hs
            first | exact kk H locs cells slots la rfl rfl X | (rename_i hn; first | (exact absurd hcond hn) | (exact absurd (Int32.not_lt.mp hcond) hn) | (exact absurd (Int32.not_le.mp hcond) hn))
        · simp only [am_br] at hs
          split at hs
          · cases hs
            first | (exact absurd (by assumption) hcond) | exact kk H locs cells slots la rfl rfl X
          · cases hs
            exact kk H locs cells slots la rfl rfl X
      | ge =>
        refine lv_icmp_ge hx hb hd ht (fun hcond => ?_) (fun hcond => ?_)
        · simp only [am_br] at hs
          split at hs
          · cases hs
            first | exact kk H locs cells slots la rfl rfl X | (exact absurd (by assumption) hcond)
          · cases hs
            first | exact kk H locs cells slots la rfl rfl X | (rename_i hn; first | (exact absurd hcond hn) | (exact absurd (Int32.not_lt.mp hcond) hn) | (exact absurd (Int32.not_le.mp hcond) hn))
        · simp only [am_br] at hs
          split at hs
          · cases hs
            first | (exact absurd (by assumption) hcond) | exact kk H locs cells slots la rfl rfl X
          · cases hs
            exact kk H locs cells slots la rfl rfl X
      | gt =>
        refine lv_icmp_gt hx hb hd ht (fun hcond => ?_) (fun hcond => ?_)
        · simp only [am_br] at hs
          split at hs
          · cases hs
            first | exact kk H locs cells slots la rfl rfl X | (exact absurd (by assumption) hcond)
          · cases hs
            first | exact kk H locs cells slots la rfl rfl X | (rename_i hn; first | (exact absurd hcond hn) | (exact absurd (Int32.not_lt.mp hcond) hn) | (exact absurd (Int32.not_le.mp hcond) hn))
        · simp only [am_br] at hs
          split at hs
          · cases hs
            first | (exact absurd (by assumption) hcond) | exact kk H locs cells slots la rfl rfl X
          · cases hs
            exact kk H locs cells slots la rfl rfl X
      | le =>
        refine lv_icmp_le hx hb hd ht (fun hcond => ?_) (fun hcond => ?_)
        · simp only [am_br] at hs
          split at hs
          · cases hs
            first | exact kk H locs cells slots la rfl rfl X | (exact absurd (by assumption) hcond)
          · cases hs
            first | exact kk H locs cells slots la rfl rfl X | (rename_i hn; first | (exact absurd hcond hn) | (exact absurd (Int32.not_lt.mp hcond) hn) | (exact absurd (Int32.not_le.mp hcond) hn))
        · simp only [am_br] at hs
          split at hs
          · cases hs
            first | (exact absurd (by assumption) hcond) | exact kk H locs cells slots la rfl rfl X
          · cases hs
            exact kk H locs cells slots la rfl rfl X
    · cases hs
  · obtain ⟨hd, rfl, ht⟩ := of_decide_eq_true hck
    rename_i o off
    split at hs
    · rename_i x r
      cases o with
      | eq =>
        refine lv_if_eq hx hb hd ht (fun hcond => ?_) (fun hcond => ?_)
        · simp only [am_br] at hs
          split at hs
          · cases hs
            first | exact kk H locs cells slots la rfl rfl X | (exact absurd (by assumption) hcond)
          · cases hs
            first | exact kk H locs cells slots la rfl rfl X | (rename_i hn; first | (exact absurd hcond hn) | (exact absurd (Int32.not_lt.mp hcond) hn) | (exact absurd (Int32.not_le.mp hcond) hn))
        · simp only [am_br] at hs
          split at hs
          · cases hs
            first | (exact absurd (by assumption) hcond) | exact kk H locs cells slots la rfl rfl X
          · cases hs
            exact kk H locs cells slots la rfl rfl X
      | ne =>
        refine lv_if_ne hx hb hd ht (fun hcond => ?_) (fun hcond => ?_)
        · simp only [am_br] at hs
          split at hs
          · cases hs
            first | exact kk H locs cells slots la rfl rfl X | (exact absurd (by assumption) hcond)
          · cases hs
            first | exact kk H locs cells slots la rfl rfl X | (rename_i hn; first | (exact absurd hcond hn) | (exact absurd (Int32.not_lt.mp hcond) hn) | (exact absurd (Int32.not_le.mp hcond) hn))
        · simp only [am_br] at hs
          split at hs
          · cases hs
            first | (exact absurd (by assumption) hcond) | exact kk H locs cells slots la rfl rfl X
          · cases hs
            exact kk H locs cells slots la rfl rfl X
      | lt =>
        refine lv_if_lt hx hb hd ht (fun hcond => ?_) (fun hcond => ?_)
        · simp only [am_br] at hs
          split at hs
          · cases hs
            first | exact kk H locs cells slots la rfl rfl X | (exact absurd (by assumption) hcond)
          · cases hs
            first | exact kk H locs cells slots la rfl rfl X | (rename_i hn; first | (exact absurd hcond hn) | (exact absurd (Int32.not_lt.mp hcond) hn) | (exact absurd (Int32.not_le.mp hcond) hn))
        · simp only [am_br] at hs
          split at hs
          · cases hs
            first | (exact absurd (by assumption) hcond) | exact kk H locs cells slots la rfl rfl X
          · cases hs
            exact kk H locs cells slots la rfl rfl X
      | ge =>
        refine lv_if_ge hx hb hd ht (fun hcond => ?_) (fun hcond => ?_)
        · simp only [am_br] at hs
          split at hs
          · cases hs
            first | exact kk H locs cells slots la rfl rfl X | (exact absurd (by assumption) hcond)
          · cases hs
            first | exact kk H locs cells slots la rfl rfl X | (rename_i hn; first | (exact absurd hcond hn) | (exact absurd (Int32.not_lt.mp hcond) hn) | (exact absurd (Int32.not_le.mp hcond) hn))
        · simp only [am_br] at hs
          split at hs
          · cases hs
            first | (exact absurd (by assumption) hcond) | exact kk H locs cells slots la rfl rfl X
          · cases hs
            exact kk H locs cells slots la rfl rfl X
      | gt =>
        refine lv_if_gt hx hb hd ht (fun hcond => ?_) (fun hcond => ?_)
        · simp only [am_br] at hs
          split at hs
          · cases hs
            first | exact kk H locs cells slots la rfl rfl X | (exact absurd (by assumption) hcond)
          · cases hs
            first | exact kk H locs cells slots la rfl rfl X | (rename_i hn; first | (exact absurd hcond hn) | (exact absurd (Int32.not_lt.mp hcond) hn) | (exact absurd (Int32.not_le.mp hcond) hn))
        · simp only [am_br] at hs
          split at hs
          · cases hs
            first | (exact absurd (by assumption) hcond) | exact kk H locs cells slots la rfl rfl X
          · cases hs
            exact kk H locs cells slots la rfl rfl X
      | le =>
        refine lv_if_le hx hb hd ht (fun hcond => ?_) (fun hcond => ?_)
        · simp only [am_br] at hs
          split at hs
          · cases hs
            first | exact kk H locs cells slots la rfl rfl X | (exact absurd (by assumption) hcond)
          · cases hs
            first | exact kk H locs cells slots la rfl rfl X | (rename_i hn; first | (exact absurd hcond hn) | (exact absurd (Int32.not_lt.mp hcond) hn) | (exact absurd (Int32.not_le.mp hcond) hn))
        · simp only [am_br] at hs
          split at hs
          · cases hs
            first | (exact absurd (by assumption) hcond) | exact kk H locs cells slots la rfl rfl X
          · cases hs
            exact kk H locs cells slots la rfl rfl X
    · cases hs
  · obtain ⟨hd, rfl, ht⟩ := of_decide_eq_true hck
    split at hs
    · cases hs
      exact lv_ifnonnull hx hb hd ht (kk H locs cells slots la rfl rfl X)
    · cases hs
      exact lv_ifnonnullN hx hb hd (kk H locs cells slots la rfl rfl X)
    · cases hs
  · rename_i df lo hi os
    obtain ⟨hd, ht, hhi, hsw⟩ := of_decide_eq_true hck
    split at hs
    · rename_i x r
      obtain ⟨t1, t2⟩ := am_sw_tab (pc := pc) (fun t => (some (.inl (t, ls, r, h)) : Option am_S)) x os.toList sw lo (some (.inl (a, ls, r, h))) hsw
      rw [Array.length_toList, ← hhi] at t1 t2
      by_cases hout : x.toInt < lo ∨ hi < x.toInt
      · rw [t1 hout] at hs
        cases hs
        exact lv_tableOut hx hb hd hout ht (kk H locs cells slots la rfl rfl X)
      · obtain ⟨o, t, g1, g2, g3⟩ := t2 (fun z => hout (Or.inl z)) (fun z => hout (Or.inr z))
        rw [g3] at hs
        cases hs
        exact lv_tableIn hx hb hd (fun z => hout (Or.inl z)) (fun z => hout (Or.inr z)) (by rw [← Array.getElem?_toList]; exact g1) g2 (kk H locs cells slots la rfl rfl X)
    · cases hs
  · rename_i df ps
    obtain ⟨hd, ht, hps, hsw⟩ := of_decide_eq_true hck
    split at hs
    · rename_i x r
      obtain ⟨t, g1, g2⟩ := am_sw_look (pc := pc) (fun t => (some (.inl (t, ls, r, h)) : Option am_S)) x df a ht ps.toList sw hsw
      rw [g2] at hs
      cases hs
      exact lv_lookup hx hb hd hps rfl g1 (kk H locs cells slots la rfl rfl X)
    · cases hs
  · obtain ⟨hd, rfl, hv⟩ := of_decide_eq_true hck
    obtain ⟨⟨x1, x2, x3, x4, x5⟩, hm, he⟩ := am_map2 hv
    simp only [Prod.mk.injEq] at he
    obtain ⟨rfl, rfl, rfl, rfl⟩ := he
    obtain ⟨f1, f2, f3⟩ := am_FL_ok _ hm
    dsimp only at f1 f2 f3
    split at hs
    · rename_i o r
      split at hs
      · rename_i ci fs ho
        split at hs
        · rename_i v hfv
          cases hbo : Nat.beq ci x3 with
          | false => rw [hbo] at hs; cases hs
          | true =>
            rw [hbo] at hs
            have hci := Nat.eq_of_beq_eq_true hbo
            subst hci
            cases hs
            refine va_get (C := am_cn ci) (T := cs_T ci) (N := cs_N ci) (ci := ci) hx hb hts (fun w hw => ?_) hown hK hP o (am_ws_get ho) (am_cl_at ci f1) x4 f2 (hts _ (am_in f3 rfl)) (fun x hx => hx) (v := am_rv B b v) ?_ hd (kk H locs cells slots la rfl rfl X)
            · obtain ⟨k, hk, rfl⟩ := List.mem_map.mp hw
              exact am_in (cs_pos ci f1 k (List.mem_range.mp hk)) (by unfold u_lay; split <;> rfl)
            · show (fs.map (am_rv B b))[x4]? = _
              rw [List.getElem?_map, hfv]; rfl
        · cases hs
      · cases hs
    · cases hs
  · obtain ⟨hd, rfl, hv, hdk, hfin⟩ := of_decide_eq_true hck
    obtain ⟨⟨x1, x2, x3, x4, x5⟩, hm, he⟩ := am_map2 hv
    simp only [Prod.mk.injEq] at he
    obtain ⟨rfl, rfl, rfl, rfl⟩ := he
    obtain ⟨f1, f2, f3⟩ := am_FL_ok _ hm
    dsimp only at f1 f2 f3
    split at hs
    · rename_i v o r
      split at hs
      · rename_i ci fs ho
        cases hbo : (Nat.beq ci x3 && am_pf d v && Nat.blt x4 fs.length) with
        | false => rw [hbo] at hs; cases hs
        | true =>
          rw [hbo] at hs
          obtain ⟨hbo, hlt⟩ := Bool.and_eq_true_iff.mp hbo
          obtain ⟨hbo, hpf⟩ := Bool.and_eq_true_iff.mp hbo
          have hci := Nat.eq_of_beq_eq_true hbo
          subst hci
          have hlt := Nat.le_of_ble_eq_true hlt
          cases hs
          subst hdk
          obtain ⟨hna, hfi⟩ := am_pf_ok (B := B) (b := b) hpf
          have hin : ∀ w ∈ u_ws (am_cn ci) (cs_T ci) (cs_N ci), w ∈ am_tb := fun w hw => by
            obtain ⟨k, hk, rfl⟩ := List.mem_map.mp hw
            exact am_in (cs_pos ci f1 k (List.mem_range.mp hk)) (by unfold u_lay; split <;> rfl)
          have hset : (am_ws B b tc h).set o (B + o, .inr (ci, (fs.map (am_rv B b)).set x4 (am_rv B b v))) = am_ws B b tc (h.set (o + 1) (.inr (ci, fs.set x4 v))) := by
            rw [← am_ws_set]
            show _ = (am_ws B b tc h).set o (B + o, .inr (ci, (fs.set x4 v).map (am_rv B b)))
            rw [List.map_set]
          have hz : am_slots (h.set (o + 1) (.inr (ci, fs.set x4 v))) = am_slots h := am_slots_set ho (by simp [am_csz])
          have hsc2 : (h.set (o + 1) (.inr (ci, fs.set x4 v)))[0]? = some (.inl (0, L, .inl xs)) := by rw [List.getElem?_set_ne (by omega)]; exact hsc
          have kf : ∀ (H1 : Heap) (locs1 : List Loc), va_P D am_cl ((am_ws B b tc h).set o (B + o, .inr (ci, (fs.map (am_rv B b)).set x4 (am_rv B b v)))) H1 → va_D (fun q => B ≤ q) ((am_ws B b tc h).set o (B + o, .inr (ci, (fs.map (am_rv B b)).set x4 (am_rv B b v)))) → va_S (fun q => B ≤ q) s.heap H1 locs1 → W p l ev R s m args below meth c H1 locs1 cells slots Q (F0 m (pc + 3) la (st'.map (am_rv B b))) := fun H1 locs1 k1 k2 k3 => by
            rw [hset] at k1 k2
            exact kk H1 locs1 cells slots la (by rw [List.length_set]) (by rw [hz]) ⟨k1, k2, k3, hLR, hsc2⟩
          by_cases hff : (cs_T ci x4).2.2.2 = true
          · obtain ⟨g1, g2⟩ := hfin hff
            exact va_putF (C := am_cn ci) (T := cs_T ci) (N := cs_N ci) (ci := ci) hx hb hts hin (cs_ty ci) (cs_ty_ok ci f1) (cs_nm ci f1) hown hK hP hD hS o (am_ws_get ho) (am_cl_at ci f1) x4 f2 (hts _ (am_in f3 rfl)) (fun x hx => hx) hff (by rw [hmn]; exact g1) (by rw [g2]; rfl) (cs_ty_ok ci f1 x4 f2) hna hfi (by rw [List.length_map]; exact hlt) hd kf
          · exact va_put (C := am_cn ci) (T := cs_T ci) (N := cs_N ci) (ci := ci) hx hb hts hin (cs_ty ci) (cs_ty_ok ci f1) (cs_nm ci f1) hown hK hP hD hS o (am_ws_get ho) (am_cl_at ci f1) x4 f2 (hts _ (am_in f3 rfl)) (fun x hx => hx) (by simpa using hff) (cs_ty_ok ci f1 x4 f2) hna hfi (by rw [List.length_map]; exact hlt) hd kf
      · cases hs
    · cases hs
  · obtain ⟨hd, rfl⟩ := of_decide_eq_true hck
    split at hs
    · rename_i i o r
      split at hs
      · rename_i n f ho
        split at hs
        · cases hs
        · rename_i hin
          cases hs
          cases o with
          | zero =>
            rw [hsc] at ho
            cases ho
            exact va_sld hx hb hX hbl hbA hS hin hd (kk H locs cells slots la rfl rfl X)
          | succ o => exact va_iald hx hb hK hP o 0 (am_ws_get ho) rfl hin hd (kk H locs cells slots la rfl rfl X)
      · cases hs
    · cases hs
  · obtain ⟨hd, rfl⟩ := of_decide_eq_true hck
    split at hs
    · rename_i i o r
      split at hs
      · rename_i n f ho
        split at hs
        · cases hs
        · rename_i hin
          cases hs
          exact va_bald hx hb hK hP o 1 (am_ws_get ho) rfl hin hd (kk H locs cells slots la rfl rfl X)
      · rename_i n f ho
        split at hs
        · cases hs
        · rename_i hin
          cases hs
          exact va_zald hx hb hK hP o 2 (am_ws_get ho) rfl hin hd (kk H locs cells slots la rfl rfl X)
      · cases hs
    · cases hs
  · obtain ⟨hd, rfl⟩ := of_decide_eq_true hck
    split at hs
    · rename_i i o r
      split at hs
      · rename_i n f ho
        split at hs
        · cases hs
        · rename_i hin
          cases hs
          have k0 := kk H locs cells slots la rfl rfl X
          refine va_aldq (C := "LivingDays$State") hx hb hK hP o 3 (am_ws_get ho) rfl hin hd ?_
          have e1 : va_rf ((f i.toNatClampNeg).map (am_rn B b)) = am_rv B b (va_rf (f i.toNatClampNeg)) := by cases f i.toNatClampNeg <;> rfl
          rw [e1]
          exact k0
      · cases hs
    · cases hs
  · obtain ⟨hd, rfl⟩ := of_decide_eq_true hck
    split at hs
    · rename_i x i o r
      split at hs
      · rename_i n f ho
        split at hs
        · cases hs
        · rename_i hin
          cases hs
          refine va_iast hx hb hK hP hD hS o 0 (am_ws_get ho) rfl hin hd (fun H1 locs1 k1 k2 k3 => ?_)
          have hset := am_ws_set B b tc h o (.inl (0, n, .inl (upd f i.toNatClampNeg x)))
          have k1' : va_P D am_cl ((am_ws B b tc h).set o (B + o, am_rc B b tc (.inl (0, n, .inl (upd f i.toNatClampNeg x))))) H1 := k1
          have k2' : va_D (fun q => B ≤ q) ((am_ws B b tc h).set o (B + o, am_rc B b tc (.inl (0, n, .inl (upd f i.toNatClampNeg x))))) := k2
          rw [hset] at k1' k2'
          exact kk H1 locs1 cells slots la (by rw [List.length_set]) (by rw [am_slots_set (c' := .inl (0, n, .inl (upd f i.toNatClampNeg x))) ho rfl]) ⟨k1', k2', k3, hLR, by rw [List.getElem?_set_ne (by omega)]; exact hsc⟩
      · cases hs
    · cases hs
  · obtain ⟨hd, rfl⟩ := of_decide_eq_true hck
    split at hs
    · rename_i x i o r
      split at hs
      · rename_i n f ho
        split at hs
        · cases hs
        · rename_i hin
          cases hs
          refine va_bast hx hb hK hP hD hS o 1 (am_ws_get ho) rfl hin hd (fun H1 locs1 k1 k2 k3 => ?_)
          have hset := am_ws_set B b tc h o (.inl (1, n, .inl (upd f i.toNatClampNeg (vp_nar .byte x))))
          have k1' : va_P D am_cl ((am_ws B b tc h).set o (B + o, am_rc B b tc (.inl (1, n, .inl (upd f i.toNatClampNeg (vp_nar .byte x)))))) H1 := k1
          have k2' : va_D (fun q => B ≤ q) ((am_ws B b tc h).set o (B + o, am_rc B b tc (.inl (1, n, .inl (upd f i.toNatClampNeg (vp_nar .byte x)))))) := k2
          rw [hset] at k1' k2'
          exact kk H1 locs1 cells slots la (by rw [List.length_set]) (by rw [am_slots_set (c' := .inl (1, n, .inl (upd f i.toNatClampNeg (vp_nar .byte x)))) ho rfl]) ⟨k1', k2', k3, hLR, by rw [List.getElem?_set_ne (by omega)]; exact hsc⟩
      · rename_i n f ho
        split at hs
        · cases hs
        · rename_i hin
          cases hs
          refine va_zast hx hb hK hP hD hS o 2 (am_ws_get ho) rfl hin hd (fun H1 locs1 k1 k2 k3 => ?_)
          have hset := am_ws_set B b tc h o (.inl (2, n, .inl (upd f i.toNatClampNeg (vp_nar .boolean x))))
          have k1' : va_P D am_cl ((am_ws B b tc h).set o (B + o, am_rc B b tc (.inl (2, n, .inl (upd f i.toNatClampNeg (vp_nar .boolean x)))))) H1 := k1
          have k2' : va_D (fun q => B ≤ q) ((am_ws B b tc h).set o (B + o, am_rc B b tc (.inl (2, n, .inl (upd f i.toNatClampNeg (vp_nar .boolean x)))))) := k2
          rw [hset] at k1' k2'
          exact kk H1 locs1 cells slots la (by rw [List.length_set]) (by rw [am_slots_set (c' := .inl (2, n, .inl (upd f i.toNatClampNeg (vp_nar .boolean x)))) ho rfl]) ⟨k1', k2', k3, hLR, by rw [List.getElem?_set_ne (by omega)]; exact hsc⟩
      · cases hs
    · cases hs
  · obtain ⟨hd, rfl⟩ := of_decide_eq_true hck
    split at hs
    · rename_i v i o r
      split at hs
      · rename_i n f vs ho hvv
        split at hs
        · cases hs
        · rename_i hin
          cases hs
          refine va_astq (r := (am_cn 6, cs_T 6, cs_N 6)) (ci := 6) hx hb hK hP hD hS o 3 v (am_ws_get ho) rfl (am_ws_get hvv) rfl hin hd (fun H1 locs1 k1 k2 k3 => ?_)
          have hset := am_ws_set B b tc h o (.inl (3, n, .inr (.inr (.inr (.inr (va_up f i.toNatClampNeg (some (v + 1))))))))
          have hr : am_rc B b tc (.inl (3, n, .inr (.inr (.inr (.inr (va_up f i.toNatClampNeg (some (v + 1)))))))) = .inl (tc 3, n, .inr (.inr (.inr (.inr (va_up (fun j => (f j).map (am_rn B b)) i.toNatClampNeg (some (B + v))))))) := by
            show (Sum.inl (tc 3, n, .inr (.inr (.inr (.inr (fun j => (va_up f i.toNatClampNeg (some (v + 1)) j).map (am_rn B b)))))) : va_E) = _
            rw [am_up_rn]
            rfl
          rw [hr] at hset
          have k1' : va_P D am_cl ((am_ws B b tc h).set o (B + o, .inl (tc 3, n, .inr (.inr (.inr (.inr (va_up (fun j => (f j).map (am_rn B b)) i.toNatClampNeg (some (B + v))))))))) H1 := k1
          have k2' : va_D (fun q => B ≤ q) ((am_ws B b tc h).set o (B + o, .inl (tc 3, n, .inr (.inr (.inr (.inr (va_up (fun j => (f j).map (am_rn B b)) i.toNatClampNeg (some (B + v))))))))) := k2
          rw [hset] at k1' k2'
          exact kk H1 locs1 cells slots la (by rw [List.length_set]) (by rw [am_slots_set (c' := .inl (3, n, .inr (.inr (.inr (.inr (va_up f i.toNatClampNeg (some (v + 1)))))))) ho rfl]) ⟨k1', k2', k3, hLR, by rw [List.getElem?_set_ne (by omega)]; exact hsc⟩
      · cases hs
    · cases hs
  · obtain ⟨hd, rfl⟩ := of_decide_eq_true hck
    split at hs
    · rename_i o r
      split at hs
      · rename_i n f ho
        cases hs
        cases o with
        | zero =>
          rw [hsc] at ho
          cases ho
          exact va_slen hx hb hX hbl hbA hS hd (kk H locs cells slots la rfl rfl X)
        | succ o => exact va_alen hx hb hK hP o 0 (am_ws_get ho) (ty := .int) rfl rfl hd (kk H locs cells slots la rfl rfl X)
      · cases hs
    · cases hs
  · rename_i t
    obtain ⟨hd, rfl, ht⟩ := of_decide_eq_true hck
    split at hs
    · rename_i n r
      split at hs
      · cases hs
      · rename_i hn
        have hn2 : n.toNatClampNeg < 1000000 := Nat.not_le.mp (fun z => hn (Or.inr z))
        cases hs
        have hc1 : cells + 1 ≤ R.cells := by rw [List.length_append] at hR1; simp at hR1; omega
        have hc2 : slots + n.toNatClampNeg ≤ R.slots := by
          rw [am_slots_push] at hR2
          have : am_csz (.inl (a, n.toNatClampNeg, .inl (fun _ => 0))) = n.toNatClampNeg := rfl
          omega
        rcases ht with ⟨rfl, rfl⟩ | ⟨rfl, rfl⟩ | ⟨rfl, rfl⟩
        · 
          refine va_newa (atype := .int) (ty := .int) (a0 := (n.toNatClampNeg, .inl (fun _ => 0))) hx hb (hts _ (am_in am_aw.1 rfl)) rfl hK hP hD hS hA (fun cA => rfl) (fun z => hn (Or.inl z)) rfl ?_ hc1 hc2 hd (fun q cA H1 k0 k1 k2 k3 => ?_)
          · show n.toNatClampNeg * 4 ≤ _
            omega
          have hcA : cA = tc 0 := by
            have e1 := (k0.2 4 (cA, .int) rfl).2
            have e2 := (hK.2 0 (tc 0, .int) rfl).2
            exact Option.some.inj (e1.symm.trans e2)
          subst hcA
          intro T hT XT
          have hzz := XT.heapSize
          rw [hT] at hzz
          have hq := am_fresh hlen k2 k1 (by omega)
          subst hq
          have hpush := am_ws_push (B := B) (b := b) (tc := tc) hlen (.inl (0, n.toNatClampNeg, .inl (fun _ => 0)))
          have k1' : va_P D am_cl (am_ws B b tc h ++ [(B + (h.length - 1), am_rc B b tc (.inl (0, n.toNatClampNeg, .inl (fun _ => 0))))]) H1 := k1
          have k2' : va_D (fun q => B ≤ q) (am_ws B b tc h ++ [(B + (h.length - 1), am_rc B b tc (.inl (0, n.toNatClampNeg, .inl (fun _ => 0))))]) := k2
          rw [← hpush] at k1' k2'
          have hW := kk H1 locs (cells + 1) (slots + n.toNatClampNeg) la (by rw [List.length_append]; simp; omega) (by rw [am_slots_push]; show _ = slots + (am_slots h + n.toNatClampNeg); omega) ⟨k1', k2', k3, hLR, by rw [List.getElem?_append_left (by omega)]; exact hsc⟩
          have hrn : am_rn B b h.length = B + (h.length - 1) := by
            obtain ⟨k, hk⟩ : ∃ k, h.length = k + 1 := ⟨h.length - 1, by omega⟩
            rw [hk]
            rfl
          simp only [List.map_cons, am_rv, hrn] at hW
          exact hW T hT XT
        · 
          refine va_newa (atype := .byte) (ty := .byte) (a0 := (n.toNatClampNeg, .inl (fun _ => 0))) hx hb (hts _ (am_in am_aw.2.1 rfl)) rfl hK hP hD hS hA (fun cA => rfl) (fun z => hn (Or.inl z)) rfl ?_ hc1 hc2 hd (fun q cA H1 k0 k1 k2 k3 => ?_)
          · show n.toNatClampNeg * 1 ≤ _
            omega
          have hcA : cA = tc 1 := by
            have e1 := (k0.2 4 (cA, .byte) rfl).2
            have e2 := (hK.2 1 (tc 1, .byte) rfl).2
            exact Option.some.inj (e1.symm.trans e2)
          subst hcA
          intro T hT XT
          have hzz := XT.heapSize
          rw [hT] at hzz
          have hq := am_fresh hlen k2 k1 (by omega)
          subst hq
          have hpush := am_ws_push (B := B) (b := b) (tc := tc) hlen (.inl (1, n.toNatClampNeg, .inl (fun _ => 0)))
          have k1' : va_P D am_cl (am_ws B b tc h ++ [(B + (h.length - 1), am_rc B b tc (.inl (1, n.toNatClampNeg, .inl (fun _ => 0))))]) H1 := k1
          have k2' : va_D (fun q => B ≤ q) (am_ws B b tc h ++ [(B + (h.length - 1), am_rc B b tc (.inl (1, n.toNatClampNeg, .inl (fun _ => 0))))]) := k2
          rw [← hpush] at k1' k2'
          have hW := kk H1 locs (cells + 1) (slots + n.toNatClampNeg) la (by rw [List.length_append]; simp; omega) (by rw [am_slots_push]; show _ = slots + (am_slots h + n.toNatClampNeg); omega) ⟨k1', k2', k3, hLR, by rw [List.getElem?_append_left (by omega)]; exact hsc⟩
          have hrn : am_rn B b h.length = B + (h.length - 1) := by
            obtain ⟨k, hk⟩ : ∃ k, h.length = k + 1 := ⟨h.length - 1, by omega⟩
            rw [hk]
            rfl
          simp only [List.map_cons, am_rv, hrn] at hW
          exact hW T hT XT
        · 
          refine va_newa (atype := .boolean) (ty := .boolean) (a0 := (n.toNatClampNeg, .inl (fun _ => 0))) hx hb (hts _ (am_in am_aw.2.2.1 rfl)) rfl hK hP hD hS hA (fun cA => rfl) (fun z => hn (Or.inl z)) rfl ?_ hc1 hc2 hd (fun q cA H1 k0 k1 k2 k3 => ?_)
          · show n.toNatClampNeg * 1 ≤ _
            omega
          have hcA : cA = tc 2 := by
            have e1 := (k0.2 4 (cA, .boolean) rfl).2
            have e2 := (hK.2 2 (tc 2, .boolean) rfl).2
            exact Option.some.inj (e1.symm.trans e2)
          subst hcA
          intro T hT XT
          have hzz := XT.heapSize
          rw [hT] at hzz
          have hq := am_fresh hlen k2 k1 (by omega)
          subst hq
          have hpush := am_ws_push (B := B) (b := b) (tc := tc) hlen (.inl (2, n.toNatClampNeg, .inl (fun _ => 0)))
          have k1' : va_P D am_cl (am_ws B b tc h ++ [(B + (h.length - 1), am_rc B b tc (.inl (2, n.toNatClampNeg, .inl (fun _ => 0))))]) H1 := k1
          have k2' : va_D (fun q => B ≤ q) (am_ws B b tc h ++ [(B + (h.length - 1), am_rc B b tc (.inl (2, n.toNatClampNeg, .inl (fun _ => 0))))]) := k2
          rw [← hpush] at k1' k2'
          have hW := kk H1 locs (cells + 1) (slots + n.toNatClampNeg) la (by rw [List.length_append]; simp; omega) (by rw [am_slots_push]; show _ = slots + (am_slots h + n.toNatClampNeg); omega) ⟨k1', k2', k3, hLR, by rw [List.getElem?_append_left (by omega)]; exact hsc⟩
          have hrn : am_rn B b h.length = B + (h.length - 1) := by
            obtain ⟨k, hk⟩ : ∃ k, h.length = k + 1 := ⟨h.length - 1, by omega⟩
            rw [hk]
            rfl
          simp only [List.map_cons, am_rv, hrn] at hW
          exact hW T hT XT
    · cases hs
  · obtain ⟨hd, rfl, hv⟩ := of_decide_eq_true hck
    obtain ⟨⟨x1, x2, x3, x4⟩, hm, he⟩ := am_map2 hv
    simp only [Prod.mk.injEq] at he
    obtain ⟨rfl, rfl, rfl⟩ := he
    have hkl := am_KL_ok _ hm
    dsimp only at hkl
    split at hs
    · rename_i n r
      split at hs
      · cases hs
      · rename_i hn
        have hn2 : n.toNatClampNeg < 1000000 := Nat.not_le.mp (fun z => hn (Or.inr z))
        cases hs
        have hc1 : cells + 1 ≤ R.cells := by rw [List.length_append] at hR1; simp at hR1; omega
        have hc2 : slots + n.toNatClampNeg ≤ R.slots := by
          rw [am_slots_push] at hR2
          have : am_csz (.inl (3, n.toNatClampNeg, .inr (.inr (.inr (.inr (fun _ => none)))))) = n.toNatClampNeg := rfl
          omega
        refine va_newq (C := "LivingDays$State") hx hb hown (hts _ (am_in hkl rfl)) hao hK hP hD hS hA (fun z => hn (Or.inl z)) rfl (by omega) hc1 hc2 hd (fun q cA H1 k0 k1 k2 k3 => ?_)
        have hcA : cA = tc 3 := by
          obtain ⟨_, _, _, _, _, e1⟩ := (k0.2 4 (cA, .object "LivingDays$State") rfl).2
          obtain ⟨_, _, _, _, _, e2⟩ := (hK.2 3 (tc 3, .object "LivingDays$State") rfl).2
          exact Option.some.inj (e1.symm.trans e2)
        subst hcA
        intro T hT XT
        have hzz := XT.heapSize
        rw [hT] at hzz
        have hq := am_fresh hlen k2 k1 (by omega)
        subst hq
        have hpush := am_ws_push (B := B) (b := b) (tc := tc) hlen (.inl (3, n.toNatClampNeg, .inr (.inr (.inr (.inr (fun _ => none))))))
        have k1' : va_P D am_cl (am_ws B b tc h ++ [(B + (h.length - 1), am_rc B b tc (.inl (3, n.toNatClampNeg, .inr (.inr (.inr (.inr (fun _ => none)))))))]) H1 := k1
        have k2' : va_D (fun q => B ≤ q) (am_ws B b tc h ++ [(B + (h.length - 1), am_rc B b tc (.inl (3, n.toNatClampNeg, .inr (.inr (.inr (.inr (fun _ => none)))))))]) := k2
        rw [← hpush] at k1' k2'
        have hW := kk H1 locs (cells + 1) (slots + n.toNatClampNeg) la (by rw [List.length_append]; simp; omega) (by rw [am_slots_push]; show _ = slots + (am_slots h + n.toNatClampNeg); omega) ⟨k1', k2', k3, hLR, by rw [List.getElem?_append_left (by omega)]; exact hsc⟩
        have hrn : am_rn B b h.length = B + (h.length - 1) := by
          obtain ⟨k, hk⟩ : ∃ k, h.length = k + 1 := ⟨h.length - 1, by omega⟩
          rw [hk]
          rfl
        simp only [List.map_cons, am_rv, hrn] at hW
        exact hW T hT XT
    · cases hs
  · obtain ⟨hd, rfl, ha, hv⟩ := of_decide_eq_true hck
    obtain ⟨⟨x1, x2, x3, x4⟩, hm, he⟩ := am_map2 hv
    simp only [Prod.mk.injEq] at he
    obtain ⟨rfl, rfl, rfl⟩ := he
    have hkl := am_KL_ok _ hm
    dsimp only at hkl
    cases hs
    have hin : ∀ w ∈ u_ws (am_cn x3) (cs_T x3) (cs_N x3), w ∈ am_tb := fun w hw => by
      obtain ⟨k, hk, rfl⟩ := List.mem_map.mp hw
      exact am_in (cs_pos x3 ha k (List.mem_range.mp hk)) (by unfold u_lay; split <;> rfl)
    obtain ⟨i1, i2⟩ := cs_ini x3 ha
    obtain ⟨d1, d2⟩ := cs_dv x3 ha
    have hc1 : cells + 1 ≤ R.cells := by rw [List.length_append] at hR1; simp at hR1; omega
    have hc2 : slots + cs_N x3 ≤ R.slots := by
      rw [am_slots_push] at hR2
      have : am_csz (.inr (x3, am_dv x3)) = cs_N x3 := d1
      omega
    have hmap : (am_dv x3).map (am_rv B b) = am_dv x3 := by
      match x3, ha with
      | 0, _ => rfl
      | 1, _ => rfl
      | 2, _ => rfl
      | 3, _ => rfl
      | 4, _ => rfl
      | 5, _ => rfl
      | 6, _ => rfl
      | 7, _ => rfl
      | 8, _ => rfl
      | 9, _ => rfl
      | n + 10, h => omega
    refine va_new (C := am_cn x3) (T := cs_T x3) (N := cs_N x3) (ci := x3) hx hb hts hin (cs_ty x3) (cs_ty_ok x3 ha) hown (hts _ (am_in hkl rfl)) (hts _ (am_in i1 rfl)) (hts _ (am_in i2 rfl)) hK hP hD hS hA (am_cl_at x3 ha) (fs := am_dv x3) d2 hc1 hc2 hd (fun q H1 k1 k2 k3 => ?_)
    intro T hT XT
    have hzz := XT.heapSize
    rw [hT] at hzz
    have hq := am_fresh hlen k2 k1 (by omega)
    subst hq
    have hpush := am_ws_push (B := B) (b := b) (tc := tc) hlen (.inr (x3, am_dv x3))
    have hr : am_rc B b tc (.inr (x3, am_dv x3)) = .inr (x3, am_dv x3) := by
      show (Sum.inr (x3, (am_dv x3).map (am_rv B b)) : va_E) = _
      rw [hmap]
    rw [hr] at hpush
    rw [← hpush] at k1 k2
    have hW := kk H1 locs (cells + 1) (slots + cs_N x3) la (by rw [List.length_append]; simp; omega) (by rw [am_slots_push]; show _ = slots + (am_slots h + (am_dv x3).length); omega) ⟨k1, k2, k3, hLR, by rw [List.getElem?_append_left (by omega)]; exact hsc⟩
    have hrn : am_rn B b h.length = B + (h.length - 1) := by
      obtain ⟨k, hk⟩ : ∃ k, h.length = k + 1 := ⟨h.length - 1, by omega⟩
      rw [hk]
      rfl
    simp only [List.map_cons, am_rv, hrn] at hW
    exact hW T hT XT
  · split at hs
    · rename_i v
      cases hbo : am_pf d (.int v) with
      | false => rw [hbo] at hs; cases hs
      | true => rw [hbo] at hs; cases hs
    · cases hs
  · split at hs
    · cases hs
    · cases hs
  · split at hs
    · rename_i o r hst
      split at hs
      · rename_i ci fs ho
        cases hbo : (Nat.beq ci d && am_cat8 r) with
        | false => rw [hbo] at hs; cases hs
        | true => rw [hbo] at hs; cases hs
      · cases hs
    · cases hs
  · rename_i n
    split at hs
    · split at hs
      · rename_i o r hst
        cases hbo : am_cat8 r with
        | false => rw [hbo] at hs; cases hs
        | true => rw [hbo] at hs; cases hs
      · cases hs
    · split at hs
      · rename_i o r
        cases hbo : am_cat8 r with
        | false => rw [hbo] at hs; cases hs
        | true =>
          rw [hbo] at hs
          cases hs
          obtain ⟨hd, rfl, hv, g1, g2⟩ := of_decide_eq_true hck
          obtain ⟨⟨x1, x2, x3⟩, hm, he⟩ := am_map2 hv
          simp only [Prod.mk.injEq] at he
          obtain ⟨rfl, rfl⟩ := he
          have hr8 : (List.map (fun v => v.category) (st'.map (am_rv B b))).sum ≤ 8 := by
            have := Nat.le_of_ble_eq_true hbo
            rw [List.map_map]
            rw [show ((fun v : Value => v.category) ∘ am_rv B b) = (fun v => v.category) from funext (fun v => am_cat B b v)]
            exact this
          exact W.objInit hx hb hown (hts _ (am_in (am_OL_ok _ hm) rfl)) (hts _ (am_in am_oi.1 rfl)) (hts _ (am_in am_oi.2 rfl)) rfl (by show la.size = _; rw [hml]; exact hsz) rfl hd (by omega) (by show 2 * 0 + _ + 12 ≤ _; omega) (kk H locs cells slots la rfl rfl X)
      · cases hs
  · rename_i n
    split at hs
    · cases hbo : (Nat.ble bb st.length && am_cat8 (st.drop bb)) with
      | false => rw [hbo] at hs; cases hs
      | true => rw [hbo] at hs; cases hs
    · split at hs
      · rename_i n dp o sp q r
        split at hs
        · rename_i n0 f n1 g h0 h1
          split at hs
          · cases hs
          · rename_i hin
            cases hbo : am_cat8 r with
            | false => rw [hbo] at hs; cases hs
            | true =>
              rw [hbo] at hs
              cases hs
              obtain ⟨hd, rfl, hv, g1, g2⟩ := of_decide_eq_true hck
              obtain ⟨⟨x1, x2, x3⟩, hm, he⟩ := am_map2 hv
              simp only [Prod.mk.injEq] at he
              obtain ⟨rfl, rfl⟩ := he
              simp only [not_or] at hin
              obtain ⟨i1, i2, i3, i4, i5⟩ := hin
              have hr8 : (List.map (fun v => v.category) (st'.map (am_rv B b))).sum ≤ 8 := by
                have := Nat.le_of_ble_eq_true hbo
                rw [List.map_map]
                rw [show ((fun v : Value => v.category) ∘ am_rv B b) = (fun v => v.category) from funext (fun v => am_cat B b v)]
                exact this
              refine va_copyi hx hb (by rw [hml]; exact hsz.symm) hown (hts _ (am_in (am_AL_ok _ hm) rfl)) (hts _ (am_in am_ac.1 rfl)) (hts _ (am_in am_ac.2.1 rfl)) (hts _ (am_in am_ac.2.2 rfl)) hK hP hD hS q o 0 0 (ty := .int) (am_ws_get h0) (am_ws_get h1) rfl rfl rfl i1 i2 i3 (Nat.not_lt.mp i4) (Nat.not_lt.mp i5) (fun i _ => rfl) (by omega) (by omega) hd (fun H1 locs1 k1 k2 k3 => ?_)
              have hset := am_ws_set B b tc h o (.inl (0, n1, .inl (va_cpy f g sp.toNatClampNeg dp.toNatClampNeg n.toNatClampNeg)))
              have k1' : va_P D am_cl ((am_ws B b tc h).set o (B + o, am_rc B b tc (.inl (0, n1, .inl (va_cpy f g sp.toNatClampNeg dp.toNatClampNeg n.toNatClampNeg))))) H1 := k1
              have k2' : va_D (fun q => B ≤ q) ((am_ws B b tc h).set o (B + o, am_rc B b tc (.inl (0, n1, .inl (va_cpy f g sp.toNatClampNeg dp.toNatClampNeg n.toNatClampNeg))))) := k2
              rw [hset] at k1' k2'
              exact kk H1 locs1 cells slots la (by rw [List.length_set]) (by rw [am_slots_set (c' := .inl (0, n1, .inl (va_cpy f g sp.toNatClampNeg dp.toNatClampNeg n.toNatClampNeg))) h1 rfl]) ⟨k1', k2', k3, hLR, by rw [List.getElem?_set_ne (by omega)]; exact hsc⟩
        · cases hs
      · cases hs
    · split at hs
      · rename_i y x r
        cases hbo : am_cat8 r with
        | false => rw [hbo] at hs; cases hs
        | true =>
          rw [hbo] at hs
          cases hs
          obtain ⟨hd, rfl, hv, g1, g2⟩ := of_decide_eq_true hck
          obtain ⟨⟨x1, x2, x3, x4⟩, hm, he⟩ := am_map2 hv
          simp only [Prod.mk.injEq] at he
          obtain ⟨rfl, rfl, rfl⟩ := he
          have hxl := am_XL_ok _ hm
          have hr8 : (List.map (fun v => v.category) (r.map (am_rv B b))).sum ≤ 8 := by
            have := Nat.le_of_ble_eq_true hbo
            rw [List.map_map]
            rw [show ((fun v : Value => v.category) ∘ am_rv B b) = (fun v => v.category) from funext (fun v => am_cat B b v)]
            exact this
          exact va_mmax hx hb (by rw [hml]; exact hsz.symm) hown (hts _ (am_in hxl rfl)) (hts _ (am_in am_xm.1 rfl)) (hts _ (am_in am_xm.2.2.1 rfl)) (hts _ (am_in am_xm.2.2.2.1 rfl)) (by omega) (by omega) (by omega) (by omega) hd (kk H locs cells slots la rfl rfl X)
      · cases hs
    · split at hs
      · rename_i y x r
        cases hbo : am_cat8 r with
        | false => rw [hbo] at hs; cases hs
        | true =>
          rw [hbo] at hs
          cases hs
          obtain ⟨hd, rfl, hv, g1, g2⟩ := of_decide_eq_true hck
          obtain ⟨⟨x1, x2, x3, x4⟩, hm, he⟩ := am_map2 hv
          simp only [Prod.mk.injEq] at he
          obtain ⟨rfl, rfl, rfl⟩ := he
          have hxl := am_XL_ok _ hm
          have hr8 : (List.map (fun v => v.category) (r.map (am_rv B b))).sum ≤ 8 := by
            have := Nat.le_of_ble_eq_true hbo
            rw [List.map_map]
            rw [show ((fun v : Value => v.category) ∘ am_rv B b) = (fun v => v.category) from funext (fun v => am_cat B b v)]
            exact this
          exact va_mmin hx hb (by rw [hml]; exact hsz.symm) hown (hts _ (am_in hxl rfl)) (hts _ (am_in am_xm.2.1 rfl)) (hts _ (am_in am_xm.2.2.1 rfl)) (hts _ (am_in am_xm.2.2.2.2 rfl)) (by omega) (by omega) (by omega) (by omega) hd (kk H locs cells slots la rfl rfl X)
      · cases hs
  · cases hs
