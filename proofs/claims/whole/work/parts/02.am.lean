/-! THE ABSTRACT MACHINE: a pure machine over tables, whose runs are runs of the JVM (part 04). Addresses are small numbers: 0 is the script, k + 1 the k-th cell that the law has made. -/
abbrev am_C : Type := (Nat × vp_A) ⊕ (Nat × List Value)
abbrev am_H : Type := List am_C
/-- a row of code: the instruction, where it goes on, four numbers (a local, a target, a callee, a link ..), a constant, a switch's table -/
abbrev am_E : Type := Instr × Nat × Nat × Nat × Nat × Nat × Int32 × List (Int32 × Nat)
/-- a method: how many locals, its rows -/
abbrev am_M : Type := Nat × (Nat → Option am_E)
abbrev am_S : Type := (Nat × List Value × List Value × am_H) ⊕ (Option Int32 ⊕ (Nat × List Value × List Value))
def am_br {α : Type} (o : ClassFile.Cond) (x y : Int32) (t f : α) : α := match o with
  | .eq => if x = y then t else f
  | .ne => if x = y then f else t
  | .lt => if x < y then t else f
  | .ge => if y ≤ x then t else f
  | .gt => if y < x then t else f
  | .le => if x ≤ y then t else f
def am_sw {α : Type} : List (Int32 × Nat) → α → (Nat → α) → Int32 → α
  | [], d, _, _ => d
  | (k, t) :: r, d, f, x => if x = k then f t else am_sw r d f x
/-- a local may be written: the word ahead of it isn't the first half of a long -/
def am_free (ls : List Value) (i : Nat) : Bool := match ls[i - 1]? with
  | some (.long _) => false
  | some (.double _) => false
  | _ => true
def am_pf (ty : Nat) (v : Value) : Bool := match ty, v with
  | 0, .int _ => true
  | 1, .int x => decide (x = 0) || decide (x = 1)
  | 2, .ref _ => true
  | _, _ => false
def am_dv (ci : Nat) : List Value := match ci with
  | 0 => [.null, .null, .null, .null, .null]
  | 1 => [.null]
  | 2 => [.null, .null, .null, .null, .int 0, .int 0, .int 0, .int 0]
  | 3 => [.null, .null, .null, .null, .int 0, .int 0]
  | 4 => [.null, .null, .null, .null, .null, .null, .null, .int 0]
  | 5 => [.int 0, .int 0, .int 0]
  | 6 => [.null, .null, .null, .null, .null, .int 0]
  | 7 => [.null, .int 0]
  | 8 => [.null, .null, .int 0, .null, .null, .null, .null, .null, .null]
  | 9 => [.null, .null, .null, .null, .null, .int 0, .null, .int 0, .int 0, .int 0, .int 0, .int 0, .null, .int 0, .int 0, .int 0, .int 0, .null, .null, .null, .null, .null, .null, .int 0, .null, .null, .null]
  | _ => []
def am_cat8 (st : List Value) : Bool := Nat.ble (st.map fun v => v.category).sum 8
/-- one instruction, by what goes on behind it -/
def am_stepK {α : Type} (e : am_E) (ls st : List Value) (h : am_H) (fl : α) (go : Nat → List Value → List Value → am_H → α) (rt : Option Int32 → α) (cl : Nat → List Value → List Value → α) : α :=
  match e with
  | (i, nx, a, b, d, _, c, sw) =>
    match i with
    | .iconst _ => go nx ls (.int c :: st) h
    | .bipush _ => go nx ls (.int c :: st) h
    | .sipush _ => go nx ls (.int c :: st) h
    | .ldc _ => go nx ls (.int c :: st) h
    | .ldc_w _ => go nx ls (.int c :: st) h
    | .lconst _ => go nx ls (.long c.toInt64 :: st) h
    | .ldc2_w _ => go nx ls (.long c.toInt64 :: st) h
    | .iload _ => (match ls[a]? with | some (.int x) => go nx ls (.int x :: st) h | _ => fl)
    | .iload_n _ => (match ls[a]? with | some (.int x) => go nx ls (.int x :: st) h | _ => fl)
    | .lload _ => (match ls[a]? with | some (.long x) => go nx ls (.long x :: st) h | _ => fl)
    | .lload_n _ => (match ls[a]? with | some (.long x) => go nx ls (.long x :: st) h | _ => fl)
    | .aload _ => (match ls[a]? with | some (.ref x) => go nx ls (.ref x :: st) h | _ => fl)
    | .aload_n _ => (match ls[a]? with | some (.ref x) => go nx ls (.ref x :: st) h | _ => fl)
    | .istore _ => (match st with | .int x :: r => bif am_free ls a && Nat.blt a ls.length then go nx (ls.set a (.int x)) r h else fl | _ => fl)
    | .istore_n _ => (match st with | .int x :: r => bif am_free ls a && Nat.blt a ls.length then go nx (ls.set a (.int x)) r h else fl | _ => fl)
    | .astore _ => (match st with | .ref x :: r => bif am_free ls a && Nat.blt a ls.length then go nx (ls.set a (.ref x)) r h else fl | _ => fl)
    | .astore_n _ => (match st with | .ref x :: r => bif am_free ls a && Nat.blt a ls.length then go nx (ls.set a (.ref x)) r h else fl | _ => fl)
    | .iinc _ _ => (match ls[a]? with | some (.int x) => bif am_free ls a && Nat.blt a ls.length then go nx (ls.set a (.int (x + c))) st h else fl | _ => fl)
    | .iadd => (match st with | .int y :: .int x :: r => go nx ls (.int (x + y) :: r) h | _ => fl)
    | .isub => (match st with | .int y :: .int x :: r => go nx ls (.int (x - y) :: r) h | _ => fl)
    | .imul => (match st with | .int y :: .int x :: r => go nx ls (.int (x * y) :: r) h | _ => fl)
    | .iand => (match st with | .int y :: .int x :: r => go nx ls (.int (x &&& y) :: r) h | _ => fl)
    | .ior => (match st with | .int y :: .int x :: r => go nx ls (.int (x ||| y) :: r) h | _ => fl)
    | .ixor => (match st with | .int y :: .int x :: r => go nx ls (.int (x ^^^ y) :: r) h | _ => fl)
    | .ishl => (match st with | .int y :: .int x :: r => go nx ls (.int (x <<< (y &&& 31)) :: r) h | _ => fl)
    | .ishr => (match st with | .int y :: .int x :: r => go nx ls (.int (x >>> (y &&& 31)) :: r) h | _ => fl)
    | .iushr => (match st with | .int y :: .int x :: r => go nx ls (.int (x.toUInt32 >>> (y.toUInt32 &&& Int32.toUInt32 31)).toInt32 :: r) h | _ => fl)
    | .idiv => (match st with | .int y :: .int x :: r => if y = 0 then fl else go nx ls (.int (x / y) :: r) h | _ => fl)
    | .irem => (match st with | .int y :: .int x :: r => if y = 0 then fl else go nx ls (.int (x - x / y * y) :: r) h | _ => fl)
    | .ineg => (match st with | .int x :: r => go nx ls (.int (-x) :: r) h | _ => fl)
    | .ladd => (match st with | .long y :: .long x :: r => go nx ls (.long (x + y) :: r) h | _ => fl)
    | .lcmp => (match st with | .long y :: .long x :: r => go nx ls (.int (lg_cmp x y) :: r) h | _ => fl)
    | .i2l => (match st with | .int x :: r => go nx ls (.long x.toInt64 :: r) h | _ => fl)
    | .i2b => (match st with | .int x :: r => go nx ls (.int x.toInt8.toInt32 :: r) h | _ => fl)
    | .dup => (match st with | .int x :: r => go nx ls (.int x :: .int x :: r) h | .ref x :: r => go nx ls (.ref x :: .ref x :: r) h | _ => fl)
    | .dup2 => (match st with | .int y :: .ref x :: r => go nx ls (.int y :: .ref x :: .int y :: .ref x :: r) h | _ => fl)
    | .pop => (match st with | .int _ :: r => go nx ls r h | .ref _ :: r => go nx ls r h | _ => fl)
    | .goto _ => go a ls st h
    | .if_icmp o _ => (match st with | .int y :: .int x :: r => am_br o x y (go a ls r h) (go nx ls r h) | _ => fl)
    | .ifCond o _ => (match st with | .int x :: r => am_br o x 0 (go a ls r h) (go nx ls r h) | _ => fl)
    | .ifnonnull _ => (match st with | .ref _ :: r => go a ls r h | .null :: r => go nx ls r h | _ => fl)
    | .tableswitch _ _ _ _ => (match st with | .int x :: r => am_sw sw (go a ls r h) (fun t => go t ls r h) x | _ => fl)
    | .lookupswitch _ _ => (match st with | .int x :: r => am_sw sw (go a ls r h) (fun t => go t ls r h) x | _ => fl)
    | .getfield _ => (match st with
      | .ref (o + 1) :: r => (match h[o + 1]? with
        | some (.inr (ci, fs)) => (match fs[b]? with | some v => bif Nat.beq ci a then go nx ls (v :: r) h else fl | none => fl)
        | _ => fl)
      | _ => fl)
    | .putfield _ => (match st with
      | v :: .ref (o + 1) :: r => (match h[o + 1]? with
        | some (.inr (ci, fs)) => bif Nat.beq ci a && am_pf d v && Nat.blt b fs.length then go nx ls r (h.set (o + 1) (.inr (ci, fs.set b v))) else fl
        | _ => fl)
      | _ => fl)
    | .iaload => (match st with
      | .int i :: .ref o :: r => (match h[o]? with
        | some (.inl (0, n, .inl f)) => if i < 0 ∨ n ≤ i.toNatClampNeg then fl else go nx ls (.int (f i.toNatClampNeg) :: r) h
        | _ => fl)
      | _ => fl)
    | .baload => (match st with
      | .int i :: .ref (o + 1) :: r => (match h[o + 1]? with
        | some (.inl (1, n, .inl f)) => if i < 0 ∨ n ≤ i.toNatClampNeg then fl else go nx ls (.int (f i.toNatClampNeg) :: r) h
        | some (.inl (2, n, .inl f)) => if i < 0 ∨ n ≤ i.toNatClampNeg then fl else go nx ls (.int (f i.toNatClampNeg) :: r) h
        | _ => fl)
      | _ => fl)
    | .aaload => (match st with
      | .int i :: .ref (o + 1) :: r => (match h[o + 1]? with
        | some (.inl (3, n, .inr (.inr (.inr (.inr f))))) => if i < 0 ∨ n ≤ i.toNatClampNeg then fl else go nx ls (va_rf (f i.toNatClampNeg) :: r) h
        | _ => fl)
      | _ => fl)
    | .iastore => (match st with
      | .int x :: .int i :: .ref (o + 1) :: r => (match h[o + 1]? with
        | some (.inl (0, n, .inl f)) => if i < 0 ∨ n ≤ i.toNatClampNeg then fl else go nx ls r (h.set (o + 1) (.inl (0, n, .inl (upd f i.toNatClampNeg x))))
        | _ => fl)
      | _ => fl)
    | .bastore => (match st with
      | .int x :: .int i :: .ref (o + 1) :: r => (match h[o + 1]? with
        | some (.inl (1, n, .inl f)) => if i < 0 ∨ n ≤ i.toNatClampNeg then fl else go nx ls r (h.set (o + 1) (.inl (1, n, .inl (upd f i.toNatClampNeg (vp_nar .byte x)))))
        | some (.inl (2, n, .inl f)) => if i < 0 ∨ n ≤ i.toNatClampNeg then fl else go nx ls r (h.set (o + 1) (.inl (2, n, .inl (upd f i.toNatClampNeg (vp_nar .boolean x)))))
        | _ => fl)
      | _ => fl)
    | .aastore => (match st with
      | .ref (v + 1) :: .int i :: .ref (o + 1) :: r => (match h[o + 1]?, h[v + 1]? with
        | some (.inl (3, n, .inr (.inr (.inr (.inr f))))), some (.inr (6, _)) => if i < 0 ∨ n ≤ i.toNatClampNeg then fl else go nx ls r (h.set (o + 1) (.inl (3, n, .inr (.inr (.inr (.inr (va_up f i.toNatClampNeg (some (v + 1)))))))))
        | _, _ => fl)
      | _ => fl)
    | .arraylength => (match st with
      | .ref o :: r => (match h[o]? with
        | some (.inl (0, n, .inl _)) => go nx ls (.int (Int32.ofNat n) :: r) h
        | _ => fl)
      | _ => fl)
    | .newarray _ => (match st with
      | .int n :: r => if n < 0 ∨ 1000000 ≤ n.toNatClampNeg then fl else go nx ls (.ref h.length :: r) (h ++ [.inl (a, n.toNatClampNeg, .inl (fun _ => 0))])
      | _ => fl)
    | .anewarray _ => (match st with
      | .int n :: r => if n < 0 ∨ 1000000 ≤ n.toNatClampNeg then fl else go nx ls (.ref h.length :: r) (h ++ [.inl (3, n.toNatClampNeg, .inr (.inr (.inr (.inr (fun _ => none)))))])
      | _ => fl)
    | .new _ => go nx ls (.ref h.length :: st) (h ++ [.inr (a, am_dv a)])
    | .ireturn => (match st with
      | [.int v] => bif am_pf d (.int v) then rt (some v) else fl
      | _ => fl)
    | .return_ => (match st with
      | [] => rt none
      | _ => fl)
    | .invokevirtual _ => (match st.drop b with
      | .ref (o + 1) :: r => (match h[o + 1]? with
        | some (.inr (ci, _)) => bif Nat.beq ci d && am_cat8 r then cl a (.ref (o + 1) :: (st.take b).reverse) r else fl
        | _ => fl)
      | _ => fl)
    | .invokespecial _ => (match d with
      | 0 => (match st.drop b with
        | .ref (o + 1) :: r => bif am_cat8 r then cl a (.ref (o + 1) :: (st.take b).reverse) r else fl
        | _ => fl)
      | _ + 1 => (match st with
        | .ref _ :: r => bif am_cat8 r then go nx ls r h else fl
        | _ => fl))
    | .invokestatic _ => (match d with
      | 0 => bif Nat.ble b st.length && am_cat8 (st.drop b) then cl a ((st.take b).reverse) (st.drop b) else fl
      | 1 => (match st with
        | .int n :: .int dp :: .ref (o + 1) :: .int sp :: .ref (q + 1) :: r => (match h[q + 1]?, h[o + 1]? with
          | some (.inl (0, n0, .inl f)), some (.inl (0, n1, .inl g)) => if sp < 0 ∨ dp < 0 ∨ n < 0 ∨ n0 < sp.toNatClampNeg + n.toNatClampNeg ∨ n1 < dp.toNatClampNeg + n.toNatClampNeg then fl else bif am_cat8 r then go nx ls r (h.set (o + 1) (.inl (0, n1, .inl (va_cpy f g sp.toNatClampNeg dp.toNatClampNeg n.toNatClampNeg)))) else fl
          | _, _ => fl)
        | _ => fl)
      | 2 => (match st with | .int y :: .int x :: r => bif am_cat8 r then go nx ls (.int (if x < y then y else x) :: r) h else fl | _ => fl)
      | _ + 3 => (match st with | .int y :: .int x :: r => bif am_cat8 r then go nx ls (.int (if y < x then y else x) :: r) h else fl | _ => fl))
    | _ => fl
def am_step (e : am_E) (ls st : List Value) (h : am_H) : Option am_S := am_stepK e ls st h none (fun pc ls st h => some (.inl (pc, ls, st, h))) (fun v => some (.inr (.inl v))) (fun z as r => some (.inr (.inr (z, as, r))))
/-- the locals with which a method begins -/
def am_sl (vs : List Value) : List Value := vs.flatMap fun v => if v.category = 2 then [v, .null] else [v]
def am_en (vs : List Value) (n : Nat) : List Value := am_sl vs ++ List.replicate (n - (am_sl vs).length) .null
def am_pv (v : Option Int32) (r : List Value) : List Value := match v with
  | some x => .int x :: r
  | none => r
/-- a run, with so many steps to go: what it answers, and the heap behind it -/
def am_run (pg : Nat → am_M) : Nat → Nat → Nat → List Value → List Value → am_H → Option (Option Int32 × am_H)
  | 0, _, _, _, _, _ => none
  | n + 1, z, pc, ls, st, h => match (pg z).2 pc with
    | none => none
    | some e => match am_step e ls st h with
      | none => none
      | some (.inl (pc', ls', st', h')) => am_run pg n z pc' ls' st' h'
      | some (.inr (.inl v)) => some (v, h)
      | some (.inr (.inr (z', as, r))) => bif Nat.ble (am_sl as).length (pg z').1 then (match am_run pg n z' 0 (am_en as (pg z').1) [] h with
        | none => none
        | some (v, h') => am_run pg n z e.2.1 ls (am_pv v r) h') else none
/-- how many slots the cells have -/
def am_csz (c : am_C) : Nat := match c with
  | .inl (_, n, _) => n
  | .inr (_, fs) => fs.length
def am_slots (h : am_H) : Nat := (h.map am_csz).sum
theorem am_br_app {α β : Type} (f : α → β) (o : ClassFile.Cond) (x y : Int32) (t g : α) : f (am_br o x y t g) = am_br o x y (f t) (f g) := by
  cases o <;> simp only [am_br] <;> split <;> rfl
theorem am_cond_app {α β : Type} (f : α → β) (c : Bool) (t g : α) : f (bif c then t else g) = bif c then f t else f g := by
  cases c <;> rfl
theorem am_sw_app {α β : Type} (f : α → β) (sw : List (Int32 × Nat)) (d : α) (g : Nat → α) (x : Int32) : f (am_sw sw d g x) = am_sw sw (f d) (fun t => f (g t)) x := by
  induction sw with
  | nil => rfl
  | cons q r ih =>
    obtain ⟨k, t⟩ := q
    simp only [am_sw]
    split
    · rfl
    · exact ih
set_option maxHeartbeats 4000000 in
theorem am_stepK_eq {α : Type} (e : am_E) (ls st : List Value) (h : am_H) (fl : α) (go : Nat → List Value → List Value → am_H → α) (rt : Option Int32 → α) (cl : Nat → List Value → List Value → α) :
    am_stepK e ls st h fl go rt cl = match am_step e ls st h with
      | none => fl
      | some (.inl (pc', ls', st', h')) => go pc' ls' st' h'
      | some (.inr (.inl v)) => rt v
      | some (.inr (.inr (z', as, r))) => cl z' as r := by
  let F : Option am_S → α := fun o => match o with
      | none => fl
      | some (.inl (pc', ls', st', h')) => go pc' ls' st' h'
      | some (.inr (.inl v)) => rt v
      | some (.inr (.inr (z', as, r))) => cl z' as r
  show _ = F (am_step e ls st h)
  obtain ⟨i, nx, a, b, d, q, c, sw⟩ := e
  cases i <;> first
    | rfl
    | (simp only [am_step, am_stepK, am_br_app F, am_sw_app F]; done)
    | (simp only [am_step, am_stepK]; repeat' (first | rfl | (rw [am_br_app F]; done) | (rw [am_sw_app F]; done) | (rw [am_cond_app F]; done) | split))
