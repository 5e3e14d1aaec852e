/-! THE ABSTRACT MACHINE: a pure machine over tables, whose runs are runs of the JVM (part 04). Addresses are small numbers: 0 is the script, k + 1 the k-th cell that the law has made. -/
abbrev am_C : Type := (Nat × vp_A) ⊕ (Nat × List Value)
abbrev am_H : Type := List am_C
/-- a row of code: the instruction, where it goes on, three numbers (a local, a target, a callee ..), a constant, a switch's table -/
abbrev am_E : Type := Instr × Nat × Nat × Nat × Nat × Int32 × List (Int32 × Nat)
/-- a method: how many locals, its rows -/
abbrev am_M : Type := Nat × (Nat → Option am_E)
abbrev am_S : Type := (Nat × List Value × List Value × am_H) ⊕ (Option Value ⊕ (Nat × List Value × List Value))
def am_go (pc : Nat) (ls st : List Value) (h : am_H) : Option am_S := some (.inl (pc, ls, st, h))
def am_br (o : ClassFile.Cond) (x y : Int32) (t f : Nat) : Nat := match o with
  | .eq => if x = y then t else f
  | .ne => if x = y then f else t
  | .lt => if x < y then t else f
  | .ge => if y ≤ x then t else f
  | .gt => if y < x then t else f
  | .le => if x ≤ y then t else f
def am_sw : List (Int32 × Nat) → Nat → Int32 → Nat
  | [], d, _ => d
  | (k, t) :: r, d, x => if x = k then t else am_sw r d x
/-- a local may be written: the word ahead of it isn't the first half of a long -/
def am_free (ls : List Value) (i : Nat) : Bool := match ls[i - 1]? with
  | some (.long _) => false
  | some (.double _) => false
  | _ => true
def am_put (i : Nat) (v : Value) (pc : Nat) (ls st : List Value) (h : am_H) : Option am_S := bif am_free ls i && Nat.blt i ls.length then am_go pc (ls.set i v) st h else none
def am_pf (ty : Nat) (v : Value) : Bool := match ty, v with
  | 0, .int _ => true
  | 1, .int x => decide (x = 0) || decide (x = 1)
  | 2, .ref _ => true
  | _, _ => false
def am_dv (ci : Nat) : List Value := match ci with
  | 0 => [.null, .null, .null, .null, .null]
  | 1 => [.null]
  | 2 => [.null, .null, .null, .null, .int 0, .int 0, .int 0, .int 0]
  | 3 => [.null, .null, .null, .null, .int 0, .int 0]
  | 4 => [.null, .null, .null, .null, .null, .null, .null, .int 0]
  | 5 => [.int 0, .int 0, .int 0]
  | 6 => [.null, .null, .null, .null, .null, .int 0]
  | 7 => [.null, .int 0]
  | 8 => [.null, .null, .int 0, .null, .null, .null, .null, .null, .null]
  | 9 => [.null, .null, .null, .null, .null, .int 0, .null, .int 0, .int 0, .int 0, .int 0, .int 0, .null, .int 0, .int 0, .int 0, .int 0, .null, .null, .null, .null, .null, .null, .int 0, .null, .null, .null]
  | _ => []
def am_cat8 (st : List Value) : Bool := Nat.ble (st.map fun v => v.category).sum 8
/-- one instruction -/
def am_step (e : am_E) (ls st : List Value) (h : am_H) : Option am_S :=
  match e with
  | (i, nx, a, b, d, c, sw) =>
    match i with
    | .iconst _ => am_go nx ls (.int c :: st) h
    | .bipush _ => am_go nx ls (.int c :: st) h
    | .sipush _ => am_go nx ls (.int c :: st) h
    | .ldc _ => am_go nx ls (.int c :: st) h
    | .ldc_w _ => am_go nx ls (.int c :: st) h
    | .lconst _ => am_go nx ls (.long c.toInt64 :: st) h
    | .ldc2_w _ => am_go nx ls (.long c.toInt64 :: st) h
    | .iload _ => (match ls[a]? with | some (.int x) => am_go nx ls (.int x :: st) h | _ => none)
    | .iload_n _ => (match ls[a]? with | some (.int x) => am_go nx ls (.int x :: st) h | _ => none)
    | .lload _ => (match ls[a]? with | some (.long x) => am_go nx ls (.long x :: st) h | _ => none)
    | .lload_n _ => (match ls[a]? with | some (.long x) => am_go nx ls (.long x :: st) h | _ => none)
    | .aload _ => (match ls[a]? with | some (.ref x) => am_go nx ls (.ref x :: st) h | _ => none)
    | .aload_n _ => (match ls[a]? with | some (.ref x) => am_go nx ls (.ref x :: st) h | _ => none)
    | .istore _ => (match st with | .int x :: r => am_put a (.int x) nx ls r h | _ => none)
    | .istore_n _ => (match st with | .int x :: r => am_put a (.int x) nx ls r h | _ => none)
    | .astore _ => (match st with | .ref x :: r => am_put a (.ref x) nx ls r h | _ => none)
    | .astore_n _ => (match st with | .ref x :: r => am_put a (.ref x) nx ls r h | _ => none)
    | .iinc _ _ => (match ls[a]? with | some (.int x) => am_put a (.int (x + c)) nx ls st h | _ => none)
    | .iadd => (match st with | .int y :: .int x :: r => am_go nx ls (.int (x + y) :: r) h | _ => none)
    | .isub => (match st with | .int y :: .int x :: r => am_go nx ls (.int (x - y) :: r) h | _ => none)
    | .imul => (match st with | .int y :: .int x :: r => am_go nx ls (.int (x * y) :: r) h | _ => none)
    | .iand => (match st with | .int y :: .int x :: r => am_go nx ls (.int (x &&& y) :: r) h | _ => none)
    | .ior => (match st with | .int y :: .int x :: r => am_go nx ls (.int (x ||| y) :: r) h | _ => none)
    | .ixor => (match st with | .int y :: .int x :: r => am_go nx ls (.int (x ^^^ y) :: r) h | _ => none)
    | .ishl => (match st with | .int y :: .int x :: r => am_go nx ls (.int (x <<< y) :: r) h | _ => none)
    | .ishr => (match st with | .int y :: .int x :: r => am_go nx ls (.int (x >>> y) :: r) h | _ => none)
    | .iushr => (match st with | .int y :: .int x :: r => am_go nx ls (.int (x.toUInt32 >>> (y.toUInt32 &&& Int32.toUInt32 31)).toInt32 :: r) h | _ => none)
    | .idiv => (match st with | .int y :: .int x :: r => if y = 0 then none else am_go nx ls (.int (x / y) :: r) h | _ => none)
    | .irem => (match st with | .int y :: .int x :: r => if y = 0 then none else am_go nx ls (.int (x - x / y * y) :: r) h | _ => none)
    | .ineg => (match st with | .int x :: r => am_go nx ls (.int (-x) :: r) h | _ => none)
    | .ladd => (match st with | .long y :: .long x :: r => am_go nx ls (.long (x + y) :: r) h | _ => none)
    | .lcmp => (match st with | .long y :: .long x :: r => am_go nx ls (.int (lg_cmp x y) :: r) h | _ => none)
    | .i2l => (match st with | .int x :: r => am_go nx ls (.long x.toInt64 :: r) h | _ => none)
    | .i2b => (match st with | .int x :: r => am_go nx ls (.int x.toInt8.toInt32 :: r) h | _ => none)
    | .dup => (match st with | .int x :: r => am_go nx ls (.int x :: .int x :: r) h | .ref x :: r => am_go nx ls (.ref x :: .ref x :: r) h | _ => none)
    | .dup2 => (match st with | .int y :: .ref x :: r => am_go nx ls (.int y :: .ref x :: .int y :: .ref x :: r) h | _ => none)
    | .pop => (match st with | .int _ :: r => am_go nx ls r h | .ref _ :: r => am_go nx ls r h | _ => none)
    | .goto _ => am_go a ls st h
    | .if_icmp o _ => (match st with | .int y :: .int x :: r => am_go (am_br o x y a nx) ls r h | _ => none)
    | .ifCond o _ => (match st with | .int x :: r => am_go (am_br o x 0 a nx) ls r h | _ => none)
    | .ifnonnull _ => (match st with | .ref _ :: r => am_go a ls r h | .null :: r => am_go nx ls r h | _ => none)
    | .tableswitch _ _ _ _ => (match st with | .int x :: r => am_go (am_sw sw a x) ls r h | _ => none)
    | .lookupswitch _ _ => (match st with | .int x :: r => am_go (am_sw sw a x) ls r h | _ => none)
    | .getfield _ => (match st with
      | .ref o :: r => (match h[o]? with
        | some (.inr (ci, fs)) => bif Nat.beq ci a then (match fs[b]? with | some v => am_go nx ls (v :: r) h | none => none) else none
        | _ => none)
      | _ => none)
    | .putfield _ => (match st with
      | v :: .ref (o + 1) :: r => (match h[o + 1]? with
        | some (.inr (ci, fs)) => bif Nat.beq ci a && am_pf d v && Nat.blt b fs.length then am_go nx ls r (h.set (o + 1) (.inr (ci, fs.set b v))) else none
        | _ => none)
      | _ => none)
    | .iaload => (match st with
      | .int i :: .ref o :: r => (match h[o]? with
        | some (.inl (0, n, .inl f)) => if i < 0 ∨ n ≤ i.toNatClampNeg then none else am_go nx ls (.int (f i.toNatClampNeg) :: r) h
        | _ => none)
      | _ => none)
    | .baload => (match st with
      | .int i :: .ref (o + 1) :: r => (match h[o + 1]? with
        | some (.inl (1, n, .inl f)) => if i < 0 ∨ n ≤ i.toNatClampNeg then none else am_go nx ls (.int (f i.toNatClampNeg) :: r) h
        | some (.inl (2, n, .inl f)) => if i < 0 ∨ n ≤ i.toNatClampNeg then none else am_go nx ls (.int (f i.toNatClampNeg) :: r) h
        | _ => none)
      | _ => none)
    | .aaload => (match st with
      | .int i :: .ref (o + 1) :: r => (match h[o + 1]? with
        | some (.inl (3, n, .inr (.inr (.inr (.inr f))))) => if i < 0 ∨ n ≤ i.toNatClampNeg then none else am_go nx ls (va_rf (f i.toNatClampNeg) :: r) h
        | _ => none)
      | _ => none)
    | .iastore => (match st with
      | .int x :: .int i :: .ref (o + 1) :: r => (match h[o + 1]? with
        | some (.inl (0, n, .inl f)) => if i < 0 ∨ n ≤ i.toNatClampNeg then none else am_go nx ls r (h.set (o + 1) (.inl (0, n, .inl (upd f i.toNatClampNeg x))))
        | _ => none)
      | _ => none)
    | .bastore => (match st with
      | .int x :: .int i :: .ref (o + 1) :: r => (match h[o + 1]? with
        | some (.inl (1, n, .inl f)) => if i < 0 ∨ n ≤ i.toNatClampNeg then none else am_go nx ls r (h.set (o + 1) (.inl (1, n, .inl (upd f i.toNatClampNeg (vp_nar .byte x)))))
        | some (.inl (2, n, .inl f)) => if i < 0 ∨ n ≤ i.toNatClampNeg then none else am_go nx ls r (h.set (o + 1) (.inl (2, n, .inl (upd f i.toNatClampNeg (vp_nar .boolean x)))))
        | _ => none)
      | _ => none)
    | .aastore => (match st with
      | .ref (v + 1) :: .int i :: .ref (o + 1) :: r => (match h[o + 1]?, h[v + 1]? with
        | some (.inl (3, n, .inr (.inr (.inr (.inr f))))), some (.inr (6, _)) => if i < 0 ∨ n ≤ i.toNatClampNeg then none else am_go nx ls r (h.set (o + 1) (.inl (3, n, .inr (.inr (.inr (.inr (va_up f i.toNatClampNeg (some (v + 1)))))))))
        | _, _ => none)
      | _ => none)
    | .arraylength => (match st with
      | .ref o :: r => (match h[o]? with
        | some (.inl (t, n, f)) => bif Nat.blt t 4 then am_go nx ls (.int (Int32.ofNat n) :: r) h else none
        | _ => none)
      | _ => none)
    | .newarray _ => (match st with
      | .int n :: r => if n < 0 ∨ 1000000 ≤ n.toNatClampNeg then none else am_go nx ls (.ref h.length :: r) (h ++ [.inl (a, n.toNatClampNeg, .inl (fun _ => 0))])
      | _ => none)
    | .anewarray _ => (match st with
      | .int n :: r => if n < 0 ∨ 1000000 ≤ n.toNatClampNeg then none else am_go nx ls (.ref h.length :: r) (h ++ [.inl (3, n.toNatClampNeg, .inr (.inr (.inr (.inr (fun _ => none)))))])
      | _ => none)
    | .new _ => am_go nx ls (.ref h.length :: st) (h ++ [.inr (a, am_dv a)])
    | .ireturn => (match st with
      | [.int v] => bif am_pf d (.int v) then some (.inr (.inl (some (.int v)))) else none
      | _ => none)
    | .return_ => (match st with
      | [] => some (.inr (.inl none))
      | _ => none)
    | .invokevirtual _ => (match st.drop b with
      | .ref (o + 1) :: r => (match h[o + 1]? with
        | some (.inr (ci, _)) => bif Nat.beq ci d && am_cat8 r then some (.inr (.inr (a, .ref (o + 1) :: (st.take b).reverse, r))) else none
        | _ => none)
      | _ => none)
    | .invokespecial _ => (match d with
      | 0 => (match st.drop b with
        | .ref (o + 1) :: r => bif am_cat8 r then some (.inr (.inr (a, .ref (o + 1) :: (st.take b).reverse, r))) else none
        | _ => none)
      | _ => (match st with
        | .ref _ :: r => bif am_cat8 r then am_go nx ls r h else none
        | _ => none))
    | .invokestatic _ => (match d with
      | 0 => bif Nat.ble b st.length && am_cat8 (st.drop b) then some (.inr (.inr (a, (st.take b).reverse, st.drop b))) else none
      | _ => (match st with
        | .int n :: .int dp :: .ref (o + 1) :: .int sp :: .ref (q + 1) :: r => (match h[q + 1]?, h[o + 1]? with
          | some (.inl (0, n0, .inl f)), some (.inl (0, n1, .inl g)) => if sp < 0 ∨ dp < 0 ∨ n < 0 ∨ n0 < sp.toNatClampNeg + n.toNatClampNeg ∨ n1 < dp.toNatClampNeg + n.toNatClampNeg then none else bif am_cat8 r then am_go nx ls r (h.set (o + 1) (.inl (0, n1, .inl (va_cpy f g sp.toNatClampNeg dp.toNatClampNeg n.toNatClampNeg)))) else none
          | _, _ => none)
        | _ => none))
    | _ => none
/-- the locals with which a method begins -/
def am_sl (vs : List Value) : List Value := vs.flatMap fun v => if v.category = 2 then [v, .null] else [v]
def am_en (vs : List Value) (n : Nat) : List Value := am_sl vs ++ List.replicate (n - (am_sl vs).length) .null
/-- a run, with so many steps to go: what it answers, and the heap behind it -/
def am_run (pg : Nat → am_M) : Nat → am_M → Nat → List Value → List Value → am_H → Option (Option Value × am_H)
  | 0, _, _, _, _, _ => none
  | n + 1, M, pc, ls, st, h => match M.2 pc with
    | none => none
    | some e => match am_step e ls st h with
      | none => none
      | some (.inl (pc', ls', st', h')) => am_run pg n M pc' ls' st' h'
      | some (.inr (.inl v)) => some (v, h)
      | some (.inr (.inr (z, as, r))) => match am_run pg n (pg z) 0 (am_en as (pg z).1) [] h with
        | none => none
        | some (v, h') => am_run pg n M e.2.1 ls (v.toList ++ r) h'
