/-! ROWS: an instruction of the abstract machine, from behind: what must hold behind it, then ahead of it -/
section
variable {z pc nx a b d q : Nat} {c : Int32} {sw : List (Int32 × Nat)} {ls st : List Value} {fs : List am_F} {h h2 h' : am_H} {v : Option Int32}
theorem fn_go {e : am_E} {pc' : Nat} {ls' st' : List Value} (he : (am_pg z).2 pc = some e) (hs : am_step e ls st h = some (.inl (pc', ls', st', h2))) (k : am_fin ((z, pc', ls', st') :: fs) h2 v h') : am_fin ((z, pc, ls, st) :: fs) h v h' := am_fin.map (fun _ _ k => k.go he hs) k
theorem fn_iconst {n : Int} (he : (am_pg z).2 pc = some (.iconst n, nx, a, b, d, q, c, sw)) (k : am_fin ((z, nx, ls, .int c :: st) :: fs) h v h') : am_fin ((z, pc, ls, st) :: fs) h v h' := fn_go he rfl k
theorem fn_bipush {n : Int} (he : (am_pg z).2 pc = some (.bipush n, nx, a, b, d, q, c, sw)) (k : am_fin ((z, nx, ls, .int c :: st) :: fs) h v h') : am_fin ((z, pc, ls, st) :: fs) h v h' := fn_go he rfl k
theorem fn_sipush {n : Int} (he : (am_pg z).2 pc = some (.sipush n, nx, a, b, d, q, c, sw)) (k : am_fin ((z, nx, ls, .int c :: st) :: fs) h v h') : am_fin ((z, pc, ls, st) :: fs) h v h' := fn_go he rfl k
theorem fn_ldc {n : Nat} (he : (am_pg z).2 pc = some (.ldc n, nx, a, b, d, q, c, sw)) (k : am_fin ((z, nx, ls, .int c :: st) :: fs) h v h') : am_fin ((z, pc, ls, st) :: fs) h v h' := fn_go he rfl k
theorem fn_ldc_w {n : Nat} (he : (am_pg z).2 pc = some (.ldc_w n, nx, a, b, d, q, c, sw)) (k : am_fin ((z, nx, ls, .int c :: st) :: fs) h v h') : am_fin ((z, pc, ls, st) :: fs) h v h' := fn_go he rfl k
theorem fn_lconst {n : Fin 2} (he : (am_pg z).2 pc = some (.lconst n, nx, a, b, d, q, c, sw)) (k : am_fin ((z, nx, ls, .long c.toInt64 :: st) :: fs) h v h') : am_fin ((z, pc, ls, st) :: fs) h v h' := fn_go he rfl k
theorem fn_ldc2_w {n : Nat} (he : (am_pg z).2 pc = some (.ldc2_w n, nx, a, b, d, q, c, sw)) (k : am_fin ((z, nx, ls, .long c.toInt64 :: st) :: fs) h v h') : am_fin ((z, pc, ls, st) :: fs) h v h' := fn_go he rfl k
theorem fn_iload {n : Nat} {x : Int32} (he : (am_pg z).2 pc = some (.iload n, nx, a, b, d, q, c, sw)) (hl : ls[a]? = some (.int x)) (k : am_fin ((z, nx, ls, .int x :: st) :: fs) h v h') : am_fin ((z, pc, ls, st) :: fs) h v h' := fn_go he (by simp only [am_step, am_stepK, hl]) k
theorem fn_iload_n {n : Fin 4} {x : Int32} (he : (am_pg z).2 pc = some (.iload_n n, nx, a, b, d, q, c, sw)) (hl : ls[a]? = some (.int x)) (k : am_fin ((z, nx, ls, .int x :: st) :: fs) h v h') : am_fin ((z, pc, ls, st) :: fs) h v h' := fn_go he (by simp only [am_step, am_stepK, hl]) k
theorem fn_lload {n : Nat} {x : Int64} (he : (am_pg z).2 pc = some (.lload n, nx, a, b, d, q, c, sw)) (hl : ls[a]? = some (.long x)) (k : am_fin ((z, nx, ls, .long x :: st) :: fs) h v h') : am_fin ((z, pc, ls, st) :: fs) h v h' := fn_go he (by simp only [am_step, am_stepK, hl]) k
theorem fn_lload_n {n : Fin 4} {x : Int64} (he : (am_pg z).2 pc = some (.lload_n n, nx, a, b, d, q, c, sw)) (hl : ls[a]? = some (.long x)) (k : am_fin ((z, nx, ls, .long x :: st) :: fs) h v h') : am_fin ((z, pc, ls, st) :: fs) h v h' := fn_go he (by simp only [am_step, am_stepK, hl]) k
theorem fn_aload {n : Nat} {x : Nat} (he : (am_pg z).2 pc = some (.aload n, nx, a, b, d, q, c, sw)) (hl : ls[a]? = some (.ref x)) (k : am_fin ((z, nx, ls, .ref x :: st) :: fs) h v h') : am_fin ((z, pc, ls, st) :: fs) h v h' := fn_go he (by simp only [am_step, am_stepK, hl]) k
theorem fn_aload_n {n : Fin 4} {x : Nat} (he : (am_pg z).2 pc = some (.aload_n n, nx, a, b, d, q, c, sw)) (hl : ls[a]? = some (.ref x)) (k : am_fin ((z, nx, ls, .ref x :: st) :: fs) h v h') : am_fin ((z, pc, ls, st) :: fs) h v h' := fn_go he (by simp only [am_step, am_stepK, hl]) k
theorem fn_istore {n : Nat} {x : Int32} {ls' : List Value} (he : (am_pg z).2 pc = some (.istore n, nx, a, b, d, q, c, sw)) (hb : (am_free ls a && Nat.blt a ls.length) = true) (hl : ls.set a (.int x) = ls') (k : am_fin ((z, nx, ls', st) :: fs) h v h') : am_fin ((z, pc, ls, .int x :: st) :: fs) h v h' := fn_go he (by simp only [am_step, am_stepK, hb, hl, cond_true]) k
theorem fn_istore_n {n : Fin 4} {x : Int32} {ls' : List Value} (he : (am_pg z).2 pc = some (.istore_n n, nx, a, b, d, q, c, sw)) (hb : (am_free ls a && Nat.blt a ls.length) = true) (hl : ls.set a (.int x) = ls') (k : am_fin ((z, nx, ls', st) :: fs) h v h') : am_fin ((z, pc, ls, .int x :: st) :: fs) h v h' := fn_go he (by simp only [am_step, am_stepK, hb, hl, cond_true]) k
theorem fn_astore {n : Nat} {x : Nat} {ls' : List Value} (he : (am_pg z).2 pc = some (.astore n, nx, a, b, d, q, c, sw)) (hb : (am_free ls a && Nat.blt a ls.length) = true) (hl : ls.set a (.ref x) = ls') (k : am_fin ((z, nx, ls', st) :: fs) h v h') : am_fin ((z, pc, ls, .ref x :: st) :: fs) h v h' := fn_go he (by simp only [am_step, am_stepK, hb, hl, cond_true]) k
theorem fn_astore_n {n : Fin 4} {x : Nat} {ls' : List Value} (he : (am_pg z).2 pc = some (.astore_n n, nx, a, b, d, q, c, sw)) (hb : (am_free ls a && Nat.blt a ls.length) = true) (hl : ls.set a (.ref x) = ls') (k : am_fin ((z, nx, ls', st) :: fs) h v h') : am_fin ((z, pc, ls, .ref x :: st) :: fs) h v h' := fn_go he (by simp only [am_step, am_stepK, hb, hl, cond_true]) k
theorem fn_iinc {n : Nat} {j : Int} {x : Int32} {ls' : List Value} (he : (am_pg z).2 pc = some (.iinc n j, nx, a, b, d, q, c, sw)) (hx : ls[a]? = some (.int x)) (hb : (am_free ls a && Nat.blt a ls.length) = true) (hl : ls.set a (.int (x + c)) = ls') (k : am_fin ((z, nx, ls', st) :: fs) h v h') : am_fin ((z, pc, ls, st) :: fs) h v h' := fn_go he (by simp only [am_step, am_stepK, hx, hb, hl, cond_true]) k
theorem fn_iadd {x y : Int32} (he : (am_pg z).2 pc = some (.iadd, nx, a, b, d, q, c, sw)) (k : am_fin ((z, nx, ls, .int (x + y) :: st) :: fs) h v h') : am_fin ((z, pc, ls, .int y :: .int x :: st) :: fs) h v h' := fn_go he rfl k
theorem fn_isub {x y : Int32} (he : (am_pg z).2 pc = some (.isub, nx, a, b, d, q, c, sw)) (k : am_fin ((z, nx, ls, .int (x - y) :: st) :: fs) h v h') : am_fin ((z, pc, ls, .int y :: .int x :: st) :: fs) h v h' := fn_go he rfl k
theorem fn_imul {x y : Int32} (he : (am_pg z).2 pc = some (.imul, nx, a, b, d, q, c, sw)) (k : am_fin ((z, nx, ls, .int (x * y) :: st) :: fs) h v h') : am_fin ((z, pc, ls, .int y :: .int x :: st) :: fs) h v h' := fn_go he rfl k
theorem fn_iand {x y : Int32} (he : (am_pg z).2 pc = some (.iand, nx, a, b, d, q, c, sw)) (k : am_fin ((z, nx, ls, .int (x &&& y) :: st) :: fs) h v h') : am_fin ((z, pc, ls, .int y :: .int x :: st) :: fs) h v h' := fn_go he rfl k
theorem fn_ior {x y : Int32} (he : (am_pg z).2 pc = some (.ior, nx, a, b, d, q, c, sw)) (k : am_fin ((z, nx, ls, .int (x ||| y) :: st) :: fs) h v h') : am_fin ((z, pc, ls, .int y :: .int x :: st) :: fs) h v h' := fn_go he rfl k
theorem fn_ixor {x y : Int32} (he : (am_pg z).2 pc = some (.ixor, nx, a, b, d, q, c, sw)) (k : am_fin ((z, nx, ls, .int (x ^^^ y) :: st) :: fs) h v h') : am_fin ((z, pc, ls, .int y :: .int x :: st) :: fs) h v h' := fn_go he rfl k
theorem fn_ishl {x y : Int32} (he : (am_pg z).2 pc = some (.ishl, nx, a, b, d, q, c, sw)) (k : am_fin ((z, nx, ls, .int (x <<< (y &&& 31)) :: st) :: fs) h v h') : am_fin ((z, pc, ls, .int y :: .int x :: st) :: fs) h v h' := fn_go he rfl k
theorem fn_ishr {x y : Int32} (he : (am_pg z).2 pc = some (.ishr, nx, a, b, d, q, c, sw)) (k : am_fin ((z, nx, ls, .int (x >>> (y &&& 31)) :: st) :: fs) h v h') : am_fin ((z, pc, ls, .int y :: .int x :: st) :: fs) h v h' := fn_go he rfl k
theorem fn_iushr {x y : Int32} (he : (am_pg z).2 pc = some (.iushr, nx, a, b, d, q, c, sw)) (k : am_fin ((z, nx, ls, .int ((x.toUInt32 >>> (y.toUInt32 &&& Int32.toUInt32 31)).toInt32) :: st) :: fs) h v h') : am_fin ((z, pc, ls, .int y :: .int x :: st) :: fs) h v h' := fn_go he rfl k
theorem fn_idiv {x y : Int32} (he : (am_pg z).2 pc = some (.idiv, nx, a, b, d, q, c, sw)) (hy : ¬ y = 0) (k : am_fin ((z, nx, ls, .int (x / y) :: st) :: fs) h v h') : am_fin ((z, pc, ls, .int y :: .int x :: st) :: fs) h v h' := fn_go he (by simp only [am_step, am_stepK, if_neg hy]) k
theorem fn_irem {x y : Int32} (he : (am_pg z).2 pc = some (.irem, nx, a, b, d, q, c, sw)) (hy : ¬ y = 0) (k : am_fin ((z, nx, ls, .int (x - x / y * y) :: st) :: fs) h v h') : am_fin ((z, pc, ls, .int y :: .int x :: st) :: fs) h v h' := fn_go he (by simp only [am_step, am_stepK, if_neg hy]) k
theorem fn_ineg {x : Int32} (he : (am_pg z).2 pc = some (.ineg, nx, a, b, d, q, c, sw)) (k : am_fin ((z, nx, ls, .int (-x) :: st) :: fs) h v h') : am_fin ((z, pc, ls, .int x :: st) :: fs) h v h' := fn_go he rfl k
theorem fn_ladd {x y : Int64} (he : (am_pg z).2 pc = some (.ladd, nx, a, b, d, q, c, sw)) (k : am_fin ((z, nx, ls, .long (x + y) :: st) :: fs) h v h') : am_fin ((z, pc, ls, .long y :: .long x :: st) :: fs) h v h' := fn_go he rfl k
theorem fn_lcmp {x y : Int64} (he : (am_pg z).2 pc = some (.lcmp, nx, a, b, d, q, c, sw)) (k : am_fin ((z, nx, ls, .int (lg_cmp x y) :: st) :: fs) h v h') : am_fin ((z, pc, ls, .long y :: .long x :: st) :: fs) h v h' := fn_go he rfl k
theorem fn_i2l {x : Int32} (he : (am_pg z).2 pc = some (.i2l, nx, a, b, d, q, c, sw)) (k : am_fin ((z, nx, ls, .long x.toInt64 :: st) :: fs) h v h') : am_fin ((z, pc, ls, .int x :: st) :: fs) h v h' := fn_go he rfl k
theorem fn_i2b {x : Int32} (he : (am_pg z).2 pc = some (.i2b, nx, a, b, d, q, c, sw)) (k : am_fin ((z, nx, ls, .int x.toInt8.toInt32 :: st) :: fs) h v h') : am_fin ((z, pc, ls, .int x :: st) :: fs) h v h' := fn_go he rfl k
theorem fn_dup_int {x : Int32} (he : (am_pg z).2 pc = some (.dup, nx, a, b, d, q, c, sw)) (k : am_fin ((z, nx, ls, .int x :: .int x :: st) :: fs) h v h') : am_fin ((z, pc, ls, .int x :: st) :: fs) h v h' := fn_go he rfl k
theorem fn_pop_int {x : Int32} (he : (am_pg z).2 pc = some (.pop, nx, a, b, d, q, c, sw)) (k : am_fin ((z, nx, ls, st) :: fs) h v h') : am_fin ((z, pc, ls, .int x :: st) :: fs) h v h' := fn_go he rfl k
theorem fn_dup_ref {x : Nat} (he : (am_pg z).2 pc = some (.dup, nx, a, b, d, q, c, sw)) (k : am_fin ((z, nx, ls, .ref x :: .ref x :: st) :: fs) h v h') : am_fin ((z, pc, ls, .ref x :: st) :: fs) h v h' := fn_go he rfl k
theorem fn_pop_ref {x : Nat} (he : (am_pg z).2 pc = some (.pop, nx, a, b, d, q, c, sw)) (k : am_fin ((z, nx, ls, st) :: fs) h v h') : am_fin ((z, pc, ls, .ref x :: st) :: fs) h v h' := fn_go he rfl k
theorem fn_dup2 {x : Nat} {y : Int32} (he : (am_pg z).2 pc = some (.dup2, nx, a, b, d, q, c, sw)) (k : am_fin ((z, nx, ls, .int y :: .ref x :: .int y :: .ref x :: st) :: fs) h v h') : am_fin ((z, pc, ls, .int y :: .ref x :: st) :: fs) h v h' := fn_go he rfl k
theorem fn_goto {o : Int} (he : (am_pg z).2 pc = some (.goto o, nx, a, b, d, q, c, sw)) (k : am_fin ((z, a, ls, st) :: fs) h v h') : am_fin ((z, pc, ls, st) :: fs) h v h' := fn_go he rfl k
theorem fn_icmp_eq {x y : Int32} {o : Int} {P Q : Prop} (he : (am_pg z).2 pc = some (.if_icmp .eq o, nx, a, b, d, q, c, sw)) (kt : P → am_fin ((z, a, ls, st) :: fs) h v h') (kf : Q → am_fin ((z, nx, ls, st) :: fs) h v h') (k : if x = y then P else Q) : am_fin ((z, pc, ls, .int y :: .int x :: st) :: fs) h v h' := by
  by_cases hc : x = y
  · rw [if_pos hc] at k
    exact fn_go he (by simp only [am_step, am_stepK, am_br, if_pos hc]) (kt k)
  · rw [if_neg hc] at k
    exact fn_go he (by simp only [am_step, am_stepK, am_br, if_neg hc]) (kf k)
theorem fn_icmp_eq_t {x y : Int32} {o : Int} (he : (am_pg z).2 pc = some (.if_icmp .eq o, nx, a, b, d, q, c, sw)) (hc : x = y) (k : am_fin ((z, a, ls, st) :: fs) h v h') : am_fin ((z, pc, ls, .int y :: .int x :: st) :: fs) h v h' := fn_go he (by simp only [am_step, am_stepK, am_br, if_pos hc]) k
theorem fn_icmp_eq_f {x y : Int32} {o : Int} (he : (am_pg z).2 pc = some (.if_icmp .eq o, nx, a, b, d, q, c, sw)) (hc : ¬ (x = y)) (k : am_fin ((z, nx, ls, st) :: fs) h v h') : am_fin ((z, pc, ls, .int y :: .int x :: st) :: fs) h v h' := fn_go he (by simp only [am_step, am_stepK, am_br, if_neg hc]) k
theorem fn_if_eq {x : Int32} {o : Int} {P Q : Prop} (he : (am_pg z).2 pc = some (.ifCond .eq o, nx, a, b, d, q, c, sw)) (kt : P → am_fin ((z, a, ls, st) :: fs) h v h') (kf : Q → am_fin ((z, nx, ls, st) :: fs) h v h') (k : if x = 0 then P else Q) : am_fin ((z, pc, ls, .int x :: st) :: fs) h v h' := by
  by_cases hc : x = 0
  · rw [if_pos hc] at k
    exact fn_go he (by simp only [am_step, am_stepK, am_br, if_pos hc]) (kt k)
  · rw [if_neg hc] at k
    exact fn_go he (by simp only [am_step, am_stepK, am_br, if_neg hc]) (kf k)
theorem fn_if_eq_t {x : Int32} {o : Int} (he : (am_pg z).2 pc = some (.ifCond .eq o, nx, a, b, d, q, c, sw)) (hc : x = 0) (k : am_fin ((z, a, ls, st) :: fs) h v h') : am_fin ((z, pc, ls, .int x :: st) :: fs) h v h' := fn_go he (by simp only [am_step, am_stepK, am_br, if_pos hc]) k
theorem fn_if_eq_f {x : Int32} {o : Int} (he : (am_pg z).2 pc = some (.ifCond .eq o, nx, a, b, d, q, c, sw)) (hc : ¬ (x = 0)) (k : am_fin ((z, nx, ls, st) :: fs) h v h') : am_fin ((z, pc, ls, .int x :: st) :: fs) h v h' := fn_go he (by simp only [am_step, am_stepK, am_br, if_neg hc]) k
theorem fn_icmp_ne {x y : Int32} {o : Int} {P Q : Prop} (he : (am_pg z).2 pc = some (.if_icmp .ne o, nx, a, b, d, q, c, sw)) (kt : P → am_fin ((z, nx, ls, st) :: fs) h v h') (kf : Q → am_fin ((z, a, ls, st) :: fs) h v h') (k : if x = y then P else Q) : am_fin ((z, pc, ls, .int y :: .int x :: st) :: fs) h v h' := by
  by_cases hc : x = y
  · rw [if_pos hc] at k
    exact fn_go he (by simp only [am_step, am_stepK, am_br, if_pos hc]) (kt k)
  · rw [if_neg hc] at k
    exact fn_go he (by simp only [am_step, am_stepK, am_br, if_neg hc]) (kf k)
theorem fn_icmp_ne_t {x y : Int32} {o : Int} (he : (am_pg z).2 pc = some (.if_icmp .ne o, nx, a, b, d, q, c, sw)) (hc : x = y) (k : am_fin ((z, nx, ls, st) :: fs) h v h') : am_fin ((z, pc, ls, .int y :: .int x :: st) :: fs) h v h' := fn_go he (by simp only [am_step, am_stepK, am_br, if_pos hc]) k
theorem fn_icmp_ne_f {x y : Int32} {o : Int} (he : (am_pg z).2 pc = some (.if_icmp .ne o, nx, a, b, d, q, c, sw)) (hc : ¬ (x = y)) (k : am_fin ((z, a, ls, st) :: fs) h v h') : am_fin ((z, pc, ls, .int y :: .int x :: st) :: fs) h v h' := fn_go he (by simp only [am_step, am_stepK, am_br, if_neg hc]) k
theorem fn_if_ne {x : Int32} {o : Int} {P Q : Prop} (he : (am_pg z).2 pc = some (.ifCond .ne o, nx, a, b, d, q, c, sw)) (kt : P → am_fin ((z, nx, ls, st) :: fs) h v h') (kf : Q → am_fin ((z, a, ls, st) :: fs) h v h') (k : if x = 0 then P else Q) : am_fin ((z, pc, ls, .int x :: st) :: fs) h v h' := by
  by_cases hc : x = 0
  · rw [if_pos hc] at k
    exact fn_go he (by simp only [am_step, am_stepK, am_br, if_pos hc]) (kt k)
  · rw [if_neg hc] at k
    exact fn_go he (by simp only [am_step, am_stepK, am_br, if_neg hc]) (kf k)
theorem fn_if_ne_t {x : Int32} {o : Int} (he : (am_pg z).2 pc = some (.ifCond .ne o, nx, a, b, d, q, c, sw)) (hc : x = 0) (k : am_fin ((z, nx, ls, st) :: fs) h v h') : am_fin ((z, pc, ls, .int x :: st) :: fs) h v h' := fn_go he (by simp only [am_step, am_stepK, am_br, if_pos hc]) k
theorem fn_if_ne_f {x : Int32} {o : Int} (he : (am_pg z).2 pc = some (.ifCond .ne o, nx, a, b, d, q, c, sw)) (hc : ¬ (x = 0)) (k : am_fin ((z, a, ls, st) :: fs) h v h') : am_fin ((z, pc, ls, .int x :: st) :: fs) h v h' := fn_go he (by simp only [am_step, am_stepK, am_br, if_neg hc]) k
theorem fn_icmp_lt {x y : Int32} {o : Int} {P Q : Prop} (he : (am_pg z).2 pc = some (.if_icmp .lt o, nx, a, b, d, q, c, sw)) (kt : P → am_fin ((z, a, ls, st) :: fs) h v h') (kf : Q → am_fin ((z, nx, ls, st) :: fs) h v h') (k : if x < y then P else Q) : am_fin ((z, pc, ls, .int y :: .int x :: st) :: fs) h v h' := by
  by_cases hc : x < y
  · rw [if_pos hc] at k
    exact fn_go he (by simp only [am_step, am_stepK, am_br, if_pos hc]) (kt k)
  · rw [if_neg hc] at k
    exact fn_go he (by simp only [am_step, am_stepK, am_br, if_neg hc]) (kf k)
theorem fn_icmp_lt_t {x y : Int32} {o : Int} (he : (am_pg z).2 pc = some (.if_icmp .lt o, nx, a, b, d, q, c, sw)) (hc : x < y) (k : am_fin ((z, a, ls, st) :: fs) h v h') : am_fin ((z, pc, ls, .int y :: .int x :: st) :: fs) h v h' := fn_go he (by simp only [am_step, am_stepK, am_br, if_pos hc]) k
theorem fn_icmp_lt_f {x y : Int32} {o : Int} (he : (am_pg z).2 pc = some (.if_icmp .lt o, nx, a, b, d, q, c, sw)) (hc : ¬ (x < y)) (k : am_fin ((z, nx, ls, st) :: fs) h v h') : am_fin ((z, pc, ls, .int y :: .int x :: st) :: fs) h v h' := fn_go he (by simp only [am_step, am_stepK, am_br, if_neg hc]) k
theorem fn_if_lt {x : Int32} {o : Int} {P Q : Prop} (he : (am_pg z).2 pc = some (.ifCond .lt o, nx, a, b, d, q, c, sw)) (kt : P → am_fin ((z, a, ls, st) :: fs) h v h') (kf : Q → am_fin ((z, nx, ls, st) :: fs) h v h') (k : if x < 0 then P else Q) : am_fin ((z, pc, ls, .int x :: st) :: fs) h v h' := by
  by_cases hc : x < 0
  · rw [if_pos hc] at k
    exact fn_go he (by simp only [am_step, am_stepK, am_br, if_pos hc]) (kt k)
  · rw [if_neg hc] at k
    exact fn_go he (by simp only [am_step, am_stepK, am_br, if_neg hc]) (kf k)
theorem fn_if_lt_t {x : Int32} {o : Int} (he : (am_pg z).2 pc = some (.ifCond .lt o, nx, a, b, d, q, c, sw)) (hc : x < 0) (k : am_fin ((z, a, ls, st) :: fs) h v h') : am_fin ((z, pc, ls, .int x :: st) :: fs) h v h' := fn_go he (by simp only [am_step, am_stepK, am_br, if_pos hc]) k
theorem fn_if_lt_f {x : Int32} {o : Int} (he : (am_pg z).2 pc = some (.ifCond .lt o, nx, a, b, d, q, c, sw)) (hc : ¬ (x < 0)) (k : am_fin ((z, nx, ls, st) :: fs) h v h') : am_fin ((z, pc, ls, .int x :: st) :: fs) h v h' := fn_go he (by simp only [am_step, am_stepK, am_br, if_neg hc]) k
theorem fn_icmp_ge {x y : Int32} {o : Int} {P Q : Prop} (he : (am_pg z).2 pc = some (.if_icmp .ge o, nx, a, b, d, q, c, sw)) (kt : P → am_fin ((z, a, ls, st) :: fs) h v h') (kf : Q → am_fin ((z, nx, ls, st) :: fs) h v h') (k : if y ≤ x then P else Q) : am_fin ((z, pc, ls, .int y :: .int x :: st) :: fs) h v h' := by
  by_cases hc : y ≤ x
  · rw [if_pos hc] at k
    exact fn_go he (by simp only [am_step, am_stepK, am_br, if_pos hc]) (kt k)
  · rw [if_neg hc] at k
    exact fn_go he (by simp only [am_step, am_stepK, am_br, if_neg hc]) (kf k)
theorem fn_icmp_ge_t {x y : Int32} {o : Int} (he : (am_pg z).2 pc = some (.if_icmp .ge o, nx, a, b, d, q, c, sw)) (hc : y ≤ x) (k : am_fin ((z, a, ls, st) :: fs) h v h') : am_fin ((z, pc, ls, .int y :: .int x :: st) :: fs) h v h' := fn_go he (by simp only [am_step, am_stepK, am_br, if_pos hc]) k
theorem fn_icmp_ge_f {x y : Int32} {o : Int} (he : (am_pg z).2 pc = some (.if_icmp .ge o, nx, a, b, d, q, c, sw)) (hc : ¬ (y ≤ x)) (k : am_fin ((z, nx, ls, st) :: fs) h v h') : am_fin ((z, pc, ls, .int y :: .int x :: st) :: fs) h v h' := fn_go he (by simp only [am_step, am_stepK, am_br, if_neg hc]) k
theorem fn_if_ge {x : Int32} {o : Int} {P Q : Prop} (he : (am_pg z).2 pc = some (.ifCond .ge o, nx, a, b, d, q, c, sw)) (kt : P → am_fin ((z, a, ls, st) :: fs) h v h') (kf : Q → am_fin ((z, nx, ls, st) :: fs) h v h') (k : if 0 ≤ x then P else Q) : am_fin ((z, pc, ls, .int x :: st) :: fs) h v h' := by
  by_cases hc : 0 ≤ x
  · rw [if_pos hc] at k
    exact fn_go he (by simp only [am_step, am_stepK, am_br, if_pos hc]) (kt k)
  · rw [if_neg hc] at k
    exact fn_go he (by simp only [am_step, am_stepK, am_br, if_neg hc]) (kf k)
theorem fn_if_ge_t {x : Int32} {o : Int} (he : (am_pg z).2 pc = some (.ifCond .ge o, nx, a, b, d, q, c, sw)) (hc : 0 ≤ x) (k : am_fin ((z, a, ls, st) :: fs) h v h') : am_fin ((z, pc, ls, .int x :: st) :: fs) h v h' := fn_go he (by simp only [am_step, am_stepK, am_br, if_pos hc]) k
theorem fn_if_ge_f {x : Int32} {o : Int} (he : (am_pg z).2 pc = some (.ifCond .ge o, nx, a, b, d, q, c, sw)) (hc : ¬ (0 ≤ x)) (k : am_fin ((z, nx, ls, st) :: fs) h v h') : am_fin ((z, pc, ls, .int x :: st) :: fs) h v h' := fn_go he (by simp only [am_step, am_stepK, am_br, if_neg hc]) k
theorem fn_icmp_gt {x y : Int32} {o : Int} {P Q : Prop} (he : (am_pg z).2 pc = some (.if_icmp .gt o, nx, a, b, d, q, c, sw)) (kt : P → am_fin ((z, a, ls, st) :: fs) h v h') (kf : Q → am_fin ((z, nx, ls, st) :: fs) h v h') (k : if y < x then P else Q) : am_fin ((z, pc, ls, .int y :: .int x :: st) :: fs) h v h' := by
  by_cases hc : y < x
  · rw [if_pos hc] at k
    exact fn_go he (by simp only [am_step, am_stepK, am_br, if_pos hc]) (kt k)
  · rw [if_neg hc] at k
    exact fn_go he (by simp only [am_step, am_stepK, am_br, if_neg hc]) (kf k)
theorem fn_icmp_gt_t {x y : Int32} {o : Int} (he : (am_pg z).2 pc = some (.if_icmp .gt o, nx, a, b, d, q, c, sw)) (hc : y < x) (k : am_fin ((z, a, ls, st) :: fs) h v h') : am_fin ((z, pc, ls, .int y :: .int x :: st) :: fs) h v h' := fn_go he (by simp only [am_step, am_stepK, am_br, if_pos hc]) k
theorem fn_icmp_gt_f {x y : Int32} {o : Int} (he : (am_pg z).2 pc = some (.if_icmp .gt o, nx, a, b, d, q, c, sw)) (hc : ¬ (y < x)) (k : am_fin ((z, nx, ls, st) :: fs) h v h') : am_fin ((z, pc, ls, .int y :: .int x :: st) :: fs) h v h' := fn_go he (by simp only [am_step, am_stepK, am_br, if_neg hc]) k
theorem fn_if_gt {x : Int32} {o : Int} {P Q : Prop} (he : (am_pg z).2 pc = some (.ifCond .gt o, nx, a, b, d, q, c, sw)) (kt : P → am_fin ((z, a, ls, st) :: fs) h v h') (kf : Q → am_fin ((z, nx, ls, st) :: fs) h v h') (k : if 0 < x then P else Q) : am_fin ((z, pc, ls, .int x :: st) :: fs) h v h' := by
  by_cases hc : 0 < x
  · rw [if_pos hc] at k
    exact fn_go he (by simp only [am_step, am_stepK, am_br, if_pos hc]) (kt k)
  · rw [if_neg hc] at k
    exact fn_go he (by simp only [am_step, am_stepK, am_br, if_neg hc]) (kf k)
theorem fn_if_gt_t {x : Int32} {o : Int} (he : (am_pg z).2 pc = some (.ifCond .gt o, nx, a, b, d, q, c, sw)) (hc : 0 < x) (k : am_fin ((z, a, ls, st) :: fs) h v h') : am_fin ((z, pc, ls, .int x :: st) :: fs) h v h' := fn_go he (by simp only [am_step, am_stepK, am_br, if_pos hc]) k
theorem fn_if_gt_f {x : Int32} {o : Int} (he : (am_pg z).2 pc = some (.ifCond .gt o, nx, a, b, d, q, c, sw)) (hc : ¬ (0 < x)) (k : am_fin ((z, nx, ls, st) :: fs) h v h') : am_fin ((z, pc, ls, .int x :: st) :: fs) h v h' := fn_go he (by simp only [am_step, am_stepK, am_br, if_neg hc]) k
theorem fn_icmp_le {x y : Int32} {o : Int} {P Q : Prop} (he : (am_pg z).2 pc = some (.if_icmp .le o, nx, a, b, d, q, c, sw)) (kt : P → am_fin ((z, a, ls, st) :: fs) h v h') (kf : Q → am_fin ((z, nx, ls, st) :: fs) h v h') (k : if x ≤ y then P else Q) : am_fin ((z, pc, ls, .int y :: .int x :: st) :: fs) h v h' := by
  by_cases hc : x ≤ y
  · rw [if_pos hc] at k
    exact fn_go he (by simp only [am_step, am_stepK, am_br, if_pos hc]) (kt k)
  · rw [if_neg hc] at k
    exact fn_go he (by simp only [am_step, am_stepK, am_br, if_neg hc]) (kf k)
theorem fn_icmp_le_t {x y : Int32} {o : Int} (he : (am_pg z).2 pc = some (.if_icmp .le o, nx, a, b, d, q, c, sw)) (hc : x ≤ y) (k : am_fin ((z, a, ls, st) :: fs) h v h') : am_fin ((z, pc, ls, .int y :: .int x :: st) :: fs) h v h' := fn_go he (by simp only [am_step, am_stepK, am_br, if_pos hc]) k
theorem fn_icmp_le_f {x y : Int32} {o : Int} (he : (am_pg z).2 pc = some (.if_icmp .le o, nx, a, b, d, q, c, sw)) (hc : ¬ (x ≤ y)) (k : am_fin ((z, nx, ls, st) :: fs) h v h') : am_fin ((z, pc, ls, .int y :: .int x :: st) :: fs) h v h' := fn_go he (by simp only [am_step, am_stepK, am_br, if_neg hc]) k
theorem fn_if_le {x : Int32} {o : Int} {P Q : Prop} (he : (am_pg z).2 pc = some (.ifCond .le o, nx, a, b, d, q, c, sw)) (kt : P → am_fin ((z, a, ls, st) :: fs) h v h') (kf : Q → am_fin ((z, nx, ls, st) :: fs) h v h') (k : if x ≤ 0 then P else Q) : am_fin ((z, pc, ls, .int x :: st) :: fs) h v h' := by
  by_cases hc : x ≤ 0
  · rw [if_pos hc] at k
    exact fn_go he (by simp only [am_step, am_stepK, am_br, if_pos hc]) (kt k)
  · rw [if_neg hc] at k
    exact fn_go he (by simp only [am_step, am_stepK, am_br, if_neg hc]) (kf k)
theorem fn_if_le_t {x : Int32} {o : Int} (he : (am_pg z).2 pc = some (.ifCond .le o, nx, a, b, d, q, c, sw)) (hc : x ≤ 0) (k : am_fin ((z, a, ls, st) :: fs) h v h') : am_fin ((z, pc, ls, .int x :: st) :: fs) h v h' := fn_go he (by simp only [am_step, am_stepK, am_br, if_pos hc]) k
theorem fn_if_le_f {x : Int32} {o : Int} (he : (am_pg z).2 pc = some (.ifCond .le o, nx, a, b, d, q, c, sw)) (hc : ¬ (x ≤ 0)) (k : am_fin ((z, nx, ls, st) :: fs) h v h') : am_fin ((z, pc, ls, .int x :: st) :: fs) h v h' := fn_go he (by simp only [am_step, am_stepK, am_br, if_neg hc]) k
theorem fn_nonnull {x : Nat} {o : Int} (he : (am_pg z).2 pc = some (.ifnonnull o, nx, a, b, d, q, c, sw)) (k : am_fin ((z, a, ls, st) :: fs) h v h') : am_fin ((z, pc, ls, .ref x :: st) :: fs) h v h' := fn_go he rfl k
theorem fn_null {o : Int} (he : (am_pg z).2 pc = some (.ifnonnull o, nx, a, b, d, q, c, sw)) (k : am_fin ((z, nx, ls, st) :: fs) h v h') : am_fin ((z, pc, ls, .null :: st) :: fs) h v h' := fn_go he rfl k
theorem fn_table {x : Int32} {e1 e2 e3 : Int} {e4 : Array Int} {t : Nat} (he : (am_pg z).2 pc = some (.tableswitch e1 e2 e3 e4, nx, a, b, d, q, c, sw)) (ht : am_sw sw a (fun t => t) x = t) (k : am_fin ((z, t, ls, st) :: fs) h v h') : am_fin ((z, pc, ls, .int x :: st) :: fs) h v h' := fn_go he (by
  simp only [am_step, am_stepK]
  rw [← am_sw_app (fun t => (some (.inl (t, ls, st, h)) : Option am_S)) sw a (fun t => t) x, ht]) k
theorem fn_look {x : Int32} {e1 : Int} {e5 : Array (Int × Int)} {t : Nat} (he : (am_pg z).2 pc = some (.lookupswitch e1 e5, nx, a, b, d, q, c, sw)) (ht : am_sw sw a (fun t => t) x = t) (k : am_fin ((z, t, ls, st) :: fs) h v h') : am_fin ((z, pc, ls, .int x :: st) :: fs) h v h' := fn_go he (by
  simp only [am_step, am_stepK]
  rw [← am_sw_app (fun t => (some (.inl (t, ls, st, h)) : Option am_S)) sw a (fun t => t) x, ht]) k
theorem fn_swC {x k : Int32} {t : Nat} {r : List (Int32 × Nat)} {df : Nat} {tg : Nat} {P Q : Prop} {F : Nat → Prop} (kt : P → F t) (kf : Q → F (am_sw r df (fun t => t) x)) (k0 : if x = k then P else Q) : F (am_sw ((k, t) :: r) df (fun t => t) x) := by
  simp only [am_sw]
  by_cases hc : x = k
  · rw [if_pos hc] at k0 ⊢
    exact kt k0
  · rw [if_neg hc] at k0 ⊢
    exact kf k0
theorem fn_tableP {x : Int32} {e1 e2 e3 : Int} {e4 : Array Int} (he : (am_pg z).2 pc = some (.tableswitch e1 e2 e3 e4, nx, a, b, d, q, c, sw)) (k : (fun t => am_fin ((z, t, ls, st) :: fs) h v h') (am_sw sw a (fun t => t) x)) : am_fin ((z, pc, ls, .int x :: st) :: fs) h v h' := fn_table he rfl k
theorem fn_lookP {x : Int32} {e1 : Int} {e5 : Array (Int × Int)} (he : (am_pg z).2 pc = some (.lookupswitch e1 e5, nx, a, b, d, q, c, sw)) (k : (fun t => am_fin ((z, t, ls, st) :: fs) h v h') (am_sw sw a (fun t => t) x)) : am_fin ((z, pc, ls, .int x :: st) :: fs) h v h' := fn_look he rfl k
theorem fn_get {n o : Nat} {f : List Value} {w : Value} (he : (am_pg z).2 pc = some (.getfield n, nx, a, b, d, q, c, sw)) (hh : h[o + 1]? = some (.inr (a, f))) (hf : f[b]? = some w) (k : am_fin ((z, nx, ls, w :: st) :: fs) h v h') : am_fin ((z, pc, ls, .ref (o + 1) :: st) :: fs) h v h' := fn_go he (by
  have e : Nat.beq a a = true := by simp
  simp only [am_step, am_stepK, hh, hf, e, cond_true]) k
theorem fn_put {n o : Nat} {f : List Value} {w : Value} (he : (am_pg z).2 pc = some (.putfield n, nx, a, b, d, q, c, sw)) (hh : h[o + 1]? = some (.inr (a, f))) (hb : (am_pf d w && Nat.blt b f.length) = true) (hs : h.set (o + 1) (.inr (a, f.set b w)) = h2) (k : am_fin ((z, nx, ls, st) :: fs) h2 v h') : am_fin ((z, pc, ls, w :: .ref (o + 1) :: st) :: fs) h v h' := fn_go he (by
  have e : Nat.beq a a = true := by simp
  simp only [am_step, am_stepK, hh, e, Bool.true_and, hb, hs, cond_true]) k
theorem fn_iald {o n : Nat} {f : Nat → Int32} {i : Int32} {P : Prop} (he : (am_pg z).2 pc = some (.iaload, nx, a, b, d, q, c, sw)) (hh : h[o]? = some (.inl (0, n, .inl f))) (kf : P → am_fin ((z, nx, ls, .int (f i.toNatClampNeg) :: st) :: fs) h v h') (k : ¬ (i < 0 ∨ n ≤ i.toNatClampNeg) ∧ P) : am_fin ((z, pc, ls, .int i :: .ref o :: st) :: fs) h v h' := fn_go he (by simp only [am_step, am_stepK, hh, if_neg k.1]) (kf k.2)
theorem fn_bald {o n : Nat} {f : Nat → Int32} {i : Int32} {P : Prop} (he : (am_pg z).2 pc = some (.baload, nx, a, b, d, q, c, sw)) (hh : h[o + 1]? = some (.inl (1, n, .inl f))) (kf : P → am_fin ((z, nx, ls, .int (f i.toNatClampNeg) :: st) :: fs) h v h') (k : ¬ (i < 0 ∨ n ≤ i.toNatClampNeg) ∧ P) : am_fin ((z, pc, ls, .int i :: .ref (o + 1) :: st) :: fs) h v h' := fn_go he (by simp only [am_step, am_stepK, hh, if_neg k.1]) (kf k.2)
theorem fn_zald {o n : Nat} {f : Nat → Int32} {i : Int32} {P : Prop} (he : (am_pg z).2 pc = some (.baload, nx, a, b, d, q, c, sw)) (hh : h[o + 1]? = some (.inl (2, n, .inl f))) (kf : P → am_fin ((z, nx, ls, .int (f i.toNatClampNeg) :: st) :: fs) h v h') (k : ¬ (i < 0 ∨ n ≤ i.toNatClampNeg) ∧ P) : am_fin ((z, pc, ls, .int i :: .ref (o + 1) :: st) :: fs) h v h' := fn_go he (by simp only [am_step, am_stepK, hh, if_neg k.1]) (kf k.2)
theorem fn_aald {o n : Nat} {f : Nat → Option Nat} {i : Int32} {P : Prop} (he : (am_pg z).2 pc = some (.aaload, nx, a, b, d, q, c, sw)) (hh : h[o + 1]? = some (.inl (3, n, .inr (.inr (.inr (.inr f)))))) (kf : P → am_fin ((z, nx, ls, va_rf (f i.toNatClampNeg) :: st) :: fs) h v h') (k : ¬ (i < 0 ∨ n ≤ i.toNatClampNeg) ∧ P) : am_fin ((z, pc, ls, .int i :: .ref (o + 1) :: st) :: fs) h v h' := fn_go he (by simp only [am_step, am_stepK, hh, if_neg k.1]) (kf k.2)
theorem fn_iast {o n : Nat} {f : Nat → Int32} {i x : Int32} {P : Prop} (he : (am_pg z).2 pc = some (.iastore, nx, a, b, d, q, c, sw)) (hh : h[o + 1]? = some (.inl (0, n, .inl f))) (hs : h.set (o + 1) (.inl (0, n, .inl (upd f i.toNatClampNeg x))) = h2) (kf : P → am_fin ((z, nx, ls, st) :: fs) h2 v h') (k : ¬ (i < 0 ∨ n ≤ i.toNatClampNeg) ∧ P) : am_fin ((z, pc, ls, .int x :: .int i :: .ref (o + 1) :: st) :: fs) h v h' := fn_go he (by simp only [am_step, am_stepK, hh, if_neg k.1, hs]) (kf k.2)
theorem fn_bast {o n : Nat} {f : Nat → Int32} {i x : Int32} {P : Prop} (he : (am_pg z).2 pc = some (.bastore, nx, a, b, d, q, c, sw)) (hh : h[o + 1]? = some (.inl (1, n, .inl f))) (hs : h.set (o + 1) (.inl (1, n, .inl (upd f i.toNatClampNeg (vp_nar .byte x)))) = h2) (kf : P → am_fin ((z, nx, ls, st) :: fs) h2 v h') (k : ¬ (i < 0 ∨ n ≤ i.toNatClampNeg) ∧ P) : am_fin ((z, pc, ls, .int x :: .int i :: .ref (o + 1) :: st) :: fs) h v h' := fn_go he (by simp only [am_step, am_stepK, hh, if_neg k.1, hs]) (kf k.2)
theorem fn_zast {o n : Nat} {f : Nat → Int32} {i x : Int32} {P : Prop} (he : (am_pg z).2 pc = some (.bastore, nx, a, b, d, q, c, sw)) (hh : h[o + 1]? = some (.inl (2, n, .inl f))) (hs : h.set (o + 1) (.inl (2, n, .inl (upd f i.toNatClampNeg (vp_nar .boolean x)))) = h2) (kf : P → am_fin ((z, nx, ls, st) :: fs) h2 v h') (k : ¬ (i < 0 ∨ n ≤ i.toNatClampNeg) ∧ P) : am_fin ((z, pc, ls, .int x :: .int i :: .ref (o + 1) :: st) :: fs) h v h' := fn_go he (by simp only [am_step, am_stepK, hh, if_neg k.1, hs]) (kf k.2)
theorem fn_alen {o n : Nat} {f : Nat → Int32} (he : (am_pg z).2 pc = some (.arraylength, nx, a, b, d, q, c, sw)) (hh : h[o]? = some (.inl (0, n, .inl f))) (k : am_fin ((z, nx, ls, .int (Int32.ofNat n) :: st) :: fs) h v h') : am_fin ((z, pc, ls, .ref o :: st) :: fs) h v h' := fn_go he (by simp only [am_step, am_stepK, hh]) k
theorem fn_oinit {n x d' : Nat} (he : (am_pg z).2 pc = some (.invokespecial n, nx, a, b, d' + 1, q, c, sw)) (h8 : am_cat8 st = true) (k : am_fin ((z, nx, ls, st) :: fs) h v h') : am_fin ((z, pc, ls, .ref x :: st) :: fs) h v h' := fn_go he (by simp only [am_step, am_stepK, h8, cond_true]) k
theorem fn_max {n : Nat} {x y : Int32} (he : (am_pg z).2 pc = some (.invokestatic n, nx, a, b, 2, q, c, sw)) (h8 : am_cat8 st = true) (k : am_fin ((z, nx, ls, .int (if x < y then y else x) :: st) :: fs) h v h') : am_fin ((z, pc, ls, .int y :: .int x :: st) :: fs) h v h' := fn_go he (by simp only [am_step, am_stepK, h8, cond_true]) k
theorem fn_min {n : Nat} {x y : Int32} (he : (am_pg z).2 pc = some (.invokestatic n, nx, a, b, 3, q, c, sw)) (h8 : am_cat8 st = true) (k : am_fin ((z, nx, ls, .int (if y < x then y else x) :: st) :: fs) h v h') : am_fin ((z, pc, ls, .int y :: .int x :: st) :: fs) h v h' := fn_go he (by simp only [am_step, am_stepK, h8, cond_true]) k
theorem fn_copy {n0 n1 o s0 m : Nat} {f g : Nat → Int32} {sp dp n : Int32} {P : Prop} (he : (am_pg z).2 pc = some (.invokestatic m, nx, a, b, 1, q, c, sw)) (h8 : am_cat8 st = true) (hh0 : h[s0 + 1]? = some (.inl (0, n0, .inl f))) (hh1 : h[o + 1]? = some (.inl (0, n1, .inl g))) (hs : h.set (o + 1) (.inl (0, n1, .inl (va_cpy f g sp.toNatClampNeg dp.toNatClampNeg n.toNatClampNeg))) = h2) (kf : P → am_fin ((z, nx, ls, st) :: fs) h2 v h') (k : ¬ (sp < 0 ∨ dp < 0 ∨ n < 0 ∨ n0 < sp.toNatClampNeg + n.toNatClampNeg ∨ n1 < dp.toNatClampNeg + n.toNatClampNeg) ∧ P) : am_fin ((z, pc, ls, .int n :: .int dp :: .ref (o + 1) :: .int sp :: .ref (s0 + 1) :: st) :: fs) h v h' := fn_go he (by simp only [am_step, am_stepK, hh0, hh1, if_neg k.1, h8, hs, cond_true]) (kf k.2)
theorem fn_reti {x : Int32} (he : (am_pg z).2 pc = some (.ireturn, nx, a, b, d, q, c, sw)) (hp : am_pf d (.int x) = true) (k : v = some x ∧ h' = h) : am_fin [(z, pc, ls, [.int x])] h v h' := by
  obtain ⟨rfl, rfl⟩ := k
  unfold am_fin
  exact am_R.rt he (by simp only [am_step, am_stepK, hp, cond_true])
theorem fn_retv (he : (am_pg z).2 pc = some (.return_, nx, a, b, d, q, c, sw)) (k : v = none ∧ h' = h) : am_fin [(z, pc, ls, [])] h v h' := by
  obtain ⟨rfl, rfl⟩ := k
  unfold am_fin
  exact am_R.rt he rfl
theorem fn_retci {x : Int32} {z2 pc2 : Nat} {ls2 st2 : List Value} (he : (am_pg z).2 pc = some (.ireturn, nx, a, b, d, q, c, sw)) (hp : am_pf d (.int x) = true) (k : am_fin ((z2, pc2, ls2, .int x :: st2) :: fs) h v h') : am_fin ((z, pc, ls, [.int x]) :: (z2, pc2, ls2, st2) :: fs) h v h' := by
  unfold am_fin
  exact ⟨some x, h, am_R.rt he (by simp only [am_step, am_stepK, hp, cond_true]), k⟩
theorem fn_retcv {z2 pc2 : Nat} {ls2 st2 : List Value} (he : (am_pg z).2 pc = some (.return_, nx, a, b, d, q, c, sw)) (k : am_fin ((z2, pc2, ls2, st2) :: fs) h v h') : am_fin ((z, pc, ls, []) :: (z2, pc2, ls2, st2) :: fs) h v h' := by
  unfold am_fin
  exact ⟨none, h, am_R.rt he rfl, k⟩
theorem fn_cl {e : am_E} {as r : List Value} {N : Nat} {ls' : List Value} (he : (am_pg z).2 pc = some e) (hs : am_step e ls st h = some (.inr (.inr (a, as, r)))) (hn : (am_pg a).1 = N) (hb : Nat.ble (am_sl as).length N = true) (hen : am_en as N = ls') (k : am_fin ((a, 0, ls', []) :: (z, e.2.1, ls, r) :: fs) h v h') : am_fin ((z, pc, ls, st) :: fs) h v h' := by
  subst hn
  subst hen
  unfold am_fin at k
  obtain ⟨v1, h1, k1, k2⟩ := k
  exact am_fin.map (fun v2 h2 k => am_R.cl he hs hb k1 k) k2
theorem fn_virt {n o N : Nat} {as r ls' fl : List Value} (he : (am_pg z).2 pc = some (.invokevirtual n, nx, a, b, d, q, c, sw)) (hd : st.drop b = .ref (o + 1) :: r) (hh : h[o + 1]? = some (.inr (d, fl))) (h8 : am_cat8 r = true) (ha : (.ref (o + 1) :: (st.take b).reverse) = as) (hn : (am_pg a).1 = N) (hb : Nat.ble (am_sl as).length N = true) (hen : am_en as N = ls') (k : am_fin ((a, 0, ls', []) :: (z, nx, ls, r) :: fs) h v h') : am_fin ((z, pc, ls, st) :: fs) h v h' := fn_cl he (by
  have e : Nat.beq d d = true := by simp
  simp only [am_step, am_stepK, hd, hh, e, Bool.true_and, h8, cond_true, ha]) hn hb hen k
theorem fn_spec {n o N : Nat} {as r ls' : List Value} (he : (am_pg z).2 pc = some (.invokespecial n, nx, a, b, 0, q, c, sw)) (hd : st.drop b = .ref (o + 1) :: r) (h8 : am_cat8 r = true) (ha : (.ref (o + 1) :: (st.take b).reverse) = as) (hn : (am_pg a).1 = N) (hb : Nat.ble (am_sl as).length N = true) (hen : am_en as N = ls') (k : am_fin ((a, 0, ls', []) :: (z, nx, ls, r) :: fs) h v h') : am_fin ((z, pc, ls, st) :: fs) h v h' := fn_cl he (by simp only [am_step, am_stepK, hd, h8, cond_true, ha]) hn hb hen k
theorem fn_stat {n N : Nat} {as r ls' : List Value} (he : (am_pg z).2 pc = some (.invokestatic n, nx, a, b, 0, q, c, sw)) (hl : Nat.ble b st.length = true) (hd : st.drop b = r) (h8 : am_cat8 r = true) (ha : (st.take b).reverse = as) (hn : (am_pg a).1 = N) (hb : Nat.ble (am_sl as).length N = true) (hen : am_en as N = ls') (k : am_fin ((a, 0, ls', []) :: (z, nx, ls, r) :: fs) h v h') : am_fin ((z, pc, ls, st) :: fs) h v h' := fn_cl he (by simp only [am_step, am_stepK, hl, hd, h8, Bool.true_and, cond_true, ha]) hn hb hen k
end
