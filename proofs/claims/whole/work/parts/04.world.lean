/-! WORLDS of the abstract machine in the JVM's heap: address 0 is the script's b, address k + 1 is B + k -/
def am_rn (B b : Nat) : Nat → Nat
  | 0 => b
  | k + 1 => B + k
def am_rv (B b : Nat) (v : Value) : Value := match v with
  | .ref k => .ref (am_rn B b k)
  | v => v
def am_ra (B b : Nat) (a : vp_A) : vp_A := match a with
  | (n, .inl f) => (n, .inl f)
  | (n, .inr (.inl f)) => (n, .inr (.inl f))
  | (n, .inr (.inr (.inl f))) => (n, .inr (.inr (.inl f)))
  | (n, .inr (.inr (.inr (.inl f)))) => (n, .inr (.inr (.inr (.inl f))))
  | (n, .inr (.inr (.inr (.inr f)))) => (n, .inr (.inr (.inr (.inr (fun i => (f i).map (am_rn B b))))))
def am_rc (B b : Nat) (tc : Nat → ClassId) (c : am_C) : va_E := match c with
  | .inl (t, a) => .inl (tc t, am_ra B b a)
  | .inr (ci, fs) => .inr (ci, fs.map (am_rv B b))
def am_wk (B b : Nat) (tc : Nat → ClassId) : Nat → am_H → va_W
  | _, [] => []
  | k, c :: h => (B + k, am_rc B b tc c) :: am_wk B b tc (k + 1) h
def am_ws (B b : Nat) (tc : Nat → ClassId) (h : am_H) : va_W := am_wk B b tc 0 (h.drop 1)
theorem am_wk_get (B b : Nat) (tc : Nat → ClassId) : ∀ (h : am_H) (k j : Nat), (am_wk B b tc k h)[j]? = (h[j]?).map (fun c => (B + (k + j), am_rc B b tc c))
  | [], k, j => by simp [am_wk]
  | c :: h, k, 0 => by simp [am_wk]
  | c :: h, k, j + 1 => by
    simp only [am_wk, List.getElem?_cons_succ]
    rw [am_wk_get B b tc h (k + 1) j]
    congr 2
    funext c
    rw [show k + 1 + j = k + (j + 1) by omega]
theorem am_wk_len (B b : Nat) (tc : Nat → ClassId) : ∀ (h : am_H) (k : Nat), (am_wk B b tc k h).length = h.length
  | [], k => rfl
  | c :: h, k => by simp [am_wk, am_wk_len B b tc h (k + 1)]
theorem am_ws_get {B b : Nat} {tc : Nat → ClassId} {h : am_H} {k : Nat} {c : am_C} (e : h[k + 1]? = some c) : (am_ws B b tc h)[k]? = some (B + k, am_rc B b tc c) := by
  unfold am_ws
  rw [am_wk_get, List.getElem?_drop, Nat.add_comm 1 k, e]
  simp
theorem am_ws_len (B b : Nat) (tc : Nat → ClassId) (h : am_H) : (am_ws B b tc h).length = h.length - 1 := by
  unfold am_ws
  rw [am_wk_len, List.length_drop]
theorem am_ws_set (B b : Nat) (tc : Nat → ClassId) (h : am_H) (k : Nat) (c : am_C) : (am_ws B b tc h).set k (B + k, am_rc B b tc c) = am_ws B b tc (h.set (k + 1) c) := by
  apply List.ext_getElem?
  intro j
  unfold am_ws
  rw [am_wk_get, List.getElem?_drop, List.getElem?_set, List.getElem?_set, am_wk_get, am_wk_len, List.length_drop, List.getElem?_drop]
  by_cases hj : k = j
  · subst hj
    rw [if_pos rfl]
    by_cases hl : k < h.length - 1
    · rw [if_pos hl, if_pos (by omega), if_pos (by omega)]
      simp
    · rw [if_neg hl, if_pos (by omega), if_neg (by omega)]
      rfl
  · rw [if_neg hj, if_neg (by omega)]
theorem am_ws_push {B b : Nat} {tc : Nat → ClassId} {h : am_H} (h0 : 1 ≤ h.length) (c : am_C) : am_ws B b tc (h ++ [c]) = am_ws B b tc h ++ [(B + (h.length - 1), am_rc B b tc c)] := by
  apply List.ext_getElem?
  intro j
  unfold am_ws
  rw [am_wk_get, List.getElem?_drop, List.getElem?_append, List.getElem?_append, am_wk_get, am_wk_len, List.length_drop, List.getElem?_drop]
  by_cases hj : j < h.length - 1
  · rw [if_pos hj, if_pos (by omega)]
  · rw [if_neg hj, if_neg (by omega)]
    by_cases he : j = h.length - 1
    · subst he
      rw [show 1 + (h.length - 1) - h.length = 0 by omega, Nat.sub_self]
      simp
    · rw [List.getElem?_eq_none (show [c].length ≤ _ by simp; omega), List.getElem?_eq_none (show ([(B + (h.length - 1), am_rc B b tc c)] : va_W).length ≤ _ by simp; omega)]
      rfl
/-- the address of a new cell, by what is apart and what is in the heap -/
theorem am_fresh {B b : Nat} {tc : Nat → ClassId} {h : am_H} {D : va_G} {cl : List vw_C} {H1 : Heap} {q : Nat} {x : va_E} (h0 : 1 ≤ h.length) (hD : va_D (fun q => B ≤ q) (am_ws B b tc h ++ [(q, x)])) (hP : va_P D cl (am_ws B b tc h ++ [(q, x)]) H1) (hz : H1.size ≤ B + h.length) : q = B + (h.length - 1) := by
  have hl := am_ws_len B b tc h
  have hg : (am_ws B b tc h ++ [(q, x)])[h.length - 1]? = some (q, x) := by
    rw [List.getElem?_append_right (by omega), hl, Nat.sub_self]
    rfl
  have h1 := (hP _ _ hg).lt
  have h2 : B ≤ q := hD.2 _ _ hg
  have h1' : q < H1.size := h1
  by_cases hq : q = B + (h.length - 1)
  · exact hq
  · have hk : q - B < h.length - 1 := by omega
    have hk1 : q - B + 1 < h.length := by omega
    have hc : h[q - B + 1]? = some h[q - B + 1] := List.getElem?_eq_getElem hk1
    have hw := am_ws_get (B := B) (b := b) (tc := tc) hc
    have hw2 : (am_ws B b tc h ++ [(q, x)])[q - B]? = some (B + (q - B), am_rc B b tc h[q - B + 1]) := by
      rw [List.getElem?_append_left (by omega)]
      exact hw
    have := hD.1 _ _ _ _ hw2 hg (show B + (q - B) = q by omega)
    omega
theorem am_low {B b : Nat} {tc : Nat → ClassId} {h : am_H} {D : va_G} {cl : List vw_C} {H : Heap} (hP : va_P D cl (am_ws B b tc h) H) (hB : B ≤ H.size) : B + (h.length - 1) ≤ H.size := by
  by_cases h0 : h.length ≤ 1
  · omega
  · have hc : h[h.length - 2 + 1]? = some (h[h.length - 2 + 1]'(by omega)) := List.getElem?_eq_getElem (by omega)
    have := (hP _ _ (am_ws_get (B := B) (b := b) (tc := tc) hc)).lt
    have h2 : B + (h.length - 2) < H.size := this
    omega
/-- the locals: what is not null is held -/
def am_LR (B b : Nat) (la : Array Slot) (ls : List Value) : Prop := la.size = ls.length ∧ lv_wf la ∧ ∀ (i : Nat) (v : Value), ls[i]? = some v → v ≠ .null → la[i]? = some (.val (am_rv B b v))
def am_lv (B b : Nat) (ls : List Value) : List (Nat × Value) := (List.range ls.length).filterMap (fun i => match (ls[i]? : Option Value) with
  | some Value.null => none
  | some v => some (i, am_rv B b v)
  | none => none)
theorem am_lv_mem {B b : Nat} {ls : List Value} {i : Nat} {v : Value} (h : ls[i]? = some v) (hn : v ≠ .null) : (i, am_rv B b v) ∈ am_lv B b ls := by
  refine List.mem_filterMap.mpr ⟨i, List.mem_range.mpr (List.getElem?_eq_some_iff.mp h).1, ?_⟩
  rw [h]
  cases v <;> first | rfl | exact absurd rfl hn
theorem am_LR.has {B b : Nat} {la : Array Slot} {ls : List Value} (h : am_LR B b la ls) : lv_has la ls.length (am_lv B b ls) := by
  refine ⟨h.1, h.2.1, fun q hq => ?_⟩
  obtain ⟨i, -, hi⟩ := List.mem_filterMap.mp hq
  cases hv : ls[i]? with
  | none => rw [hv] at hi; cases hi
  | some v =>
    rw [hv] at hi
    cases v <;> first
      | (cases hi; exact h.2.2 i _ hv (fun z => by cases z))
      | cases hi
theorem am_cat (B b : Nat) (v : Value) : (am_rv B b v).category = v.category := by cases v <;> rfl
theorem am_LR.set {B b : Nat} {la la' : Array Slot} {ls : List Value} {i : Nat} {v : Value} (h : am_LR B b la ls) (hf : am_free ls i = true) (hi : i < ls.length)
    (h' : lv_has la' ls.length ((i, am_rv B b v) :: (am_lv B b ls).filter (fun q => !(q.1 == i) && !(q.1 + 1 == i && q.2.category == 2)))) : am_LR B b la' (ls.set i v) := by
  refine ⟨by rw [List.length_set]; exact h'.1, h'.2.1, fun j w hj hn => ?_⟩
  rw [List.getElem?_set] at hj
  by_cases hij : i = j
  · subst hij
    rw [if_pos rfl, if_pos hi] at hj
    cases hj
    exact h'.2.2 (i, am_rv B b v) List.mem_cons_self
  · rw [if_neg hij] at hj
    refine h'.2.2 (j, am_rv B b w) (List.mem_cons_of_mem _ (List.mem_filter.mpr ⟨am_lv_mem hj hn, ?_⟩))
    have h1 : (j == i) = false := by simp; omega
    simp only [h1, Bool.not_false, Bool.true_and, Bool.not_eq_true', Bool.and_eq_false_iff, beq_eq_false_iff_ne]
    by_cases h2 : j + 1 = i
    · right
      rw [am_cat]
      intro hc
      subst h2
      unfold am_free at hf
      rw [show j + 1 - 1 = j by omega, hj] at hf
      cases w <;> first | (exact absurd (show (1 : Nat) = 2 from hc) (by decide)) | (exact Bool.noConfusion (show false = true from hf))
    · left
      exact h2
theorem am_LR.at {B b : Nat} {la : Array Slot} {ls : List Value} {i : Nat} {v : Value} (h : am_LR B b la ls) (e : ls[i]? = some v) (hn : v ≠ .null) : la[i]? = some (.val (am_rv B b v)) := h.2.2 i v e hn
theorem am_sl_len (B b : Nat) : ∀ (vs : List Value), (lg_sl (vs.map (am_rv B b))).length = (am_sl vs).length
  | [] => rfl
  | v :: vs => by
    have ih := am_sl_len B b vs
    simp only [lg_sl, am_sl, List.map_cons, List.flatMap_cons, List.length_append] at ih ⊢
    rw [ih, am_cat]
    by_cases h : v.category = 2
    · simp [h]
    · simp [h]
theorem am_args_mem (B b : Nat) : ∀ (vs : List Value) (k i : Nat) (v : Value), (am_sl vs)[i]? = some v → v ≠ .null → (k + i, am_rv B b v) ∈ lv_args k (vs.map (am_rv B b))
  | [], k, i, v, h, hn => by simp [am_sl] at h
  | w :: vs, k, i, v, h, hn => by
    simp only [am_sl, List.flatMap_cons] at h
    simp only [List.map_cons, lv_args, am_cat]
    by_cases hc : w.category = 2
    · rw [if_pos hc] at h ⊢
      match i, h with
      | 0, h =>
        have e : w = v := by simpa using h
        subst e
        exact List.mem_cons_self
      | 1, h =>
        have e : Value.null = v := by simpa using h
        exact absurd e.symm hn
      | i + 2, h =>
        have h' : (am_sl vs)[i]? = some v := by simpa [am_sl] using h
        have := am_args_mem B b vs (k + 2) i v h' hn
        rw [show k + (i + 2) = k + 2 + i by omega]
        exact List.mem_cons_of_mem _ this
    · rw [if_neg hc] at h ⊢
      match i, h with
      | 0, h =>
        have e : w = v := by simpa using h
        subst e
        exact List.mem_cons_self
      | i + 1, h =>
        have h' : (am_sl vs)[i]? = some v := by simpa [am_sl] using h
        have := am_args_mem B b vs (k + 1) i v h' hn
        rw [show k + (i + 1) = k + 1 + i by omega]
        exact List.mem_cons_of_mem _ this
theorem am_LR_entry {B b : Nat} (vs : List Value) {n : Nat} (h : (am_sl vs).length ≤ n) : am_LR B b ((lg_sl (vs.map (am_rv B b)) ++ List.replicate (n - (lg_sl (vs.map (am_rv B b))).length) Slot.unset).toArray) (am_en vs n) := by
  have hl := lv_entry (vs.map (am_rv B b)) (n := n) (by rw [am_sl_len]; exact h)
  refine ⟨?_, hl.2.1, fun i v hi hn => ?_⟩
  · rw [hl.1]
    simp [am_en]
    omega
  · unfold am_en at hi
    by_cases hlt : i < (am_sl vs).length
    · rw [List.getElem?_append_left hlt] at hi
      have := hl.2.2 _ (am_args_mem B b vs 0 i v hi hn)
      rw [Nat.zero_add] at this
      exact this
    · rw [List.getElem?_append_right (by omega)] at hi
      have := List.eq_of_mem_replicate (List.mem_of_getElem? hi)
      exact absurd this hn
theorem am_en_len {vs : List Value} {n : Nat} (h : (am_sl vs).length ≤ n) : (am_en vs n).length = n := by
  simp [am_en]
  omega
/-- what a field of such a type keeps -/
theorem am_pf_ok {B b : Nat} {ty : FieldType} {v : Value} (h : am_pf (am_fk ty) v = true) : narrow ty (am_rv B b v) = am_rv B b v ∧ fits ty (am_rv B b v) = true := by
  cases ty <;> cases v <;> first
    | (simp [am_fk, am_pf] at h; done)
    | (exact ⟨rfl, rfl⟩)
    | (simp only [am_fk, am_pf, Bool.or_eq_true, decide_eq_true_eq] at h
       rcases h with rfl | rfl <;> exact ⟨rfl, rfl⟩)
theorem am_up_rn (r : Nat → Nat) (f : Nat → Option Nat) (k v : Nat) : (fun j => (va_up f k (some v) j).map r) = va_up (fun j => (f j).map r) k (some (r v)) := by
  funext j
  unfold va_up
  by_cases h : j = k
  · rw [if_pos h, if_pos h]; rfl
  · rw [if_neg h, if_neg h]
theorem am_slots_set {h : am_H} {k : Nat} {c c' : am_C} (e : h[k]? = some c) (hz : am_csz c' = am_csz c) : am_slots (h.set k c') = am_slots h := by
  unfold am_slots
  congr 1
  apply List.ext_getElem?
  intro j
  rw [List.getElem?_map, List.getElem?_map, List.getElem?_set]
  by_cases hj : k = j
  · subst hj
    rw [if_pos rfl, if_pos (List.getElem?_eq_some_iff.mp e).1, e]
    simp [hz]
  · rw [if_neg hj]
theorem am_slots_push (h : am_H) (c : am_C) : am_slots (h ++ [c]) = am_slots h + am_csz c := by
  simp [am_slots]
