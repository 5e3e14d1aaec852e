/-! printed by gen03.py: classes, methods, links, with their places in lw_tbl -/
def am_cn (o : Nat) : String := (["LivingDays$Judge", "LivingDays$Places", "LivingDays$Reade\x72", "LivingDays$Rolling", "LivingDays$Rules", "LivingDays$Spelle\x72", "LivingDays$State", "LivingDays$Tape", "LivingDays", "LivingDaysModel", "LivingDaysLaw", "java/lang/Intege\x72", "java/lang/Math", "java/lang/System", "java/util/Arrays", "java/lang/Object"] : List String).getD o ""
/-- fields of the classes: name, descriptor, final, type, place in lw_tbl -/
def cs_F : List (List (String × String × Bool × FieldType × Nat)) := [[("state", "LLivingDays$State;", true, .object "LivingDays$State", 266), ("rules", "LLivingDays$Rules;", true, .object "LivingDays$Rules", 268), ("dayCounts", "[I", true, .array .int, 270), ("homeCounts", "[I", true, .array .int, 272), ("centreCounts", "[I", true, .array .int, 274)],
  [("lands", "[I", true, .array .int, 114)],
  [("text", "[I", true, .array .int, 219), ("lands", "[I", true, .array .int, 221), ("firsts", "[I", true, .array .int, 223), ("lasts", "[I", true, .array .int, 225), ("length", "I", false, .int, 227), ("stays", "I", false, .int, 229), ("place", "I", false, .int, 231), ("fault", "I", false, .int, 233)],
  [("rules", "LLivingDays$Rules;", true, .object "LivingDays$Rules", 289), ("ahead", "[I", true, .array .int, 291), ("addedAhead", "[I", true, .array .int, 293), ("shutters", "[I", true, .array .int, 295), ("span", "I", false, .int, 297), ("limit", "I", false, .int, 299)],
  [("spans", "[I", true, .array .int, 144), ("limits", "[I", true, .array .int, 146), ("claimRules", "[I", true, .array .int, 148), ("taxes", "[I", true, .array .int, 150), ("entriesLet", "[I", true, .array .int, 152), ("orders", "[I", true, .array .int, 154), ("treaties", "[I", true, .array .int, 156), ("nations", "I", false, .int, 158)],
  [("place", "I", false, .int, 247), ("wanted", "I", false, .int, 249), ("found", "I", false, .int, 251)],
  [("places", "LLivingDays$Places;", true, .object "LivingDays$Places", 176), ("centres", "LLivingDays$Places;", true, .object "LivingDays$Places", 178), ("partne\x72", "LLivingDays$Places;", true, .object "LivingDays$Places", 180), ("homes", "[I", true, .array .int, 182), ("rules", "LLivingDays$Rules;", true, .object "LivingDays$Rules", 184), ("paired", "Z", false, .boolean, 186)],
  [("bytes", "[I", true, .array .int, 200), ("length", "I", false, .int, 202)],
  [("now", "LLivingDays$State;", true, .object "LivingDays$State", 313), ("kept", "[LLivingDays$State;", true, .array (.object "LivingDays$State"), 315), ("keptCount", "I", false, .int, 317), ("tape", "LLivingDays$Tape;", true, .object "LivingDays$Tape", 319), ("reade\x72", "LLivingDays$Reader;", true, .object "LivingDays$Reade\x72", 321), ("spelle\x72", "LLivingDays$Speller;", true, .object "LivingDays$Spelle\x72", 323), ("judge", "LLivingDays$Judge;", true, .object "LivingDays$Judge", 325), ("rolling", "LLivingDays$Rolling;", true, .object "LivingDays$Rolling", 327), ("asIf", "LLivingDays$Places;", true, .object "LivingDays$Places", 329)],
  [("where", "[I", true, .array .int, 1014), ("homes", "[I", true, .array .int, 1016), ("centre", "[I", true, .array .int, 1018), ("partne\x72", "[I", true, .array .int, 1020), ("lands", "[I", true, .array .int, 1022), ("hasPartne\x72", "Z", false, .boolean, 1024), ("tape", "[B", true, .array .byte, 1026), ("taped", "I", false, .int, 1028), ("place", "I", false, .int, 1030), ("textLong", "I", false, .int, 1032), ("fault", "I", false, .int, 1034), ("numbe\x72", "I", false, .int, 1036), ("stays", "[I", true, .array .int, 1038), ("drawnNow", "I", false, .int, 1040), ("written", "I", false, .int, 1042), ("wanted", "I", false, .int, 1044), ("found", "I", false, .int, 1046), ("letters", "[I", true, .array .int, 1048), ("last", "[I", true, .array .int, 1050), ("aside", "[I", true, .array .int, 1052), ("counts", "[I", true, .array .int, 1054), ("ahead", "[I", true, .array .int, 1056), ("isLoose", "[I", true, .array .int, 1058), ("states", "I", false, .int, 1060), ("keptDays", "[I", true, .array .int, 1062), ("keptLands", "[I", true, .array .int, 1064), ("hadPartne\x72", "[Z", true, .array .boolean, 1066)]]
def cs_f (ci k : Nat) : String × String × Bool × FieldType × Nat := (cs_F.getD ci []).getD k ("", "", false, .int, 0)
def cs_N (ci : Nat) : Nat := (cs_F.getD ci []).length
def cs_T (ci : Nat) : u_T := fun k => (am_cn ci, (cs_f ci k).1, (cs_f ci k).2.1, (cs_f ci k).2.2.1)
def cs_ty (ci k : Nat) : FieldType := (cs_f ci k).2.2.2.1
def am_cl : List vw_C := [(am_cn 0, cs_T 0, cs_N 0), (am_cn 1, cs_T 1, cs_N 1), (am_cn 2, cs_T 2, cs_N 2), (am_cn 3, cs_T 3, cs_N 3), (am_cn 4, cs_T 4, cs_N 4), (am_cn 5, cs_T 5, cs_N 5), (am_cn 6, cs_T 6, cs_N 6), (am_cn 7, cs_T 7, cs_N 7), (am_cn 8, cs_T 8, cs_N 8), (am_cn 9, cs_T 9, cs_N 9)]
theorem am_cl_at : ∀ ci, ci < 10 → am_cl[ci]? = some (am_cn ci, cs_T ci, cs_N ci) := by
  intro ci h
  match ci, h with
  | 0, _ => rfl
  | 1, _ => rfl
  | 2, _ => rfl
  | 3, _ => rfl
  | 4, _ => rfl
  | 5, _ => rfl
  | 6, _ => rfl
  | 7, _ => rfl
  | 8, _ => rfl
  | 9, _ => rfl
  | n + 10, h => omega
theorem am_cl_lt : ∀ (ci : Nat) (r : vw_C), am_cl[ci]? = some r → ci < 10 := fun ci r h => (List.getElem?_eq_some_iff.mp h).1
def am_fk (ty : FieldType) : Nat := match ty with
  | .int => 0
  | .boolean => 1
  | .object _ => 2
  | .array _ => 2
  | _ => 3
theorem cs_ty_ok : ∀ ci, ci < 10 → ∀ k, k < cs_N ci → parseFieldDescriptor (cs_T ci k).2.2.1 = some (cs_ty ci k) := by decide +kernel
theorem cs_nm : ∀ ci, ci < 10 → ∀ a, a < cs_N ci → ∀ b, b < cs_N ci → a ≠ b → (cs_T ci a).2.1 ≠ (cs_T ci b).2.1 := by decide +kernel
theorem cs_dv : ∀ ci, ci < 10 → (am_dv ci).length = cs_N ci ∧ ∀ j, j < cs_N ci → defaultValue (cs_ty ci j) = vp_V (am_dv ci) j := by decide +kernel
theorem cs_pos : ∀ ci, ci < 10 → ∀ k, k < cs_N ci → lw_tbl[(cs_f ci k).2.2.2.2]? = some (u_lay (am_cn ci) (cs_T ci) k) := by decide +kernel
theorem cs_ini : ∀ ci, ci < 10 → lw_tbl[([255, 102, 206, 278, 119, 237, 96, 191, 88, 978] : List Nat).getD ci 0]? = some (.instantiable (am_cn ci) (cs_N ci)) ∧ lw_tbl[([81, 75, 79, 82, 77, 80, 74, 78, 73, 83] : List Nat).getD ci 0]? = some (.initialized (am_cn ci)) := by decide +kernel
/-- a method: its name, code, locals, answer, class, frames and words that it needs, kind (0 static, 1 of an object, 2 <init>), arguments, places in lw_tbl: code, initialized, static or instanceMethod, selects -/
def am_cb (o : Option Cond) : ByteArray := match o with
  | some (.code _ b _ _) => b
  | _ => ⟨#[]⟩
abbrev am_D : Type := MethodName × Nat × Nat × Option FieldType × Nat × Nat × Nat × Nat × Nat × Nat × Nat × Nat × Nat
def am_bs (m : am_D) : ByteArray := match m.2.1 with
  | 0 => am_cb lw_tbl[m.2.2.2.2.2.2.2.2.2.1]?
  | _ => code
def am_ck (o : Option Cond) (y : MethodName) (n : Nat) (r : Option FieldType) : Bool := match o with
  | some (.code y' _ n' r') => decide (y' = y) && (decide (n' = n) && decide (r' = r))
  | _ => false
theorem am_ck_ok {o : Option Cond} {y : MethodName} {n : Nat} {r : Option FieldType} (h : am_ck o y n r = true) : o = some (.code y (am_cb o) n r) := by
  unfold am_ck at h
  split at h
  · obtain ⟨h1, h⟩ := Bool.and_eq_true_iff.mp h
    obtain ⟨h2, h3⟩ := Bool.and_eq_true_iff.mp h
    rw [of_decide_eq_true h1, of_decide_eq_true h2, of_decide_eq_true h3]
    rfl
  · cases h
/-- what is true of a method that can be called -/
def am_mw (m : am_D) : Prop := lw_tbl[m.2.2.2.2.2.2.2.2.2.1]? = some (.code m.1 (am_bs m) m.2.2.1 m.2.2.2.1) ∧ lw_tbl[m.2.2.2.2.2.2.2.2.2.2.1]? = some (.initialized m.1.cls) ∧ m.1.cls = am_cn m.2.2.2.2.1 ∧ plainName m.1.cls = true ∧ m.1.cls ≠ "java/lang/invoke/MethodHandle" ∧ m.1.cls ≠ "java/lang/invoke/VarHandle" ∧ (parseMethodDescriptor m.1.desc).map (fun d => d.parameters.length) = some m.2.2.2.2.2.2.2.2.1 ∧ (m.2.2.2.2.2.2.2.1 = 0 → lw_tbl[m.2.2.2.2.2.2.2.2.2.2.2.1]? = some (.static m.1)) ∧ (m.2.2.2.2.2.2.2.1 ≠ 0 → lw_tbl[m.2.2.2.2.2.2.2.2.2.2.2.1]? = some (.instanceMethod m.1)) ∧ (m.2.2.2.2.2.2.2.1 = 1 → lw_tbl[m.2.2.2.2.2.2.2.2.2.2.2.2]? = some (.selects m.1.cls m.1 m.1)) ∧ (m.2.2.2.2.2.2.2.1 = 2 → m.1.name = "<init>" ∧ m.2.2.2.1 = none)
def am_mwb (m : am_D) : Bool := decide (m.2.1 = 0) && (am_ck lw_tbl[m.2.2.2.2.2.2.2.2.2.1]? m.1 m.2.2.1 m.2.2.2.1 && (decide (lw_tbl[m.2.2.2.2.2.2.2.2.2.2.1]? = some (.initialized m.1.cls)) && (decide (m.1.cls = am_cn m.2.2.2.2.1) && (plainName m.1.cls && (decide (m.1.cls ≠ "java/lang/invoke/MethodHandle") && (decide (m.1.cls ≠ "java/lang/invoke/VarHandle") && (decide ((parseMethodDescriptor m.1.desc).map (fun d => d.parameters.length) = some m.2.2.2.2.2.2.2.2.1) && (decide (m.2.2.2.2.2.2.2.1 = 0 → lw_tbl[m.2.2.2.2.2.2.2.2.2.2.2.1]? = some (.static m.1)) && (decide (m.2.2.2.2.2.2.2.1 ≠ 0 → lw_tbl[m.2.2.2.2.2.2.2.2.2.2.2.1]? = some (.instanceMethod m.1)) && (decide (m.2.2.2.2.2.2.2.1 = 1 → lw_tbl[m.2.2.2.2.2.2.2.2.2.2.2.2]? = some (.selects m.1.cls m.1 m.1)) && decide (m.2.2.2.2.2.2.2.1 = 2 → m.1.name = "<init>" ∧ m.2.2.2.1 = none)))))))))))
theorem am_mw_of (m : am_D) (h : am_mwb m = true) : am_mw m := by
  unfold am_mwb at h
  obtain ⟨h0, h⟩ := Bool.and_eq_true_iff.mp h
  have hb : am_bs m = am_cb lw_tbl[m.2.2.2.2.2.2.2.2.2.1]? := by unfold am_bs; rw [of_decide_eq_true h0]; rfl
  obtain ⟨h1, h⟩ := Bool.and_eq_true_iff.mp h
  obtain ⟨h2, h⟩ := Bool.and_eq_true_iff.mp h
  obtain ⟨h3, h⟩ := Bool.and_eq_true_iff.mp h
  obtain ⟨h4, h⟩ := Bool.and_eq_true_iff.mp h
  obtain ⟨h5, h⟩ := Bool.and_eq_true_iff.mp h
  obtain ⟨h6, h⟩ := Bool.and_eq_true_iff.mp h
  obtain ⟨h7, h⟩ := Bool.and_eq_true_iff.mp h
  obtain ⟨h8, h⟩ := Bool.and_eq_true_iff.mp h
  obtain ⟨h9, h⟩ := Bool.and_eq_true_iff.mp h
  obtain ⟨h10, h⟩ := Bool.and_eq_true_iff.mp h
  exact ⟨by rw [hb]; exact am_ck_ok h1, of_decide_eq_true h2, of_decide_eq_true h3, h4, of_decide_eq_true h5, of_decide_eq_true h6, of_decide_eq_true h7, of_decide_eq_true h8, of_decide_eq_true h9, of_decide_eq_true h10, of_decide_eq_true h⟩
def am_md_0 : List am_D := [(⟨"LivingDays", "<init>", "()V"⟩, 0, 1, none, 8, 3, 63, 2, 0, 91, 73, 90, 0),
  (⟨"LivingDays", "feed", "(IIIII)I"⟩, 0, 6, some .int, 8, 1, 22, 1, 5, 335, 73, 333, 334),
  (⟨"LivingDays", "calenda\x72", "(I)I"⟩, 0, 3, some .int, 8, 5, 113, 1, 1, 343, 73, 341, 342),
  (⟨"LivingDays", "stay", "(III)I"⟩, 0, 4, some .int, 8, 3, 63, 1, 3, 410, 73, 408, 409),
  (⟨"LivingDays", "home", "(IIIZ)I"⟩, 0, 7, some .int, 8, 3, 63, 1, 4, 424, 73, 422, 423),
  (⟨"LivingDays", "centre", "(III)I"⟩, 0, 4, some .int, 8, 3, 63, 1, 3, 436, 73, 434, 435),
  (⟨"LivingDays", "nation", "(IZ)Z"⟩, 0, 3, some .boolean, 8, 2, 42, 1, 2, 440, 73, 438, 439),
  (⟨"LivingDays", "drawn", "(III)I"⟩, 0, 9, some .int, 8, 2, 51, 1, 3, 449, 73, 447, 448),
  (⟨"LivingDays", "at", "(II)I"⟩, 0, 4, some .int, 8, 2, 42, 1, 2, 458, 73, 456, 457),
  (⟨"LivingDays", "lette\x72", "(I)I"⟩, 0, 2, some .int, 8, 4, 89, 1, 1, 466, 73, 464, 465),
  (⟨"LivingDays", "window", "(III)I"⟩, 0, 5, some .int, 8, 2, 42, 1, 3, 496, 73, 494, 495),
  (⟨"LivingDays", "rule", "(III)I"⟩, 0, 5, some .int, 8, 2, 42, 1, 3, 500, 73, 498, 499),
  (⟨"LivingDays", "orde\x72", "(II)Z"⟩, 0, 4, some .boolean, 8, 3, 66, 1, 2, 511, 73, 509, 510),
  (⟨"LivingDays", "entries", "(II)I"⟩, 0, 4, some .int, 8, 2, 42, 1, 2, 533, 73, 531, 532),
  (⟨"LivingDays", "entered", "(III)I"⟩, 0, 8, some .int, 8, 2, 42, 1, 3, 537, 73, 535, 536),
  (⟨"LivingDays", "treaty", "(III)Z"⟩, 0, 5, some .boolean, 8, 3, 66, 1, 3, 552, 73, 550, 551),
  (⟨"LivingDays", "without", "(II)Z"⟩, 0, 3, some .boolean, 8, 3, 63, 1, 2, 563, 73, 561, 562),
  (⟨"LivingDays", "tax", "(II)I"⟩, 0, 4, some .int, 8, 2, 42, 1, 2, 571, 73, 569, 570),
  (⟨"LivingDays", "told", "(II)I"⟩, 0, 5, some .int, 8, 2, 42, 1, 2, 575, 73, 573, 574),
  (⟨"LivingDays", "days", "(III)I"⟩, 0, 4, some .int, 8, 3, 68, 1, 3, 582, 73, 580, 581),
  (⟨"LivingDays", "month", "(II)I"⟩, 0, 4, some .int, 8, 2, 46, 1, 2, 603, 73, 601, 602),
  (⟨"LivingDays", "within", "(III)I"⟩, 0, 4, some .int, 8, 2, 46, 1, 3, 607, 73, 605, 606),
  (⟨"LivingDays", "overstays", "(IIII)I"⟩, 0, 10, some .int, 8, 4, 91, 1, 4, 611, 73, 609, 610),
  (⟨"LivingDays", "nth", "(III)I"⟩, 0, 7, some .int, 8, 2, 45, 1, 3, 632, 73, 630, 631),
  (⟨"LivingDays", "away", "(II)I"⟩, 0, 7, some .int, 8, 2, 42, 1, 2, 637, 73, 635, 636),
  (⟨"LivingDays", "travels", "(II)I"⟩, 0, 7, some .int, 8, 2, 42, 1, 2, 641, 73, 639, 640),
  (⟨"LivingDays", "most", "(III)I"⟩, 0, 4, some .int, 8, 4, 91, 1, 3, 645, 73, 643, 644),
  (⟨"LivingDays", "tight", "(III)I"⟩, 0, 8, some .int, 8, 2, 49, 1, 3, 669, 73, 667, 668),
  (⟨"LivingDays", "rank", "(II)I"⟩, 0, 4, some .int, 8, 4, 91, 1, 2, 674, 73, 672, 673),
  (⟨"LivingDays", "slide", "(III)I"⟩, 0, 4, some .int, 8, 3, 63, 1, 3, 685, 73, 683, 684),
  (⟨"LivingDays", "trade", "(IIII)I"⟩, 0, 8, some .int, 8, 3, 63, 1, 4, 701, 73, 699, 700),
  (⟨"LivingDays", "erase", "(II)I"⟩, 0, 6, some .int, 8, 2, 51, 1, 2, 705, 73, 703, 704),
  (⟨"LivingDays", "routes", "(III)I"⟩, 0, 6, some .int, 8, 2, 42, 1, 3, 709, 73, 707, 708),
  (⟨"LivingDays", "latest", "(II)I"⟩, 0, 5, some .int, 8, 4, 91, 1, 2, 713, 73, 711, 712),
  (⟨"LivingDays", "wins", "(II)I"⟩, 0, 4, some .int, 8, 4, 91, 1, 2, 728, 73, 726, 727),
  (⟨"LivingDays", "partne\x72", "()I"⟩, 0, 1, some .int, 8, 3, 64, 1, 0, 756, 73, 754, 755)]
theorem am_md_0_ok : ∀ m ∈ am_md_0, am_mwb m = true := by decide +kernel
def am_md_1 : List am_D := [(⟨"LivingDays", "togethe\x72", "(II)I"⟩, 0, 10, some .int, 8, 2, 42, 1, 2, 765, 73, 763, 764),
  (⟨"LivingDays", "claims", "(I)I"⟩, 0, 2, some .int, 8, 4, 91, 1, 1, 769, 73, 767, 768),
  (⟨"LivingDays", "holds", "(II)I"⟩, 0, 3, some .int, 8, 4, 91, 1, 2, 773, 73, 771, 772),
  (⟨"LivingDays", "answers", "(III)I"⟩, 0, 4, some .int, 8, 4, 91, 1, 3, 778, 73, 776, 777),
  (⟨"LivingDays", "by", "(III)I"⟩, 0, 4, some .int, 8, 4, 91, 1, 3, 783, 73, 781, 782),
  (⟨"LivingDays", "lives", "(I)I"⟩, 0, 2, some .int, 8, 4, 101, 1, 1, 791, 73, 789, 790),
  (⟨"LivingDays", "pairs", "(II)I"⟩, 0, 7, some .int, 8, 4, 91, 1, 2, 807, 73, 805, 806),
  (⟨"LivingDays", "split", "(III)I"⟩, 0, 6, some .int, 8, 4, 97, 1, 3, 815, 73, 813, 814),
  (⟨"LivingDays", "owed", "(I)I"⟩, 0, 2, some .int, 8, 5, 129, 1, 1, 836, 73, 834, 835),
  (⟨"LivingDays", "free", "(III)I"⟩, 0, 4, some .int, 8, 5, 120, 1, 3, 849, 73, 847, 848),
  (⟨"LivingDays", "mustLeave", "(II)I"⟩, 0, 4, some .int, 8, 3, 73, 1, 2, 867, 73, 865, 866),
  (⟨"LivingDays", "mayCome", "(III)I"⟩, 0, 5, some .int, 8, 3, 73, 1, 3, 875, 73, 873, 874),
  (⟨"LivingDays", "claimBy", "(II)I"⟩, 0, 5, some .int, 8, 4, 91, 1, 2, 879, 73, 877, 878),
  (⟨"LivingDays", "freest", "(III)I"⟩, 0, 8, some .int, 8, 5, 120, 1, 3, 886, 73, 884, 885),
  (⟨"LivingDays", "need", "(II)I"⟩, 0, 3, some .int, 8, 4, 99, 1, 2, 890, 73, 888, 889),
  (⟨"LivingDays", "moved", "(II)I"⟩, 0, 3, some .int, 8, 5, 125, 1, 2, 898, 73, 896, 897),
  (⟨"LivingDays", "loose", "(II)I"⟩, 0, 7, some .int, 8, 6, 150, 1, 2, 910, 73, 908, 909),
  (⟨"LivingDays", "nearest", "(II)I"⟩, 0, 7, some .int, 8, 4, 99, 1, 2, 919, 73, 917, 918),
  (⟨"LivingDays", "instead", "(IIIII)I"⟩, 0, 7, some .int, 8, 7, 172, 1, 5, 923, 73, 921, 922),
  (⟨"LivingDays", "trip", "(II)I"⟩, 0, 4, some .int, 8, 7, 172, 1, 2, 947, 73, 945, 946),
  (⟨"LivingDays", "cheapest", "(III)I"⟩, 0, 8, some .int, 8, 6, 151, 1, 3, 951, 73, 949, 950),
  (⟨"LivingDays", "count", "(I)I"⟩, 0, 2, some .int, 8, 6, 136, 1, 1, 957, 73, 955, 956),
  (⟨"LivingDays", "keep", "()I"⟩, 0, 1, some .int, 8, 3, 68, 1, 0, 961, 73, 959, 960),
  (⟨"LivingDays", "undo", "()I"⟩, 0, 1, some .int, 8, 3, 68, 1, 0, 976, 73, 974, 975),
  (⟨"LivingDays", "outcome", "(I)I"⟩, 0, 2, some .int, 8, 6, 151, 1, 1, 930, 73, 929, 18),
  (⟨"LivingDays", "owedAsIf", "()I"⟩, 0, 3, some .int, 8, 5, 129, 1, 0, 943, 73, 942, 20),
  (⟨"LivingDays", "overstaysInAll", "(LLivingDays$Places;)I"⟩, 0, 4, some .int, 8, 5, 113, 1, 1, 934, 73, 933, 19),
  (⟨"LivingDays", "isText", "(I)Z"⟩, 0, 2, some .boolean, 8, 1, 22, 1, 1, 347, 73, 346, 0),
  (⟨"LivingDays", "isRow", "(I)Z"⟩, 0, 2, some .boolean, 8, 1, 22, 1, 1, 515, 73, 514, 11),
  (⟨"LivingDays", "isAmong", "(III)Z"⟩, 0, 3, some .boolean, 8, 0, 0, 0, 3, 350, 73, 349, 0),
  (⟨"LivingDays", "isDay", "(I)Z"⟩, 0, 1, some .boolean, 8, 1, 22, 0, 1, 419, 73, 418, 0),
  (⟨"LivingDays", "isSpan", "(II)Z"⟩, 0, 2, some .boolean, 8, 2, 42, 0, 2, 416, 73, 415, 0),
  (⟨"LivingDays", "isYea\x72", "(I)Z"⟩, 0, 1, some .boolean, 8, 1, 22, 0, 1, 540, 73, 539, 0),
  (⟨"LivingDays", "isLand", "(I)Z"⟩, 0, 1, some .boolean, 8, 1, 22, 0, 1, 375, 73, 374, 0),
  (⟨"LivingDays", "isPlace", "(I)Z"⟩, 0, 1, some .boolean, 8, 1, 22, 0, 1, 413, 73, 412, 0),
  (⟨"LivingDays", "isPai\x72", "(II)Z"⟩, 0, 2, some .boolean, 8, 2, 42, 0, 2, 555, 73, 554, 0)]
theorem am_md_1_ok : ∀ m ∈ am_md_1, am_mwb m = true := by decide +kernel
def am_md_2 : List am_D := [(⟨"LivingDays", "isSort", "(I)Z"⟩, 0, 1, some .boolean, 8, 1, 22, 0, 1, 503, 73, 502, 0),
  (⟨"LivingDays", "isOutcome", "(I)Z"⟩, 0, 1, some .boolean, 8, 1, 22, 0, 1, 926, 73, 925, 0),
  (⟨"LivingDays", "hasBit", "(II)Z"⟩, 0, 2, some .boolean, 8, 0, 0, 0, 2, 432, 73, 431, 0),
  (⟨"LivingDays", "firstOf", "(I)I"⟩, 0, 1, some .int, 8, 0, 0, 0, 1, 543, 73, 542, 0),
  (⟨"LivingDays", "lastOf", "(I)I"⟩, 0, 1, some .int, 8, 0, 0, 0, 1, 546, 73, 545, 0),
  (⟨"LivingDays", "yearOf", "(I)I"⟩, 0, 1, some .int, 8, 0, 0, 0, 1, 882, 73, 881, 0),
  (⟨"LivingDays", "spot", "(II)I"⟩, 0, 2, some .int, 8, 0, 0, 0, 2, 681, 73, 680, 0),
  (⟨"LivingDays", "nextDraw", "(I)I"⟩, 0, 1, some .int, 8, 0, 0, 0, 1, 453, 73, 452, 0),
  (⟨"LivingDays", "rowLength", "(I)I"⟩, 0, 1, some .int, 8, 0, 0, 0, 1, 529, 73, 528, 0),
  (⟨"LivingDays", "rowLette\x72", "(II)I"⟩, 0, 2, some .int, 8, 0, 0, 0, 2, 578, 73, 577, 0),
  (⟨"LivingDays", "rowWith", "(II)I"⟩, 0, 2, some .int, 8, 1, 20, 0, 2, 526, 73, 525, 0),
  (⟨"LivingDaysModel", "<init>", "()V"⟩, 0, 3, none, 9, 1, 23, 2, 0, 981, 83, 980, 0),
  (⟨"LivingDaysModel", "in", "(JJJ)Z"⟩, 0, 6, some .boolean, 9, 0, 0, 0, 3, 1090, 83, 1089, 0),
  (⟨"LivingDaysModel", "isLand", "(I)Z"⟩, 0, 1, some .boolean, 9, 1, 25, 0, 1, 1144, 83, 1143, 0),
  (⟨"LivingDaysModel", "isPlace", "(I)Z"⟩, 0, 1, some .boolean, 9, 1, 25, 0, 1, 1129, 83, 1128, 0),
  (⟨"LivingDaysModel", "isDay", "(I)Z"⟩, 0, 1, some .boolean, 9, 1, 25, 0, 1, 1137, 83, 1136, 0),
  (⟨"LivingDaysModel", "areDays", "(II)Z"⟩, 0, 2, some .boolean, 9, 2, 45, 0, 2, 1134, 83, 1133, 0),
  (⟨"LivingDaysModel", "isYea\x72", "(I)Z"⟩, 0, 1, some .boolean, 9, 1, 25, 0, 1, 1227, 83, 1226, 0),
  (⟨"LivingDaysModel", "more", "(II)I"⟩, 0, 2, some .int, 9, 0, 0, 0, 2, 1230, 83, 1229, 0),
  (⟨"LivingDaysModel", "less", "(II)I"⟩, 0, 2, some .int, 9, 0, 0, 0, 2, 1171, 83, 1170, 0),
  (⟨"LivingDaysModel", "of", "(II)I"⟩, 0, 3, some .int, 9, 0, 0, 1, 2, 1156, 83, 1155, 30),
  (⟨"LivingDaysModel", "sets", "(III)V"⟩, 0, 4, none, 9, 0, 0, 1, 3, 986, 83, 985, 21),
  (⟨"LivingDaysModel", "typed4", "(I)V"⟩, 0, 3, none, 9, 0, 0, 1, 1, 1078, 83, 1077, 22),
  (⟨"LivingDaysModel", "feed", "(IIIII)I"⟩, 0, 6, some .int, 9, 1, 22, 1, 5, 1074, 83, 1072, 1073),
  (⟨"LivingDaysModel", "see", "()I"⟩, 0, 1, some .int, 9, 0, 0, 1, 0, 1102, 83, 1101, 26),
  (⟨"LivingDaysModel", "wrong", "(II)Z"⟩, 0, 3, some .boolean, 9, 0, 0, 1, 2, 1108, 83, 1107, 27),
  (⟨"LivingDaysModel", "isDigit", "(I)Z"⟩, 0, 1, some .boolean, 9, 1, 25, 0, 1, 1115, 83, 1114, 0),
  (⟨"LivingDaysModel", "readsDay", "(I)Z"⟩, 0, 4, some .boolean, 9, 2, 45, 1, 1, 1112, 83, 1111, 28),
  (⟨"LivingDaysModel", "readsStay", "(I)V"⟩, 0, 3, none, 9, 3, 68, 1, 1, 1098, 83, 1097, 25),
  (⟨"LivingDaysModel", "readsAll", "(I)I"⟩, 0, 4, some .int, 9, 4, 90, 1, 1, 1094, 83, 1093, 24),
  (⟨"LivingDaysModel", "laysStays", "(I)V"⟩, 0, 4, none, 9, 0, 0, 1, 1, 1122, 83, 1121, 29),
  (⟨"LivingDaysModel", "hasText", "(I)Z"⟩, 0, 2, some .boolean, 9, 1, 25, 1, 1, 1086, 83, 1085, 23),
  (⟨"LivingDaysModel", "calenda\x72", "(I)I"⟩, 0, 3, some .int, 9, 5, 113, 1, 1, 1082, 83, 1080, 1081),
  (⟨"LivingDaysModel", "stay", "(III)I"⟩, 0, 6, some .int, 9, 3, 66, 1, 3, 1126, 83, 1124, 1125),
  (⟨"LivingDaysModel", "home", "(IIIZ)I"⟩, 0, 8, some .int, 9, 3, 66, 1, 4, 1141, 83, 1139, 1140),
  (⟨"LivingDaysModel", "centre", "(III)I"⟩, 0, 6, some .int, 9, 3, 66, 1, 3, 1148, 83, 1146, 1147)]
theorem am_md_2_ok : ∀ m ∈ am_md_2, am_mwb m = true := by decide +kernel
def am_md_3 : List am_D := [(⟨"LivingDaysModel", "nation", "(IZ)Z"⟩, 0, 3, some .boolean, 9, 2, 45, 1, 2, 1152, 83, 1150, 1151),
  (⟨"LivingDaysModel", "draw", "(I)I"⟩, 0, 2, some .int, 9, 0, 0, 1, 1, 1167, 83, 1166, 31),
  (⟨"LivingDaysModel", "drawn", "(III)I"⟩, 0, 8, some .int, 9, 1, 25, 1, 3, 1160, 83, 1158, 1159),
  (⟨"LivingDaysModel", "at", "(II)I"⟩, 0, 4, some .int, 9, 2, 45, 1, 2, 1175, 83, 1173, 1174),
  (⟨"LivingDaysModel", "writes", "(I)V"⟩, 0, 2, none, 9, 0, 0, 1, 1, 1188, 83, 1187, 33),
  (⟨"LivingDaysModel", "writesNumbe\x72", "(I)V"⟩, 0, 3, none, 9, 1, 21, 1, 1, 1192, 83, 1191, 34),
  (⟨"LivingDaysModel", "begins", "(I)Z"⟩, 0, 2, some .boolean, 9, 0, 0, 1, 1, 1184, 83, 1183, 32),
  (⟨"LivingDaysModel", "endOf", "(I)I"⟩, 0, 3, some .int, 9, 0, 0, 1, 1, 1196, 83, 1195, 35),
  (⟨"LivingDaysModel", "lette\x72", "(I)I"⟩, 0, 3, some .int, 9, 2, 43, 1, 1, 1180, 83, 1178, 1179),
  (⟨"LivingDaysModel", "window", "(III)I"⟩, 0, 5, some .int, 9, 2, 45, 1, 3, 1200, 83, 1198, 1199),
  (⟨"LivingDaysModel", "rule", "(III)I"⟩, 0, 5, some .int, 9, 2, 45, 1, 3, 1204, 83, 1202, 1203),
  (⟨"LivingDaysModel", "letterOf", "(I)I"⟩, 0, 1, some .int, 9, 0, 0, 0, 1, 1216, 83, 1215, 0),
  (⟨"LivingDaysModel", "readsLetters", "(I)Z"⟩, 0, 4, some .boolean, 9, 1, 20, 1, 1, 1213, 83, 1212, 36),
  (⟨"LivingDaysModel", "orde\x72", "(II)Z"⟩, 0, 4, some .boolean, 9, 2, 45, 1, 2, 1208, 83, 1206, 1207),
  (⟨"LivingDaysModel", "entries", "(II)I"⟩, 0, 4, some .int, 9, 2, 45, 1, 2, 1220, 83, 1218, 1219),
  (⟨"LivingDaysModel", "entered", "(III)I"⟩, 0, 8, some .int, 9, 2, 45, 1, 3, 1224, 83, 1222, 1223),
  (⟨"LivingDaysModel", "areTwo", "(II)Z"⟩, 0, 2, some .boolean, 9, 2, 45, 0, 2, 1237, 83, 1236, 0),
  (⟨"LivingDaysModel", "pactAt", "(II)I"⟩, 0, 2, some .int, 9, 1, 21, 0, 2, 1240, 83, 1239, 0),
  (⟨"LivingDaysModel", "treaty", "(III)Z"⟩, 0, 5, some .boolean, 9, 3, 66, 1, 3, 1234, 83, 1232, 1233),
  (⟨"LivingDaysModel", "without", "(II)Z"⟩, 0, 3, some .boolean, 9, 3, 66, 1, 2, 1244, 83, 1242, 1243),
  (⟨"LivingDaysModel", "tax", "(II)I"⟩, 0, 4, some .int, 9, 2, 45, 1, 2, 1248, 83, 1246, 1247),
  (⟨"LivingDaysModel", "told", "(II)I"⟩, 0, 3, some .int, 9, 2, 45, 1, 2, 1253, 83, 1251, 1252),
  (⟨"LivingDaysModel", "yearOf", "(I)I"⟩, 0, 1, some .int, 9, 0, 0, 0, 1, 1478, 83, 1477, 0),
  (⟨"LivingDaysModel", "rows", "(III)I"⟩, 0, 8, some .int, 9, 1, 21, 1, 3, 1266, 83, 1265, 38),
  (⟨"LivingDaysModel", "daysIn", "(III)I"⟩, 0, 7, some .int, 9, 0, 0, 1, 3, 1262, 83, 1261, 37),
  (⟨"LivingDaysModel", "days", "(III)I"⟩, 0, 4, some .int, 9, 2, 48, 1, 3, 1258, 83, 1256, 1257),
  (⟨"LivingDaysModel", "between", "(III)I"⟩, 0, 6, some .int, 9, 1, 21, 1, 3, 1275, 83, 1274, 39),
  (⟨"LivingDaysModel", "month", "(II)I"⟩, 0, 3, some .int, 9, 2, 46, 1, 2, 1270, 83, 1268, 1269),
  (⟨"LivingDaysModel", "within", "(III)I"⟩, 0, 4, some .int, 9, 2, 46, 1, 3, 1279, 83, 1277, 1278),
  (⟨"LivingDaysModel", "laysLast", "(II)V"⟩, 0, 5, none, 9, 0, 0, 1, 2, 1292, 83, 1291, 41),
  (⟨"LivingDaysModel", "overstaysOn", "(II)Z"⟩, 0, 3, some .boolean, 9, 1, 22, 1, 2, 1296, 83, 1295, 42),
  (⟨"LivingDaysModel", "overstayed", "(IIII)I"⟩, 0, 9, some .int, 9, 2, 44, 1, 4, 1288, 83, 1287, 40),
  (⟨"LivingDaysModel", "overstays", "(IIII)I"⟩, 0, 5, some .int, 9, 3, 72, 1, 4, 1284, 83, 1282, 1283),
  (⟨"LivingDaysModel", "allOverstays", "()I"⟩, 0, 3, some .int, 9, 3, 72, 1, 0, 1526, 83, 1525, 70),
  (⟨"LivingDaysModel", "nth", "(III)I"⟩, 0, 6, some .int, 9, 2, 45, 1, 3, 1300, 83, 1298, 1299),
  (⟨"LivingDaysModel", "away", "(II)I"⟩, 0, 7, some .int, 9, 2, 45, 1, 2, 1304, 83, 1302, 1303)]
theorem am_md_3_ok : ∀ m ∈ am_md_3, am_mwb m = true := by decide +kernel
def am_md_4 : List am_D := [(⟨"LivingDaysModel", "travels", "(II)I"⟩, 0, 7, some .int, 9, 2, 45, 1, 2, 1308, 83, 1306, 1307),
  (⟨"LivingDaysModel", "tight", "(III)I"⟩, 0, 7, some .int, 9, 2, 45, 1, 3, 1312, 83, 1310, 1311),
  (⟨"LivingDaysModel", "rank", "(II)I"⟩, 0, 7, some .int, 9, 2, 49, 1, 2, 1316, 83, 1314, 1315),
  (⟨"LivingDaysModel", "laysAside", "()V"⟩, 0, 2, none, 9, 0, 0, 1, 0, 1335, 83, 1334, 45),
  (⟨"LivingDaysModel", "takesAside", "()V"⟩, 0, 2, none, 9, 0, 0, 1, 0, 1455, 83, 1454, 62),
  (⟨"LivingDaysModel", "slide", "(III)I"⟩, 0, 6, some .int, 9, 3, 66, 1, 3, 1331, 83, 1329, 1330),
  (⟨"LivingDaysModel", "allStays", "()I"⟩, 0, 3, some .int, 9, 1, 21, 1, 0, 1343, 83, 1342, 46),
  (⟨"LivingDaysModel", "partne\x72", "()I"⟩, 0, 2, some .int, 9, 2, 43, 1, 0, 1339, 83, 1337, 1338),
  (⟨"LivingDaysModel", "togethe\x72", "(II)I"⟩, 0, 9, some .int, 9, 2, 45, 1, 2, 1347, 83, 1345, 1346),
  (⟨"LivingDaysModel", "countAt", "(III)I"⟩, 0, 3, some .int, 9, 0, 0, 0, 3, 1323, 83, 1322, 0),
  (⟨"LivingDaysModel", "counted", "(III)I"⟩, 0, 4, some .int, 9, 1, 22, 1, 3, 1327, 83, 1326, 44),
  (⟨"LivingDaysModel", "laysCounts", "()V"⟩, 0, 4, none, 9, 1, 26, 1, 0, 1320, 83, 1319, 43),
  (⟨"LivingDaysModel", "adds", "(III)V"⟩, 0, 4, none, 9, 1, 22, 1, 3, 1482, 83, 1481, 65),
  (⟨"LivingDaysModel", "sixfold", "(II)I"⟩, 0, 4, some .int, 9, 2, 45, 1, 2, 1360, 83, 1359, 48),
  (⟨"LivingDaysModel", "mostBy", "(III)I"⟩, 0, 5, some .int, 9, 3, 68, 1, 3, 1356, 83, 1355, 47),
  (⟨"LivingDaysModel", "most", "(III)I"⟩, 0, 4, some .int, 9, 4, 92, 1, 3, 1352, 83, 1350, 1351),
  (⟨"LivingDaysModel", "holding", "(II)I"⟩, 0, 7, some .int, 9, 4, 92, 1, 2, 1372, 83, 1371, 50),
  (⟨"LivingDaysModel", "claiming", "(I)I"⟩, 0, 4, some .int, 9, 5, 118, 1, 1, 1368, 83, 1367, 49),
  (⟨"LivingDaysModel", "claims", "(I)I"⟩, 0, 2, some .int, 9, 6, 141, 1, 1, 1364, 83, 1362, 1363),
  (⟨"LivingDaysModel", "holds", "(II)I"⟩, 0, 3, some .int, 9, 5, 118, 1, 2, 1376, 83, 1374, 1375),
  (⟨"LivingDaysModel", "tells", "(IIII)I"⟩, 0, 7, some .int, 9, 2, 45, 1, 4, 1392, 83, 1391, 53),
  (⟨"LivingDaysModel", "letterBy", "(III)I"⟩, 0, 8, some .int, 9, 3, 71, 1, 3, 1388, 83, 1387, 52),
  (⟨"LivingDaysModel", "answe\x72", "(III)I"⟩, 0, 6, some .int, 9, 4, 98, 1, 3, 1384, 83, 1383, 51),
  (⟨"LivingDaysModel", "answers", "(III)I"⟩, 0, 4, some .int, 9, 5, 123, 1, 3, 1380, 83, 1378, 1379),
  (⟨"LivingDaysModel", "by", "(III)I"⟩, 0, 5, some .int, 9, 4, 98, 1, 3, 1396, 83, 1394, 1395),
  (⟨"LivingDaysModel", "livesNow", "(I)I"⟩, 0, 6, some .int, 9, 6, 141, 1, 1, 1404, 83, 1403, 54),
  (⟨"LivingDaysModel", "lives", "(I)I"⟩, 0, 2, some .int, 9, 7, 166, 1, 1, 1400, 83, 1398, 1399),
  (⟨"LivingDaysModel", "pairs", "(II)I"⟩, 0, 9, some .int, 9, 6, 141, 1, 2, 1408, 83, 1406, 1407),
  (⟨"LivingDaysModel", "isClaimed", "(II)Z"⟩, 0, 3, some .boolean, 9, 5, 118, 1, 2, 1416, 83, 1415, 55),
  (⟨"LivingDaysModel", "isTied", "(II)Z"⟩, 0, 3, some .boolean, 9, 0, 0, 1, 2, 1424, 83, 1423, 57),
  (⟨"LivingDaysModel", "fromOf", "(II)I"⟩, 0, 4, some .int, 9, 6, 140, 1, 2, 1420, 83, 1419, 56),
  (⟨"LivingDaysModel", "tillOf", "(II)I"⟩, 0, 4, some .int, 9, 6, 140, 1, 2, 1428, 83, 1427, 58),
  (⟨"LivingDaysModel", "split", "(III)I"⟩, 0, 4, some .int, 9, 7, 163, 1, 3, 1412, 83, 1410, 1411),
  (⟨"LivingDaysModel", "owes", "(I)I"⟩, 0, 8, some .int, 9, 7, 166, 1, 1, 1436, 83, 1435, 59),
  (⟨"LivingDaysModel", "owed", "(I)I"⟩, 0, 2, some .int, 9, 8, 193, 1, 1, 1432, 83, 1430, 1431),
  (⟨"LivingDaysModel", "owesAll", "()I"⟩, 0, 3, some .int, 9, 8, 193, 1, 0, 1530, 83, 1529, 71)]
theorem am_md_4_ok : ∀ m ∈ am_md_4, am_mwb m = true := by decide +kernel
def am_md_5 : List am_D := [(⟨"LivingDaysModel", "mayBe", "(III)Z"⟩, 0, 6, some .boolean, 9, 1, 22, 1, 3, 1451, 83, 1450, 61),
  (⟨"LivingDaysModel", "freeOf", "(III)I"⟩, 0, 9, some .int, 9, 2, 47, 1, 3, 1447, 83, 1446, 60),
  (⟨"LivingDaysModel", "isSpan", "(I)Z"⟩, 0, 1, some .boolean, 9, 1, 25, 0, 1, 1443, 83, 1442, 0),
  (⟨"LivingDaysModel", "free", "(III)I"⟩, 0, 4, some .int, 9, 3, 75, 1, 3, 1440, 83, 1438, 1439),
  (⟨"LivingDaysModel", "goes", "(III)V"⟩, 0, 5, none, 9, 0, 0, 1, 3, 1463, 83, 1462, 63),
  (⟨"LivingDaysModel", "mustLeave", "(II)I"⟩, 0, 4, some .int, 9, 3, 72, 1, 2, 1459, 83, 1457, 1458),
  (⟨"LivingDaysModel", "wouldBe", "(III)I"⟩, 0, 5, some .int, 9, 1, 21, 1, 3, 1471, 83, 1470, 64),
  (⟨"LivingDaysModel", "mayCome", "(III)I"⟩, 0, 8, some .int, 9, 2, 45, 1, 3, 1467, 83, 1465, 1466),
  (⟨"LivingDaysModel", "claimBy", "(II)I"⟩, 0, 4, some .int, 9, 6, 140, 1, 2, 1475, 83, 1473, 1474),
  (⟨"LivingDaysModel", "freest", "(III)I"⟩, 0, 8, some .int, 9, 3, 75, 1, 3, 1486, 83, 1484, 1485),
  (⟨"LivingDaysModel", "needs", "(II)I"⟩, 0, 6, some .int, 9, 6, 140, 1, 2, 1494, 83, 1493, 66),
  (⟨"LivingDaysModel", "need", "(II)I"⟩, 0, 3, some .int, 9, 7, 165, 1, 2, 1490, 83, 1488, 1489),
  (⟨"LivingDaysModel", "livesBy", "(II)I"⟩, 0, 5, some .int, 9, 7, 166, 1, 2, 1502, 83, 1501, 67),
  (⟨"LivingDaysModel", "moved", "(II)I"⟩, 0, 3, some .int, 9, 8, 190, 1, 2, 1498, 83, 1496, 1497),
  (⟨"LivingDaysModel", "loosens", "(II)Z"⟩, 0, 4, some .boolean, 9, 8, 190, 1, 2, 1510, 83, 1509, 68),
  (⟨"LivingDaysModel", "loose", "(II)I"⟩, 0, 8, some .int, 9, 9, 213, 1, 2, 1506, 83, 1504, 1505),
  (⟨"LivingDaysModel", "nearest", "(II)I"⟩, 0, 7, some .int, 9, 7, 165, 1, 2, 1514, 83, 1512, 1513),
  (⟨"LivingDaysModel", "asked", "(I)I"⟩, 0, 2, some .int, 9, 9, 215, 1, 1, 1522, 83, 1521, 69),
  (⟨"LivingDaysModel", "instead", "(IIIII)I"⟩, 0, 7, some .int, 9, 10, 236, 1, 5, 1518, 83, 1516, 1517),
  (⟨"LivingDaysModel", "trip", "(II)I"⟩, 0, 5, some .int, 9, 10, 236, 1, 2, 1534, 83, 1532, 1533),
  (⟨"LivingDaysModel", "cheapest", "(III)I"⟩, 0, 8, some .int, 9, 9, 215, 1, 3, 1538, 83, 1536, 1537),
  (⟨"LivingDaysModel", "trade", "(IIII)I"⟩, 0, 8, some .int, 9, 3, 66, 1, 4, 1542, 83, 1540, 1541),
  (⟨"LivingDaysModel", "erase", "(II)I"⟩, 0, 6, some .int, 9, 2, 45, 1, 2, 1546, 83, 1544, 1545),
  (⟨"LivingDaysModel", "routes", "(III)I"⟩, 0, 6, some .int, 9, 2, 45, 1, 3, 1550, 83, 1548, 1549),
  (⟨"LivingDaysModel", "latest", "(II)I"⟩, 0, 4, some .int, 9, 6, 140, 1, 2, 1554, 83, 1552, 1553),
  (⟨"LivingDaysModel", "wins", "(II)I"⟩, 0, 7, some .int, 9, 6, 141, 1, 2, 1558, 83, 1556, 1557),
  (⟨"LivingDaysModel", "count", "(I)I"⟩, 0, 4, some .int, 9, 4, 94, 1, 1, 1562, 83, 1560, 1561),
  (⟨"LivingDaysModel", "keep", "()I"⟩, 0, 2, some .int, 9, 0, 0, 1, 0, 1566, 83, 1564, 1565),
  (⟨"LivingDaysModel", "undo", "()I"⟩, 0, 3, some .int, 9, 0, 0, 1, 0, 1570, 83, 1568, 1569),
  (⟨"LivingDays$Judge", "<init>", "(LLivingDays$State;)V"⟩, 0, 2, none, 0, 1, 20, 2, 1, 258, 81, 257, 0),
  (⟨"LivingDays$Judge", "weigh", "(LLivingDays$Places;)V"⟩, 0, 2, none, 0, 3, 70, 1, 1, 649, 81, 647, 648),
  (⟨"LivingDays$Judge", "weighPlaces", "(LLivingDays$Places;)V"⟩, 0, 2, none, 0, 2, 46, 1, 1, 661, 81, 659, 660),
  (⟨"LivingDays$Judge", "weighHomes", "()V"⟩, 0, 5, none, 0, 2, 46, 1, 0, 653, 81, 651, 652),
  (⟨"LivingDays$Judge", "countInto", "([ILLivingDays$Places;)V"⟩, 0, 4, none, 0, 1, 23, 0, 2, 656, 81, 655, 0),
  (⟨"LivingDays$Judge", "greatest", "(III)I"⟩, 0, 7, some .int, 0, 0, 0, 1, 3, 665, 81, 663, 664),
  (⟨"LivingDays$Judge", "holdingBits", "(II)I"⟩, 0, 6, some .int, 0, 1, 26, 1, 2, 722, 81, 720, 721)]
theorem am_md_5_ok : ∀ m ∈ am_md_5, am_mwb m = true := by decide +kernel
def am_md_6 : List am_D := [(⟨"LivingDays$Judge", "isClaiming", "(II)Z"⟩, 0, 3, some .boolean, 0, 2, 51, 1, 2, 718, 81, 716, 717),
  (⟨"LivingDays$Judge", "claimBits", "(I)I"⟩, 0, 4, some .int, 0, 2, 51, 1, 1, 732, 81, 730, 731),
  (⟨"LivingDays$Judge", "landsAbove", "(II)I"⟩, 0, 7, some .int, 0, 1, 21, 1, 2, 678, 81, 676, 677),
  (⟨"LivingDays$Judge", "tellingPlace", "(III)I"⟩, 0, 6, some .int, 0, 1, 26, 1, 3, 787, 81, 785, 786),
  (⟨"LivingDays$Judge", "answerOf", "(III)I"⟩, 0, 7, some .int, 0, 1, 26, 1, 3, 742, 81, 740, 741),
  (⟨"LivingDays$Judge", "leaning", "(IIII)I"⟩, 0, 7, some .int, 0, 0, 0, 1, 4, 752, 81, 751, 13),
  (⟨"LivingDays$Judge", "isPairOf", "(IIII)Z"⟩, 0, 7, some .boolean, 0, 2, 52, 1, 4, 811, 81, 809, 810),
  (⟨"LivingDays$Judge", "beaten", "(III)I"⟩, 0, 6, some .int, 0, 2, 52, 1, 3, 737, 81, 735, 736),
  (⟨"LivingDays$Judge", "livesIn", "(I)I"⟩, 0, 5, some .int, 0, 3, 77, 1, 1, 795, 81, 793, 794),
  (⟨"LivingDays$Judge", "livesIfMoved", "(III)I"⟩, 0, 5, some .int, 0, 4, 101, 1, 3, 902, 81, 900, 901),
  (⟨"LivingDays$Judge", "shift", "(III)V"⟩, 0, 4, none, 0, 2, 42, 1, 3, 906, 81, 905, 17),
  (⟨"LivingDays$Judge", "loosePlaces", "(I)I"⟩, 0, 6, some .int, 0, 5, 125, 1, 1, 914, 81, 912, 913),
  (⟨"LivingDays$Judge", "needOf", "(II)I"⟩, 0, 7, some .int, 0, 3, 73, 1, 2, 894, 81, 892, 893),
  (⟨"LivingDays$Judge", "splitFrom", "(IILLivingDays$Places;)I"⟩, 0, 5, some .int, 0, 3, 73, 1, 3, 819, 81, 817, 818),
  (⟨"LivingDays$Judge", "splitTill", "(IILLivingDays$Places;)I"⟩, 0, 5, some .int, 0, 3, 73, 1, 3, 832, 81, 830, 831),
  (⟨"LivingDays$Judge", "isBound", "(IILLivingDays$Places;)Z"⟩, 0, 4, some .boolean, 0, 2, 43, 1, 3, 826, 81, 825, 14),
  (⟨"LivingDays$Judge", "owedIn", "(ILLivingDays$Places;)I"⟩, 0, 9, some .int, 0, 4, 101, 1, 2, 840, 81, 838, 839),
  (⟨"LivingDays$Places", "<init>", "()V"⟩, 0, 1, none, 1, 1, 23, 2, 0, 105, 75, 104, 0),
  (⟨"LivingDays$Places", "copyFrom", "(LLivingDays$Places;)V"⟩, 0, 2, none, 1, 1, 26, 1, 1, 689, 75, 687, 688),
  (⟨"LivingDays$Places", "becomeLike", "(LLivingDays$Places;)I"⟩, 0, 4, some .int, 1, 0, 0, 1, 1, 697, 75, 695, 696),
  (⟨"LivingDays$Places", "put", "(III)I"⟩, 0, 6, some .int, 1, 1, 26, 1, 3, 403, 75, 401, 402),
  (⟨"LivingDays$Places", "landOn", "(I)I"⟩, 0, 2, some .int, 1, 0, 0, 1, 1, 462, 75, 460, 461),
  (⟨"LivingDays$Places", "startsStay", "(I)Z"⟩, 0, 2, some .boolean, 1, 1, 21, 1, 1, 474, 75, 472, 473),
  (⟨"LivingDays$Places", "lastOfStay", "(I)I"⟩, 0, 5, some .int, 1, 1, 21, 1, 1, 480, 75, 478, 479),
  (⟨"LivingDays$Places", "stayCount", "()I"⟩, 0, 3, some .int, 1, 2, 42, 1, 0, 760, 75, 758, 759),
  (⟨"LivingDays$Places", "countOf", "(III)I"⟩, 0, 6, some .int, 1, 1, 21, 1, 3, 586, 75, 584, 585),
  (⟨"LivingDays$Places", "rowsOf", "(III)I"⟩, 0, 6, some .int, 1, 1, 21, 1, 3, 595, 75, 593, 594),
  (⟨"LivingDays$Places", "longestRow", "(III)I"⟩, 0, 7, some .int, 1, 1, 26, 1, 3, 599, 75, 597, 598),
  (⟨"LivingDays$Reade\x72", "<init>", "([I)V"⟩, 0, 2, none, 2, 1, 20, 2, 1, 209, 79, 208, 0),
  (⟨"LivingDays$Reade\x72", "readText", "(I)I"⟩, 0, 4, some .int, 2, 4, 90, 1, 1, 354, 79, 352, 353),
  (⟨"LivingDays$Reade\x72", "layOve\x72", "(LLivingDays$Places;)V"⟩, 0, 3, none, 2, 2, 51, 1, 1, 399, 79, 397, 398),
  (⟨"LivingDays$Reade\x72", "readStay", "(I)V"⟩, 0, 5, none, 2, 3, 66, 1, 1, 361, 79, 360, 1),
  (⟨"LivingDays$Reade\x72", "readPoints", "()V"⟩, 0, 1, none, 2, 1, 22, 1, 0, 391, 79, 390, 6),
  (⟨"LivingDays$Reade\x72", "readDay", "(I)I"⟩, 0, 5, some .int, 2, 2, 42, 1, 1, 383, 79, 382, 5),
  (⟨"LivingDays$Reade\x72", "readComma", "()Z"⟩, 0, 1, some .boolean, 2, 1, 22, 1, 0, 395, 79, 394, 7),
  (⟨"LivingDays$Reade\x72", "skipBlanks", "()V"⟩, 0, 2, none, 2, 0, 0, 1, 0, 365, 79, 364, 2)]
theorem am_md_6_ok : ∀ m ∈ am_md_6, am_mwb m = true := by decide +kernel
def am_md_7 : List am_D := [(⟨"LivingDays$Reade\x72", "sign", "()I"⟩, 0, 1, some .int, 2, 0, 0, 1, 0, 369, 79, 368, 3),
  (⟨"LivingDays$Reade\x72", "fail", "(II)V"⟩, 0, 3, none, 2, 0, 0, 1, 2, 379, 79, 378, 4),
  (⟨"LivingDays$Reade\x72", "isDigit", "(I)Z"⟩, 0, 1, some .boolean, 2, 1, 22, 0, 1, 386, 79, 385, 0),
  (⟨"LivingDays$Reade\x72", "landOf", "(I)I"⟩, 0, 1, some .int, 2, 2, 42, 0, 1, 372, 79, 371, 0),
  (⟨"LivingDays$Rolling", "<init>", "(LLivingDays$Rules;)V"⟩, 0, 2, none, 3, 1, 20, 2, 1, 281, 82, 280, 0),
  (⟨"LivingDays$Rolling", "read", "(LLivingDays$Places;I)V"⟩, 0, 4, none, 3, 0, 0, 1, 2, 615, 82, 613, 614),
  (⟨"LivingDays$Rolling", "between", "(II)I"⟩, 0, 4, some .int, 3, 1, 26, 1, 2, 627, 82, 625, 626),
  (⟨"LivingDays$Rolling", "isThere", "(I)Z"⟩, 0, 2, some .boolean, 3, 2, 49, 1, 1, 623, 82, 622, 12),
  (⟨"LivingDays$Rolling", "beyond", "(I)I"⟩, 0, 2, some .int, 3, 3, 70, 1, 1, 619, 82, 617, 618),
  (⟨"LivingDays$Rolling", "overstayDays", "()I"⟩, 0, 3, some .int, 3, 4, 91, 1, 0, 938, 82, 936, 937),
  (⟨"LivingDays$Rolling", "isTooLong", "(II)Z"⟩, 0, 5, some .boolean, 3, 2, 49, 1, 2, 871, 82, 869, 870),
  (⟨"LivingDays$Rolling", "fillUp", "(II)I"⟩, 0, 7, some .int, 3, 4, 94, 1, 2, 853, 82, 851, 852),
  (⟨"LivingDays$Rolling", "noteShutte\x72", "(II)V"⟩, 0, 5, none, 3, 3, 70, 1, 2, 858, 82, 857, 15),
  (⟨"LivingDays$Rolling", "hasRoom", "(III)Z"⟩, 0, 6, some .boolean, 3, 2, 49, 1, 3, 863, 82, 862, 16),
  (⟨"LivingDays$Rules", "<init>", "()V"⟩, 0, 1, none, 4, 1, 23, 2, 0, 122, 77, 121, 0),
  (⟨"LivingDays$Rules", "copyFrom", "(LLivingDays$Rules;)V"⟩, 0, 2, none, 4, 1, 26, 1, 1, 971, 77, 969, 970),
  (⟨"LivingDays$Rules", "needed", "(II)I"⟩, 0, 3, some .int, 4, 0, 0, 1, 2, 507, 77, 505, 506),
  (⟨"LivingDays$Rules", "isNation", "(I)Z"⟩, 0, 2, some .boolean, 4, 1, 21, 1, 1, 444, 77, 442, 443),
  (⟨"LivingDays$Rules", "treatyRow", "(II)I"⟩, 0, 3, some .int, 4, 0, 0, 1, 2, 567, 77, 565, 566),
  (⟨"LivingDays$Rules", "setTreaty", "(III)V"⟩, 0, 4, none, 4, 0, 0, 1, 3, 559, 77, 557, 558),
  (⟨"LivingDays$Rules", "answerRow", "(II)I"⟩, 0, 4, some .int, 4, 0, 0, 1, 2, 746, 77, 744, 745),
  (⟨"LivingDays$Spelle\x72", "<init>", "()V"⟩, 0, 1, none, 5, 1, 20, 2, 0, 240, 80, 239, 0),
  (⟨"LivingDays$Spelle\x72", "spell", "(LLivingDays$Places;I)V"⟩, 0, 4, none, 5, 3, 66, 1, 2, 470, 80, 468, 469),
  (⟨"LivingDays$Spelle\x72", "putStay", "(III)V"⟩, 0, 4, none, 5, 2, 43, 1, 3, 484, 80, 483, 8),
  (⟨"LivingDays$Spelle\x72", "putNumbe\x72", "(I)V"⟩, 0, 3, none, 5, 1, 21, 1, 1, 492, 80, 491, 10),
  (⟨"LivingDays$Spelle\x72", "putSign", "(I)V"⟩, 0, 2, none, 5, 0, 0, 1, 1, 488, 80, 487, 9),
  (⟨"LivingDays$State", "<init>", "()V"⟩, 0, 1, none, 6, 2, 43, 2, 0, 99, 74, 98, 0),
  (⟨"LivingDays$State", "copyFrom", "(LLivingDays$State;)V"⟩, 0, 2, none, 6, 2, 47, 1, 1, 965, 74, 963, 964),
  (⟨"LivingDays$State", "hasHome", "(II)Z"⟩, 0, 3, some .boolean, 6, 1, 21, 1, 2, 429, 74, 427, 428),
  (⟨"LivingDays$State", "homeDays", "(III)I"⟩, 0, 6, some .int, 6, 2, 43, 1, 3, 590, 74, 588, 589),
  (⟨"LivingDays$Tape", "<init>", "()V"⟩, 0, 1, none, 7, 1, 20, 2, 0, 194, 78, 193, 0),
  (⟨"LivingDays$Tape", "putWord", "(I)V"⟩, 0, 3, none, 7, 0, 0, 1, 1, 339, 78, 337, 338),
  (⟨"LivingDays$Tape", "takeRow", "(I)I"⟩, 0, 6, some .int, 7, 2, 41, 1, 1, 519, 78, 517, 518),
  (⟨"LivingDays$Tape", "letterOf", "(I)I"⟩, 0, 1, some .int, 7, 0, 0, 0, 1, 522, 78, 521, 0),
  (⟨"java/lang/Intege\x72", "bitCount", "(I)I"⟩, 0, 1, some .int, 11, 0, 0, 0, 1, 799, 86, 798, 0),
  (⟨"java/util/Arrays", "fill", "([II)V"⟩, 0, 4, none, 14, 0, 0, 0, 2, 109, 76, 108, 0)]
theorem am_md_7_ok : ∀ m ∈ am_md_7, am_mwb m = true := by decide +kernel
def am_md : List am_D := am_md_0 ++ (am_md_1 ++ (am_md_2 ++ (am_md_3 ++ (am_md_4 ++ (am_md_5 ++ (am_md_6 ++ (am_md_7)))))))
theorem am_md_ok : ∀ m ∈ am_md, am_mwb m = true := by
  intro m h
  unfold am_md at h
  rcases List.mem_append.mp h with h | h
  · exact am_md_0_ok m h
  rcases List.mem_append.mp h with h | h
  · exact am_md_1_ok m h
  rcases List.mem_append.mp h with h | h
  · exact am_md_2_ok m h
  rcases List.mem_append.mp h with h | h
  · exact am_md_3_ok m h
  rcases List.mem_append.mp h with h | h
  · exact am_md_4_ok m h
  rcases List.mem_append.mp h with h | h
  · exact am_md_5_ok m h
  rcases List.mem_append.mp h with h | h
  · exact am_md_6_ok m h
  exact am_md_7_ok m h
def am_m (z : Nat) : am_D := am_md.getD z (⟨"LivingDaysLaw", "law", "([I)Z"⟩, 1, 4, some .boolean, 10, 11, 262, 0, 1, 0, 0, 0, 0)
def am_law : Nat := 288
theorem am_md_len : am_md.length = 288 := by decide +kernel
abbrev am_my (z : Nat) : MethodName := (am_m z).1
abbrev am_mb (z : Nat) : ByteArray := am_bs (am_m z)
abbrev am_ml (z : Nat) : Nat := (am_m z).2.2.1
abbrev am_mr (z : Nat) : Option FieldType := (am_m z).2.2.2.1
abbrev am_mo (z : Nat) : Nat := (am_m z).2.2.2.2.1
abbrev am_fr (z : Nat) : Nat := (am_m z).2.2.2.2.2.1
abbrev am_lo (z : Nat) : Nat := (am_m z).2.2.2.2.2.2.1
abbrev am_mk (z : Nat) : Nat := (am_m z).2.2.2.2.2.2.2.1
abbrev am_na (z : Nat) : Nat := (am_m z).2.2.2.2.2.2.2.2.1
theorem am_mw_ok (z : Nat) (h : z < am_law) : am_mw (am_m z) := by
  have hl : z < am_md.length := by rw [am_md_len]; exact h
  have e : am_m z = am_md[z] := by unfold am_m; rw [List.getD_eq_getElem?_getD, List.getElem?_eq_getElem hl]; rfl
  rw [e]
  exact am_mw_of _ (am_md_ok _ (List.getElem_mem hl))
def am_FL : List (Nat × Nat × Nat × Nat × Nat) := [(1, 9, 1, 0, 110), (3, 40, 1, 0, 111), (0, 56, 1, 0, 112), (8, 260, 1, 0, 113), (4, 9, 4, 0, 125), (3, 32, 4, 0, 126), (8, 163, 4, 0, 127), (4, 15, 4, 1, 128), (3, 37, 4, 1, 129), (8, 166, 4, 1, 130), (4, 18, 4, 2, 131), (8, 175, 4, 2, 132), (4, 21, 4, 3, 133), (8, 215, 4, 3, 134), (0, 157, 4, 3, 135), (4, 24, 4, 4, 136), (8, 187, 4, 4, 137), (4, 27, 4, 5, 138), (8, 184, 4, 5, 139), (4, 30, 4, 6, 140), (4, 33, 4, 7, 141), (8, 130, 4, 7, 142), (0, 91, 4, 7, 143), (6, 12, 6, 0, 161), (8, 95, 6, 0, 162), (6, 18, 6, 1, 163), (0, 43, 6, 1, 164), (8, 122, 6, 1, 165), (6, 21, 6, 2, 166), (8, 291, 6, 2, 167), (6, 24, 6, 3, 168), (0, 53, 6, 3, 169), (8, 119, 6, 3, 170), (0, 25, 6, 4, 171), (6, 31, 6, 4, 172), (8, 62, 6, 4, 173), (6, 35, 6, 5, 174), (8, 294, 6, 5, 175), (7, 9, 7, 0, 196), (8, 33, 7, 0, 197), (7, 15, 7, 1, 198), (8, 80, 7, 1, 199), (2, 34, 2, 0, 211), (2, 11, 2, 1, 212), (2, 15, 2, 2, 213), (2, 18, 2, 3, 214), (2, 21, 2, 4, 215), (2, 25, 2, 5, 216), (2, 28, 2, 6, 217), (2, 31, 2, 7, 218), (5, 9, 5, 0, 242), (8, 157, 5, 0, 243), (5, 15, 5, 1, 244), (5, 18, 5, 2, 245), (8, 160, 5, 2, 246), (0, 21, 0, 0, 260), (0, 31, 0, 1, 261), (0, 9, 0, 2, 262), (8, 273, 0, 2, 263), (0, 15, 0, 3, 264), (0, 18, 0, 4, 265), (3, 28, 3, 0, 283), (3, 9, 3, 1, 284), (3, 15, 3, 2, 285), (3, 18, 3, 3, 286), (3, 21, 3, 4, 287), (3, 25, 3, 5, 288), (8, 10, 8, 0, 304), (8, 16, 8, 1, 305), (8, 20, 8, 2, 306), (8, 27, 8, 3, 307), (8, 40, 8, 4, 308), (8, 47, 8, 5, 309), (8, 56, 8, 6, 310), (8, 69, 8, 7, 311), (8, 76, 8, 8, 312), (9, 7, 9, 0, 987), (9, 13, 9, 1, 988), (9, 16, 9, 2, 989), (9, 19, 9, 3, 990), (9, 22, 9, 4, 991), (9, 244, 9, 5, 992), (9, 25, 9, 6, 993), (9, 80, 9, 7, 994), (9, 88, 9, 8, 995), (9, 91, 9, 9, 996), (9, 94, 9, 10, 997), (9, 112, 9, 11, 998), (9, 29, 9, 12, 999), (9, 150, 9, 13, 1000), (9, 165, 9, 14, 1001), (9, 168, 9, 15, 1002), (9, 171, 9, 16, 1003), (9, 32, 9, 17, 1004), (9, 35, 9, 18, 1005), (9, 38, 9, 19, 1006), (9, 41, 9, 20, 1007), (9, 44, 9, 21, 1008), (9, 47, 9, 22, 1009), (9, 338, 9, 23, 1010), (9, 50, 9, 24, 1011), (9, 53, 9, 25, 1012), (9, 56, 9, 26, 1013)]
def am_ML : List (Nat × Nat × Nat × Nat × Nat) := [(10, 9, 0, 0, 89), (8, 9, 278, 1, 97), (6, 11, 233, 0, 103), (1, 15, 287, 0, 107), (6, 30, 266, 0, 120), (4, 37, 287, 0, 124), (8, 26, 282, 1, 192), (8, 37, 244, 0, 207), (8, 46, 273, 1, 238), (8, 53, 209, 0, 256), (8, 66, 256, 0, 279), (8, 75, 233, 0, 303), (10, 13, 1, 0, 332), (8, 83, 283, 0, 336), (10, 18, 2, 0, 340), (8, 87, 63, 0, 344), (8, 133, 65, 0, 348), (8, 91, 245, 0, 351), (2, 43, 247, 0, 358), (2, 57, 251, 0, 362), (2, 60, 252, 0, 366), (2, 64, 255, 0, 370), (2, 86, 69, 1, 373), (2, 68, 253, 0, 376), (2, 72, 249, 0, 380), (2, 78, 254, 0, 384), (2, 82, 65, 1, 387), (2, 75, 248, 0, 388), (2, 47, 250, 0, 392), (8, 98, 246, 0, 396), (2, 51, 236, 0, 400), (10, 23, 3, 0, 407), (8, 102, 70, 0, 411), (8, 105, 67, 0, 414), (8, 147, 66, 0, 417), (8, 109, 236, 0, 420), (10, 28, 4, 0, 421), (8, 113, 69, 0, 425), (8, 116, 280, 0, 426), (6, 52, 74, 1, 430), (10, 33, 5, 0, 433), (10, 37, 6, 0, 437), (8, 125, 269, 0, 441), (4, 49, 74, 1, 445), (10, 42, 7, 0, 446), (8, 138, 79, 0, 451), (10, 46, 8, 0, 455), (8, 150, 237, 0, 459), (10, 51, 9, 0, 463), (8, 153, 274, 0, 467), (5, 21, 238, 0, 471), (1, 33, 237, 0, 475), (5, 27, 237, 0, 476), (5, 31, 239, 0, 477), (5, 34, 275, 0, 481), (5, 38, 277, 0, 485), (5, 42, 276, 0, 489), (10, 55, 10, 0, 493), (10, 59, 11, 0, 497), (8, 169, 72, 0, 501), (8, 172, 268, 0, 504), (10, 63, 12, 0, 508), (8, 178, 64, 0, 512), (8, 181, 284, 0, 516), (7, 19, 285, 0, 520), (7, 23, 74, 1, 523), (7, 27, 82, 1, 524), (8, 218, 80, 0, 527), (10, 68, 13, 0, 530), (10, 72, 14, 0, 534), (8, 190, 68, 0, 538), (8, 193, 75, 0, 541), (8, 196, 76, 0, 544), (8, 199, 238, 0, 547), (10, 76, 15, 0, 549), (8, 205, 71, 0, 553), (8, 208, 271, 0, 556), (10, 81, 16, 0, 560), (8, 212, 270, 0, 564), (10, 85, 17, 0, 568), (10, 89, 18, 0, 572), (8, 221, 81, 0, 576), (10, 93, 19, 0, 579), (8, 224, 241, 0, 583), (8, 227, 281, 0, 587), (6, 56, 280, 0, 591), (8, 230, 242, 0, 592), (8, 233, 243, 0, 596), (10, 97, 20, 0, 600), (10, 101, 21, 0, 604), (10, 105, 22, 0, 608), (8, 236, 257, 0, 612), (8, 239, 260, 0, 616), (3, 54, 259, 0, 620), (3, 51, 258, 0, 624), (10, 110, 23, 0, 629), (8, 242, 239, 0, 633), (10, 114, 24, 0, 634), (10, 118, 25, 0, 638), (10, 122, 26, 0, 642), (8, 245, 210, 0, 646), (0, 32, 212, 0, 650), (0, 39, 213, 0, 654), (0, 47, 287, 0, 657), (0, 35, 211, 0, 658), (8, 248, 214, 0, 662), (10, 126, 27, 0, 666), (8, 251, 258, 0, 670), (10, 130, 28, 0, 671), (8, 254, 218, 0, 675), (0, 74, 78, 1, 679), (10, 134, 29, 0, 682), (8, 257, 234, 0, 686), (8, 269, 235, 0, 694), (10, 138, 30, 0, 698), (10, 142, 31, 0, 702), (10, 146, 32, 0, 706), (10, 150, 33, 0, 710), (8, 276, 78, 0, 714), (8, 279, 216, 0, 715), (0, 71, 215, 0, 719), (0, 61, 268, 0, 723), (0, 67, 214, 0, 724), (10, 154, 34, 0, 725), (8, 282, 217, 0, 729), (8, 285, 74, 0, 733), (8, 288, 223, 0, 734), (0, 98, 74, 1, 738), (0, 95, 220, 0, 739), (0, 77, 272, 0, 743), (0, 80, 80, 1, 747), (0, 84, 81, 1, 748), (0, 87, 221, 0, 749), (10, 158, 35, 0, 753), (8, 298, 240, 0, 757), (1, 37, 238, 0, 761), (10, 163, 36, 0, 762), (10, 167, 37, 0, 766), (10, 171, 38, 0, 770), (8, 302, 215, 0, 774), (10, 175, 39, 0, 775), (8, 305, 220, 0, 779), (10, 179, 40, 0, 780), (8, 308, 219, 0, 784), (10, 183, 41, 0, 788), (8, 311, 224, 0, 792), (0, 102, 217, 0, 796), (0, 105, 286, 0, 797), (0, 110, 223, 0, 803), (10, 187, 42, 0, 804), (8, 314, 222, 0, 808), (10, 191, 43, 0, 812), (8, 318, 229, 0, 816), (0, 130, 75, 1, 820), (0, 127, 216, 0, 821), (0, 133, 76, 1, 822), (0, 136, 231, 0, 823), (0, 140, 237, 0, 827), (0, 143, 280, 0, 828), (8, 322, 230, 0, 829), (10, 195, 44, 0, 833), (8, 325, 232, 0, 837), (0, 117, 224, 0, 841), (0, 146, 229, 0, 842), (0, 150, 230, 0, 843), (0, 153, 65, 1, 844), (0, 120, 69, 1, 845), (10, 199, 45, 0, 846), (8, 329, 263, 0, 850), (3, 62, 287, 0, 854), (3, 68, 264, 0, 855), (3, 75, 265, 0, 860), (10, 203, 46, 0, 864), (8, 332, 262, 0, 868), (10, 207, 47, 0, 872), (10, 211, 48, 0, 876), (8, 335, 77, 0, 880), (10, 215, 49, 0, 883), (10, 219, 50, 0, 887), (8, 338, 228, 0, 891), (10, 223, 51, 0, 895), (8, 341, 225, 0, 899), (0, 113, 226, 0, 903), (10, 227, 52, 0, 907), (8, 344, 227, 0, 911), (0, 124, 225, 0, 915), (10, 231, 53, 0, 916), (10, 235, 54, 0, 920), (8, 347, 73, 0, 924), (8, 350, 60, 0, 927), (8, 362, 62, 0, 931), (8, 367, 261, 0, 935), (3, 58, 260, 0, 939), (8, 359, 61, 0, 940), (10, 239, 55, 0, 944), (10, 243, 56, 0, 948), (8, 353, 212, 0, 952), (8, 356, 211, 0, 953), (10, 247, 57, 0, 954), (10, 251, 58, 0, 958), (8, 365, 279, 0, 962), (6, 39, 234, 0, 966), (6, 49, 267, 0, 968), (10, 255, 59, 0, 973), (10, 12, 83, 0, 979), (9, 60, 93, 0, 983), (10, 17, 95, 0, 1071), (9, 84, 94, 0, 1075), (10, 22, 104, 0, 1079), (9, 127, 103, 0, 1083), (9, 66, 84, 0, 1088), (9, 130, 101, 0, 1091), (9, 122, 100, 0, 1095), (9, 101, 96, 0, 1099), (9, 108, 97, 0, 1105), (9, 119, 99, 0, 1109), (9, 105, 98, 0, 1113), (9, 134, 102, 0, 1119), (10, 27, 105, 0, 1123), (9, 137, 86, 0, 1127), (9, 140, 88, 0, 1132), (9, 74, 87, 0, 1135), (10, 32, 106, 0, 1138), (9, 143, 85, 0, 1142), (10, 36, 107, 0, 1145), (10, 41, 108, 0, 1149), (9, 146, 92, 0, 1153), (10, 45, 110, 0, 1157), (9, 159, 109, 0, 1164), (9, 162, 91, 0, 1169), (10, 50, 111, 0, 1172), (10, 54, 116, 0, 1177), (9, 177, 114, 0, 1181), (9, 174, 112, 0, 1185), (9, 180, 113, 0, 1189), (9, 183, 115, 0, 1193), (10, 58, 117, 0, 1197), (10, 62, 118, 0, 1201), (10, 67, 121, 0, 1205), (9, 191, 120, 0, 1210), (9, 186, 119, 0, 1214), (10, 71, 122, 0, 1217), (10, 75, 123, 0, 1221), (9, 194, 89, 0, 1225), (9, 197, 90, 0, 1228), (10, 80, 126, 0, 1231), (9, 200, 124, 0, 1235), (9, 203, 125, 0, 1238), (10, 84, 127, 0, 1241), (10, 88, 128, 0, 1245), (10, 92, 129, 0, 1250), (10, 96, 133, 0, 1255), (9, 210, 132, 0, 1259), (9, 214, 131, 0, 1263), (10, 100, 135, 0, 1267), (9, 219, 134, 0, 1272), (10, 104, 136, 0, 1276), (10, 109, 140, 0, 1281), (9, 231, 139, 0, 1285), (9, 224, 137, 0, 1289), (9, 228, 138, 0, 1293), (10, 113, 142, 0, 1297), (10, 117, 143, 0, 1301), (10, 121, 144, 0, 1305), (10, 129, 145, 0, 1309), (10, 133, 146, 0, 1313), (9, 235, 155, 0, 1317), (9, 253, 153, 0, 1321), (9, 238, 154, 0, 1324), (10, 137, 149, 0, 1328), (9, 241, 147, 0, 1332), (10, 162, 151, 0, 1336), (9, 248, 150, 0, 1340), (10, 166, 152, 0, 1344), (10, 125, 159, 0, 1349), (9, 259, 158, 0, 1353), (9, 256, 157, 0, 1357), (10, 170, 162, 0, 1361), (9, 265, 161, 0, 1365), (9, 262, 160, 0, 1369), (10, 174, 163, 0, 1373), (10, 178, 167, 0, 1377), (9, 274, 166, 0, 1381), (9, 271, 165, 0, 1385), (9, 268, 164, 0, 1389), (10, 182, 168, 0, 1393), (10, 186, 170, 0, 1397), (9, 277, 169, 0, 1401), (10, 190, 171, 0, 1405), (10, 194, 176, 0, 1409), (9, 280, 172, 0, 1413), (9, 286, 174, 0, 1417), (9, 283, 173, 0, 1421), (9, 289, 175, 0, 1425), (10, 198, 178, 0, 1429), (9, 292, 177, 0, 1433), (10, 202, 183, 0, 1437), (9, 302, 182, 0, 1441), (9, 305, 181, 0, 1444), (9, 295, 180, 0, 1448), (9, 299, 148, 0, 1452), (10, 206, 185, 0, 1456), (9, 308, 184, 0, 1460), (10, 210, 187, 0, 1464), (9, 311, 186, 0, 1468), (10, 214, 188, 0, 1472), (9, 314, 130, 0, 1476), (9, 317, 156, 0, 1479), (10, 218, 189, 0, 1483), (10, 222, 191, 0, 1487), (9, 320, 190, 0, 1491), (10, 226, 193, 0, 1495), (9, 323, 192, 0, 1499), (10, 230, 195, 0, 1503), (9, 326, 194, 0, 1507), (10, 234, 196, 0, 1511), (10, 238, 198, 0, 1515), (9, 335, 197, 0, 1519), (9, 329, 141, 0, 1523), (9, 332, 179, 0, 1527), (10, 242, 199, 0, 1531), (10, 246, 200, 0, 1535), (10, 141, 201, 0, 1539), (10, 145, 202, 0, 1543), (10, 149, 203, 0, 1547), (10, 153, 204, 0, 1551), (10, 157, 205, 0, 1555), (10, 250, 206, 0, 1559), (10, 254, 207, 0, 1563), (10, 258, 208, 0, 1567)]
def am_XL : List (Nat × Nat × Nat × Nat) := [(2, 37, 3, 355), (1, 27, 2, 404), (8, 141, 3, 454), (8, 202, 2, 548), (3, 45, 2, 628), (3, 72, 3, 859)]
def am_KL : List (Nat × Nat × Nat × Nat) := [(10, 7, 8, 87), (8, 7, 6, 95), (6, 9, 1, 101), (6, 28, 4, 118), (8, 24, 7, 190), (8, 31, 2, 205), (8, 44, 5, 236), (8, 51, 0, 254), (8, 60, 3, 277), (8, 73, 1, 302), (10, 10, 9, 977)]
def am_CL : List (Nat × Nat × Int32 × Nat) := [(8, 137, 65535, 450), (11, 265, 1431655765, 800), (11, 266, 858993459, 801), (11, 267, 252645135, 802), (9, 158, 65535, 1163), (9, 153, 65536, 1168)]
def am_LL : List (Nat × Nat × Int32 × Nat) := [(9, 125, 160, 1087), (9, 115, 97, 1103), (9, 117, 102, 1104), (9, 97, 48, 1116), (9, 99, 57, 1117), (9, 72, 1079, 1118), (9, 70, -1, 1130), (9, 64, 5, 1131), (9, 154, 100, 1161), (9, 156, 360, 1162), (9, 78, 2, 1176), (9, 189, 4, 1209), (9, 206, 60, 1249), (9, 208, 11, 1254), (9, 217, 35, 1271), (9, 222, 1080, 1280), (9, 251, 3, 1348)]
def am_OL : List (Nat × Nat × Nat) := [(8, 1, 92), (6, 3, 100), (1, 3, 106), (4, 3, 123), (7, 3, 195), (2, 3, 210), (5, 3, 241), (0, 3, 259), (3, 3, 282), (9, 1, 982)]
def am_AL : List (Nat × Nat × Nat) := [(1, 21, 690), (8, 263, 693), (6, 43, 967), (4, 43, 972)]
theorem am_FL_ok : ∀ x ∈ am_FL, x.2.2.1 < 10 ∧ x.2.2.2.1 < cs_N x.2.2.1 ∧ lw_tbl[x.2.2.2.2]? = some (.fieldLink (am_cn x.1) x.2.1 (am_cn x.2.2.1) (cs_T x.2.2.1 x.2.2.2.1).2.1 (cs_T x.2.2.1 x.2.2.2.1).2.2.1) := by decide +kernel
theorem am_ML_ok : ∀ x ∈ am_ML, x.2.2.1 < am_law ∧ lw_tbl[x.2.2.2.2]? = some (bif Nat.beq x.2.2.2.1 0 then .methodLink (am_cn x.1) x.2.1 (am_my x.2.2.1) else .methodLinkNest (am_cn x.1) x.2.1 (am_my x.2.2.1) "LivingDays") := by decide +kernel
theorem am_XL_ok : ∀ x ∈ am_XL, lw_tbl[x.2.2.2]? = some (.methodLink (am_cn x.1) x.2.1 (bif Nat.beq x.2.2.1 2 then Lib.Math.max.name else Lib.Math.min.name)) := by decide +kernel
theorem am_xm : lw_tbl[405]? = some (.static Lib.Math.max.name) ∧ lw_tbl[356]? = some (.static Lib.Math.min.name) ∧ lw_tbl[84]? = some (.initialized "java/lang/Math") ∧ lw_tbl[406]? = some (.code Lib.Math.max.name Lib.Math.max.code 2 (some .int)) ∧ lw_tbl[357]? = some (.code Lib.Math.min.name Lib.Math.min.code 2 (some .int)) := by decide +kernel
theorem am_KL_ok : ∀ x ∈ am_KL, lw_tbl[x.2.2.2]? = some (.classLink (am_cn x.1) x.2.1 (am_cn x.2.2.1)) := by decide +kernel
theorem am_CL_ok : ∀ x ∈ am_CL, lw_tbl[x.2.2.2]? = some (.constant (am_cn x.1) x.2.1 x.2.2.1) := by decide +kernel
theorem am_LL_ok : ∀ x ∈ am_LL, lw_tbl[x.2.2.2]? = some (.constantLong (am_cn x.1) x.2.1 x.2.2.1.toInt64) := by decide +kernel
theorem am_OL_ok : ∀ x ∈ am_OL, lw_tbl[x.2.2]? = some (.methodLink (am_cn x.1) x.2.1 objectInit) := by decide +kernel
theorem am_AL_ok : ∀ x ∈ am_AL, lw_tbl[x.2.2]? = some (.methodLink (am_cn x.1) x.2.1 arraycopyName) := by decide +kernel
theorem am_oi : lw_tbl[93]? = some (.instanceMethod objectInit) ∧ lw_tbl[94]? = some (.code objectInit ⟨#[0xb1]⟩ 1 none) := by decide +kernel
theorem am_ac : lw_tbl[692]? = some (.native arraycopyName) ∧ lw_tbl[691]? = some (.static arraycopyName) ∧ lw_tbl[85]? = some (.initialized "java/lang/System") := by decide +kernel
theorem am_aw : lw_tbl[117]? = some (.arrayClass .int) ∧ lw_tbl[1069]? = some (.arrayClass .byte) ∧ lw_tbl[1070]? = some (.arrayClass .boolean) ∧ lw_tbl[189]? = some (.arrayOver (.object "LivingDays$State")) := by decide +kernel
def am_tb : List Cond := lw_tbl.filter goodWord
theorem am_in {q : Nat} {w : Cond} (h : lw_tbl[q]? = some w) (g : goodWord w = true) : w ∈ am_tb := List.mem_filter.mpr ⟨List.mem_of_getElem? h, g⟩
theorem am_tb_good : GoodIn am_tb am_tb := fun w hw => ⟨hw, good_of_word (List.mem_filter.mp hw).2⟩
